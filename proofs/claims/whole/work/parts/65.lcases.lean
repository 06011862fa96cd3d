/-! ===== the law's loop ===== -/
def LI (s : State) (D : va_G) (cI cJ cT : ClassId) (sh T wk mm : Nat) (A : Nat → Nat) (q : Nat) (H : Heap) (locs : List Loc) (cn sn : Nat) : Prop := ∃ (Sx Sm : ns_St) (ad na ha : Nat → Nat) (cur : Nat) (Z : Zs), LJ s D cI cJ cT Sx Sm H locs ∧ CR Sx sh T wk ad na ha cur Z ∧ MR Sm mm A Z ∧ ZI Z ∧ cur ≤ 2 * q ∧ cn ≤ 19 + 3 * zn Z + q ∧ sn ≤ 1028530 + 600 * zn Z + q
section LLOOP
variable {p : Program} {l : Launch} {e : Env} {s : State} {m : MethodId} {below : List Frame} {meth : Method} {c : Code} {D : va_G} {cI cJ cT : ClassId} {H : Heap} {locs : List Loc} {b L : Nat} {xs : Nat → Int32} {sh T wk mm : Nat} {A : Nat → Nat} {ls : Array Slot} {q i cn sn : Nat}
theorem lw_hS (h : LI s D cI cJ cT sh T wk mm A q H locs cn sn) : va_S (ns_A (e0 s.heap.size)) s.heap H locs := by
  obtain ⟨Sx, Sm, ad, na, ha, cur, Z, h1, -⟩ := h
  exact h1.1.2.2.2.1
theorem lw_rd {pc j : Nat} {n : Int} {st : List Value} (C0 : lw_At p s m meth c b L xs) (hK : va_K D vwCl (ns_tys cI cJ cT) s) (hE : ns_E s) (hL : L ≤ 320) (hS : va_S (ns_A (e0 s.heap.size)) s.heap H locs) (hl : lv_has ls 4 [(0, .ref b), (1, .ref sh), (2, .ref mm), (3, .int (nI i))]) (hij : i + j < L) (hv : Int32.ofInt n = nI j) (d0 : decode code pc = .ok (.aload_n 0, 1)) (d1 : decode code (pc + 1) = .ok (.iload_n 3, 1)) (d2 : decode code (pc + 1 + 1) = .ok (.iconst n, 1)) (d3 : decode code (pc + 1 + 1 + 1) = .ok (.iadd, 1)) (d4 : decode code (pc + 1 + 1 + 1 + 1) = .ok (.iaload, 1)) (k : W p l e room_1 s m #[Value.ref b] below meth c H locs cn sn (lw_Z below #[Value.ref b] s) (F0 m (pc + 1 + 1 + 1 + 1 + 1) ls (.int (xs (i + j)) :: st))) : W p l e room_1 s m #[Value.ref b] below meth c H locs cn sn (lw_Z below #[Value.ref b] s) (F0 m pc ls st) := by
  obtain ⟨hx, hb, hr, hml, hown, hts, hX, hbl, hlocks, hgv⟩ := C0
  have hbA : ¬ ns_A (e0 s.heap.size) b := fun h => by
    have := (e0_A _ _).mp h
    omega
  refine lv_aload_n hx hb d0 rfl (lv_at hl 0 rfl) ?_
  refine lv_iload_n hx hb d1 rfl (lv_at hl 3 rfl) ?_
  refine lv_iconst (v := nI j) hx hb d2 hv ?_
  refine lv_iadd hx hb d3 ?_
  rw [nI_add]
  refine va_sld hx hb hX hbl hbA hS (vp_in_nI hij (by omega)) d4 ?_
  rw [nI_clamp (by omega)]
  exact k
theorem lw_two {β : Type} {f : β → Value} {kc km jc jm pc1 pc2 : Nat} {vs : List Value} (C0 : lw_At p s m meth c b L xs) (hK : va_K D vwCl (ns_tys cI cJ cT) s) (hE : ns_E s) (hL : L ≤ 320) (hls : ls.size = 4) (hq : q ≤ 64) (hLI : LI s D cI cJ cT sh T wk mm A q H locs cn sn) (hop : ∀ Sx ad na ha cur Z, CR Sx sh T wk ad na ha cur Z → ZI Z → cur < 90000 → OP f Sx sh T wk cur mm ad na ha A Z kc km vs) (d1 : decode code pc1 = .ok (.invokevirtual jc, 3)) (d2 : decode code pc2 = .ok (.invokevirtual jm, 3)) (hc : kc < 95 ∧ Cond.methodLink R_law jc (ns_y kc) ∈ lw_tbl ∧ (ns_stt kc = false ∧ ns_ini kc = false) ∧ ns_h kc + 1 ≤ 9 ∧ 8 + (ns_m kc + 11) + 35 * ns_h kc ≤ 320 ∧ vs.length = ns_pn kc ∧ (∀ a : Nat, (ns_el (.ref a :: vs)).length ≤ ns_m kc) ∧ ns_o kc = 3) (hm : km < 95 ∧ Cond.methodLink R_law jm (ns_y km) ∈ lw_tbl ∧ (ns_stt km = false ∧ ns_ini km = false) ∧ ns_h km + 1 ≤ 9 ∧ 8 + (ns_m km + 11) + 35 * ns_h km ≤ 320 ∧ vs.length = ns_pn km ∧ (∀ a : Nat, (ns_el (.ref a :: vs)).length ≤ ns_m km) ∧ ns_o km = 4) (hcat : ∀ x : β, ns_cat [f x] ≤ 8)
    (hmid : ∀ (x : β) (H : Heap) (locs : List Loc) (cn sn : Nat), va_S (ns_A (e0 s.heap.size)) s.heap H locs → W p l e room_1 s m #[Value.ref b] below meth c H locs cn sn (lw_Z below #[Value.ref b] s) (F0 m pc2 ls (vs.reverse ++ [.ref mm, f x])) → W p l e room_1 s m #[Value.ref b] below meth c H locs cn sn (lw_Z below #[Value.ref b] s) (F0 m (pc1 + 3) ls [f x]))
    (hend : ∀ (x : β) (H : Heap) (locs : List Loc) (cn sn : Nat), LI s D cI cJ cT sh T wk mm A (q + 1) H locs cn sn → W p l e room_1 s m #[Value.ref b] below meth c H locs cn sn (lw_Z below #[Value.ref b] s) (F0 m (pc2 + 3) ls [f x, f x])) : W p l e room_1 s m #[Value.ref b] below meth c H locs cn sn (lw_Z below #[Value.ref b] s) (F0 m pc1 ls (vs.reverse ++ [.ref sh])) := by
  obtain ⟨hx, hb, hr, hml, hown, hts, hX, hbl, hlocks, hgv⟩ := id C0
  obtain ⟨Sx, Sm, ad, na, ha, cur, Z, hJ, hC, hM, hZ, b1, b2, b3⟩ := hLI
  obtain ⟨Sx', Z', ad', na', ha', cur', x, e1, hC', hZ', y1, y2, y3, y4, href⟩ := hop Sx ad na ha cur Z hC hZ (by omega)
  obtain ⟨c1, c2, c3, c4, c5, c6, c7, c8⟩ := hc
  obtain ⟨m1, m2, m3, m4, m5, m6, m7, m8⟩ := hm
  have hn := hZ'.1
  have hle := Ev_le e1
  have hle1 : ns_z Sx ≤ ns_z Sx' := hle.1
  have hle2 : ns_s Sx ≤ ns_s Sx' := hle.2.1
  have hzz : ns_z Sm = ns_z Sx := by rw [← hJ.2.1.1, hJ.1.1]
  refine lw_virt (rest := []) hx hb hml hown hts hK hE d1 hJ e1 c1 c2 c3 c4 c5 c6 (c7 sh) (by rw [c8]; exact hC.1.1) hls (by show (0 : Nat) ≤ 8; omega) (by show cn + (ns_z Sx' - ns_z Sx) ≤ 600000; omega) (by show sn + (ns_s Sx' - ns_s Sx) ≤ 7302250; omega) (fun H1 locs1 hJ1 => ?_)
  refine hmid x H1 locs1 _ _ hJ1.1.2.2.2.1 ?_
  have hM1 := MR_bmp hM (z := ns_z Sx') (by omega)
  obtain ⟨Sm', e2, hM2, z1, z2⟩ := href _ hM1
  have z1 : ns_z Sm' = ns_z Sx' := z1
  have z2 : ns_s Sm' = ns_s (bmp Sm (ns_z Sx')) := z2
  have w1 : ns_z Sm' - ns_z (bmp Sm (ns_z Sx')) = 0 := by rw [z1, bmp_z]; omega
  have w2 : ns_s Sm' - ns_s (bmp Sm (ns_z Sx')) = 0 := by rw [z2]; omega
  refine lw_virt (rest := [f x]) hx hb hml hown hts hK hE d2 hJ1.swap e2 m1 m2 m3 m4 m5 m6 (m7 mm) (by rw [m8]; exact hM1.1.1) hls (hcat x) (by show cn + (ns_z Sx' - ns_z Sx) + (ns_z Sm' - ns_z (bmp Sm (ns_z Sx'))) ≤ 600000; omega) (by show sn + (ns_s Sx' - ns_s Sx) + (ns_s Sm' - ns_s (bmp Sm (ns_z Sx'))) ≤ 7302250; omega) (fun H2 locs2 hJ2 => ?_)
  refine hend x H2 locs2 _ _ ⟨bmp Sx' (ns_z Sm'), Sm', ad', na', ha', cur', Z', hJ2.swap, CR_bmp hC' (by omega), hM2, hZ', by omega, ?_, ?_⟩
  · show cn + (ns_z Sx' - ns_z Sx) + (ns_z Sm' - ns_z (bmp Sm (ns_z Sx'))) ≤ _
    omega
  · show sn + (ns_s Sx' - ns_s Sx) + (ns_s Sm' - ns_s (bmp Sm (ns_z Sx'))) ≤ _
    omega
theorem lw_endI {pc : Nat} {off : Int} {x : Int32} (C0 : lw_At p s m meth c b L xs) (hK : va_K D vwCl (ns_tys cI cJ cT) s) (hE : ns_E s) (hL : L ≤ 320) (d : decode code pc = .ok (.if_icmp .eq off, 3)) (ht : (pc : Int) + off = ((719 : Nat) : Int)) (k : W p l e room_1 s m #[Value.ref b] below meth c H locs cn sn (lw_Z below #[Value.ref b] s) (F0 m 719 ls [])) : W p l e room_1 s m #[Value.ref b] below meth c H locs cn sn (lw_Z below #[Value.ref b] s) (F0 m pc ls [.int x, .int x]) := by
  obtain ⟨hx, hb, -⟩ := C0
  exact lv_icmp_eq (tgt := 719) hx hb d ht (fun _ => k) (fun z => absurd rfl z)
theorem lw_endJ {pc : Nat} {off : Int} {x : Int64} (C0 : lw_At p s m meth c b L xs) (hK : va_K D vwCl (ns_tys cI cJ cT) s) (hE : ns_E s) (hL : L ≤ 320) (d0 : decode code pc = .ok (.lcmp, 1)) (d : decode code (pc + 1) = .ok (.ifCond .eq off, 3)) (ht : ((pc + 1 : Nat) : Int) + off = ((719 : Nat) : Int)) (k : W p l e room_1 s m #[Value.ref b] below meth c H locs cn sn (lw_Z below #[Value.ref b] s) (F0 m 719 ls [])) : W p l e room_1 s m #[Value.ref b] below meth c H locs cn sn (lw_Z below #[Value.ref b] s) (F0 m pc ls [.long x, .long x]) := by
  obtain ⟨hx, hb, -⟩ := C0
  refine W.lcmp hx hb d0 ?_
  exact lv_if_eq (tgt := 719) hx hb d ht (fun _ => k) (fun z => absurd ((lg_cmp_eq x x).mpr rfl) z)

theorem lc_make (C0 : lw_At p s m meth c b L xs) (hK : va_K D vwCl (ns_tys cI cJ cT) s) (hE : ns_E s) (hL : L ≤ 320) (hl : lv_has ls 4 [(0, .ref b), (1, .ref sh), (2, .ref mm), (3, .int (nI i))]) (hi : i + 5 ≤ L) (hq : q ≤ 64) (hLI : LI s D cI cJ cT sh T wk mm A q H locs cn sn) (hnext : ∀ (H : Heap) (locs : List Loc) (cn sn : Nat), LI s D cI cJ cT sh T wk mm A (q + 1) H locs cn sn → W p l e room_1 s m #[Value.ref b] below meth c H locs cn sn (lw_Z below #[Value.ref b] s) (F0 m 719 ls [])) : W p l e room_1 s m #[Value.ref b] below meth c H locs cn sn (lw_Z below #[Value.ref b] s) (F0 m 124 ls []) := by
  obtain ⟨hx, hb, hr, hml, hown, hts, hX, hbl, hlocks, hgv⟩ := id C0
  have hS := lw_hS hLI
  refine lv_aload_n hx hb d_law_124 rfl (lv_at hl 1 rfl) ?_
  refine lw_rd (pc := 125) (j := 1) (n := 1) C0 hK hE hL hS hl (by omega) (by decide) d_law_125 d_law_126 d_law_127 d_law_128 d_law_129 ?_
  refine lw_rd (pc := 130) (j := 2) (n := 2) C0 hK hE hL hS hl (by omega) (by decide) d_law_130 d_law_131 d_law_132 d_law_133 d_law_134 ?_
  refine lw_two (f := Value.int) (kc := 17) (km := 64) (jc := 13) (jm := 17) (pc1 := 135) (pc2 := 149) (vs := [.int (xs (i + 1)), .int (xs (i + 2))]) C0 hK hE hL hl.1 hq hLI (fun Sx ad na ha cur Z h1 h2 h3 => op_make h1 h2 (xs (i + 1)) (xs (i + 2))) d_law_135 d_law_149 ⟨by decide, lw_links (13, 17) (by decide), by decide, by decide, by decide, rfl, fun _ => Nat.le_of_ble_eq_true rfl, rfl⟩ ⟨by decide, lw_links (17, 64) (by decide), by decide, by decide, by decide, rfl, fun _ => Nat.le_of_ble_eq_true rfl, rfl⟩ (fun _ => Nat.le_of_ble_eq_true rfl) (fun x H' locs' cn' sn' hS' k => ?_) (fun x H' locs' cn' sn' hl' => lw_endI C0 hK hE hL d_law_152 (by decide) (hnext _ _ _ _ hl'))
  · refine lv_aload_n hx hb d_law_138 rfl (lv_at hl 2 rfl) ?_
    refine lw_rd (pc := 139) (j := 1) (n := 1) C0 hK hE hL hS' hl (by omega) (by decide) d_law_139 d_law_140 d_law_141 d_law_142 d_law_143 ?_
    refine lw_rd (pc := 144) (j := 2) (n := 2) C0 hK hE hL hS' hl (by omega) (by decide) d_law_144 d_law_145 d_law_146 d_law_147 d_law_148 ?_
    exact k
theorem lc_token (C0 : lw_At p s m meth c b L xs) (hK : va_K D vwCl (ns_tys cI cJ cT) s) (hE : ns_E s) (hL : L ≤ 320) (hl : lv_has ls 4 [(0, .ref b), (1, .ref sh), (2, .ref mm), (3, .int (nI i))]) (hi : i + 5 ≤ L) (hq : q ≤ 64) (hLI : LI s D cI cJ cT sh T wk mm A q H locs cn sn) (hnext : ∀ (H : Heap) (locs : List Loc) (cn sn : Nat), LI s D cI cJ cT sh T wk mm A (q + 1) H locs cn sn → W p l e room_1 s m #[Value.ref b] below meth c H locs cn sn (lw_Z below #[Value.ref b] s) (F0 m 719 ls [])) : W p l e room_1 s m #[Value.ref b] below meth c H locs cn sn (lw_Z below #[Value.ref b] s) (F0 m 157 ls []) := by
  obtain ⟨hx, hb, hr, hml, hown, hts, hX, hbl, hlocks, hgv⟩ := id C0
  have hS := lw_hS hLI
  by_cases y : xs (i + 2) = 0
  · refine lv_aload_n hx hb d_law_157 rfl (lv_at hl 1 rfl) ?_
    refine lw_rd (pc := 158) (j := 1) (n := 1) C0 hK hE hL hS hl (by omega) (by decide) d_law_158 d_law_159 d_law_160 d_law_161 d_law_162 ?_
    refine lw_rd (pc := 163) (j := 2) (n := 2) C0 hK hE hL hS hl (by omega) (by decide) d_law_163 d_law_164 d_law_165 d_law_166 d_law_167 ?_
    refine lv_if_eq (tgt := 175) hx hb d_law_168 (by decide) (fun _ => ?_) (fun z => absurd y z)
    refine lv_iconst (v := 0) hx hb d_law_175 (by decide) ?_
    refine lw_two (f := Value.int) (kc := 18) (km := 65) (jc := 18) (jm := 22) (pc1 := 176) (pc2 := 198) (vs := [.int (xs (i + 1)), .int 0]) C0 hK hE hL hl.1 hq hLI (fun Sx ad na ha cur Z h1 h2 h3 => op_token h1 h2 (xs (i + 1)) 0) d_law_176 d_law_198 ⟨by decide, lw_links (18, 18) (by decide), by decide, by decide, by decide, rfl, fun _ => Nat.le_of_ble_eq_true rfl, rfl⟩ ⟨by decide, lw_links (22, 65) (by decide), by decide, by decide, by decide, rfl, fun _ => Nat.le_of_ble_eq_true rfl, rfl⟩ (fun _ => Nat.le_of_ble_eq_true rfl) (fun x H' locs' cn' sn' hS' k => ?_) (fun x H' locs' cn' sn' hl' => lw_endI C0 hK hE hL d_law_201 (by decide) (hnext _ _ _ _ hl'))
    · refine lv_aload_n hx hb d_law_179 rfl (lv_at hl 2 rfl) ?_
      refine lw_rd (pc := 180) (j := 1) (n := 1) C0 hK hE hL hS' hl (by omega) (by decide) d_law_180 d_law_181 d_law_182 d_law_183 d_law_184 ?_
      refine lw_rd (pc := 185) (j := 2) (n := 2) C0 hK hE hL hS' hl (by omega) (by decide) d_law_185 d_law_186 d_law_187 d_law_188 d_law_189 ?_
      refine lv_if_eq (tgt := 197) hx hb d_law_190 (by decide) (fun _ => ?_) (fun z => absurd y z)
      refine lv_iconst (v := 0) hx hb d_law_197 (by decide) ?_
      exact k
  · refine lv_aload_n hx hb d_law_157 rfl (lv_at hl 1 rfl) ?_
    refine lw_rd (pc := 158) (j := 1) (n := 1) C0 hK hE hL hS hl (by omega) (by decide) d_law_158 d_law_159 d_law_160 d_law_161 d_law_162 ?_
    refine lw_rd (pc := 163) (j := 2) (n := 2) C0 hK hE hL hS hl (by omega) (by decide) d_law_163 d_law_164 d_law_165 d_law_166 d_law_167 ?_
    refine lv_if_eq (tgt := 175) hx hb d_law_168 (by decide) (fun z => absurd z y) (fun _ => ?_)
    refine lv_iconst (v := 1) hx hb d_law_171 (by decide) ?_
    refine lv_goto (tgt := 176) hx hb d_law_172 (by decide) ?_
    refine lw_two (f := Value.int) (kc := 18) (km := 65) (jc := 18) (jm := 22) (pc1 := 176) (pc2 := 198) (vs := [.int (xs (i + 1)), .int 1]) C0 hK hE hL hl.1 hq hLI (fun Sx ad na ha cur Z h1 h2 h3 => op_token h1 h2 (xs (i + 1)) 1) d_law_176 d_law_198 ⟨by decide, lw_links (18, 18) (by decide), by decide, by decide, by decide, rfl, fun _ => Nat.le_of_ble_eq_true rfl, rfl⟩ ⟨by decide, lw_links (22, 65) (by decide), by decide, by decide, by decide, rfl, fun _ => Nat.le_of_ble_eq_true rfl, rfl⟩ (fun _ => Nat.le_of_ble_eq_true rfl) (fun x H' locs' cn' sn' hS' k => ?_) (fun x H' locs' cn' sn' hl' => lw_endI C0 hK hE hL d_law_201 (by decide) (hnext _ _ _ _ hl'))
    · refine lv_aload_n hx hb d_law_179 rfl (lv_at hl 2 rfl) ?_
      refine lw_rd (pc := 180) (j := 1) (n := 1) C0 hK hE hL hS' hl (by omega) (by decide) d_law_180 d_law_181 d_law_182 d_law_183 d_law_184 ?_
      refine lw_rd (pc := 185) (j := 2) (n := 2) C0 hK hE hL hS' hl (by omega) (by decide) d_law_185 d_law_186 d_law_187 d_law_188 d_law_189 ?_
      refine lv_if_eq (tgt := 197) hx hb d_law_190 (by decide) (fun z => absurd z y) (fun _ => ?_)
      refine lv_iconst (v := 1) hx hb d_law_193 (by decide) ?_
      refine lv_goto (tgt := 198) hx hb d_law_194 (by decide) ?_
      exact k
theorem lc_put (C0 : lw_At p s m meth c b L xs) (hK : va_K D vwCl (ns_tys cI cJ cT) s) (hE : ns_E s) (hL : L ≤ 320) (hl : lv_has ls 4 [(0, .ref b), (1, .ref sh), (2, .ref mm), (3, .int (nI i))]) (hi : i + 5 ≤ L) (hq : q ≤ 64) (hLI : LI s D cI cJ cT sh T wk mm A q H locs cn sn) (hnext : ∀ (H : Heap) (locs : List Loc) (cn sn : Nat), LI s D cI cJ cT sh T wk mm A (q + 1) H locs cn sn → W p l e room_1 s m #[Value.ref b] below meth c H locs cn sn (lw_Z below #[Value.ref b] s) (F0 m 719 ls [])) : W p l e room_1 s m #[Value.ref b] below meth c H locs cn sn (lw_Z below #[Value.ref b] s) (F0 m 206 ls []) := by
  obtain ⟨hx, hb, hr, hml, hown, hts, hX, hbl, hlocks, hgv⟩ := id C0
  have hS := lw_hS hLI
  refine lv_aload_n hx hb d_law_206 rfl (lv_at hl 1 rfl) ?_
  refine lw_rd (pc := 207) (j := 1) (n := 1) C0 hK hE hL hS hl (by omega) (by decide) d_law_207 d_law_208 d_law_209 d_law_210 d_law_211 ?_
  refine lw_rd (pc := 212) (j := 2) (n := 2) C0 hK hE hL hS hl (by omega) (by decide) d_law_212 d_law_213 d_law_214 d_law_215 d_law_216 ?_
  refine lw_rd (pc := 217) (j := 3) (n := 3) C0 hK hE hL hS hl (by omega) (by decide) d_law_217 d_law_218 d_law_219 d_law_220 d_law_221 ?_
  refine lv_i2l hx hb d_law_222 rfl ?_
  refine lv_bipush (v := 32) hx hb d_law_223 (by decide) ?_
  refine lv_lshl hx hb d_law_225 rfl ?_
  refine lw_rd (pc := 226) (j := 4) (n := 4) C0 hK hE hL hS hl (by omega) (by decide) d_law_226 d_law_227 d_law_228 d_law_229 d_law_230 ?_
  refine lv_i2l hx hb d_law_231 rfl ?_
  refine lv_ldc2 (v := 4294967295) hx hb hown (hts _ lw_words.2.2.2.2.2.2.2.2.2.2) d_law_232 ?_
  refine lv_land hx hb d_law_235 ?_
  refine lv_lor hx hb d_law_236 ?_
  refine lw_two (f := Value.int) (kc := 19) (km := 66) (jc := 25) (jm := 29) (pc1 := 237) (pc2 := 271) (vs := [.int (xs (i + 1)), .int (xs (i + 2)), .long ((xs (i + 3)).toInt64 <<< ((32 : Int32).toInt64 &&& 63) ||| ((xs (i + 4)).toInt64 &&& 4294967295))]) C0 hK hE hL hl.1 hq hLI (fun Sx ad na ha cur Z h1 h2 h3 => op_put h1 h2 (xs (i + 1)) (xs (i + 2)) ((xs (i + 3)).toInt64 <<< ((32 : Int32).toInt64 &&& 63) ||| ((xs (i + 4)).toInt64 &&& 4294967295))) d_law_237 d_law_271 ⟨by decide, lw_links (25, 19) (by decide), by decide, by decide, by decide, rfl, fun _ => Nat.le_of_ble_eq_true rfl, rfl⟩ ⟨by decide, lw_links (29, 66) (by decide), by decide, by decide, by decide, rfl, fun _ => Nat.le_of_ble_eq_true rfl, rfl⟩ (fun _ => Nat.le_of_ble_eq_true rfl) (fun x H' locs' cn' sn' hS' k => ?_) (fun x H' locs' cn' sn' hl' => lw_endI C0 hK hE hL d_law_274 (by decide) (hnext _ _ _ _ hl'))
  · refine lv_aload_n hx hb d_law_240 rfl (lv_at hl 2 rfl) ?_
    refine lw_rd (pc := 241) (j := 1) (n := 1) C0 hK hE hL hS' hl (by omega) (by decide) d_law_241 d_law_242 d_law_243 d_law_244 d_law_245 ?_
    refine lw_rd (pc := 246) (j := 2) (n := 2) C0 hK hE hL hS' hl (by omega) (by decide) d_law_246 d_law_247 d_law_248 d_law_249 d_law_250 ?_
    refine lw_rd (pc := 251) (j := 3) (n := 3) C0 hK hE hL hS' hl (by omega) (by decide) d_law_251 d_law_252 d_law_253 d_law_254 d_law_255 ?_
    refine lv_i2l hx hb d_law_256 rfl ?_
    refine lv_bipush (v := 32) hx hb d_law_257 (by decide) ?_
    refine lv_lshl hx hb d_law_259 rfl ?_
    refine lw_rd (pc := 260) (j := 4) (n := 4) C0 hK hE hL hS' hl (by omega) (by decide) d_law_260 d_law_261 d_law_262 d_law_263 d_law_264 ?_
    refine lv_i2l hx hb d_law_265 rfl ?_
    refine lv_ldc2 (v := 4294967295) hx hb hown (hts _ lw_words.2.2.2.2.2.2.2.2.2.2) d_law_266 ?_
    refine lv_land hx hb d_law_269 ?_
    refine lv_lor hx hb d_law_270 ?_
    exact k
theorem lc_hang (C0 : lw_At p s m meth c b L xs) (hK : va_K D vwCl (ns_tys cI cJ cT) s) (hE : ns_E s) (hL : L ≤ 320) (hl : lv_has ls 4 [(0, .ref b), (1, .ref sh), (2, .ref mm), (3, .int (nI i))]) (hi : i + 5 ≤ L) (hq : q ≤ 64) (hLI : LI s D cI cJ cT sh T wk mm A q H locs cn sn) (hnext : ∀ (H : Heap) (locs : List Loc) (cn sn : Nat), LI s D cI cJ cT sh T wk mm A (q + 1) H locs cn sn → W p l e room_1 s m #[Value.ref b] below meth c H locs cn sn (lw_Z below #[Value.ref b] s) (F0 m 719 ls [])) : W p l e room_1 s m #[Value.ref b] below meth c H locs cn sn (lw_Z below #[Value.ref b] s) (F0 m 279 ls []) := by
  obtain ⟨hx, hb, hr, hml, hown, hts, hX, hbl, hlocks, hgv⟩ := id C0
  have hS := lw_hS hLI
  refine lv_aload_n hx hb d_law_279 rfl (lv_at hl 1 rfl) ?_
  refine lw_rd (pc := 280) (j := 1) (n := 1) C0 hK hE hL hS hl (by omega) (by decide) d_law_280 d_law_281 d_law_282 d_law_283 d_law_284 ?_
  refine lw_rd (pc := 285) (j := 2) (n := 2) C0 hK hE hL hS hl (by omega) (by decide) d_law_285 d_law_286 d_law_287 d_law_288 d_law_289 ?_
  refine lw_rd (pc := 290) (j := 3) (n := 3) C0 hK hE hL hS hl (by omega) (by decide) d_law_290 d_law_291 d_law_292 d_law_293 d_law_294 ?_
  refine lw_two (f := Value.int) (kc := 20) (km := 69) (jc := 30) (jm := 34) (pc1 := 295) (pc2 := 314) (vs := [.int (xs (i + 1)), .int (xs (i + 2)), .int (xs (i + 3))]) C0 hK hE hL hl.1 hq hLI (fun Sx ad na ha cur Z h1 h2 h3 => op_hang h1 h2 (xs (i + 1)) (xs (i + 2)) (xs (i + 3))) d_law_295 d_law_314 ⟨by decide, lw_links (30, 20) (by decide), by decide, by decide, by decide, rfl, fun _ => Nat.le_of_ble_eq_true rfl, rfl⟩ ⟨by decide, lw_links (34, 69) (by decide), by decide, by decide, by decide, rfl, fun _ => Nat.le_of_ble_eq_true rfl, rfl⟩ (fun _ => Nat.le_of_ble_eq_true rfl) (fun x H' locs' cn' sn' hS' k => ?_) (fun x H' locs' cn' sn' hl' => lw_endI C0 hK hE hL d_law_317 (by decide) (hnext _ _ _ _ hl'))
  · refine lv_aload_n hx hb d_law_298 rfl (lv_at hl 2 rfl) ?_
    refine lw_rd (pc := 299) (j := 1) (n := 1) C0 hK hE hL hS' hl (by omega) (by decide) d_law_299 d_law_300 d_law_301 d_law_302 d_law_303 ?_
    refine lw_rd (pc := 304) (j := 2) (n := 2) C0 hK hE hL hS' hl (by omega) (by decide) d_law_304 d_law_305 d_law_306 d_law_307 d_law_308 ?_
    refine lw_rd (pc := 309) (j := 3) (n := 3) C0 hK hE hL hS' hl (by omega) (by decide) d_law_309 d_law_310 d_law_311 d_law_312 d_law_313 ?_
    exact k
theorem lc_kind (C0 : lw_At p s m meth c b L xs) (hK : va_K D vwCl (ns_tys cI cJ cT) s) (hE : ns_E s) (hL : L ≤ 320) (hl : lv_has ls 4 [(0, .ref b), (1, .ref sh), (2, .ref mm), (3, .int (nI i))]) (hi : i + 5 ≤ L) (hq : q ≤ 64) (hLI : LI s D cI cJ cT sh T wk mm A q H locs cn sn) (hnext : ∀ (H : Heap) (locs : List Loc) (cn sn : Nat), LI s D cI cJ cT sh T wk mm A (q + 1) H locs cn sn → W p l e room_1 s m #[Value.ref b] below meth c H locs cn sn (lw_Z below #[Value.ref b] s) (F0 m 719 ls [])) : W p l e room_1 s m #[Value.ref b] below meth c H locs cn sn (lw_Z below #[Value.ref b] s) (F0 m 322 ls []) := by
  obtain ⟨hx, hb, hr, hml, hown, hts, hX, hbl, hlocks, hgv⟩ := id C0
  have hS := lw_hS hLI
  refine lv_aload_n hx hb d_law_322 rfl (lv_at hl 1 rfl) ?_
  refine lw_rd (pc := 323) (j := 1) (n := 1) C0 hK hE hL hS hl (by omega) (by decide) d_law_323 d_law_324 d_law_325 d_law_326 d_law_327 ?_
  refine lw_two (f := Value.int) (kc := 21) (km := 70) (jc := 35) (jm := 39) (pc1 := 328) (pc2 := 337) (vs := [.int (xs (i + 1))]) C0 hK hE hL hl.1 hq hLI (fun Sx ad na ha cur Z h1 h2 h3 => op_kind h1 h2 (xs (i + 1))) d_law_328 d_law_337 ⟨by decide, lw_links (35, 21) (by decide), by decide, by decide, by decide, rfl, fun _ => Nat.le_of_ble_eq_true rfl, rfl⟩ ⟨by decide, lw_links (39, 70) (by decide), by decide, by decide, by decide, rfl, fun _ => Nat.le_of_ble_eq_true rfl, rfl⟩ (fun _ => Nat.le_of_ble_eq_true rfl) (fun x H' locs' cn' sn' hS' k => ?_) (fun x H' locs' cn' sn' hl' => lw_endI C0 hK hE hL d_law_340 (by decide) (hnext _ _ _ _ hl'))
  · refine lv_aload_n hx hb d_law_331 rfl (lv_at hl 2 rfl) ?_
    refine lw_rd (pc := 332) (j := 1) (n := 1) C0 hK hE hL hS' hl (by omega) (by decide) d_law_332 d_law_333 d_law_334 d_law_335 d_law_336 ?_
    exact k
theorem lc_length (C0 : lw_At p s m meth c b L xs) (hK : va_K D vwCl (ns_tys cI cJ cT) s) (hE : ns_E s) (hL : L ≤ 320) (hl : lv_has ls 4 [(0, .ref b), (1, .ref sh), (2, .ref mm), (3, .int (nI i))]) (hi : i + 5 ≤ L) (hq : q ≤ 64) (hLI : LI s D cI cJ cT sh T wk mm A q H locs cn sn) (hnext : ∀ (H : Heap) (locs : List Loc) (cn sn : Nat), LI s D cI cJ cT sh T wk mm A (q + 1) H locs cn sn → W p l e room_1 s m #[Value.ref b] below meth c H locs cn sn (lw_Z below #[Value.ref b] s) (F0 m 719 ls [])) : W p l e room_1 s m #[Value.ref b] below meth c H locs cn sn (lw_Z below #[Value.ref b] s) (F0 m 345 ls []) := by
  obtain ⟨hx, hb, hr, hml, hown, hts, hX, hbl, hlocks, hgv⟩ := id C0
  have hS := lw_hS hLI
  refine lv_aload_n hx hb d_law_345 rfl (lv_at hl 1 rfl) ?_
  refine lw_rd (pc := 346) (j := 1) (n := 1) C0 hK hE hL hS hl (by omega) (by decide) d_law_346 d_law_347 d_law_348 d_law_349 d_law_350 ?_
  refine lw_two (f := Value.int) (kc := 22) (km := 71) (jc := 40) (jm := 43) (pc1 := 351) (pc2 := 360) (vs := [.int (xs (i + 1))]) C0 hK hE hL hl.1 hq hLI (fun Sx ad na ha cur Z h1 h2 h3 => op_length h1 h2 (xs (i + 1))) d_law_351 d_law_360 ⟨by decide, lw_links (40, 22) (by decide), by decide, by decide, by decide, rfl, fun _ => Nat.le_of_ble_eq_true rfl, rfl⟩ ⟨by decide, lw_links (43, 71) (by decide), by decide, by decide, by decide, rfl, fun _ => Nat.le_of_ble_eq_true rfl, rfl⟩ (fun _ => Nat.le_of_ble_eq_true rfl) (fun x H' locs' cn' sn' hS' k => ?_) (fun x H' locs' cn' sn' hl' => lw_endI C0 hK hE hL d_law_363 (by decide) (hnext _ _ _ _ hl'))
  · refine lv_aload_n hx hb d_law_354 rfl (lv_at hl 2 rfl) ?_
    refine lw_rd (pc := 355) (j := 1) (n := 1) C0 hK hE hL hS' hl (by omega) (by decide) d_law_355 d_law_356 d_law_357 d_law_358 d_law_359 ?_
    exact k
theorem lc_number (C0 : lw_At p s m meth c b L xs) (hK : va_K D vwCl (ns_tys cI cJ cT) s) (hE : ns_E s) (hL : L ≤ 320) (hl : lv_has ls 4 [(0, .ref b), (1, .ref sh), (2, .ref mm), (3, .int (nI i))]) (hi : i + 5 ≤ L) (hq : q ≤ 64) (hLI : LI s D cI cJ cT sh T wk mm A q H locs cn sn) (hnext : ∀ (H : Heap) (locs : List Loc) (cn sn : Nat), LI s D cI cJ cT sh T wk mm A (q + 1) H locs cn sn → W p l e room_1 s m #[Value.ref b] below meth c H locs cn sn (lw_Z below #[Value.ref b] s) (F0 m 719 ls [])) : W p l e room_1 s m #[Value.ref b] below meth c H locs cn sn (lw_Z below #[Value.ref b] s) (F0 m 368 ls []) := by
  obtain ⟨hx, hb, hr, hml, hown, hts, hX, hbl, hlocks, hgv⟩ := id C0
  have hS := lw_hS hLI
  refine lv_aload_n hx hb d_law_368 rfl (lv_at hl 1 rfl) ?_
  refine lw_rd (pc := 369) (j := 1) (n := 1) C0 hK hE hL hS hl (by omega) (by decide) d_law_369 d_law_370 d_law_371 d_law_372 d_law_373 ?_
  refine lw_rd (pc := 374) (j := 2) (n := 2) C0 hK hE hL hS hl (by omega) (by decide) d_law_374 d_law_375 d_law_376 d_law_377 d_law_378 ?_
  refine lw_two (f := Value.long) (kc := 23) (km := 72) (jc := 44) (jm := 48) (pc1 := 379) (pc2 := 393) (vs := [.int (xs (i + 1)), .int (xs (i + 2))]) C0 hK hE hL hl.1 hq hLI (fun Sx ad na ha cur Z h1 h2 h3 => op_number h1 h2 (xs (i + 1)) (xs (i + 2))) d_law_379 d_law_393 ⟨by decide, lw_links (44, 23) (by decide), by decide, by decide, by decide, rfl, fun _ => Nat.le_of_ble_eq_true rfl, rfl⟩ ⟨by decide, lw_links (48, 72) (by decide), by decide, by decide, by decide, rfl, fun _ => Nat.le_of_ble_eq_true rfl, rfl⟩ (fun _ => Nat.le_of_ble_eq_true rfl) (fun x H' locs' cn' sn' hS' k => ?_) (fun x H' locs' cn' sn' hl' => lw_endJ C0 hK hE hL d_law_396 d_law_397 (by decide) (hnext _ _ _ _ hl'))
  · refine lv_aload_n hx hb d_law_382 rfl (lv_at hl 2 rfl) ?_
    refine lw_rd (pc := 383) (j := 1) (n := 1) C0 hK hE hL hS' hl (by omega) (by decide) d_law_383 d_law_384 d_law_385 d_law_386 d_law_387 ?_
    refine lw_rd (pc := 388) (j := 2) (n := 2) C0 hK hE hL hS' hl (by omega) (by decide) d_law_388 d_law_389 d_law_390 d_law_391 d_law_392 ?_
    exact k
theorem lc_below (C0 : lw_At p s m meth c b L xs) (hK : va_K D vwCl (ns_tys cI cJ cT) s) (hE : ns_E s) (hL : L ≤ 320) (hl : lv_has ls 4 [(0, .ref b), (1, .ref sh), (2, .ref mm), (3, .int (nI i))]) (hi : i + 5 ≤ L) (hq : q ≤ 64) (hLI : LI s D cI cJ cT sh T wk mm A q H locs cn sn) (hnext : ∀ (H : Heap) (locs : List Loc) (cn sn : Nat), LI s D cI cJ cT sh T wk mm A (q + 1) H locs cn sn → W p l e room_1 s m #[Value.ref b] below meth c H locs cn sn (lw_Z below #[Value.ref b] s) (F0 m 719 ls [])) : W p l e room_1 s m #[Value.ref b] below meth c H locs cn sn (lw_Z below #[Value.ref b] s) (F0 m 402 ls []) := by
  obtain ⟨hx, hb, hr, hml, hown, hts, hX, hbl, hlocks, hgv⟩ := id C0
  have hS := lw_hS hLI
  refine lv_aload_n hx hb d_law_402 rfl (lv_at hl 1 rfl) ?_
  refine lw_rd (pc := 403) (j := 1) (n := 1) C0 hK hE hL hS hl (by omega) (by decide) d_law_403 d_law_404 d_law_405 d_law_406 d_law_407 ?_
  refine lw_rd (pc := 408) (j := 2) (n := 2) C0 hK hE hL hS hl (by omega) (by decide) d_law_408 d_law_409 d_law_410 d_law_411 d_law_412 ?_
  refine lw_two (f := Value.int) (kc := 24) (km := 73) (jc := 49) (jm := 52) (pc1 := 413) (pc2 := 427) (vs := [.int (xs (i + 1)), .int (xs (i + 2))]) C0 hK hE hL hl.1 hq hLI (fun Sx ad na ha cur Z h1 h2 h3 => op_below h1 h2 (xs (i + 1)) (xs (i + 2))) d_law_413 d_law_427 ⟨by decide, lw_links (49, 24) (by decide), by decide, by decide, by decide, rfl, fun _ => Nat.le_of_ble_eq_true rfl, rfl⟩ ⟨by decide, lw_links (52, 73) (by decide), by decide, by decide, by decide, rfl, fun _ => Nat.le_of_ble_eq_true rfl, rfl⟩ (fun _ => Nat.le_of_ble_eq_true rfl) (fun x H' locs' cn' sn' hS' k => ?_) (fun x H' locs' cn' sn' hl' => lw_endI C0 hK hE hL d_law_430 (by decide) (hnext _ _ _ _ hl'))
  · refine lv_aload_n hx hb d_law_416 rfl (lv_at hl 2 rfl) ?_
    refine lw_rd (pc := 417) (j := 1) (n := 1) C0 hK hE hL hS' hl (by omega) (by decide) d_law_417 d_law_418 d_law_419 d_law_420 d_law_421 ?_
    refine lw_rd (pc := 422) (j := 2) (n := 2) C0 hK hE hL hS' hl (by omega) (by decide) d_law_422 d_law_423 d_law_424 d_law_425 d_law_426 ?_
    exact k
theorem lc_is (C0 : lw_At p s m meth c b L xs) (hK : va_K D vwCl (ns_tys cI cJ cT) s) (hE : ns_E s) (hL : L ≤ 320) (hl : lv_has ls 4 [(0, .ref b), (1, .ref sh), (2, .ref mm), (3, .int (nI i))]) (hi : i + 5 ≤ L) (hq : q ≤ 64) (hLI : LI s D cI cJ cT sh T wk mm A q H locs cn sn) (hnext : ∀ (H : Heap) (locs : List Loc) (cn sn : Nat), LI s D cI cJ cT sh T wk mm A (q + 1) H locs cn sn → W p l e room_1 s m #[Value.ref b] below meth c H locs cn sn (lw_Z below #[Value.ref b] s) (F0 m 719 ls [])) : W p l e room_1 s m #[Value.ref b] below meth c H locs cn sn (lw_Z below #[Value.ref b] s) (F0 m 435 ls []) := by
  obtain ⟨hx, hb, hr, hml, hown, hts, hX, hbl, hlocks, hgv⟩ := id C0
  have hS := lw_hS hLI
  refine lv_aload_n hx hb d_law_435 rfl (lv_at hl 1 rfl) ?_
  refine lw_rd (pc := 436) (j := 1) (n := 1) C0 hK hE hL hS hl (by omega) (by decide) d_law_436 d_law_437 d_law_438 d_law_439 d_law_440 ?_
  refine lw_rd (pc := 441) (j := 2) (n := 2) C0 hK hE hL hS hl (by omega) (by decide) d_law_441 d_law_442 d_law_443 d_law_444 d_law_445 ?_
  refine lw_two (f := Value.int) (kc := 25) (km := 74) (jc := 53) (jm := 56) (pc1 := 446) (pc2 := 460) (vs := [.int (xs (i + 1)), .int (xs (i + 2))]) C0 hK hE hL hl.1 hq hLI (fun Sx ad na ha cur Z h1 h2 h3 => op_is h1 h2 (xs (i + 1)) (xs (i + 2))) d_law_446 d_law_460 ⟨by decide, lw_links (53, 25) (by decide), by decide, by decide, by decide, rfl, fun _ => Nat.le_of_ble_eq_true rfl, rfl⟩ ⟨by decide, lw_links (56, 74) (by decide), by decide, by decide, by decide, rfl, fun _ => Nat.le_of_ble_eq_true rfl, rfl⟩ (fun _ => Nat.le_of_ble_eq_true rfl) (fun x H' locs' cn' sn' hS' k => ?_) (fun x H' locs' cn' sn' hl' => lw_endI C0 hK hE hL d_law_463 (by decide) (hnext _ _ _ _ hl'))
  · refine lv_aload_n hx hb d_law_449 rfl (lv_at hl 2 rfl) ?_
    refine lw_rd (pc := 450) (j := 1) (n := 1) C0 hK hE hL hS' hl (by omega) (by decide) d_law_450 d_law_451 d_law_452 d_law_453 d_law_454 ?_
    refine lw_rd (pc := 455) (j := 2) (n := 2) C0 hK hE hL hS' hl (by omega) (by decide) d_law_455 d_law_456 d_law_457 d_law_458 d_law_459 ?_
    exact k
theorem lc_as (C0 : lw_At p s m meth c b L xs) (hK : va_K D vwCl (ns_tys cI cJ cT) s) (hE : ns_E s) (hL : L ≤ 320) (hl : lv_has ls 4 [(0, .ref b), (1, .ref sh), (2, .ref mm), (3, .int (nI i))]) (hi : i + 5 ≤ L) (hq : q ≤ 64) (hLI : LI s D cI cJ cT sh T wk mm A q H locs cn sn) (hnext : ∀ (H : Heap) (locs : List Loc) (cn sn : Nat), LI s D cI cJ cT sh T wk mm A (q + 1) H locs cn sn → W p l e room_1 s m #[Value.ref b] below meth c H locs cn sn (lw_Z below #[Value.ref b] s) (F0 m 719 ls [])) : W p l e room_1 s m #[Value.ref b] below meth c H locs cn sn (lw_Z below #[Value.ref b] s) (F0 m 468 ls []) := by
  obtain ⟨hx, hb, hr, hml, hown, hts, hX, hbl, hlocks, hgv⟩ := id C0
  have hS := lw_hS hLI
  refine lv_aload_n hx hb d_law_468 rfl (lv_at hl 1 rfl) ?_
  refine lw_rd (pc := 469) (j := 1) (n := 1) C0 hK hE hL hS hl (by omega) (by decide) d_law_469 d_law_470 d_law_471 d_law_472 d_law_473 ?_
  refine lw_rd (pc := 474) (j := 2) (n := 2) C0 hK hE hL hS hl (by omega) (by decide) d_law_474 d_law_475 d_law_476 d_law_477 d_law_478 ?_
  refine lw_two (f := Value.int) (kc := 26) (km := 75) (jc := 57) (jm := 60) (pc1 := 479) (pc2 := 493) (vs := [.int (xs (i + 1)), .int (xs (i + 2))]) C0 hK hE hL hl.1 hq hLI (fun Sx ad na ha cur Z h1 h2 h3 => op_as h1 h2 (xs (i + 1)) (xs (i + 2))) d_law_479 d_law_493 ⟨by decide, lw_links (57, 26) (by decide), by decide, by decide, by decide, rfl, fun _ => Nat.le_of_ble_eq_true rfl, rfl⟩ ⟨by decide, lw_links (60, 75) (by decide), by decide, by decide, by decide, rfl, fun _ => Nat.le_of_ble_eq_true rfl, rfl⟩ (fun _ => Nat.le_of_ble_eq_true rfl) (fun x H' locs' cn' sn' hS' k => ?_) (fun x H' locs' cn' sn' hl' => lw_endI C0 hK hE hL d_law_496 (by decide) (hnext _ _ _ _ hl'))
  · refine lv_aload_n hx hb d_law_482 rfl (lv_at hl 2 rfl) ?_
    refine lw_rd (pc := 483) (j := 1) (n := 1) C0 hK hE hL hS' hl (by omega) (by decide) d_law_483 d_law_484 d_law_485 d_law_486 d_law_487 ?_
    refine lw_rd (pc := 488) (j := 2) (n := 2) C0 hK hE hL hS' hl (by omega) (by decide) d_law_488 d_law_489 d_law_490 d_law_491 d_law_492 ?_
    exact k
theorem lc_weight (C0 : lw_At p s m meth c b L xs) (hK : va_K D vwCl (ns_tys cI cJ cT) s) (hE : ns_E s) (hL : L ≤ 320) (hl : lv_has ls 4 [(0, .ref b), (1, .ref sh), (2, .ref mm), (3, .int (nI i))]) (hi : i + 5 ≤ L) (hq : q ≤ 64) (hLI : LI s D cI cJ cT sh T wk mm A q H locs cn sn) (hnext : ∀ (H : Heap) (locs : List Loc) (cn sn : Nat), LI s D cI cJ cT sh T wk mm A (q + 1) H locs cn sn → W p l e room_1 s m #[Value.ref b] below meth c H locs cn sn (lw_Z below #[Value.ref b] s) (F0 m 719 ls [])) : W p l e room_1 s m #[Value.ref b] below meth c H locs cn sn (lw_Z below #[Value.ref b] s) (F0 m 501 ls []) := by
  obtain ⟨hx, hb, hr, hml, hown, hts, hX, hbl, hlocks, hgv⟩ := id C0
  have hS := lw_hS hLI
  refine lv_aload_n hx hb d_law_501 rfl (lv_at hl 1 rfl) ?_
  refine lw_rd (pc := 502) (j := 1) (n := 1) C0 hK hE hL hS hl (by omega) (by decide) d_law_502 d_law_503 d_law_504 d_law_505 d_law_506 ?_
  refine lw_two (f := Value.long) (kc := 27) (km := 82) (jc := 61) (jm := 65) (pc1 := 507) (pc2 := 516) (vs := [.int (xs (i + 1))]) C0 hK hE hL hl.1 hq hLI (fun Sx ad na ha cur Z h1 h2 h3 => op_weight h1 h2 h3 (xs (i + 1))) d_law_507 d_law_516 ⟨by decide, lw_links (61, 27) (by decide), by decide, by decide, by decide, rfl, fun _ => Nat.le_of_ble_eq_true rfl, rfl⟩ ⟨by decide, lw_links (65, 82) (by decide), by decide, by decide, by decide, rfl, fun _ => Nat.le_of_ble_eq_true rfl, rfl⟩ (fun _ => Nat.le_of_ble_eq_true rfl) (fun x H' locs' cn' sn' hS' k => ?_) (fun x H' locs' cn' sn' hl' => lw_endJ C0 hK hE hL d_law_519 d_law_520 (by decide) (hnext _ _ _ _ hl'))
  · refine lv_aload_n hx hb d_law_510 rfl (lv_at hl 2 rfl) ?_
    refine lw_rd (pc := 511) (j := 1) (n := 1) C0 hK hE hL hS' hl (by omega) (by decide) d_law_511 d_law_512 d_law_513 d_law_514 d_law_515 ?_
    exact k
theorem lc_depth (C0 : lw_At p s m meth c b L xs) (hK : va_K D vwCl (ns_tys cI cJ cT) s) (hE : ns_E s) (hL : L ≤ 320) (hl : lv_has ls 4 [(0, .ref b), (1, .ref sh), (2, .ref mm), (3, .int (nI i))]) (hi : i + 5 ≤ L) (hq : q ≤ 64) (hLI : LI s D cI cJ cT sh T wk mm A q H locs cn sn) (hnext : ∀ (H : Heap) (locs : List Loc) (cn sn : Nat), LI s D cI cJ cT sh T wk mm A (q + 1) H locs cn sn → W p l e room_1 s m #[Value.ref b] below meth c H locs cn sn (lw_Z below #[Value.ref b] s) (F0 m 719 ls [])) : W p l e room_1 s m #[Value.ref b] below meth c H locs cn sn (lw_Z below #[Value.ref b] s) (F0 m 525 ls []) := by
  obtain ⟨hx, hb, hr, hml, hown, hts, hX, hbl, hlocks, hgv⟩ := id C0
  have hS := lw_hS hLI
  refine lv_aload_n hx hb d_law_525 rfl (lv_at hl 1 rfl) ?_
  refine lw_rd (pc := 526) (j := 1) (n := 1) C0 hK hE hL hS hl (by omega) (by decide) d_law_526 d_law_527 d_law_528 d_law_529 d_law_530 ?_
  refine lw_two (f := Value.int) (kc := 28) (km := 83) (jc := 66) (jm := 69) (pc1 := 531) (pc2 := 540) (vs := [.int (xs (i + 1))]) C0 hK hE hL hl.1 hq hLI (fun Sx ad na ha cur Z h1 h2 h3 => op_depth h1 h2 h3 (xs (i + 1))) d_law_531 d_law_540 ⟨by decide, lw_links (66, 28) (by decide), by decide, by decide, by decide, rfl, fun _ => Nat.le_of_ble_eq_true rfl, rfl⟩ ⟨by decide, lw_links (69, 83) (by decide), by decide, by decide, by decide, rfl, fun _ => Nat.le_of_ble_eq_true rfl, rfl⟩ (fun _ => Nat.le_of_ble_eq_true rfl) (fun x H' locs' cn' sn' hS' k => ?_) (fun x H' locs' cn' sn' hl' => lw_endI C0 hK hE hL d_law_543 (by decide) (hnext _ _ _ _ hl'))
  · refine lv_aload_n hx hb d_law_534 rfl (lv_at hl 2 rfl) ?_
    refine lw_rd (pc := 535) (j := 1) (n := 1) C0 hK hE hL hS' hl (by omega) (by decide) d_law_535 d_law_536 d_law_537 d_law_538 d_law_539 ?_
    exact k
theorem lc_equal (C0 : lw_At p s m meth c b L xs) (hK : va_K D vwCl (ns_tys cI cJ cT) s) (hE : ns_E s) (hL : L ≤ 320) (hl : lv_has ls 4 [(0, .ref b), (1, .ref sh), (2, .ref mm), (3, .int (nI i))]) (hi : i + 5 ≤ L) (hq : q ≤ 64) (hLI : LI s D cI cJ cT sh T wk mm A q H locs cn sn) (hnext : ∀ (H : Heap) (locs : List Loc) (cn sn : Nat), LI s D cI cJ cT sh T wk mm A (q + 1) H locs cn sn → W p l e room_1 s m #[Value.ref b] below meth c H locs cn sn (lw_Z below #[Value.ref b] s) (F0 m 719 ls [])) : W p l e room_1 s m #[Value.ref b] below meth c H locs cn sn (lw_Z below #[Value.ref b] s) (F0 m 548 ls []) := by
  obtain ⟨hx, hb, hr, hml, hown, hts, hX, hbl, hlocks, hgv⟩ := id C0
  have hS := lw_hS hLI
  refine lv_aload_n hx hb d_law_548 rfl (lv_at hl 1 rfl) ?_
  refine lw_rd (pc := 549) (j := 1) (n := 1) C0 hK hE hL hS hl (by omega) (by decide) d_law_549 d_law_550 d_law_551 d_law_552 d_law_553 ?_
  refine lw_rd (pc := 554) (j := 2) (n := 2) C0 hK hE hL hS hl (by omega) (by decide) d_law_554 d_law_555 d_law_556 d_law_557 d_law_558 ?_
  refine lw_two (f := Value.int) (kc := 29) (km := 88) (jc := 70) (jm := 73) (pc1 := 559) (pc2 := 573) (vs := [.int (xs (i + 1)), .int (xs (i + 2))]) C0 hK hE hL hl.1 hq hLI (fun Sx ad na ha cur Z h1 h2 h3 => op_equal h1 h2 h3 (xs (i + 1)) (xs (i + 2))) d_law_559 d_law_573 ⟨by decide, lw_links (70, 29) (by decide), by decide, by decide, by decide, rfl, fun _ => Nat.le_of_ble_eq_true rfl, rfl⟩ ⟨by decide, lw_links (73, 88) (by decide), by decide, by decide, by decide, rfl, fun _ => Nat.le_of_ble_eq_true rfl, rfl⟩ (fun _ => Nat.le_of_ble_eq_true rfl) (fun x H' locs' cn' sn' hS' k => ?_) (fun x H' locs' cn' sn' hl' => lw_endI C0 hK hE hL d_law_576 (by decide) (hnext _ _ _ _ hl'))
  · refine lv_aload_n hx hb d_law_562 rfl (lv_at hl 2 rfl) ?_
    refine lw_rd (pc := 563) (j := 1) (n := 1) C0 hK hE hL hS' hl (by omega) (by decide) d_law_563 d_law_564 d_law_565 d_law_566 d_law_567 ?_
    refine lw_rd (pc := 568) (j := 2) (n := 2) C0 hK hE hL hS' hl (by omega) (by decide) d_law_568 d_law_569 d_law_570 d_law_571 d_law_572 ?_
    exact k
theorem lc_order (C0 : lw_At p s m meth c b L xs) (hK : va_K D vwCl (ns_tys cI cJ cT) s) (hE : ns_E s) (hL : L ≤ 320) (hl : lv_has ls 4 [(0, .ref b), (1, .ref sh), (2, .ref mm), (3, .int (nI i))]) (hi : i + 5 ≤ L) (hq : q ≤ 64) (hLI : LI s D cI cJ cT sh T wk mm A q H locs cn sn) (hnext : ∀ (H : Heap) (locs : List Loc) (cn sn : Nat), LI s D cI cJ cT sh T wk mm A (q + 1) H locs cn sn → W p l e room_1 s m #[Value.ref b] below meth c H locs cn sn (lw_Z below #[Value.ref b] s) (F0 m 719 ls [])) : W p l e room_1 s m #[Value.ref b] below meth c H locs cn sn (lw_Z below #[Value.ref b] s) (F0 m 581 ls []) := by
  obtain ⟨hx, hb, hr, hml, hown, hts, hX, hbl, hlocks, hgv⟩ := id C0
  have hS := lw_hS hLI
  refine lv_aload_n hx hb d_law_581 rfl (lv_at hl 1 rfl) ?_
  refine lw_rd (pc := 582) (j := 1) (n := 1) C0 hK hE hL hS hl (by omega) (by decide) d_law_582 d_law_583 d_law_584 d_law_585 d_law_586 ?_
  refine lw_rd (pc := 587) (j := 2) (n := 2) C0 hK hE hL hS hl (by omega) (by decide) d_law_587 d_law_588 d_law_589 d_law_590 d_law_591 ?_
  refine lw_two (f := Value.int) (kc := 30) (km := 89) (jc := 74) (jm := 77) (pc1 := 592) (pc2 := 606) (vs := [.int (xs (i + 1)), .int (xs (i + 2))]) C0 hK hE hL hl.1 hq hLI (fun Sx ad na ha cur Z h1 h2 h3 => op_order h1 h2 (xs (i + 1)) (xs (i + 2))) d_law_592 d_law_606 ⟨by decide, lw_links (74, 30) (by decide), by decide, by decide, by decide, rfl, fun _ => Nat.le_of_ble_eq_true rfl, rfl⟩ ⟨by decide, lw_links (77, 89) (by decide), by decide, by decide, by decide, rfl, fun _ => Nat.le_of_ble_eq_true rfl, rfl⟩ (fun _ => Nat.le_of_ble_eq_true rfl) (fun x H' locs' cn' sn' hS' k => ?_) (fun x H' locs' cn' sn' hl' => lw_endI C0 hK hE hL d_law_609 (by decide) (hnext _ _ _ _ hl'))
  · refine lv_aload_n hx hb d_law_595 rfl (lv_at hl 2 rfl) ?_
    refine lw_rd (pc := 596) (j := 1) (n := 1) C0 hK hE hL hS' hl (by omega) (by decide) d_law_596 d_law_597 d_law_598 d_law_599 d_law_600 ?_
    refine lw_rd (pc := 601) (j := 2) (n := 2) C0 hK hE hL hS' hl (by omega) (by decide) d_law_601 d_law_602 d_law_603 d_law_604 d_law_605 ?_
    exact k
theorem lc_sort (C0 : lw_At p s m meth c b L xs) (hK : va_K D vwCl (ns_tys cI cJ cT) s) (hE : ns_E s) (hL : L ≤ 320) (hl : lv_has ls 4 [(0, .ref b), (1, .ref sh), (2, .ref mm), (3, .int (nI i))]) (hi : i + 5 ≤ L) (hq : q ≤ 64) (hLI : LI s D cI cJ cT sh T wk mm A q H locs cn sn) (hnext : ∀ (H : Heap) (locs : List Loc) (cn sn : Nat), LI s D cI cJ cT sh T wk mm A (q + 1) H locs cn sn → W p l e room_1 s m #[Value.ref b] below meth c H locs cn sn (lw_Z below #[Value.ref b] s) (F0 m 719 ls [])) : W p l e room_1 s m #[Value.ref b] below meth c H locs cn sn (lw_Z below #[Value.ref b] s) (F0 m 614 ls []) := by
  obtain ⟨hx, hb, hr, hml, hown, hts, hX, hbl, hlocks, hgv⟩ := id C0
  have hS := lw_hS hLI
  refine lv_aload_n hx hb d_law_614 rfl (lv_at hl 1 rfl) ?_
  refine lw_rd (pc := 615) (j := 1) (n := 1) C0 hK hE hL hS hl (by omega) (by decide) d_law_615 d_law_616 d_law_617 d_law_618 d_law_619 ?_
  refine lw_two (f := Value.int) (kc := 31) (km := 90) (jc := 78) (jm := 81) (pc1 := 620) (pc2 := 629) (vs := [.int (xs (i + 1))]) C0 hK hE hL hl.1 hq hLI (fun Sx ad na ha cur Z h1 h2 h3 => op_sort h1 h2 (xs (i + 1))) d_law_620 d_law_629 ⟨by decide, lw_links (78, 31) (by decide), by decide, by decide, by decide, rfl, fun _ => Nat.le_of_ble_eq_true rfl, rfl⟩ ⟨by decide, lw_links (81, 90) (by decide), by decide, by decide, by decide, rfl, fun _ => Nat.le_of_ble_eq_true rfl, rfl⟩ (fun _ => Nat.le_of_ble_eq_true rfl) (fun x H' locs' cn' sn' hS' k => ?_) (fun x H' locs' cn' sn' hl' => lw_endI C0 hK hE hL d_law_632 (by decide) (hnext _ _ _ _ hl'))
  · refine lv_aload_n hx hb d_law_623 rfl (lv_at hl 2 rfl) ?_
    refine lw_rd (pc := 624) (j := 1) (n := 1) C0 hK hE hL hS' hl (by omega) (by decide) d_law_624 d_law_625 d_law_626 d_law_627 d_law_628 ?_
    exact k
theorem lc_copy (C0 : lw_At p s m meth c b L xs) (hK : va_K D vwCl (ns_tys cI cJ cT) s) (hE : ns_E s) (hL : L ≤ 320) (hl : lv_has ls 4 [(0, .ref b), (1, .ref sh), (2, .ref mm), (3, .int (nI i))]) (hi : i + 5 ≤ L) (hq : q ≤ 64) (hLI : LI s D cI cJ cT sh T wk mm A q H locs cn sn) (hnext : ∀ (H : Heap) (locs : List Loc) (cn sn : Nat), LI s D cI cJ cT sh T wk mm A (q + 1) H locs cn sn → W p l e room_1 s m #[Value.ref b] below meth c H locs cn sn (lw_Z below #[Value.ref b] s) (F0 m 719 ls [])) : W p l e room_1 s m #[Value.ref b] below meth c H locs cn sn (lw_Z below #[Value.ref b] s) (F0 m 637 ls []) := by
  obtain ⟨hx, hb, hr, hml, hown, hts, hX, hbl, hlocks, hgv⟩ := id C0
  have hS := lw_hS hLI
  refine lv_aload_n hx hb d_law_637 rfl (lv_at hl 1 rfl) ?_
  refine lw_rd (pc := 638) (j := 1) (n := 1) C0 hK hE hL hS hl (by omega) (by decide) d_law_638 d_law_639 d_law_640 d_law_641 d_law_642 ?_
  refine lw_rd (pc := 643) (j := 2) (n := 2) C0 hK hE hL hS hl (by omega) (by decide) d_law_643 d_law_644 d_law_645 d_law_646 d_law_647 ?_
  refine lw_two (f := Value.int) (kc := 32) (km := 92) (jc := 82) (jm := 85) (pc1 := 648) (pc2 := 662) (vs := [.int (xs (i + 1)), .int (xs (i + 2))]) C0 hK hE hL hl.1 hq hLI (fun Sx ad na ha cur Z h1 h2 h3 => op_copy h1 h2 h3 (xs (i + 1)) (xs (i + 2))) d_law_648 d_law_662 ⟨by decide, lw_links (82, 32) (by decide), by decide, by decide, by decide, rfl, fun _ => Nat.le_of_ble_eq_true rfl, rfl⟩ ⟨by decide, lw_links (85, 92) (by decide), by decide, by decide, by decide, rfl, fun _ => Nat.le_of_ble_eq_true rfl, rfl⟩ (fun _ => Nat.le_of_ble_eq_true rfl) (fun x H' locs' cn' sn' hS' k => ?_) (fun x H' locs' cn' sn' hl' => lw_endI C0 hK hE hL d_law_665 (by decide) (hnext _ _ _ _ hl'))
  · refine lv_aload_n hx hb d_law_651 rfl (lv_at hl 2 rfl) ?_
    refine lw_rd (pc := 652) (j := 1) (n := 1) C0 hK hE hL hS' hl (by omega) (by decide) d_law_652 d_law_653 d_law_654 d_law_655 d_law_656 ?_
    refine lw_rd (pc := 657) (j := 2) (n := 2) C0 hK hE hL hS' hl (by omega) (by decide) d_law_657 d_law_658 d_law_659 d_law_660 d_law_661 ?_
    exact k
theorem lc_ring (C0 : lw_At p s m meth c b L xs) (hK : va_K D vwCl (ns_tys cI cJ cT) s) (hE : ns_E s) (hL : L ≤ 320) (hl : lv_has ls 4 [(0, .ref b), (1, .ref sh), (2, .ref mm), (3, .int (nI i))]) (hi : i + 5 ≤ L) (hq : q ≤ 64) (hLI : LI s D cI cJ cT sh T wk mm A q H locs cn sn) (hnext : ∀ (H : Heap) (locs : List Loc) (cn sn : Nat), LI s D cI cJ cT sh T wk mm A (q + 1) H locs cn sn → W p l e room_1 s m #[Value.ref b] below meth c H locs cn sn (lw_Z below #[Value.ref b] s) (F0 m 719 ls [])) : W p l e room_1 s m #[Value.ref b] below meth c H locs cn sn (lw_Z below #[Value.ref b] s) (F0 m 670 ls []) := by
  obtain ⟨hx, hb, hr, hml, hown, hts, hX, hbl, hlocks, hgv⟩ := id C0
  have hS := lw_hS hLI
  refine lv_aload_n hx hb d_law_670 rfl (lv_at hl 1 rfl) ?_
  refine lw_rd (pc := 671) (j := 1) (n := 1) C0 hK hE hL hS hl (by omega) (by decide) d_law_671 d_law_672 d_law_673 d_law_674 d_law_675 ?_
  refine lw_two (f := Value.int) (kc := 33) (km := 84) (jc := 86) (jm := 89) (pc1 := 676) (pc2 := 685) (vs := [.int (xs (i + 1))]) C0 hK hE hL hl.1 hq hLI (fun Sx ad na ha cur Z h1 h2 h3 => op_ring h1 h2 h3 (xs (i + 1))) d_law_676 d_law_685 ⟨by decide, lw_links (86, 33) (by decide), by decide, by decide, by decide, rfl, fun _ => Nat.le_of_ble_eq_true rfl, rfl⟩ ⟨by decide, lw_links (89, 84) (by decide), by decide, by decide, by decide, rfl, fun _ => Nat.le_of_ble_eq_true rfl, rfl⟩ (fun _ => Nat.le_of_ble_eq_true rfl) (fun x H' locs' cn' sn' hS' k => ?_) (fun x H' locs' cn' sn' hl' => lw_endI C0 hK hE hL d_law_688 (by decide) (hnext _ _ _ _ hl'))
  · refine lv_aload_n hx hb d_law_679 rfl (lv_at hl 2 rfl) ?_
    refine lw_rd (pc := 680) (j := 1) (n := 1) C0 hK hE hL hS' hl (by omega) (by decide) d_law_680 d_law_681 d_law_682 d_law_683 d_law_684 ?_
    exact k
theorem lc_status (C0 : lw_At p s m meth c b L xs) (hK : va_K D vwCl (ns_tys cI cJ cT) s) (hE : ns_E s) (hL : L ≤ 320) (hl : lv_has ls 4 [(0, .ref b), (1, .ref sh), (2, .ref mm), (3, .int (nI i))]) (hi : i + 5 ≤ L) (hq : q ≤ 64) (hLI : LI s D cI cJ cT sh T wk mm A q H locs cn sn) (hnext : ∀ (H : Heap) (locs : List Loc) (cn sn : Nat), LI s D cI cJ cT sh T wk mm A (q + 1) H locs cn sn → W p l e room_1 s m #[Value.ref b] below meth c H locs cn sn (lw_Z below #[Value.ref b] s) (F0 m 719 ls [])) : W p l e room_1 s m #[Value.ref b] below meth c H locs cn sn (lw_Z below #[Value.ref b] s) (F0 m 693 ls []) := by
  obtain ⟨hx, hb, hr, hml, hown, hts, hX, hbl, hlocks, hgv⟩ := id C0
  have hS := lw_hS hLI
  refine lv_aload_n hx hb d_law_693 rfl (lv_at hl 1 rfl) ?_
  refine lw_two (f := Value.int) (kc := 34) (km := 93) (jc := 90) (jm := 94) (pc1 := 694) (pc2 := 698) (vs := []) C0 hK hE hL hl.1 hq hLI (fun Sx ad na ha cur Z h1 h2 h3 => op_status h1 h2) d_law_694 d_law_698 ⟨by decide, lw_links (90, 34) (by decide), by decide, by decide, by decide, rfl, fun _ => Nat.le_of_ble_eq_true rfl, rfl⟩ ⟨by decide, lw_links (94, 93) (by decide), by decide, by decide, by decide, rfl, fun _ => Nat.le_of_ble_eq_true rfl, rfl⟩ (fun _ => Nat.le_of_ble_eq_true rfl) (fun x H' locs' cn' sn' hS' k => ?_) (fun x H' locs' cn' sn' hl' => lw_endI C0 hK hE hL d_law_701 (by decide) (hnext _ _ _ _ hl'))
  · refine lv_aload_n hx hb d_law_697 rfl (lv_at hl 2 rfl) ?_
    exact k
theorem lc_count (C0 : lw_At p s m meth c b L xs) (hK : va_K D vwCl (ns_tys cI cJ cT) s) (hE : ns_E s) (hL : L ≤ 320) (hl : lv_has ls 4 [(0, .ref b), (1, .ref sh), (2, .ref mm), (3, .int (nI i))]) (hi : i + 5 ≤ L) (hq : q ≤ 64) (hLI : LI s D cI cJ cT sh T wk mm A q H locs cn sn) (hnext : ∀ (H : Heap) (locs : List Loc) (cn sn : Nat), LI s D cI cJ cT sh T wk mm A (q + 1) H locs cn sn → W p l e room_1 s m #[Value.ref b] below meth c H locs cn sn (lw_Z below #[Value.ref b] s) (F0 m 719 ls [])) : W p l e room_1 s m #[Value.ref b] below meth c H locs cn sn (lw_Z below #[Value.ref b] s) (F0 m 706 ls []) := by
  obtain ⟨hx, hb, hr, hml, hown, hts, hX, hbl, hlocks, hgv⟩ := id C0
  have hS := lw_hS hLI
  refine lv_aload_n hx hb d_law_706 rfl (lv_at hl 1 rfl) ?_
  refine lw_two (f := Value.int) (kc := 35) (km := 94) (jc := 95) (jm := 98) (pc1 := 707) (pc2 := 711) (vs := []) C0 hK hE hL hl.1 hq hLI (fun Sx ad na ha cur Z h1 h2 h3 => op_count h1 h2) d_law_707 d_law_711 ⟨by decide, lw_links (95, 35) (by decide), by decide, by decide, by decide, rfl, fun _ => Nat.le_of_ble_eq_true rfl, rfl⟩ ⟨by decide, lw_links (98, 94) (by decide), by decide, by decide, by decide, rfl, fun _ => Nat.le_of_ble_eq_true rfl, rfl⟩ (fun _ => Nat.le_of_ble_eq_true rfl) (fun x H' locs' cn' sn' hS' k => ?_) (fun x H' locs' cn' sn' hl' => lw_endI C0 hK hE hL d_law_714 (by decide) (hnext _ _ _ _ hl'))
  · refine lv_aload_n hx hb d_law_710 rfl (lv_at hl 2 rfl) ?_
    exact k
end LLOOP
