/-! ===== a call on both sides ===== -/
def OP {β : Type} (f : β → Value) (Sx : ns_St) (sh T wk cur m : Nat) (ad na ha A : Nat → Nat) (Z : Zs) (kc km : Nat) (vs : List Value) : Prop := ∃ (Sx' : ns_St) (Z' : Zs) (ad' na' ha' : Nat → Nat) (cur' : Nat) (x : β), Ev (kc, 0, ns_entry kc (.ref sh :: vs), [], Sx) (some (f x), Sx') ∧ CR Sx' sh T wk ad' na' ha' cur' Z' ∧ ZI Z' ∧ cur' ≤ cur + 2 ∧ zn Z ≤ zn Z' ∧ ns_z Sx' ≤ ns_z Sx + 3 * (zn Z' - zn Z) + 1 ∧ ns_s Sx' ≤ ns_s Sx + 600 * (zn Z' - zn Z) + 1 ∧ ∀ Sm, MR Sm m A Z → ∃ Sm', Ev (km, 0, ns_entry km (.ref m :: vs), [], Sm) (some (f x), Sm') ∧ MR Sm' m A Z' ∧ sz0 Sm Sm'
section OPS
variable {Sx : ns_St} {sh T wk cur m : Nat} {ad na ha A : Nat → Nat} {Z : Zs}
theorem zn_put (t i : Int32) (v : Int64) : zn (o_put Z t i v).2 = zn Z := by
  unfold o_put
  repeat' split
  all_goals rfl
theorem zn_hang (t i c : Int32) : zn (o_hang Z t i c).2 = zn Z := by
  unfold o_hang
  repeat' split
  all_goals rfl
theorem zn_number (t i : Int32) : zn (o_number Z t i).2 = zn Z := by
  unfold o_number
  repeat' split
  all_goals rfl
theorem zn_below (t i : Int32) : zn (o_below Z t i).2 = zn Z := by
  unfold o_below
  repeat' split
  all_goals rfl
theorem zn_sort (t : Int32) : zn (o_sort Z t).2 = zn Z := by
  unfold o_sort
  repeat' split
  all_goals rfl
theorem zn_make (k n : Int32) : zn Z ≤ zn (o_make Z k n).2 := by
  unfold o_make
  repeat' split
  all_goals first | exact Nat.le_refl _ | exact Nat.le_succ _
theorem zn_token (k n : Int32) : zn Z ≤ zn (o_token Z k n).2 := by
  unfold o_token
  repeat' split
  all_goals first | exact Nat.le_refl _ | exact Nat.le_succ _
theorem zn_copy (hZ : ZI Z) (t d : Int32) : zn Z ≤ zn (o_copy Z t d).2 := by
  unfold o_copy
  cases e : zt (zn Z) t with
  | none => exact Nat.le_refl _
  | some s =>
    dsimp only
    have hs := zt_lt e
    split
    · split
      · exact Nat.le_succ _
      · exact Nat.le_refl _
    · split
      · split
        · rename_i h2
          rw [(ZI_cpD hZ hs h2).2]
          exact Nat.le_add_right _ _
        · exact Nat.le_refl _
      · exact Nat.le_refl _
theorem op_same {Sx' : ns_St} {Z' : Zs} {cur' : Nat} {β : Type} {f : β → Value} {x : β} {kc km : Nat} {vs : List Value} (e1 : Ev (kc, 0, ns_entry kc (.ref sh :: vs), [], Sx) (some (f x), Sx')) (e2 : ∀ Sm, MR Sm m A Z → ∃ Sm', Ev (km, 0, ns_entry km (.ref m :: vs), [], Sm) (some (f x), Sm') ∧ MR Sm' m A Z' ∧ sz0 Sm Sm') (h1 : CR Sx' sh T wk ad na ha cur' Z') (h3 : ZI Z') (h4 : cur' ≤ cur + 2) (h5 : zn Z' = zn Z) (h6 : ns_z Sx' ≤ ns_z Sx + 1 ∧ ns_s Sx' ≤ ns_s Sx + 1) : OP f Sx sh T wk cur m ad na ha A Z kc km vs :=
  ⟨Sx', Z', ad, na, ha, cur', x, e1, h1, h3, h4, by omega, by omega, by omega, e2⟩
theorem op_make (h : CR Sx sh T wk ad na ha cur Z) (hZ : ZI Z) (k n : Int32) : OP Value.int Sx sh T wk cur m ad na ha A Z 17 64 [.int k, .int n] := by
  obtain ⟨Sx', a1, ⟨ad', na', ha', a2⟩, a3, a4⟩ := c_make h hZ k n
  exact ⟨Sx', _, ad', na', ha', cur, _, a1, a2, ZI_make hZ k n, by omega, zn_make k n, by omega, by omega, fun Sm g => m_make g hZ k n⟩
theorem op_token (h : CR Sx sh T wk ad na ha cur Z) (hZ : ZI Z) (k n : Int32) : OP Value.int Sx sh T wk cur m ad na ha A Z 18 65 [.int k, .int n] := by
  obtain ⟨Sx', a1, ⟨ad', na', ha', a2⟩, a3, a4⟩ := c_token h hZ k n
  exact ⟨Sx', _, ad', na', ha', cur, _, a1, a2, ZI_token hZ k n, by omega, zn_token k n, by omega, by omega, fun Sm g => m_token g hZ k n⟩
theorem op_put (h : CR Sx sh T wk ad na ha cur Z) (hZ : ZI Z) (t i : Int32) (v : Int64) : OP Value.int Sx sh T wk cur m ad na ha A Z 19 66 [.int t, .int i, .long v] := by
  obtain ⟨Sx', a1, a2, a3⟩ := c_put h hZ t i v
  exact op_same a1 (fun Sm g => m_put g hZ t i v) a2 (ZI_put hZ t i v) (by omega) (zn_put t i v) ⟨by omega, by omega⟩
theorem op_hang (h : CR Sx sh T wk ad na ha cur Z) (hZ : ZI Z) (t i c : Int32) : OP Value.int Sx sh T wk cur m ad na ha A Z 20 69 [.int t, .int i, .int c] := by
  obtain ⟨Sx', a1, a2, a3⟩ := c_hang h hZ t i c
  exact op_same a1 (fun Sm g => m_hang g hZ t i c) a2 (ZI_hang hZ t i c) (by omega) (zn_hang t i c) ⟨by omega, by omega⟩
theorem op_kind (h : CR Sx sh T wk ad na ha cur Z) (hZ : ZI Z) (t : Int32) : OP Value.int Sx sh T wk cur m ad na ha A Z 21 70 [.int t] := op_same (c_kind h hZ t) (fun Sm g => ⟨Sm, m_kind g hZ t, g, rfl, rfl⟩) h hZ (by omega) rfl ⟨by omega, by omega⟩
theorem op_length (h : CR Sx sh T wk ad na ha cur Z) (hZ : ZI Z) (t : Int32) : OP Value.int Sx sh T wk cur m ad na ha A Z 22 71 [.int t] := op_same (c_length h hZ t) (fun Sm g => ⟨Sm, m_length g hZ t, g, rfl, rfl⟩) h hZ (by omega) rfl ⟨by omega, by omega⟩
theorem op_number (h : CR Sx sh T wk ad na ha cur Z) (hZ : ZI Z) (t i : Int32) : OP Value.long Sx sh T wk cur m ad na ha A Z 23 72 [.int t, .int i] := by
  obtain ⟨Sx', a1, a2, a3⟩ := c_number h hZ t i
  exact op_same a1 (fun Sm g => m_number g hZ t i) a2 (ZI_number hZ t i) (by omega) (zn_number t i) ⟨by omega, by omega⟩
theorem op_below (h : CR Sx sh T wk ad na ha cur Z) (hZ : ZI Z) (t i : Int32) : OP Value.int Sx sh T wk cur m ad na ha A Z 24 73 [.int t, .int i] := by
  obtain ⟨Sx', a1, a2, a3⟩ := c_below h hZ t i
  exact op_same a1 (fun Sm g => m_below g hZ t i) a2 (ZI_below hZ t i) (by omega) (zn_below t i) ⟨by omega, by omega⟩
theorem op_is (h : CR Sx sh T wk ad na ha cur Z) (hZ : ZI Z) (t i : Int32) : OP Value.int Sx sh T wk cur m ad na ha A Z 25 74 [.int t, .int i] := op_same (c_is h hZ t i) (fun Sm g => ⟨Sm, m_is g hZ t i, g, rfl, rfl⟩) h hZ (by omega) rfl ⟨by omega, by omega⟩
theorem op_as (h : CR Sx sh T wk ad na ha cur Z) (hZ : ZI Z) (t i : Int32) : OP Value.int Sx sh T wk cur m ad na ha A Z 26 75 [.int t, .int i] := op_same (c_as h hZ t i) (fun Sm g => ⟨Sm, m_as g hZ t i, g, rfl, rfl⟩) h hZ (by omega) rfl ⟨by omega, by omega⟩
theorem op_weight (h : CR Sx sh T wk ad na ha cur Z) (hZ : ZI Z) (hc : cur < 90000) (t : Int32) : OP Value.long Sx sh T wk cur m ad na ha A Z 27 82 [.int t] := by
  obtain ⟨Sx', c', a1, a0, a2, a3⟩ := c_weight h hZ (by omega) t
  exact op_same a1 (fun Sm g => m_weight g hZ t) a2 hZ (by omega) rfl ⟨by omega, by omega⟩
theorem op_depth (h : CR Sx sh T wk ad na ha cur Z) (hZ : ZI Z) (hc : cur < 90000) (t : Int32) : OP Value.int Sx sh T wk cur m ad na ha A Z 28 83 [.int t] := by
  obtain ⟨Sx', c', a1, a0, a2, a3⟩ := c_depth h hZ (by omega) t
  exact op_same a1 (fun Sm g => m_depth g hZ t) a2 hZ (by omega) rfl ⟨by omega, by omega⟩
theorem op_equal (h : CR Sx sh T wk ad na ha cur Z) (hZ : ZI Z) (hc : cur < 90000) (s t : Int32) : OP Value.int Sx sh T wk cur m ad na ha A Z 29 88 [.int s, .int t] := by
  obtain ⟨Sx', c', x, a1, a0, a2, a3, a4, a5⟩ := c_equal h hZ (by omega) s t
  refine op_same a1 (fun Sm g => ?_) a3 hZ (by omega) rfl ⟨a4, a5⟩
  obtain ⟨Sm', y, b1, b0, b2, b3⟩ := m_equal g hZ s t
  have e := AnsE_one a0 b0
  subst e
  exact ⟨Sm', b1, b2, b3⟩
theorem op_order (h : CR Sx sh T wk ad na ha cur Z) (hZ : ZI Z) (t i : Int32) : OP Value.int Sx sh T wk cur m ad na ha A Z 30 89 [.int t, .int i] := op_same (c_order h hZ t i) (fun Sm g => ⟨Sm, m_order g hZ t i, g, rfl, rfl⟩) h hZ (by omega) rfl ⟨by omega, by omega⟩
theorem op_sort (h : CR Sx sh T wk ad na ha cur Z) (hZ : ZI Z) (t : Int32) : OP Value.int Sx sh T wk cur m ad na ha A Z 31 90 [.int t] := by
  obtain ⟨Sx', a1, a2, a3⟩ := c_sort h hZ t
  exact op_same a1 (fun Sm g => m_sort g hZ t) a2 (ZI_sort hZ t) (by omega) (zn_sort t) ⟨by omega, by omega⟩
theorem op_copy (h : CR Sx sh T wk ad na ha cur Z) (hZ : ZI Z) (hc : cur < 90000) (t d : Int32) : OP Value.int Sx sh T wk cur m ad na ha A Z 32 92 [.int t, .int d] := by
  obtain ⟨Sx', c', a1, a0, ⟨ad', na', ha', a2⟩, a3, a4⟩ := c_copy h hZ (by omega) t d
  exact ⟨Sx', _, ad', na', ha', c', _, a1, a2, ZI_copy hZ t d, by omega, zn_copy hZ t d, by omega, by omega, fun Sm g => m_copy g hZ t d⟩
theorem op_ring (h : CR Sx sh T wk ad na ha cur Z) (hZ : ZI Z) (hc : cur < 90000) (t : Int32) : OP Value.int Sx sh T wk cur m ad na ha A Z 33 84 [.int t] := by
  obtain ⟨Sx', c', a1, a0, a2, a3⟩ := c_ring h hZ (by omega) t
  exact op_same a1 (fun Sm g => m_ring g hZ t) a2 hZ (by omega) rfl ⟨by omega, by omega⟩
theorem op_status (h : CR Sx sh T wk ad na ha cur Z) (hZ : ZI Z) : OP Value.int Sx sh T wk cur m ad na ha A Z 34 93 [] := op_same (c_status h) (fun Sm g => ⟨Sm, m_status g, g, rfl, rfl⟩) h hZ (by omega) rfl ⟨by omega, by omega⟩
theorem op_count (h : CR Sx sh T wk ad na ha cur Z) (hZ : ZI Z) : OP Value.int Sx sh T wk cur m ad na ha A Z 35 94 [] := op_same (c_count h) (fun Sm g => ⟨Sm, m_count g, g, rfl, rfl⟩) h hZ (by omega) rfl ⟨by omega, by omega⟩
end OPS
