/-! ===== the shelf's own rules stay ===== -/
section ZIS
variable {Z : Zs}
theorem ZI_zz : ZI zz := ⟨Nat.zero_le _, fun i hi => absurd hi (Nat.not_lt_zero i), fun i j c hi => absurd hi (Nat.not_lt_zero i)⟩
theorem ZI_wS (h : ZI Z) (x : Int32) : ZI (wS Z x) := h
theorem ZI_wM (h : ZI Z) (a j : Nat) (v : Int64) : ZI (wM Z a j v) := h
theorem ZI_wH (h : ZI Z) (a j : Nat) {c : Option Nat} (hc : ∀ b, c = some b → b < zn Z) : ZI (wH Z a j c) := by
  refine ⟨h.1, h.2.1, fun i x b hi hx e => ?_⟩
  rw [wH_zh] at e
  unfold up2 at e
  by_cases y : i = a ∧ x = j
  · rw [if_pos y] at e
    exact hc b e
  · rw [if_neg y] at e
    exact h.2.2 i x b hi hx e
theorem ZI_wN (h : ZI Z) (hlt : zn Z < 2000) {k l : Nat} {v : Int32} {f : Nat → Int64} {g : Nat → Option Nat} (hk : k ≤ 8) (hl : l ≤ 500) (h7 : k = 7 → l = 1) (h8 : k = 8 → l = 0) (hg : ∀ j b, j < l → g j = some b → b < zn Z + 1) : ZI (wN Z k l v f g) := by
  refine ⟨by rw [wN_zn]; omega, fun i hi => ?_, fun i x b hi hx e => ?_⟩
  · rw [wN_zn] at hi
    rw [wN_zk, wN_zl]
    by_cases y : i = zn Z
    · subst y
      rw [va_up_self, va_up_self]
      exact ⟨hk, hl, h7, h8⟩
    · rw [va_up_ne _ _ y, va_up_ne _ _ y]
      exact h.2.1 i (by omega)
  · rw [wN_zn] at hi ⊢
    rw [wN_zl] at hx
    rw [wN_zh] at e
    by_cases y : i = zn Z
    · subst y
      rw [va_up_self] at hx e
      exact hg x b hx e
    · rw [va_up_ne _ _ y] at hx e
      have := h.2.2 i x b (by omega) hx e
      omega
theorem ZI_make (h : ZI Z) (k n : Int32) : ZI (o_make Z k n).2 := by
  unfold o_make
  by_cases x1 : k < 0 ∨ 6 < k
  · rw [if_pos x1]; exact h
  rw [if_neg x1]
  by_cases x2 : 500 < n ∨ zn Z = 2000
  · rw [if_pos x2]; exact h
  rw [if_neg x2]
  by_cases x3 : n < 0
  · rw [if_pos x3]; exact h
  rw [if_neg x3]
  have hn := h.1
  obtain ⟨k', hk', rfl⟩ := nI_of2 (x := k) (M := 6) (n := 6) rfl (fun z => x1 (Or.inl z)) (Int32.not_lt.mp (fun z => x1 (Or.inr z)))
  obtain ⟨n', hn', rfl⟩ := nI_of2 (x := n) (M := 500) (n := 500) rfl x3 (Int32.not_lt.mp (fun z => x2 (Or.inl z)))
  have y1 : (nI k').toNatClampNeg = k' := nI_clamp (by omega)
  have y2 : (nI n').toNatClampNeg = n' := nI_clamp (by omega)
  show ZI (wN Z (nI k').toNatClampNeg (nI n').toNatClampNeg 0 _ _)
  rw [y1, y2]
  have hne : ¬ zn Z = 2000 := fun z => x2 (Or.inr z)
  exact ZI_wN h (by omega) (by omega) hn' (by omega) (by omega) (fun _ _ _ e => by cases e)
theorem ZI_token (h : ZI Z) (v x : Int32) : ZI (o_token Z v x).2 := by
  have hn := h.1
  unfold o_token
  by_cases x1 : zn Z = 2000
  · rw [if_pos x1]; exact h
  rw [if_neg x1]
  by_cases x2 : x = 0
  · rw [if_pos x2]
    exact ZI_wN h (by omega) (by omega) (by omega) (fun _ => rfl) (by omega) (fun _ _ _ e => by cases e)
  · rw [if_neg x2]
    exact ZI_wN h (by omega) (by omega) (by omega) (by omega) (fun _ => rfl) (fun _ _ _ e => by cases e)
theorem zt_lt {n j : Nat} {x : Int32} (h : zt n x = some j) : j < n := by
  unfold zt at h
  by_cases y : x < 0
  · rw [if_pos y] at h; cases h
  · rw [if_neg y] at h
    by_cases z : n ≤ x.toNatClampNeg
    · rw [if_pos z] at h; cases h
    · rw [if_neg z] at h; cases h; omega
theorem ZI_put (h : ZI Z) (t i : Int32) (v : Int64) : ZI (o_put Z t i v).2 := by
  unfold o_put
  split
  · exact h
  · split
    · exact h
    · split
      · exact h
      · exact ZI_wM h _ _ _
theorem ZI_hang (h : ZI Z) (t i c : Int32) : ZI (o_hang Z t i c).2 := by
  unfold o_hang
  split
  · exact h
  · split
    · exact h
    · split
      · exact h
      · split
        · exact h
        · split
          · exact ZI_wH h _ _ (fun _ e => by cases e)
          · rename_i b hb
            split
            · exact ZI_wH h _ _ (fun _ e => by cases e; exact zt_lt hb)
            · exact h
theorem ZI_number (h : ZI Z) (t i : Int32) : ZI (o_number Z t i).2 := by
  unfold o_number
  repeat' split
  all_goals exact h
theorem ZI_below (h : ZI Z) (t i : Int32) : ZI (o_below Z t i).2 := by
  unfold o_below
  repeat' split
  all_goals exact h
end ZIS
