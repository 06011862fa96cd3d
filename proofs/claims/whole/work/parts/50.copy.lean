/-! ===== copy: the shelf with twins ===== -/
def wC (Z : Zs) (u : Nat) : Zs := wN Z (zk Z u) (zl Z u) (zv Z u) (zm Z u) (zh Z u)
def cpL (Z : Zs) (l : List Nat) : Zs := l.foldl wC Z
theorem cpL_snoc (Z : Zs) (a : List Nat) (u : Nat) : cpL Z (a ++ [u]) = wC (cpL Z a) u := by
  unfold cpL
  rw [List.foldl_append]
  rfl
/-- Z' is Z with the twins of a behind it -/
def Cp (Z Z' : Zs) (a : List Nat) : Prop := zn Z' = zn Z + a.length ∧ zs Z' = zs Z ∧ (∀ i, i < zn Z → zk Z' i = zk Z i ∧ zl Z' i = zl Z i ∧ zv Z' i = zv Z i ∧ zm Z' i = zm Z i ∧ zh Z' i = zh Z i) ∧ ∀ k u, a[k]? = some u → zk Z' (zn Z + k) = zk Z u ∧ zl Z' (zn Z + k) = zl Z u ∧ zv Z' (zn Z + k) = zv Z u ∧ zm Z' (zn Z + k) = zm Z u ∧ zh Z' (zn Z + k) = zh Z u
theorem Cp_nil (Z : Zs) : Cp Z Z [] := ⟨rfl, rfl, fun _ _ => ⟨rfl, rfl, rfl, rfl, rfl⟩, fun k u h => by simp at h⟩
theorem Cp_snoc {Z Z' : Zs} {a : List Nat} {u : Nat} (h : Cp Z Z' a) (hu : u < zn Z) : Cp Z (wC Z' u) (a ++ [u]) := by
  obtain ⟨h1, h2, h3, h4⟩ := h
  obtain ⟨u1, u2, u3, u4, u5⟩ := h3 u hu
  refine ⟨?_, h2, fun i hi => ?_, fun k v hk => ?_⟩
  · show zn Z' + 1 = _
    rw [h1, List.length_append]
    rfl
  · have : i ≠ zn Z' := by omega
    show va_up (zk Z') (zn Z') _ i = _ ∧ va_up (zl Z') (zn Z') _ i = _ ∧ va_up (zv Z') (zn Z') _ i = _ ∧ va_up (zm Z') (zn Z') _ i = _ ∧ va_up (zh Z') (zn Z') _ i = _
    rw [va_up_ne _ _ this, va_up_ne _ _ this, va_up_ne _ _ this, va_up_ne _ _ this, va_up_ne _ _ this]
    exact h3 i hi
  · show va_up (zk Z') (zn Z') (zk Z' u) (zn Z + k) = _ ∧ va_up (zl Z') (zn Z') (zl Z' u) (zn Z + k) = _ ∧ va_up (zv Z') (zn Z') (zv Z' u) (zn Z + k) = _ ∧ va_up (zm Z') (zn Z') (zm Z' u) (zn Z + k) = _ ∧ va_up (zh Z') (zn Z') (zh Z' u) (zn Z + k) = _
    by_cases y : k < a.length
    · rw [List.getElem?_append_left y] at hk
      have : zn Z + k ≠ zn Z' := by omega
      rw [va_up_ne _ _ this, va_up_ne _ _ this, va_up_ne _ _ this, va_up_ne _ _ this, va_up_ne _ _ this]
      exact h4 k v hk
    · have hlen : k < (a ++ [u]).length := (List.getElem?_eq_some_iff.mp hk).1
      have e : k = a.length := by simp at hlen; omega
      subst e
      rw [List.getElem?_append_right (Nat.le_refl _), Nat.sub_self] at hk
      have : u = v := by simpa using hk
      subst this
      rw [← h1, va_up_self, va_up_self, va_up_self, va_up_self, va_up_self]
      exact ⟨u1, u2, u3, u4, u5⟩
theorem ZI_wC {Z : Zs} (h : ZI Z) (hlt : zn Z < 2000) {u : Nat} (hu : u < zn Z) : ZI (wC Z u) := by
  obtain ⟨k1, k2, k3, k4⟩ := h.2.1 u hu
  refine ZI_wN h hlt k1 k2 k3 k4 (fun j b hj hb => ?_)
  have := h.2.2 u j b hu hj hb
  omega
theorem cpL_ok {Z : Zs} (h : ZI Z) : ∀ (k : Nat) (a : List Nat), a.length = k → (∀ u, u ∈ a → u < zn Z) → zn Z + a.length ≤ 2000 → Cp Z (cpL Z a) a ∧ ZI (cpL Z a) := by
  intro k
  induction k with
  | zero =>
    intro a ha _ _
    rw [List.length_eq_zero_iff.mp ha]
    exact ⟨Cp_nil Z, h⟩
  | succ k ih =>
    intro a ha hu hl
    rcases List.eq_nil_or_concat a with e | ⟨t, u, e⟩
    · subst e; simp at ha
    · rw [List.concat_eq_append] at e
      subst e
      have ht : t.length = k := by simpa using ha
      rw [List.length_append] at hl
      simp only [List.length_cons, List.length_nil] at hl
      obtain ⟨g1, g2⟩ := ih t ht (fun v hv => hu v (by simp [hv])) (by omega)
      have hun := hu u (by simp)
      rw [cpL_snoc]
      exact ⟨Cp_snoc g1 hun, ZI_wC g2 (by rw [g1.1]; omega) (by rw [g1.1]; omega)⟩
/-- the twin at c takes the twins of what hangs in it, in its first i places -/
def rhf (tw : Nat → Nat) (Z : Zs) (c i : Nat) : Nat → Option Nat := fun j => if j < i then (zh Z c j).map tw else zh Z c j
def rhg (tw : Nat → Nat) (Z : Zs) (c : Nat) : Zs := wF Z c (rhf tw Z c (chl Z c))
def rhK (tw : Nat → Nat) (Z : Zs) (n0 : Nat) : Nat → Zs
  | 0 => Z
  | k + 1 => rhg tw (rhK tw Z n0 k) (n0 + k)
theorem rhf_0 (tw : Nat → Nat) (Z : Zs) (c : Nat) : wF Z c (rhf tw Z c 0) = Z := by
  have : rhf tw Z c 0 = zh Z c := by
    funext j
    unfold rhf
    rw [if_neg (Nat.not_lt_zero j)]
  rw [this, wF_self]
theorem rhf_s (tw : Nat → Nat) (Z : Zs) (c i : Nat) : va_up (rhf tw Z c i) i ((zh Z c i).map tw) = rhf tw Z c (i + 1) := by
  funext j
  unfold rhf
  by_cases y : j = i
  · subst y
    rw [va_up_self, if_pos (by omega)]
  · rw [va_up_ne _ _ y]
    by_cases w : j < i
    · rw [if_pos w, if_pos (by omega)]
    · rw [if_neg w, if_neg (by omega)]
theorem rhK_ok (tw : Nat → Nat) (Z : Zs) (n0 : Nat) : ∀ k, zn (rhK tw Z n0 k) = zn Z ∧ zk (rhK tw Z n0 k) = zk Z ∧ zl (rhK tw Z n0 k) = zl Z ∧ zv (rhK tw Z n0 k) = zv Z ∧ zm (rhK tw Z n0 k) = zm Z ∧ zs (rhK tw Z n0 k) = zs Z ∧ ∀ c, (c < n0 ∨ n0 + k ≤ c) → zh (rhK tw Z n0 k) c = zh Z c
  | 0 => ⟨rfl, rfl, rfl, rfl, rfl, rfl, fun _ _ => rfl⟩
  | k + 1 => by
    obtain ⟨h1, h2, h3, h4, h5, h6, h7⟩ := rhK_ok tw Z n0 k
    refine ⟨h1, h2, h3, h4, h5, h6, fun c hc => ?_⟩
    show va_up (zh (rhK tw Z n0 k)) (n0 + k) _ c = _
    rw [va_up_ne _ _ (by omega)]
    exact h7 c (by omega)
theorem ZI_rhK {tw : Nat → Nat} {Z : Zs} {n0 : Nat} (h : ZI Z) : ∀ k, n0 + k ≤ zn Z → (∀ c j x, n0 ≤ c → c < n0 + k → j < chl Z c → zh Z c j = some x → tw x < zn Z) → ZI (rhK tw Z n0 k)
  | 0, _, _ => h
  | k + 1, hk, htw => by
    have ih := ZI_rhK (tw := tw) h k (by omega) (fun c j x h1 h2 => htw c j x h1 (by omega))
    obtain ⟨h1, h2, h3, h4, h5, h6, h7⟩ := rhK_ok tw Z n0 k
    refine ZI_wF ih (fun j c hj hc => ?_)
    unfold rhf at hc
    have ec : chl (rhK tw Z n0 k) (n0 + k) = chl Z (n0 + k) := by unfold chl; rw [h2, h3]
    rw [h7 (n0 + k) (by omega), ec] at hc
    rw [h1]
    split at hc
    · rename_i hj2
      cases hz : zh Z (n0 + k) j with
      | none => rw [hz] at hc; cases hc
      | some x =>
        rw [hz] at hc
        have hc : some (tw x) = some c := hc
        cases hc
        exact htw (n0 + k) j x (by omega) (by omega) hj2 hz
    · rw [h3] at hj
      exact h.2.2 (n0 + k) j c (by omega) hj hc
/-- the things that a walk from s comes to, in their order -/
def prZ (Z : Zs) (s : Nat) : List Nat := (wkE Z s).2.2.1
def twZ (Z : Zs) (s u : Nat) : Nat := zn Z + (prZ Z s).idxOf u
def cpD (Z : Zs) (s : Nat) : Zs := rhK (twZ Z s) (cpL (wS Z 0) (prZ Z s)) (zn Z) (prZ Z s).length
def o_copy (Z : Zs) (t d : Int32) : Int32 × Zs := match zt (zn Z) t with
  | none => (-1, wS Z 1)
  | some s => if d = 0 then (if zn Z + 1 ≤ 2000 then (nI (zn Z), wC (wS Z 0) s) else (-1, wS Z 7)) else if rf Z t = 0 then (if zn Z + (prZ Z s).length ≤ 2000 then (nI (zn Z), cpD Z s) else (-1, wS Z 7)) else (-1, wS Z (rf Z t))
section PRZ
variable {Z : Zs}
theorem prZ_ok (hZ : ZI Z) {s : Nat} (hs : s < zn Z) : (prZ Z s).Nodup ∧ (∀ u, u ∈ prZ Z s → u < zn Z) ∧ (∀ u p c, u ∈ prZ Z s → p < chl Z u → zh Z u p = some c → c ∈ prZ Z s) ∧ (prZ Z s).length ≤ zn Z ∧ (prZ Z s)[0]? = some s := by
  obtain ⟨k1, k2, k3⟩ := wkE_ok hZ hs
  have hm : ∀ u, u ∈ prZ Z s ↔ Rch (chl Z) (zh Z) s u := fun u => (k1.2.2.2.2.1.2 u).trans ((dend_rch (zch hZ) hs).1 u)
  have hnd : (prZ Z s).Nodup := k1.2.2.2.2.1.1
  have hlt : ∀ u, u ∈ prZ Z s → u < zn Z := fun u hu => k1.2.2.2.2.2.2.1 u ((k1.2.2.2.2.1.2 u).mp hu)
  refine ⟨hnd, hlt, fun u p c hu hp hc => (hm c).mpr (Rch_step ((hm u).mp hu) hp hc), nd_len _ _ hnd hlt, ?_⟩
  have hst : ∀ (X : Dx), X.2.2.1[0]? = some s → (dstep (chl Z) (zh Z) s X).2.2.1[0]? = some s := fun X hX => by
    have hl : 0 < X.2.2.1.length := (List.getElem?_eq_some_iff.mp hX).1
    unfold dstep
    repeat' split
    all_goals first | exact hX | (show (_ ++ [_])[0]? = some s; rw [List.getElem?_append_left hl]; exact hX)
  have hrun : ∀ (k : Nat) (X : Dx), X.2.2.1[0]? = some s → (drun (chl Z) (zh Z) s k X).2.2.1[0]? = some s := by
    intro k
    induction k with
    | zero => intro X hX; exact hX
    | succ k ih => intro X hX; exact ih _ (hst X hX)
  exact hrun _ _ rfl
theorem ZI_cpD (hZ : ZI Z) {s : Nat} (hs : s < zn Z) (hl : zn Z + (prZ Z s).length ≤ 2000) : ZI (cpD Z s) ∧ zn (cpD Z s) = zn Z + (prZ Z s).length := by
  obtain ⟨p1, p2, p3, p4, p5⟩ := prZ_ok hZ hs
  obtain ⟨g1, g2⟩ := cpL_ok (Z := wS Z 0) hZ _ (prZ Z s) rfl p2 hl
  have hz : zn (wS Z 0) = zn Z := rfl
  refine ⟨ZI_rhK g2 _ (by rw [g1.1]; exact Nat.le_refl _) (fun c j x h1 h2 hj hx => ?_), by
    unfold cpD
    rw [(rhK_ok _ _ _ _).1, g1.1]
    rfl⟩
  obtain ⟨k, rfl⟩ : ∃ k, c = zn Z + k := ⟨c - zn Z, by omega⟩
  have hk : k < (prZ Z s).length := by omega
  obtain ⟨u, hu⟩ : ∃ u, (prZ Z s)[k]? = some u := ⟨_, List.getElem?_eq_getElem hk⟩
  obtain ⟨q1, q2, q3, q4, q5⟩ := g1.2.2.2 k u hu
  have hu2 : u ∈ prZ Z s := List.mem_of_getElem? hu
  have q5 : zh (cpL (wS Z 0) (prZ Z s)) (zn Z + k) = zh Z u := q5
  have q1 : zk (cpL (wS Z 0) (prZ Z s)) (zn Z + k) = zk Z u := q1
  have q2 : zl (cpL (wS Z 0) (prZ Z s)) (zn Z + k) = zl Z u := q2
  rw [q5] at hx
  have hj : j < chl Z u := by
    unfold chl at hj ⊢
    rw [q1, q2] at hj
    exact hj
  have := p3 u j x hu2 hj hx
  have := List.idxOf_lt_length_of_mem this
  rw [g1.1]
  show zn Z + (prZ Z s).idxOf x < zn Z + (prZ Z s).length
  omega
theorem ZI_copy (hZ : ZI Z) (t d : Int32) : ZI (o_copy Z t d).2 := by
  unfold o_copy
  cases e : zt (zn Z) t with
  | none => exact hZ
  | some s =>
    dsimp only
    have hs := zt_lt e
    split
    · split
      · rename_i h2
        exact ZI_wC (Z := wS Z 0) hZ h2 hs
      · exact hZ
    · split
      · split
        · rename_i h2
          exact (ZI_cpD hZ hs h2).1
        · exact hZ
      · exact hZ
end PRZ
