/-! ===== the shelf as a mathematical thing ===== -/
abbrev Zs : Type := Nat × (Nat → Nat) × (Nat → Nat) × (Nat → Int32) × (Nat → Nat → Int64) × (Nat → Nat → Option Nat) × Int32
def zn (Z : Zs) : Nat := Z.1
def zk (Z : Zs) : Nat → Nat := Z.2.1
def zl (Z : Zs) : Nat → Nat := Z.2.2.1
def zv (Z : Zs) : Nat → Int32 := Z.2.2.2.1
def zm (Z : Zs) : Nat → Nat → Int64 := Z.2.2.2.2.1
def zh (Z : Zs) : Nat → Nat → Option Nat := Z.2.2.2.2.2.1
def zs (Z : Zs) : Int32 := Z.2.2.2.2.2.2
def zz : Zs := (0, fun _ => 0, fun _ => 0, fun _ => 0, fun _ _ => 0, fun _ _ => none, 0)
def wS (Z : Zs) (x : Int32) : Zs := (zn Z, zk Z, zl Z, zv Z, zm Z, zh Z, x)
def wM (Z : Zs) (a j : Nat) (v : Int64) : Zs := (zn Z, zk Z, zl Z, zv Z, up2 (zm Z) a j v, zh Z, zs Z)
def wH (Z : Zs) (a j : Nat) (c : Option Nat) : Zs := (zn Z, zk Z, zl Z, zv Z, zm Z, up2 (zh Z) a j c, zs Z)
/-- a thing more -/
def wN (Z : Zs) (k l : Nat) (v : Int32) (f : Nat → Int64) (h : Nat → Option Nat) : Zs := (zn Z + 1, va_up (zk Z) (zn Z) k, va_up (zl Z) (zn Z) l, va_up (zv Z) (zn Z) v, va_up (zm Z) (zn Z) f, va_up (zh Z) (zn Z) h, zs Z)
abbrev hook (k : Nat) : Prop := 3 ≤ k ∧ k ≤ 7
def ZI (Z : Zs) : Prop := zn Z ≤ 2000 ∧ (∀ i, i < zn Z → zk Z i ≤ 8 ∧ zl Z i ≤ 500 ∧ (zk Z i = 7 → zl Z i = 1) ∧ (zk Z i = 8 → zl Z i = 0)) ∧ ∀ i j c, i < zn Z → j < zl Z i → zh Z i j = some c → c < zn Z
/-- the number behind an int, if it is below n -/
def zt (n : Nat) (x : Int32) : Option Nat := if x < 0 then none else if n ≤ x.toNatClampNeg then none else some x.toNatClampNeg
theorem zt_nI {n j : Nat} (h : j < n) (hn : n < 2 ^ 31) : zt n (nI j) = some j := by
  unfold zt
  rw [if_neg (nI_pos (by omega)), nI_clamp (by omega), if_neg (by omega)]
theorem zt_cases {n : Nat} (hn : n < 2 ^ 30) (x : Int32) : (zt n x = none ∧ (x < 0 ∨ (¬ x < 0 ∧ nI n - 1 < x))) ∨ ∃ j, j < n ∧ x = nI j ∧ zt n x = some j := by
  by_cases h : x < 0
  · exact Or.inl ⟨by unfold zt; rw [if_pos h], Or.inl h⟩
  · obtain ⟨j, hj, rfl⟩ := nI_of h
    by_cases g : j < n
    · exact Or.inr ⟨j, g, rfl, zt_nI g (by omega)⟩
    · refine Or.inl ⟨?_, Or.inr ⟨h, ?_⟩⟩
      · unfold zt
        rw [if_neg h, nI_clamp hj, if_pos (by omega)]
      · rw [Int32.lt_iff_toInt_lt, nI_toInt hj]
        cases n with
        | zero =>
          have : (nI 0 - 1 : Int32).toInt = -1 := rfl
          rw [this]; omega
        | succ n =>
          rw [nI_pred, nI_toInt (by omega)]
          omega
theorem there_ok {n j : Nat} (h : j < n) (hn : n < 2 ^ 30) : ¬ nI j < 0 ∧ ¬ nI n - 1 < nI j ∧ (nI j).toNatClampNeg = j := by
  refine ⟨nI_pos (by omega), ?_, nI_clamp (by omega)⟩
  cases n with
  | zero => omega
  | succ n =>
    rw [nI_pred]
    exact nI_nlt (by omega) (by omega)
theorem in_ok {j n : Nat} (h : j < n) (hn : n < 2 ^ 31) : ns_inb (nI j) n = true := ns_inb_iff.mpr ⟨nI_pos (by omega), by rw [nI_clamp (by omega)]; exact h⟩
def chL (o : Option Nat) : Int64 := match o with
  | none => -1
  | some c => lN c
def chI (o : Option Nat) : Int32 := match o with
  | none => -1
  | some c => nI c
theorem chL_i {o : Option Nat} : (chL o).toInt32 = chI o := by
  cases o with
  | none => rfl
  | some c => exact lN_i c
theorem chI_l {o : Option Nat} (h : ∀ c, o = some c → c < 2 ^ 31) : (chI o).toInt64 = chL o := by
  cases o with
  | none => rfl
  | some c => exact nI_l (h c rfl)
theorem chI_none {o : Option Nat} (h : ∀ c, o = some c → c < 2 ^ 31) : chI o = -1 ↔ o = none := by
  cases o with
  | none => exact ⟨fun _ => rfl, fun _ => rfl⟩
  | some c =>
    refine ⟨fun e => ?_, fun e => by cases e⟩
    have h1 : (nI c).toInt = (-1 : Int32).toInt := congrArg Int32.toInt e
    rw [nI_toInt (h c rfl)] at h1
    have : (-1 : Int32).toInt = -1 := rfl
    omega
/-- where a row's places begin -/
def bg (l : Nat → Nat) : Nat → Nat
  | 0 => 0
  | i + 1 => bg l i + l i
theorem bg_le {l : Nat → Nat} {n : Nat} (h : ∀ i, i < n → l i ≤ 500) : ∀ i, i ≤ n → bg l i ≤ 500 * i := by
  intro i
  induction i with
  | zero => intro _; exact Nat.le_refl 0
  | succ i ih =>
    intro hi
    have := ih (by omega)
    have := h i (by omega)
    show bg l i + l i ≤ _
    omega
theorem bg_mono {l : Nat → Nat} {i j : Nat} (h : i ≤ j) : bg l i ≤ bg l j := by
  induction h with
  | refl => exact Nat.le_refl _
  | step _ ih => exact Nat.le_trans ih (Nat.le_add_right _ _)
theorem bg_apart {l : Nat → Nat} {i j x y : Nat} (hx : x < l i) (hy : y < l j) (e : bg l i + x = bg l j + y) : i = j ∧ x = y := by
  rcases Nat.lt_trichotomy i j with h | h | h
  · have := bg_mono (l := l) (show i + 1 ≤ j from h)
    have : bg l (i + 1) = bg l i + l i := rfl
    omega
  · subst h; exact ⟨rfl, by omega⟩
  · have := bg_mono (l := l) (show j + 1 ≤ i from h)
    have : bg l (j + 1) = bg l j + l j := rfl
    omega
theorem bg_congr {l l' : Nat → Nat} {n : Nat} (h : ∀ i, i < n → l' i = l i) : ∀ i, i ≤ n → bg l' i = bg l i := by
  intro i
  induction i with
  | zero => intro _; rfl
  | succ i ih =>
    intro hi
    show bg l' i + l' i = bg l i + l i
    rw [ih (by omega), h i (by omega)]
-- what each call answers and does
def fitv (k : Nat) (v : Int64) : Int64 := if k = 0 then v.toInt32.toInt64 else if k = 1 then v else v &&& 65535
def passes (k : Nat) (t : Int32) : Bool := if t = 4 then k == 4 || k == 6 else if t = 7 then k == 7 || k == 8 else nI k == t
def mayh (c h : Nat) : Bool := match h with
  | 3 => passes c 0
  | 4 => passes c 7
  | 5 => passes c 4
  | 6 => passes c 8
  | _ => true
def o_make (Z : Zs) (k n : Int32) : Int32 × Zs := if k < 0 ∨ 6 < k then (-1, Z) else if 500 < n ∨ zn Z = 2000 then (-2, Z) else if n < 0 then (-3, Z) else (nI (zn Z), wN Z k.toNatClampNeg n.toNatClampNeg 0 (fun _ => 0) (fun _ => none))
def o_token (Z : Zs) (v x : Int32) : Int32 × Zs := if zn Z = 2000 then (-2, Z) else if x = 0 then (nI (zn Z), wN Z 7 1 v (fun _ => 0) (fun _ => none)) else (nI (zn Z), wN Z 8 0 v (fun _ => 0) (fun _ => none))
def o_put (Z : Zs) (t i : Int32) (v : Int64) : Int32 × Zs := match zt (zn Z) t with
  | none => (1, Z)
  | some a => if 2 < zk Z a then (4, Z) else match zt (zl Z a) i with
    | none => (2, Z)
    | some j => (0, wM Z a j (fitv (zk Z a) v))
def o_hang (Z : Zs) (t i c : Int32) : Int32 × Zs := match zt (zn Z) t with
  | none => (1, Z)
  | some a => if c ≠ -1 ∧ zt (zn Z) c = none then (1, Z) else if ¬ hook (zk Z a) then (4, Z) else match zt (zl Z a) i with
    | none => (2, Z)
    | some j => match zt (zn Z) c with
      | none => (0, wH Z a j none)
      | some b => if mayh (zk Z b) (zk Z a) = true then (0, wH Z a j (some b)) else (3, Z)
def o_kind (Z : Zs) (t : Int32) : Int32 := match zt (zn Z) t with
  | none => -1
  | some a => nI (zk Z a)
def o_length (Z : Zs) (t : Int32) : Int32 := match zt (zn Z) t with
  | none => -1
  | some a => nI (zl Z a)
def o_number (Z : Zs) (t i : Int32) : Int64 × Zs := match zt (zn Z) t with
  | none => (0, wS Z 1)
  | some a => if 3 ≤ zk Z a ∧ zk Z a ≤ 6 then (0, wS Z 4) else if 7 ≤ zk Z a then (if i = 0 then ((zv Z a).toInt64, wS Z 0) else (0, wS Z 2)) else match zt (zl Z a) i with
    | none => (0, wS Z 2)
    | some j => (zm Z a j, wS Z 0)
def o_below (Z : Zs) (t i : Int32) : Int32 × Zs := match zt (zn Z) t with
  | none => (-2, wS Z 1)
  | some a => if ¬ hook (zk Z a) then (-2, wS Z 4) else match zt (zl Z a) i with
    | none => (-2, wS Z 2)
    | some j => (chI (zh Z a j), wS Z 0)
def o_is (Z : Zs) (t x : Int32) : Int32 := if x < 0 ∨ 8 < x then -1 else match zt (zn Z) t with
  | none => if t = -1 then 0 else -1
  | some a => if passes (zk Z a) x = true then 1 else 0
def o_as (Z : Zs) (t x : Int32) : Int32 := if x < 0 ∨ 8 < x then -1 else match zt (zn Z) t with
  | none => if t = -1 then 0 else -1
  | some a => if passes (zk Z a) x = true then 0 else 1
def o_order (Z : Zs) (a b : Int32) : Int32 := match zt (zn Z) a, zt (zn Z) b with
  | some x, some y => if zk Z x ≠ 8 ∨ zk Z y ≠ 8 then 2 else if zv Z x < zv Z y then -1 else if zv Z x = zv Z y then 0 else 1
  | _, _ => 3
theorem wS_zn (Z : Zs) (x : Int32) : zn (wS Z x) = zn Z := rfl
theorem wS_zk (Z : Zs) (x : Int32) : zk (wS Z x) = zk Z := rfl
theorem wS_zl (Z : Zs) (x : Int32) : zl (wS Z x) = zl Z := rfl
theorem wS_zv (Z : Zs) (x : Int32) : zv (wS Z x) = zv Z := rfl
theorem wS_zm (Z : Zs) (x : Int32) : zm (wS Z x) = zm Z := rfl
theorem wS_zh (Z : Zs) (x : Int32) : zh (wS Z x) = zh Z := rfl
theorem wS_zs (Z : Zs) (x : Int32) : zs (wS Z x) = x := rfl
theorem wM_zn (Z : Zs) (a j : Nat) (v : Int64) : zn (wM Z a j v) = zn Z := rfl
theorem wM_zk (Z : Zs) (a j : Nat) (v : Int64) : zk (wM Z a j v) = zk Z := rfl
theorem wM_zl (Z : Zs) (a j : Nat) (v : Int64) : zl (wM Z a j v) = zl Z := rfl
theorem wM_zv (Z : Zs) (a j : Nat) (v : Int64) : zv (wM Z a j v) = zv Z := rfl
theorem wM_zm (Z : Zs) (a j : Nat) (v : Int64) : zm (wM Z a j v) = up2 (zm Z) a j v := rfl
theorem wM_zh (Z : Zs) (a j : Nat) (v : Int64) : zh (wM Z a j v) = zh Z := rfl
theorem wM_zs (Z : Zs) (a j : Nat) (v : Int64) : zs (wM Z a j v) = zs Z := rfl
theorem wH_zn (Z : Zs) (a j : Nat) (c : Option Nat) : zn (wH Z a j c) = zn Z := rfl
theorem wH_zk (Z : Zs) (a j : Nat) (c : Option Nat) : zk (wH Z a j c) = zk Z := rfl
theorem wH_zl (Z : Zs) (a j : Nat) (c : Option Nat) : zl (wH Z a j c) = zl Z := rfl
theorem wH_zv (Z : Zs) (a j : Nat) (c : Option Nat) : zv (wH Z a j c) = zv Z := rfl
theorem wH_zm (Z : Zs) (a j : Nat) (c : Option Nat) : zm (wH Z a j c) = zm Z := rfl
theorem wH_zh (Z : Zs) (a j : Nat) (c : Option Nat) : zh (wH Z a j c) = up2 (zh Z) a j c := rfl
theorem wH_zs (Z : Zs) (a j : Nat) (c : Option Nat) : zs (wH Z a j c) = zs Z := rfl
theorem wN_zn (Z : Zs) (k l : Nat) (v : Int32) (f : Nat → Int64) (h : Nat → Option Nat) : zn (wN Z k l v f h) = zn Z + 1 := rfl
theorem wN_zk (Z : Zs) (k l : Nat) (v : Int32) (f : Nat → Int64) (h : Nat → Option Nat) : zk (wN Z k l v f h) = va_up (zk Z) (zn Z) k := rfl
theorem wN_zl (Z : Zs) (k l : Nat) (v : Int32) (f : Nat → Int64) (h : Nat → Option Nat) : zl (wN Z k l v f h) = va_up (zl Z) (zn Z) l := rfl
theorem wN_zv (Z : Zs) (k l : Nat) (v : Int32) (f : Nat → Int64) (h : Nat → Option Nat) : zv (wN Z k l v f h) = va_up (zv Z) (zn Z) v := rfl
theorem wN_zm (Z : Zs) (k l : Nat) (v : Int32) (f : Nat → Int64) (h : Nat → Option Nat) : zm (wN Z k l v f h) = va_up (zm Z) (zn Z) f := rfl
theorem wN_zh (Z : Zs) (k l : Nat) (v : Int32) (f : Nat → Int64) (h : Nat → Option Nat) : zh (wN Z k l v f h) = va_up (zh Z) (zn Z) h := rfl
theorem wN_zs (Z : Zs) (k l : Nat) (v : Int32) (f : Nat → Int64) (h : Nat → Option Nat) : zs (wN Z k l v f h) = zs Z := rfl
theorem up2_up2 {α : Type} (f : Nat → Nat → α) (k a : Nat) (x y : α) : up2 (up2 f k a x) k a y = up2 f k a y := by
  funext k' a'
  unfold up2
  by_cases h : k' = k ∧ a' = a
  · rw [if_pos h, if_pos h]
  · rw [if_neg h, if_neg h, if_neg h]
theorem pI_pI (S : ns_St) (k a : Nat) (x y : Int32) : pI (pI S k a x) k a y = pI S k a y := by
  show (S.1, S.2.1, S.2.2.1, up2 (up2 (fI S) k a x) k a y, _) = _
  rw [up2_up2]
  rfl
