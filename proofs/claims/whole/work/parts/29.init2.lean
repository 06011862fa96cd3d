section INIT2
variable {S S' : ns_St} {sh : Nat}
theorem ci_1 (hk : ns_k S sh = 4) (hz : sh < ns_z S) (hS : pI (pI (pR (nO (pR (nA S 8 2000) 300 sh (some (ns_z S))) 2 6) 301 sh (some (ns_z S + 1))) 302 sh 0) 303 sh 0 = S') : ns_k S' sh = 4 ∧ ns_k S' (ns_z S) = 8 ∧ ns_k S' (ns_z S + 1) = 3 := by
  have e : ns_k S' = ns_k (nO (pR (nA S 8 2000) 300 sh (some (ns_z S))) 2 6) := by rw [← hS]; rfl
  have e2 : ns_z (pR (nA S 8 2000) 300 sh (some (ns_z S))) = ns_z S + 1 := rfl
  have e3 : ns_k (pR (nA S 8 2000) 300 sh (some (ns_z S))) = ns_k (nA S 8 2000) := rfl
  rw [e]
  simp only [nO_ns_k, e2, e3, nA_ns_k]
  refine ⟨?_, ?_, ?_⟩
  · rw [if_neg (by omega), if_neg (by omega)]; exact hk
  · rw [if_neg (by omega), if_pos trivial]
  · rw [if_pos trivial]
theorem ci_2 (hz : sh < ns_z S) (hS : pI (pI (pR (nO (pR (nA S 8 2000) 300 sh (some (ns_z S))) 2 6) 301 sh (some (ns_z S + 1))) 302 sh 0) 303 sh 0 = S') : fR S' 300 sh = some (ns_z S) ∧ fR S' 301 sh = some (ns_z S + 1) ∧ fI S' 302 sh = 0 ∧ fI S' 303 sh = 0 ∧ ns_n S' (ns_z S) = 2000 ∧ fI S' 200 (ns_z S + 1) = 0 := by
  have e2 : ns_z (pR (nA S 8 2000) 300 sh (some (ns_z S))) = ns_z S + 1 := rfl
  rw [← hS]
  refine ⟨?_, ?_, ?_, ?_, ?_, ?_⟩
  · rw [pI_fR, pI_fR, pR_fR, if_neg (by omega), nO_fR, e2, if_neg (by omega), pR_fR, if_pos ⟨rfl, rfl⟩]
  · rw [pI_fR, pI_fR, pR_fR, if_pos ⟨rfl, rfl⟩]
  · rw [pI_fI, if_neg (by omega), pI_fI, if_pos ⟨rfl, rfl⟩]
  · rw [pI_fI, if_pos ⟨rfl, rfl⟩]
  · rw [pI_ns_n, pI_ns_n, pR_ns_n, nO_ns_n, pR_ns_n, nA_ns_n, if_pos rfl]
  · rw [pI_fI, if_neg (by omega), pI_fI, if_neg (by omega), pR_fI, nO_fI, e2, if_pos rfl]
theorem ci_3 (hS : pI (pI (pR (nO (pR (nA S 8 2000) 300 sh (some (ns_z S))) 2 6) 301 sh (some (ns_z S + 1))) 302 sh 0) 303 sh 0 = S') : ns_z S' = ns_z S + 2 ∧ ns_s S' = ns_s S + 2006 := by
  rw [← hS]
  rw [pI_ns_z, pI_ns_z, pR_ns_z, nO_ns_z, pR_ns_z, nA_ns_z, pI_ns_s, pI_ns_s, pR_ns_s, nO_ns_s, pR_ns_s, nA_ns_s]
  exact ⟨by omega, by omega⟩
theorem c_init (hk : ns_k S sh = 4) : ∃ S', Ev (16, 0, [some (va_rf (some sh))], [], S) (none, S') ∧ CR S' sh (ns_z S) (ns_z S + 1) (fun _ => 0) (fun _ => 0) (fun _ => 0) 0 zz ∧ ns_z S' = ns_z S + 2 ∧ ns_s S' = ns_s S + 2006 := by
  have hz : sh < ns_z S := klt hk (by decide)
  obtain ⟨S', hS⟩ : ∃ S', pI (pI (pR (nO (pR (nA S 8 2000) 300 sh (some (ns_z S))) 2 6) 301 sh (some (ns_z S + 1))) 302 sh 0) 303 sh 0 = S' := ⟨_, rfl⟩
  obtain ⟨a1, a2, a3⟩ := ci_1 hk hz hS
  obtain ⟨b1, b2, b3, b4, b5, b6⟩ := ci_2 hz hS
  have w1 : nI (zn zz) = 0 := rfl
  have w2 : zs zz = 0 := rfl
  have w3 : nI 0 = 0 := rfl
  exact ⟨S', ci_run hk hS, ⟨⟨a1, b1, b2, by rw [w1]; exact b3, by rw [w2]; exact b4, a2, b5, a3, by rw [w3]; exact b6⟩, fun i hi => absurd hi (Nat.not_lt_zero i), fun i j hi => absurd hi (Nat.not_lt_zero i), fun i j hi => absurd hi (Nat.not_lt_zero i), fun i j hi => absurd hi (Nat.not_lt_zero i), fun i hi => absurd hi (Nat.not_lt_zero i)⟩, ci_3 hS⟩
end INIT2
