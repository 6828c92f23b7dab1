/-! ===== how the reference shortens a fraction ===== -/
noncomputable def shB (N D : PS) : PS := if 1 < (N.gcd D).size then D.dv (N.gcd D) else D
noncomputable def shA (N D : PS) : PS := if 1 < (N.gcd D).size then N.dv (N.gcd D) else N
theorem sh_ne {N D : PS} {n m : Nat} (hN : N.lt n) (hD : D.lt m) (hm : m < 200) (hN0 : N ≠ PS.zero) (hD0 : D ≠ PS.zero) : (shA N D).sm (finv (fi (hdI (shB N D)))) = rdN N D ∧ (shB N D).sm (finv (fi (hdI (shB N D)))) = rdD N D := by
  have hs := PS.size_le hD
  have h := PS.gcd_spec (a := N) (b := D) ⟨_, hN⟩ ⟨_, hD⟩ hN0 (by omega)
  have h2 := (PS.dvd_size h.1 h.2.2.2.1 hD0).1
  unfold shA shB rdN rdD
  rw [if_neg hN0, if_neg hN0]
  by_cases c : 1 < (N.gcd D).size
  · rw [if_pos c, if_pos c, if_pos ⟨by omega, c⟩, if_pos ⟨by omega, c⟩]
    exact ⟨rfl, rfl⟩
  · rw [if_neg c, if_neg c, if_neg (fun q => c q.2), if_neg (fun q => c q.2)]
    exact ⟨rfl, rfl⟩
theorem one_of {p : PS} (h : p.isz 1) : p.sm (finv (fi (hdI p))) = PS.one := by
  rw [hdI_eq (m := 0) h]
  refine PS.ext fun n => ?_
  show finv (p 0) * p n = if n = 0 then 1 else 0
  by_cases c : n = 0
  · rw [if_pos c, c, F_comm]
    exact finv_mul _ (h.1.resolve_left (by omega))
  · rw [if_neg c, h.2 n (by omega)]; grind
theorem md_zero {D : PS} {m : Nat} (hD : D.isz (m + 1)) : PS.zero.md D = PS.zero ∧ PS.zero.dv D = PS.zero := PS.md_eq hD (PS.zero_lt 0) (PS.zero_lt _) (PS.div0 _ _)
theorem gcd_zero {D : PS} {m : Nat} (hD : D.isz (m + 1)) : PS.zero.gcd D = D.mon := by
  have hD0 : D ≠ PS.zero := fun e => by
    have := hD.1.resolve_left (by omega)
    rw [e] at this
    exact this rfl
  unfold PS.gcd
  rw [PS.eu_succ (n := 199) hD0, (md_zero hD).1, PS.eu_zero]
