/-! ===== how the reference shortens a fraction ===== -/
noncomputable def shB (N D : PS) : PS := if 1 < (N.gcd D).size then D.dv (N.gcd D) else D
noncomputable def shA (N D : PS) : PS := if 1 < (N.gcd D).size then N.dv (N.gcd D) else N
theorem sh_ne {N D : PS} {n m : Nat} (hN : N.lt n) (hD : D.lt m) (hm : m < 200) (hN0 : N ≠ PS.zero) (hD0 : D ≠ PS.zero) : (shA N D).sm (finv (fi (hdI (shB N D)))) = rdN N D ∧ (shB N D).sm (finv (fi (hdI (shB N D)))) = rdD N D := by
  have hs := PS.size_le hD
  have h := PS.gcd_spec (a := N) (b := D) ⟨_, hN⟩ ⟨_, hD⟩ hN0 (by omega)
  have h2 := (PS.dvd_size h.1 h.2.2.2.1 hD0).1
  unfold shA shB rdN rdD
  rw [if_neg hN0, if_neg hN0]
  by_cases c : 1 < (N.gcd D).size
  · rw [if_pos c, if_pos c, if_pos ⟨by omega, c⟩, if_pos ⟨by omega, c⟩]
    exact ⟨rfl, rfl⟩
  · rw [if_neg c, if_neg c, if_neg (fun q => c q.2), if_neg (fun q => c q.2)]
    exact ⟨rfl, rfl⟩
theorem one_of {p : PS} (h : p.isz 1) : p.sm (finv (fi (hdI p))) = PS.one := by
  rw [hdI_eq (m := 0) h]
  refine PS.ext fun n => ?_
  show finv (p 0) * p n = if n = 0 then 1 else 0
  by_cases c : n = 0
  · rw [if_pos c, c, F_comm]
    exact finv_mul _ (h.1.resolve_left (by omega))
  · rw [if_neg c, h.2 n (by omega)]; grind
theorem md_zero {D : PS} {m : Nat} (hD : D.isz (m + 1)) : PS.zero.md D = PS.zero ∧ PS.zero.dv D = PS.zero := PS.md_eq hD (PS.zero_lt 0) (PS.zero_lt _) (PS.div0 _ _)
theorem gcd_zero {D : PS} {m : Nat} (hD : D.isz (m + 1)) : PS.zero.gcd D = D.mon := by
  have hD0 : D ≠ PS.zero := fun e => by
    have := hD.1.resolve_left (by omega)
    rw [e] at this
    exact this rfl
  unfold PS.gcd
  rw [PS.eu_succ (n := 199) hD0, (md_zero hD).1, PS.eu_zero]
theorem sh_zero {D : PS} {m : Nat} (hD : D.isz (m + 1)) : (shA PS.zero D).sm (finv (fi (hdI (shB PS.zero D)))) = rdN PS.zero D ∧ (shB PS.zero D).sm (finv (fi (hdI (shB PS.zero D)))) = rdD PS.zero D := by
  have hD0 : D ≠ PS.zero := fun e => by
    have := hD.1.resolve_left (by omega)
    rw [e] at this
    exact this rfl
  have hg := gcd_zero hD
  obtain ⟨c, hc, e⟩ := PS.mon_form ⟨_, hD.2⟩ hD0
  have hgz : D.mon.isz (m + 1) := by rw [e]; exact PS.isz_sm hc hD
  have hsz := PS.size_eq hgz
  have z0 : ∀ a : F, PS.zero.sm a = PS.zero := fun a => PS.ext fun n => by show a * (0 : F) = 0; grind
  unfold shA shB rdN rdD
  rw [if_pos rfl, if_pos rfl, hg]
  by_cases q : 1 < D.mon.size
  · rw [if_pos q, if_pos q, (md_zero hgz).2, z0]
    refine ⟨rfl, ?_⟩
    have h1 : D = ((PS.C (finv c)).mul D.mon).add PS.zero := PS.ext fun n => by
      rw [PS.C_mul, e]
      show D n = finv c * (c * D n) + 0
      have := finv_mul c hc
      grind
    have h2 := PS.md_eq hgz (PS.C_lt (finv c)) (PS.zero_lt _) h1
    rw [h2.2]
    exact one_of ⟨Or.inr (finv_ne hc), PS.C_lt _⟩
  · rw [if_neg q, if_neg q, z0]
    refine ⟨rfl, one_of ?_⟩
    have : m = 0 := by omega
    subst this
    exact hD
