/-! ===== the reference: acts of the reader ===== -/
noncomputable def opR (act : Int) (a v : FP2) : FP2 := if act = 0 then v else if act = 42 then fml a v else if act = 47 then fdv a v else fpl a v (if act = 43 then fi 1 else fi (-1))
noncomputable def opA (act : Int) (a v : FP2) : Int := if act = 0 then 0 else if bz (act = 47 ∧ v.1 = PS.zero) = 1 then -2 else if isT (opR act a v).1 (opR act a v).2 = 1 then 0 else -3
theorem opA_rng (act : Int) (a v : FP2) : -3 ≤ opA act a v ∧ opA act a v ≤ 0 := by
  unfold opA
  split
  · omega
  · split
    · omega
    · split <;> omega
theorem opR_ok {act : Int} {a v : FP2} (ha : act ≠ 0 → FOK a 7 5) (hv : FOK v 7 5) (h : opA act a v = 0) : FOK (opR act a v) 7 5 := by
  by_cases c : act = 0
  · unfold opR; rw [if_pos c]; exact hv
  · have fa := ha c
    have h2 : isT (opR act a v).1 (opR act a v).2 = 1 ∧ ¬ (act = 47 ∧ v.1 = PS.zero) := by
      unfold opA at h
      rw [if_neg c] at h
      by_cases d : act = 47 ∧ v.1 = PS.zero
      · rw [if1 d] at h; omega
      · rw [if0 d] at h
        by_cases e : isT (opR act a v).1 (opR act a v).2 = 1
        · exact ⟨e, d⟩
        · rw [if_neg e] at h; omega
    have t := isT_one h2.1
    refine ⟨?_, t.1, t.2⟩
    unfold opR
    rw [if_neg c]
    by_cases c1 : act = 42
    · rw [if_pos c1]; exact (fa.ml hv (k := 13) (q := 9) (by omega) (by omega) (by omega)).1
    · rw [if_neg c1]
      by_cases c2 : act = 47
      · rw [if_pos c2]; exact (fa.dv hv (fun q => h2.2 ⟨c2, q⟩) (k := 11) (q := 11) (by omega) (by omega) (by omega)).1
      · rw [if_neg c2]; exact (FOK.pl _ fa hv (k := 11) (q := 9) (by omega) (by omega) (by omega) (by omega)).1
/-- a power: so often multiplied -/
noncomputable def pwV (a : FP2) : Nat → FP2
  | 0 => (PS.one, PS.one)
  | n + 1 => fml (pwV a n) a
def pwOK (a : FP2) (n : Nat) : Prop := ∀ k : Nat, 1 ≤ k → k ≤ n → isT (pwV a k).1 (pwV a k).2 = 1
noncomputable def powR (a : FP2) (e : Int) : FP2 := if e < 0 then a else pwV a e.toNat
theorem one_ok : FOK (PS.one, PS.one) 1 1 := ⟨⟨PS.fin_one, PS.fin_one, PS.one_ne, PS.mnc_one, fun P hP _ q => PS.irr_one hP q⟩, by show PS.one.size ≤ 1; rw [PS.one_sz]; exact Nat.le_refl _, by show PS.one.size ≤ 1; rw [PS.one_sz]; exact Nat.le_refl _⟩
theorem pwV_ok {a : FP2} (ha : FOK a 7 5) : ∀ n : Nat, pwOK a n → FOK (pwV a n) 7 5 := by
  intro n
  induction n with
  | zero => intro _; exact one_ok.mono (by omega) (by omega)
  | succ n ih =>
    intro h
    have q := ih (fun k h1 h2 => h k h1 (by omega))
    have t := isT_one (h (n + 1) (by omega) (by omega))
    exact ⟨(q.ml ha (k := 13) (q := 9) (by omega) (by omega) (by omega)).1, t.1, t.2⟩
theorem powR_ok {a : FP2} {e : Int} (ha : FOK a 7 5) (h : e < 0 ∨ pwOK a e.toNat) : FOK (powR a e) 7 5 := by
  unfold powR
  by_cases c : e < 0
  · rw [if_pos c]; exact ha
  · rw [if_neg c]; exact pwV_ok ha _ (h.resolve_left c)
def isFg (T : List Int) (k : Int) : Prop := 0 ≤ k ∧ k < T.length ∧ (48 ≤ T.getD k.toNat 0 ∧ T.getD k.toNat 0 ≤ 57)
theorem r_acts (l : Launch) (G : Gl) (Λ : Lay) (sz : Nat) (μ : Mem) {ν : Nat} {ρ : Nat → PS} {o act y : Int} {a v : FP2} (hR : refK Λ ν) (hw : RW μ ν ρ) (ho : 0 ≤ o ∧ o < 70) (hy : 0 ≤ y ∧ y < 70) (hact : act = 0 ∨ act = 42 ∨ act = 43 ∨ act = 45 ∨ act = 47) (ha : act ≠ 0 → RFI ρ o a ∧ FOK a 7 5) (hV : RFI ρ y v) (hv : FOK v 7 5) : Sp l G yX12_acts cX12_acts 4 (some FieldType.int) 6 [.ref ν, iv o, iv act, iv y] Λ sz μ (pI (fun z μ' => z = opA act a v ∧ ∃ σ, RW μ' ν σ ∧ (z = 0 → RFI σ o (opR act a v)) ∧ (∀ r : Nat, r < 140 → r ≠ 2 * o.toNat → r ≠ 2 * o.toNat + 1 → σ r = ρ r) ∧ Fr [ν + 1, ν + 2] μ μ')) := by
  refine Sp.intro (by decide) (Nat.le_of_ble_eq_true rfl) (fun x hx hBD => ?_)
  refine v_lv [(0, .ref ν), (1, iv o), (2, iv act), (3, iv y)] rfl ?_
  refine v_iload hx DX12_acts_0 2 rfl ?_
  refine v_if_ne hx DX12_acts_1 (by omega) (fun c1 => ?_) (fun c1 => ?_)
  · skip
    have fa := (ha c1).2
    refine v_iload hx DX12_acts_12 2 rfl ?_
    refine v_push hx DX12_acts_13 ?_
    refine v_icmp_ne hx DX12_acts_15 (by omega) (by decide) (fun c15 => ?_) (fun c15 => ?_)
    · skip
      refine v_iload hx DX12_acts_29 2 rfl ?_
      refine v_push hx DX12_acts_30 ?_
      refine v_icmp_ne hx DX12_acts_32 (by omega) (by decide) (fun c32 => ?_) (fun c32 => ?_)
      · skip
        refine v_iload hx DX12_acts_45 2 rfl ?_
        refine v_push hx DX12_acts_46 ?_
        refine v_icmp_ne hx DX12_acts_48 (by omega) (by decide) (fun c48 => ?_) (fun c48 => ?_)
        · skip
          refine v_aload hx DX12_acts_61 0 rfl ?_
          refine v_iload hx DX12_acts_62 1 rfl ?_
          refine v_iload hx DX12_acts_63 1 rfl ?_
          refine v_iload hx DX12_acts_64 3 rfl ?_
          refine v_iload hx DX12_acts_65 2 rfl ?_
          refine v_push hx DX12_acts_66 ?_
          refine v_icmp_ne hx DX12_acts_68 (by omega) (by decide) (fun c68 => ?_) (fun c68 => ?_)
          · skip
            refine v_push hx DX12_acts_75 ?_
            refine v_cVv hx DX12_acts_76 CVRX12_223 [iv o, iv o, iv y, iv (-1)] (r_plusF l G Λ sz μ hR hw (by omega) (by omega) (by omega) (by omega) (ha (by omega)).1 hV fa.1.2.2.1 hv.1.2.2.1 (by have := fa.2.1; have := hv.2.2; omega) (by have := hv.2.1; have := fa.2.2; omega) (by have := fa.2.2; have := hv.2.2; omega)) hR.o rfl rfl (Nat.le_of_ble_eq_true rfl) (by decide) ⟨Nat.le_refl _, Nat.le_refl _⟩ (fun μ1 hμ1 => ?_)
            obtain ⟨σ1, w1, x1, x2, k1, f1⟩ := hμ1
            have xx : RFI σ1 o (opR act a v) := by unfold opR; rw [if_neg (by omega), if_neg (by omega), if_neg (by omega), if_neg (by omega)]; exact ⟨x1, x2⟩
            have ir := isT_rng (opR act a v).1 (opR act a v).2
            refine v_aload hx DX12_acts_79 0 rfl ?_
            refine v_iload hx DX12_acts_80 1 rfl ?_
            refine v_cVp hx DX12_acts_81 CVRX12_214 [iv o] (r_isTermF l G Λ sz μ1 hR w1 (by omega) xx) hR.o rfl rfl (Nat.le_of_ble_eq_true rfl) (by decide) ⟨Nat.le_refl _, Nat.le_refl _⟩ ?_
            refine v_if_eq hx DX12_acts_84 (by omega) (fun c84 => ?_) (fun c84 => ?_)
            · skip
              refine v_push hx DX12_acts_91 ?_
              exact v_ri hx hBD DX12_acts_93 (⟨by unfold opA; rw [if_neg (by omega), if0 (fun q => by omega), if_neg (by omega)], σ1, w1, fun q => absurd q (by decide), fun r g0 g1 g2 => k1 r (by omega) g1 g2, f1⟩)
            · skip
              refine v_push hx DX12_acts_87 ?_
              refine v_goto hx DX12_acts_88 ?_
              exact v_ri hx hBD DX12_acts_93 (⟨by unfold opA; rw [if_neg (by omega), if0 (fun q => by omega), if_pos (by omega)], σ1, w1, fun _ => xx, fun r g0 g1 g2 => k1 r (by omega) g1 g2, f1⟩)
          · skip
            refine v_push hx DX12_acts_71 ?_
            refine v_goto hx DX12_acts_72 ?_
            refine v_cVv hx DX12_acts_76 CVRX12_223 [iv o, iv o, iv y, iv 1] (r_plusF l G Λ sz μ hR hw (by omega) (by omega) (by omega) (by omega) (ha (by omega)).1 hV fa.1.2.2.1 hv.1.2.2.1 (by have := fa.2.1; have := hv.2.2; omega) (by have := hv.2.1; have := fa.2.2; omega) (by have := fa.2.2; have := hv.2.2; omega)) hR.o rfl rfl (Nat.le_of_ble_eq_true rfl) (by decide) ⟨Nat.le_refl _, Nat.le_refl _⟩ (fun μ5 hμ5 => ?_)
            obtain ⟨σ1, w1, x1, x2, k1, f1⟩ := hμ5
            have xx : RFI σ1 o (opR act a v) := by unfold opR; rw [if_neg (by omega), if_neg (by omega), if_neg (by omega), if_pos (by omega)]; exact ⟨x1, x2⟩
            have ir := isT_rng (opR act a v).1 (opR act a v).2
            refine v_aload hx DX12_acts_79 0 rfl ?_
            refine v_iload hx DX12_acts_80 1 rfl ?_
            refine v_cVp hx DX12_acts_81 CVRX12_214 [iv o] (r_isTermF l G Λ sz μ5 hR w1 (by omega) xx) hR.o rfl rfl (Nat.le_of_ble_eq_true rfl) (by decide) ⟨Nat.le_refl _, Nat.le_refl _⟩ ?_
            refine v_if_eq hx DX12_acts_84 (by omega) (fun c84 => ?_) (fun c84 => ?_)
            · skip
              refine v_push hx DX12_acts_91 ?_
              exact v_ri hx hBD DX12_acts_93 (⟨by unfold opA; rw [if_neg (by omega), if0 (fun q => by omega), if_neg (by omega)], σ1, w1, fun q => absurd q (by decide), fun r g0 g1 g2 => k1 r (by omega) g1 g2, f1⟩)
            · skip
              refine v_push hx DX12_acts_87 ?_
              refine v_goto hx DX12_acts_88 ?_
              exact v_ri hx hBD DX12_acts_93 (⟨by unfold opA; rw [if_neg (by omega), if0 (fun q => by omega), if_pos (by omega)], σ1, w1, fun _ => xx, fun r g0 g1 g2 => k1 r (by omega) g1 g2, f1⟩)
        · exact absurd c48 (by omega)
      · skip
        refine v_aload hx DX12_acts_35 0 rfl ?_
        refine v_iload hx DX12_acts_36 1 rfl ?_
        refine v_iload hx DX12_acts_37 1 rfl ?_
        refine v_iload hx DX12_acts_38 3 rfl ?_
        refine v_cVv hx DX12_acts_39 CVRX12_220 [iv o, iv o, iv y] (r_multipliesF l G Λ sz μ hR hw (by omega) (by omega) (by omega) (ha (by omega)).1 hV fa.1.2.2.1 hv.1.2.2.1 (by have := fa.2.1; have := hv.2.1; omega) (by have := fa.2.2; have := hv.2.2; omega)) hR.o rfl rfl (Nat.le_of_ble_eq_true rfl) (by decide) ⟨Nat.le_refl _, Nat.le_refl _⟩ (fun μ9 hμ9 => ?_)
        obtain ⟨σ1, w1, x1, x2, k1, f1⟩ := hμ9
        have xx : RFI σ1 o (opR act a v) := by unfold opR; rw [if_neg (by omega), if_pos (by omega)]; exact ⟨x1, x2⟩
        have ir := isT_rng (opR act a v).1 (opR act a v).2
        refine v_goto hx DX12_acts_42 ?_
        refine v_aload hx DX12_acts_79 0 rfl ?_
        refine v_iload hx DX12_acts_80 1 rfl ?_
        refine v_cVp hx DX12_acts_81 CVRX12_214 [iv o] (r_isTermF l G Λ sz μ9 hR w1 (by omega) xx) hR.o rfl rfl (Nat.le_of_ble_eq_true rfl) (by decide) ⟨Nat.le_refl _, Nat.le_refl _⟩ ?_
        refine v_if_eq hx DX12_acts_84 (by omega) (fun c84 => ?_) (fun c84 => ?_)
        · skip
          refine v_push hx DX12_acts_91 ?_
          exact v_ri hx hBD DX12_acts_93 (⟨by unfold opA; rw [if_neg (by omega), if0 (fun q => by omega), if_neg (by omega)], σ1, w1, fun q => absurd q (by decide), fun r g0 g1 g2 => k1 r (by omega) g1 g2, f1⟩)
        · skip
          refine v_push hx DX12_acts_87 ?_
          refine v_goto hx DX12_acts_88 ?_
          exact v_ri hx hBD DX12_acts_93 (⟨by unfold opA; rw [if_neg (by omega), if0 (fun q => by omega), if_pos (by omega)], σ1, w1, fun _ => xx, fun r g0 g1 g2 => k1 r (by omega) g1 g2, f1⟩)
    · skip
      refine v_aload hx DX12_acts_18 0 rfl ?_
      refine v_iload hx DX12_acts_19 3 rfl ?_
      refine v_cVp hx DX12_acts_20 CVRX12_186 [iv y] (r_isNoughtF l G Λ sz μ hR hw (by omega) hV) hR.o rfl rfl (Nat.le_of_ble_eq_true rfl) (by decide) ⟨Nat.le_refl _, Nat.le_refl _⟩ ?_
      have br20 := bz_rng (v.1 = PS.zero)
      refine v_if_eq hx DX12_acts_23 (by omega) (fun c23 => ?_) (fun c23 => ?_)
      · skip
        have d23 := bzf c23
        refine v_iload hx DX12_acts_29 2 rfl ?_
        refine v_push hx DX12_acts_30 ?_
        refine v_icmp_ne hx DX12_acts_32 (by omega) (by decide) (fun c32 => ?_) (fun c32 => ?_)
        · skip
          refine v_iload hx DX12_acts_45 2 rfl ?_
          refine v_push hx DX12_acts_46 ?_
          refine v_icmp_ne hx DX12_acts_48 (by omega) (by decide) (fun c48 => ?_) (fun c48 => ?_)
          · exact absurd c48 (by omega)
          · skip
            refine v_aload hx DX12_acts_51 0 rfl ?_
            refine v_iload hx DX12_acts_52 1 rfl ?_
            refine v_iload hx DX12_acts_53 1 rfl ?_
            refine v_iload hx DX12_acts_54 3 rfl ?_
            refine v_cVv hx DX12_acts_55 CVRX12_236 [iv o, iv o, iv y] (r_quotientF l G Λ sz μ hR hw (by omega) (by omega) (by omega) (ha (by omega)).1 hV fa.1.2.2.1 d23 (by have := fa.2.1; have := hv.2.2; omega) (by have := fa.2.2; have := hv.2.1; omega)) hR.o rfl rfl (Nat.le_of_ble_eq_true rfl) (by decide) ⟨Nat.le_refl _, Nat.le_refl _⟩ (fun μ15 hμ15 => ?_)
            obtain ⟨σ1, w1, x1, x2, k1, f1⟩ := hμ15
            have xx : RFI σ1 o (opR act a v) := by unfold opR; rw [if_neg (by omega), if_neg (by omega), if_pos (by omega)]; exact ⟨x1, x2⟩
            have ir := isT_rng (opR act a v).1 (opR act a v).2
            refine v_goto hx DX12_acts_58 ?_
            refine v_aload hx DX12_acts_79 0 rfl ?_
            refine v_iload hx DX12_acts_80 1 rfl ?_
            refine v_cVp hx DX12_acts_81 CVRX12_214 [iv o] (r_isTermF l G Λ sz μ15 hR w1 (by omega) xx) hR.o rfl rfl (Nat.le_of_ble_eq_true rfl) (by decide) ⟨Nat.le_refl _, Nat.le_refl _⟩ ?_
            refine v_if_eq hx DX12_acts_84 (by omega) (fun c84 => ?_) (fun c84 => ?_)
            · skip
              refine v_push hx DX12_acts_91 ?_
              exact v_ri hx hBD DX12_acts_93 (⟨by unfold opA; rw [if_neg (by omega), if0 (fun q => d23 q.2), if_neg (by omega)], σ1, w1, fun q => absurd q (by decide), fun r g0 g1 g2 => k1 r (by omega) g1 g2, f1⟩)
            · skip
              refine v_push hx DX12_acts_87 ?_
              refine v_goto hx DX12_acts_88 ?_
              exact v_ri hx hBD DX12_acts_93 (⟨by unfold opA; rw [if_neg (by omega), if0 (fun q => d23 q.2), if_pos (by omega)], σ1, w1, fun _ => xx, fun r g0 g1 g2 => k1 r (by omega) g1 g2, f1⟩)
        · exact absurd c32 (by omega)
      · skip
        have d23 := bzt c23
        refine v_push hx DX12_acts_26 ?_
        exact v_ri hx hBD DX12_acts_28 (⟨by unfold opA; rw [if_neg (by omega), if1 ⟨by omega, d23⟩], ρ, hw, fun q => absurd q (by decide), fun r _ _ _ => rfl, Fr.rf⟩)
  · skip
    
    refine v_aload hx DX12_acts_4 0 rfl ?_
    refine v_iload hx DX12_acts_5 1 rfl ?_
    refine v_iload hx DX12_acts_6 3 rfl ?_
    refine v_cVv hx DX12_acts_7 CVRX12_217 [iv o, iv y] (r_takesF (A := v) l G Λ sz μ hR hw (by omega) (by omega) hV) hR.o rfl rfl (Nat.le_of_ble_eq_true rfl) (by decide) ⟨Nat.le_refl _, Nat.le_refl _⟩ (fun μ19 hμ19 => ?_)
    have h7 := hμ19
    refine v_push hx DX12_acts_10 ?_
    exact v_ri hx hBD DX12_acts_11 (⟨by unfold opA; rw [if_pos (by omega)], _, h7.1, fun _ => by unfold opR; rw [if_pos (by omega)]; exact RFI.wr v, fun r _ g1 g2 => by rw [up_ne g2, up_ne g1], h7.2.mono (by simp)⟩)
theorem r_powered (l : Launch) (G : Gl) (Λ : Lay) (sz : Nat) (μ : Mem) {ν : Nat} {ρ : Nat → PS} {lev e pa : Int} {a c : FP2} (hR : refK Λ ν) (hw : RW μ ν ρ) (hl : 0 ≤ lev ∧ lev < 7) (he : -1 ≤ e ∧ e ≤ 8) (hpa : pa = 0 ∨ pa = 42 ∨ pa = 43 ∨ pa = 45 ∨ pa = 47) (hP : μ.1 (ν + 14) lev = pa) (ha : pa ≠ 0 → RFI ρ (49 + lev) a ∧ FOK a 7 5) (hC : RFI ρ 56 c) (hc : FOK c 7 5) : Sp l G yX12_powered cX12_powered 4 (some FieldType.int) 7 [.ref ν, iv lev, iv e] Λ sz μ (pI (fun z μ' => ∃ σ, RW μ' ν σ ∧ ((z = -3 ∧ 0 ≤ e ∧ ¬ pwOK c e.toNat ∧ (∀ r : Nat, r < 140 → r ≠ 114 → r ≠ 115 → σ r = ρ r) ∧ Fr [ν + 1, ν + 2] μ μ') ∨ ((e < 0 ∨ pwOK c e.toNat) ∧ z = opA pa a (powR c e) ∧ (z = 0 → RFI σ (49 + lev) (opR pa a (powR c e))) ∧ (∀ r : Nat, r < 140 → r ≠ 2 * (49 + lev).toNat → r ≠ 2 * (49 + lev).toNat + 1 → r ≠ 114 → r ≠ 115 → σ r = ρ r) ∧ (∀ j : Int, μ'.1 (ν + 14) j = if j = lev then 0 else μ.1 (ν + 14) j) ∧ Fr [ν + 1, ν + 2, ν + 14] μ μ')))) := by
  refine Sp.intro (by decide) (Nat.le_of_ble_eq_true rfl) (fun x hx hBD => ?_)
  refine v_lv [(0, .ref ν), (1, iv lev), (2, iv e)] rfl ?_
  have L66 : ∀ (m : Mem) (σ : Nat → PS), (RW m ν σ) → (RFI σ 57 (powR c e)) → (e < 0 ∨ pwOK c e.toNat) → (∀ r : Nat, r < 140 → r ≠ 114 → r ≠ 115 → σ r = ρ r) → (Fr [ν + 1, ν + 2] μ m) → V G x (0, 0) Λ sz m 66 [(0, .ref ν), (1, iv lev), (2, iv e)] [] := by
    intro m σ h1 x1 hok hk3 hf
    have po := powR_ok hc hok
    have ar := opA_rng pa a (powR c e)
    refine v_aload hx DX12_powered_66 0 rfl ?_
    refine v_push hx DX12_powered_67 ?_
    refine v_iload hx DX12_powered_69 1 rfl ?_
    refine v_iadd hx DX12_powered_70 ?_
    refine v_aload hx DX12_powered_71 0 rfl ?_
    refine v_get hx DX12_powered_72 FLRX12_105 hR.o (v := .ref (ν + 14)) rfl ?_
    refine v_iload hx DX12_powered_75 1 rfl ?_
    refine v_iald hx DX12_powered_76 hR.partAct (by omega) (by decide) (z := pa) ((congrFun (hf.1 (ν + 14) (by simp)) lev).trans hP) ?_
    refine v_push hx DX12_powered_77 ?_
    refine v_cVi hx DX12_powered_79 CVRX12_329 [iv (49 + lev), iv pa, iv 57] (r_acts (o := 49 + lev) (act := pa) (y := 57) (a := a) (v := powR c e) l G Λ sz m hR h1 (by omega) (by omega) hpa (fun q => ⟨⟨(hk3 _ (by omega) (by omega) (by omega)).trans (ha q).1.1, (hk3 _ (by omega) (by omega) (by omega)).trans (ha q).1.2⟩, (ha q).2⟩) x1 po) hR.o rfl rfl (Nat.le_of_ble_eq_true rfl) (by decide) ⟨Nat.le_refl _, Nat.le_refl _⟩ (fun z2 μ1 hμ1 => ?_)
    obtain ⟨ez, σ4, w4, y4, k4, f4⟩ := hμ1
    subst ez
    refine v_istore hx DX12_powered_82 [(3, iv (opA pa a (powR c e))), (0, .ref ν), (1, iv lev), (2, iv e)] rfl (by decide) ?_
    refine v_aload hx DX12_powered_83 1 rfl ?_
    refine v_get hx DX12_powered_84 FLRX12_105 hR.o (v := .ref (ν + 14)) rfl ?_
    refine v_iload hx DX12_powered_87 2 rfl ?_
    refine v_push hx DX12_powered_88 ?_
    refine v_iastm hx DX12_powered_89 hR.partAct (by omega) (by decide) (fun μ3 eμ3 => ?_)
    refine v_iload hx DX12_powered_90 0 rfl ?_
    exact v_ri hx hBD DX12_powered_91 (⟨σ4, w4.fr (by rw [eμ3, mI_ne (by omega)]), Or.inr ⟨hok, rfl, y4, fun r g0 g1 g2 g3 g4 => (k4 r g0 g1 g2).trans (hk3 r g0 g3 g4), fun j => by rw [eμ3, mI_at, f4.1 _ (by simp), hf.1 _ (by simp)], ((hf.trans f4).mono (by simp)).trans (by rw [eμ3]; exact Fr.mI (by simp))⟩⟩)
  have L33 : ∀ (nf : Nat) (k : Int) (m : Mem) (σ : Nat → PS), (e - k < (nf : Int)) → (0 ≤ k ∧ k ≤ e) → (RW m ν σ) → (RFI σ 57 (pwV c k.toNat)) → (pwOK c k.toNat) → (∀ r : Nat, r < 140 → r ≠ 114 → r ≠ 115 → σ r = ρ r) → (Fr [ν + 1, ν + 2] μ m) → V G x (0, 0) Λ sz m 33 [(3, iv k), (0, .ref ν), (1, iv lev), (2, iv e)] [] := by
    intro nf
    induction nf with
    | zero => intro k m σ hm hk h1 x1 hok hk3 hf; exact absurd hm (by omega)
    | succ nf ih =>
      intro k m σ hm hk h1 x1 hok hk3 hf
      have pk := pwV_ok hc k.toNat hok
      refine v_iload hx DX12_powered_33 0 rfl ?_
      refine v_iload hx DX12_powered_34 3 rfl ?_
      refine v_icmp_ge hx DX12_powered_35 (by omega) (by omega) (fun c35 => ?_) (fun c35 => ?_)
      · skip
        exact v_sub [1, 2, 3] _ rfl (L66 m σ h1 (by unfold powR; rw [if_neg (by omega), show e.toNat = k.toNat by omega]; exact x1) (Or.inr (by rw [show e.toNat = k.toNat by omega]; exact hok)) hk3 hf)
      · skip
        refine v_aload hx DX12_powered_38 1 rfl ?_
        refine v_push hx DX12_powered_39 ?_
        refine v_push hx DX12_powered_41 ?_
        refine v_push hx DX12_powered_43 ?_
        refine v_cVv hx DX12_powered_45 CVRX12_220 [iv 57, iv 57, iv 56] (r_multipliesF (o := 57) (a := 57) (b := 56) (A := pwV c k.toNat) (B := c) l G Λ sz m hR h1 (by omega) (by omega) (by omega) x1 ⟨(hk3 _ (by decide) (by decide) (by decide)).trans hC.1, (hk3 _ (by decide) (by decide) (by decide)).trans hC.2⟩ pk.1.2.2.1 hc.1.2.2.1 (by have := pk.2.1; have := hc.2.1; omega) (by have := pk.2.2; have := hc.2.2; omega)) hR.o rfl rfl (Nat.le_of_ble_eq_true rfl) (by decide) ⟨Nat.le_refl _, Nat.le_refl _⟩ (fun μ4 hμ4 => ?_)
        obtain ⟨σ3, w3, y1, y2, k3, f3⟩ := hμ4
        have ir := isT_rng (pwV c (k.toNat + 1)).1 (pwV c (k.toNat + 1)).2
        refine v_aload hx DX12_powered_48 1 rfl ?_
        refine v_push hx DX12_powered_49 ?_
        refine v_cVp hx DX12_powered_51 CVRX12_214 [iv 57] (r_isTermF (a := 57) (A := pwV c (k.toNat + 1)) l G Λ sz μ4 hR w3 (by omega) ⟨y1, y2⟩) hR.o rfl rfl (Nat.le_of_ble_eq_true rfl) (by decide) ⟨Nat.le_refl _, Nat.le_refl _⟩ ?_
        refine v_if_ne hx DX12_powered_54 (by omega) (fun c54 => ?_) (fun c54 => ?_)
        · skip
          refine v_iinc hx DX12_powered_60 0 rfl [(3, iv (k + 1)), (0, .ref ν), (1, iv lev), (2, iv e)] rfl (by decide) ?_
          refine v_goto hx DX12_powered_63 ?_
          exact v_sub [0, 1, 2, 3] _ rfl (ih (k + 1) μ4 σ3 (by omega) (by omega) w3 (by rw [show (k + 1).toNat = k.toNat + 1 by omega]; exact ⟨y1, y2⟩) (fun q g1 g2 => (Classical.em (q = k.toNat + 1)).elim (fun w => by rw [w]; have ir := isT_rng (pwV c (k.toNat + 1)).1 (pwV c (k.toNat + 1)).2; omega) (fun w => hok q g1 (by omega))) (fun r g0 g1 g2 => (k3 r (by omega) (by omega) (by omega)).trans (hk3 r g0 g1 g2)) (hf.trans f3))
        · skip
          refine v_push hx DX12_powered_57 ?_
          exact v_ri hx hBD DX12_powered_59 (⟨σ3, w3, Or.inl ⟨rfl, by omega, fun q => by have := q (k.toNat + 1) (by omega) (by omega); omega, fun r g0 g1 g2 => (k3 r (by omega) (by omega) (by omega)).trans (hk3 r g0 g1 g2), hf.trans f3⟩⟩)
  refine v_iload hx DX12_powered_0 2 rfl ?_
  refine v_if_ge hx DX12_powered_1 (by omega) (fun c1 => ?_) (fun c1 => ?_)
  · skip
    refine v_aload hx DX12_powered_15 0 rfl ?_
    refine v_push hx DX12_powered_16 ?_
    refine v_cVv hx DX12_powered_18 CVRX12_118 [iv 57] (r_nought (f := 57) l G Λ sz μ hR hw (by decide)) hR.o rfl rfl (Nat.le_of_ble_eq_true rfl) (by decide) ⟨Nat.le_refl _, Nat.le_refl _⟩ (fun μ8 hμ8 => ?_)
    have h18 := hμ8
    refine v_aload hx DX12_powered_21 0 rfl ?_
    refine v_push hx DX12_powered_22 ?_
    refine v_cSp hx DX12_powered_24 CSRX12_38 [iv 57] (r_above (f := 57) l G Λ sz μ8) rfl rfl (Nat.le_of_ble_eq_true rfl) (by decide) ⟨Nat.le_refl _, Nat.le_refl _⟩ ?_
    refine v_push hx DX12_powered_27 ?_
    refine v_cVv hx DX12_powered_28 CVRX12_47 [iv ((2 * 57 : Nat) : Int), iv 1] (r_number (s := 114) l G Λ sz μ8 hR h18.1 (by decide) (by decide)) hR.o rfl rfl (Nat.le_of_ble_eq_true rfl) (by decide) ⟨Nat.le_refl _, Nat.le_refl _⟩ (fun μ12 hμ12 => ?_)
    have h28 := hμ12
    obtain ⟨σ2, w2, xz, kz⟩ : ∃ τ, RW μ12 ν τ ∧ RFI τ 57 (pwV c (0 : Int).toNat) ∧ (∀ r : Nat, r < 140 → r ≠ 114 → r ≠ 115 → τ r = ρ r) := by
      refine ⟨_, h28.1, ⟨?_, ?_⟩, fun r g0 g1 g2 => ?_⟩
      · show up _ 114 _ 114 = PS.one; rw [up_at, PS.C1]
      · show up _ 114 _ 115 = PS.one; rw [up_ne (by omega)]; exact up_at
      · rw [up_ne g1]; show up (up ρ 114 _) 115 _ r = _; rw [up_ne g2, up_ne g1]
    have fz : Fr [ν + 1, ν + 2] μ μ12 := (h18.2.trans h28.2).mono (by simp)
    refine v_push hx DX12_powered_31 ?_
    refine v_istore hx DX12_powered_32 [(3, iv 0), (0, .ref ν), (1, iv lev), (2, iv e)] rfl (by decide) ?_
    exact v_sub [0, 1, 2, 3] _ rfl (L33 100 0 μ12 σ2 (by omega) (by omega) w2 xz (fun k h1 h2 => by omega) kz fz)
  · skip
    refine v_aload hx DX12_powered_4 0 rfl ?_
    refine v_push hx DX12_powered_5 ?_
    refine v_push hx DX12_powered_7 ?_
    refine v_cVv hx DX12_powered_9 CVRX12_217 [iv 57, iv 56] (r_takesF (o := 57) (a := 56) (A := c) l G Λ sz μ hR hw (by omega) (by omega) hC) hR.o rfl rfl (Nat.le_of_ble_eq_true rfl) (by decide) ⟨Nat.le_refl _, Nat.le_refl _⟩ (fun μ14 hμ14 => ?_)
    have h9 := hμ14
    refine v_goto hx DX12_powered_12 ?_
    exact v_sub [0, 1, 2] _ rfl (L66 μ14 _ h9.1 (by unfold powR; rw [if_pos (by omega)]; exact RFI.wr (o := 57) c) (Or.inl (by omega)) (fun r g0 g1 g2 => by show up (up ρ 114 _) 115 _ r = _; rw [up_ne g2, up_ne g1]) (h9.2.mono (by simp)))
theorem r_isFigure (l : Launch) (G : Gl) (Λ : Lay) (sz : Nat) (μ : Mem) {ν : Nat} {T : List Int} {k : Int} (hR : refK Λ ν) (hT : RT μ ν T) (hk : 0 ≤ k ∧ k ≤ 1000) : Sp l G yX12_isFigure cX12_isFigure 2 (some FieldType.boolean) 1 [.ref ν, iv k] Λ sz μ (pP μ (bz (isFg T k))) := by
  refine Sp.intro (by decide) (Nat.le_of_ble_eq_true rfl) (fun x hx hBD => ?_)
  refine v_lv [(0, .ref ν), (1, iv k)] rfl ?_
  have h90 := hT.1
  refine v_iload hx DX12_isFigure_0 1 rfl ?_
  refine v_aload hx DX12_isFigure_1 0 rfl ?_
  refine v_get hx DX12_isFigure_2 FLRX12_320 hR.o (fv_i rfl hT.2.1 : _ = iv (T.length : Int)) ?_
  refine v_icmp_ge hx DX12_isFigure_5 (by omega) (by omega) (fun c5 => ?_) (fun c5 => ?_)
  · skip
    have e0 : (0 : Int) = bz (isFg T k) := (bz_neg (fun q => by have := q.2.1; omega)).symm
    refine v_push hx DX12_isFigure_28 ?_
    exact v_rz hx hBD (by omega) DX12_isFigure_29 (⟨rfl, e0⟩)
  · skip
    have hm : T.getD k.toNat 0 ∈ T := by
      rw [List.getD_eq_getElem?_getD, List.getElem?_eq_getElem (show k.toNat < T.length by omega)]
      exact List.getElem_mem _
    have hmr := hT.2.2.2 _ hm
    refine v_aload hx DX12_isFigure_8 0 rfl ?_
    refine v_get hx DX12_isFigure_9 FLRX12_99 hR.o (v := .ref (ν + 12)) rfl ?_
    refine v_iload hx DX12_isFigure_12 1 rfl ?_
    refine v_iald hx DX12_isFigure_13 hR.tape (by omega) (by decide) (z := T.getD k.toNat 0) (by have q := hT.2.2.1 k.toNat (by omega); rwa [Int.toNat_of_nonneg (by omega)] at q) ?_
    refine v_push hx DX12_isFigure_14 ?_
    refine v_push hx DX12_isFigure_16 ?_
    refine v_cSp hx DX12_isFigure_18 CSRX12_121 [iv (T.getD k.toNat 0), iv 48, iv 57] (r_in l G Λ sz μ (by omega) (by omega) (by omega)) rfl rfl (Nat.le_of_ble_eq_true rfl) (by decide) ⟨Nat.le_refl _, Nat.le_refl _⟩ ?_
    have br18 := bz_rng (48 ≤ (T.getD k.toNat 0) ∧ (T.getD k.toNat 0) ≤ 57)
    refine v_if_eq hx DX12_isFigure_21 (by omega) (fun c21 => ?_) (fun c21 => ?_)
    · skip
      have d21 := bzf c21
      have e0 : (0 : Int) = bz (isFg T k) := (bz_neg (fun q => d21 q.2.2)).symm
      refine v_push hx DX12_isFigure_28 ?_
      exact v_rz hx hBD (by omega) DX12_isFigure_29 (⟨rfl, e0⟩)
    · skip
      have d21 := bzt c21
      have e0 : (1 : Int) = bz (isFg T k) := (bz_pos ⟨by omega, by omega, d21⟩).symm
      refine v_push hx DX12_isFigure_24 ?_
      refine v_goto hx DX12_isFigure_25 ?_
      exact v_rz hx hBD (by omega) DX12_isFigure_29 (⟨rfl, e0⟩)
theorem r_isAct (l : Launch) (G : Gl) (Λ : Lay) (sz : Nat) (μ : Mem) {c : Int} (hc : inR c) : Sp l G yX12_isAct cX12_isAct 1 (some FieldType.boolean) 0 [iv c] Λ sz μ (pP μ (bz (c = 43 ∨ c = 45 ∨ c = 42 ∨ c = 47))) := by
  refine Sp.intro (by decide) (Nat.le_of_ble_eq_true rfl) (fun x hx hBD => ?_)
  refine v_lv [(0, iv c)] rfl ?_
  refine v_iload hx DX12_isAct_0 0 rfl ?_
  refine v_push hx DX12_isAct_1 ?_
  refine v_icmp_eq hx DX12_isAct_3 (by omega) (by decide) (fun c3 => ?_) (fun c3 => ?_)
  · skip
    have e0 : (1 : Int) = bz (c = 43 ∨ c = 45 ∨ c = 42 ∨ c = 47) := (bz_pos (by omega)).symm
    refine v_push hx DX12_isAct_24 ?_
    refine v_goto hx DX12_isAct_25 ?_
    exact v_rz hx hBD (by omega) DX12_isAct_29 (⟨rfl, e0⟩)
  · skip
    refine v_iload hx DX12_isAct_6 0 rfl ?_
    refine v_push hx DX12_isAct_7 ?_
    refine v_icmp_eq hx DX12_isAct_9 (by omega) (by decide) (fun c9 => ?_) (fun c9 => ?_)
    · skip
      have e0 : (1 : Int) = bz (c = 43 ∨ c = 45 ∨ c = 42 ∨ c = 47) := (bz_pos (by omega)).symm
      refine v_push hx DX12_isAct_24 ?_
      refine v_goto hx DX12_isAct_25 ?_
      exact v_rz hx hBD (by omega) DX12_isAct_29 (⟨rfl, e0⟩)
    · skip
      refine v_iload hx DX12_isAct_12 0 rfl ?_
      refine v_push hx DX12_isAct_13 ?_
      refine v_icmp_eq hx DX12_isAct_15 (by omega) (by decide) (fun c15 => ?_) (fun c15 => ?_)
      · skip
        have e0 : (1 : Int) = bz (c = 43 ∨ c = 45 ∨ c = 42 ∨ c = 47) := (bz_pos (by omega)).symm
        refine v_push hx DX12_isAct_24 ?_
        refine v_goto hx DX12_isAct_25 ?_
        exact v_rz hx hBD (by omega) DX12_isAct_29 (⟨rfl, e0⟩)
      · skip
        refine v_iload hx DX12_isAct_18 0 rfl ?_
        refine v_push hx DX12_isAct_19 ?_
        refine v_icmp_ne hx DX12_isAct_21 (by omega) (by decide) (fun c21 => ?_) (fun c21 => ?_)
        · skip
          have e0 : (0 : Int) = bz (c = 43 ∨ c = 45 ∨ c = 42 ∨ c = 47) := (bz_neg (by omega)).symm
          refine v_push hx DX12_isAct_28 ?_
          exact v_rz hx hBD (by omega) DX12_isAct_29 (⟨rfl, e0⟩)
        · skip
          have e0 : (1 : Int) = bz (c = 43 ∨ c = 45 ∨ c = 42 ∨ c = 47) := (bz_pos (by omega)).symm
          refine v_push hx DX12_isAct_24 ?_
          refine v_goto hx DX12_isAct_25 ?_
          exact v_rz hx hBD (by omega) DX12_isAct_29 (⟨rfl, e0⟩)
