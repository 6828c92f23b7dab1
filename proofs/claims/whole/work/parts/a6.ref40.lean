/-! ===== the reference: read ===== -/
noncomputable def redE (T : List Int) : Int := if fltA T ≠ -1 then -20 - fltA T else (rdM T).1
noncomputable def redA (T : List Int) (f i : Int) : Int := if bz (isTO f i) = 1 then (if redE T ≠ 0 then redE T else ((ftxt (rdM T).2.1 (rdM T).2.2).length : Int)) else -1
noncomputable def redB (b : Bd) (T : List Int) (f i : Int) : Bd := @ite Bd (isTO f i ∧ redE T = 0) (Classical.propDecidable _) (b.sto (5 * f + i + 2) (rdM T).2.1 (rdM T).2.2) b
noncomputable def redH (b : Bd) (h : Hs) (T : List Int) (f i : Int) : Hs := @ite Hs (isTO f i ∧ redE T = 0) (Classical.propDecidable _) (h.push b) h
noncomputable def redT (T : List Int) (f i : Int) : List Int := @ite (List Int) (isTO f i) (Classical.propDecidable _) [] T
theorem RT.nil {m m' : Mem} {ν : Nat} (e : m' = mI m ν 25 0) : RT m' ν [] := ⟨by decide, by rw [e, mI_at, if_pos rfl]; rfl, fun i hi => absurd hi (by simp), fun c hc => absurd hc (by simp)⟩
theorem RT.frN {m m' : Mem} {ν : Nat} {T : List Int} {S : List Nat} {J : List Int} (h : RT m ν T) (f : FrN ν S J m m') (h1 : ν + 12 ∉ S) (h2 : 25 ∉ J) : RT m' ν T := ⟨h.1, (f.2.1 25 h2).trans h.2.1, fun i hi => (congrFun (f.1 (ν + 12) (by omega) h1) (i : Int)).trans (h.2.2.1 i hi), h.2.2.2⟩
theorem FrN.mI0 {ν : Nat} {m m' : Mem} {k z : Int} (e : m' = mI m ν k z) : FrN ν [] [k] m m' := ⟨fun a ha _ => by rw [e, mI_ne ha], fun j hj => by rw [e, mI_at, if_neg (by simpa using hj)], by rw [e]; rfl⟩
theorem redE_w {T : List Int} (h : fltA T = -1) : redE T = (rdM T).1 := if_neg (fun q => q h)
theorem redE_f {T : List Int} (h : 0 ≤ fltA T) : redE T = -20 - fltA T := if_pos (by omega)
theorem red_no {μ m : Mem} {ν : Nat} {b : Bd} {h : Hs} {T : List Int} {f i : Int} (hs : StR m ν b h) (hT : RT m ν []) (e : redE T ≠ 0) (t : isTO f i) : StR m ν (redB b T f i) (redH b h T f i) ∧ RT m ν (redT T f i) := by
  unfold redB redH redT
  rw [if_neg (fun q => e q.2), if_neg (fun q => e q.2), if_pos t]
  exact ⟨hs, hT⟩
theorem run_rng (T : List Int) : ∀ (n : Nat) (k w d er : Int) (a : FP2) (ex : Int) (SA PA : Int → Int) (SV PV : Int → FP2), -3 ≤ er ∧ er ≤ 0 → -3 ≤ (run T n k w d er a ex SA PA SV PV).1 ∧ (run T n k w d er a ex SA PA SV PV).1 ≤ 0 := by
  intro n
  induction n with
  | zero => intro k w d er a ex SA PA SV PV h; exact ⟨by show (-3 : Int) ≤ 0; omega, Int.le_refl 0⟩
  | succ n ih =>
    intro k w d er a ex SA PA SV PV h
    have e1 : -3 ≤ pwE er a ex (PA d) (PV d) ∧ pwE er a ex (PA d) (PV d) ≤ 0 := by
      by_cases c : er = 0
      · rw [c]; exact pwE_rng _ _ _ _
      · have : pwE er a ex (PA d) (PV d) = er := if_pos c
        rw [this]; exact h
    have e2 : ∀ p, -3 ≤ smE (pwE er a ex (PA d) (PV d)) (SA d) (SV d) p ∧ smE (pwE er a ex (PA d) (PV d)) (SA d) (SV d) p ≤ 0 := fun p => by
      unfold smE
      split
      · exact e1
      · exact opA_rng _ _ _
    rw [run]
    repeat' split
    all_goals first | exact e2 _ | exact ih _ _ _ _ _ _ _ _ _ _ h | exact ih _ _ _ _ _ _ _ _ _ _ e1 | exact ih _ _ _ _ _ _ _ _ _ _ (e2 _)
theorem flt_up (T : List Int) : ∀ (n : Nat) (k w d : Int), k ≤ T.length → (T.length : Int) < k + n → flt T n k w d ≤ T.length := by
  intro n
  induction n with
  | zero => intro k w d h hn; exact absurd hn (by omega)
  | succ n ih =>
    intro k w d h hn
    have xr := exd_rng T k
    rw [flt]
    by_cases c : (T.length : Int) ≤ k
    · rw [if_pos c]; split <;> omega
    · have xl := exd_lt (T := T) (k := k) (by omega)
      rw [if_neg c]
      repeat' split
      all_goals first | exact ih _ _ _ (by omega) (by omega) | omega
theorem r_read (l : Launch) (G : Gl) (Λ : Lay) (sz : Nat) (μ : Mem) {ν : Nat} {ρ : Nat → PS} {b : Bd} {h : Hs} {T : List Int} {f i : Int} (hR : refK Λ ν) (ha : RA μ ν ρ b) (hh : RH μ ν h) (hT : RT μ ν T) (rf : inR f) (ri : inR i) : Sp l G yX12_read cX12_read 5 (some FieldType.int) 9 [.ref ν, iv f, iv i] Λ sz μ (pI (fun z μ' => z = redA T f i ∧ (StR μ' ν (redB b T f i) (redH b h T f i) ∧ RT μ' ν (redT T f i)) ∧ FrN ν [ν + 1, ν + 2, ν + 4, ν + 6, ν + 13, ν + 14] [5, 6, 13, 25] μ μ')) := by
  refine Sp.intro (by decide) (Nat.le_of_ble_eq_true rfl) (fun x hx hBD => ?_)
  refine v_lv [(0, .ref ν), (1, iv f), (2, iv i)] rfl ?_
  have h90 := hT.1
  have flr := flt_rng T 92 0 0 0 (by omega)
  have flr : -1 ≤ fltA T := flr
  have flu := flt_up T 92 0 0 0 (by omega) (by omega)
  have flu : fltA T ≤ (T.length : Int) := flu
  refine v_iload hx DX12_read_0 1 rfl ?_
  refine v_iload hx DX12_read_1 2 rfl ?_
  refine v_cSp hx DX12_read_2 CSRX12_151 [iv f, iv i] (r_isTermOf l G Λ sz μ (by omega) (by omega)) rfl rfl (Nat.le_of_ble_eq_true rfl) (by decide) ⟨Nat.le_refl _, Nat.le_refl _⟩ ?_
  have br2 := bz_rng (isTO f i)
  refine v_if_ne hx DX12_read_5 (by omega) (fun c5 => ?_) (fun c5 => ?_)
  · skip
    have d5 := bzt c5
    have d5n := d5.n
    refine v_aload hx DX12_read_10 0 rfl ?_
    refine v_cVp hx DX12_read_11 CVRX12_336 [] (r_fault l G Λ sz μ hR hT) hR.o rfl rfl (Nat.le_of_ble_eq_true rfl) (by decide) ⟨Nat.le_refl _, Nat.le_refl _⟩ ?_
    refine v_istore hx DX12_read_14 [(3, iv (fltA T)), (0, .ref ν), (1, iv f), (2, iv i)] rfl (by decide) ?_
    refine v_iload hx DX12_read_15 0 rfl ?_
    refine v_if_lt hx DX12_read_16 (by omega) (fun c16 => ?_) (fun c16 => ?_)
    · skip
      refine v_aload hx DX12_read_26 1 rfl ?_
      refine v_cVi hx DX12_read_27 CVRX12_339 [] (r_worked l G Λ sz μ hR ha.1 hT (by omega)) hR.o rfl rfl (Nat.le_of_ble_eq_true rfl) (by decide) ⟨Nat.le_refl _, Nat.le_refl _⟩ (fun z6 μ5 hμ5 => ?_)
      obtain ⟨ez, σ1, w1, x1, k1, f27⟩ := hμ5
      subst ez
      have rwr : (rdM T).1 = redE T := (redE_w (by omega)).symm
      have rwg : -3 ≤ (rdM T).1 ∧ (rdM T).1 ≤ 0 := run_rng T 92 0 0 0 0 f00 (-1) _ _ _ _ (by omega)
      refine v_istore hx DX12_read_30 [(4, iv ((rdM T).1)), (3, iv (fltA T)), (0, .ref ν), (1, iv f), (2, iv i)] rfl (by decide) ?_
      refine v_aload hx DX12_read_32 2 rfl ?_
      refine v_push hx DX12_read_33 ?_
      refine v_pI hx DX12_read_34 FPRX12_320 hR.o rfl (ki := 25) rfl (fun μ7 eμ7 => ?_)
      have g34 := FrN.mI0 eμ7
      have t34 : RT μ7 ν [] := RT.nil eμ7
      have a34 : RA μ7 ν σ1 b := (ha.rowsN w1 (fun r hr => k1 r (by omega)) (FrN.of (J := []) f27 (by simp)) (by simp) (by simp) (by simp)).frN g34 (by simp) (by simp) (by simp) (by simp)
      have r34 : RH μ7 ν h := (hh.frN (S := [ν + 1, ν + 2, ν + 13, ν + 14]) (J := []) (FrN.of f27 (by simp)) (by simp) (by simp) (by simp)).frN g34 (by simp) (by simp) (by simp)
      refine v_iload hx DX12_read_37 0 rfl ?_
      refine v_if_eq hx DX12_read_39 (by omega) (fun c39 => ?_) (fun c39 => ?_)
      · skip
        refine v_aload hx DX12_read_45 2 rfl ?_
        refine v_cVv hx DX12_read_46 CVRX12_211 [] (r_remembers (b := b) (h := h) l G Λ sz μ7 hR a34 r34) hR.o rfl rfl (Nat.le_of_ble_eq_true rfl) (by decide) ⟨Nat.le_refl _, Nat.le_refl _⟩ (fun μ8 hμ8 => ?_)
        have h46 := hμ8
        have a46 := a34.frN h46.2 (by simp) (by simp) (by simp) (by simp)
        have t46 := t34.frN h46.2 (by simp) (by simp)
        refine v_aload hx DX12_read_49 2 rfl ?_
        refine v_iload hx DX12_read_50 3 rfl ?_
        refine v_iload hx DX12_read_51 4 rfl ?_
        refine v_cSp hx DX12_read_52 CSRX12_155 [iv f, iv i] (r_term l G Λ sz μ8 (by omega)) rfl rfl (Nat.le_of_ble_eq_true rfl) (by decide) ⟨Nat.le_refl _, Nat.le_refl _⟩ ?_
        refine v_push hx DX12_read_55 ?_
        refine v_cVv hx DX12_read_57 CVRX12_217 [iv ((5 * f + i + 2).toNat : Int), iv 42] (r_takesF (o := ((5 * f + i + 2).toNat : Int)) (a := 42) (A := (rdM T).2) l G Λ sz μ8 hR a46.1 (by omega) (by omega) (x1 (by omega)).1) hR.o rfl rfl (Nat.le_of_ble_eq_true rfl) (by decide) ⟨Nat.le_refl _, Nat.le_refl _⟩ (fun μ12 hμ12 => ?_)
        have h57 := hμ12
        have fk := (x1 (by omega)).2
        have tt : (((5 * f + i + 2).toNat : Nat) : Int) = (5 * f + i + 2) := by omega
        have a57 := a46.sto (t := ((5 * f + i + 2).toNat : Int)) (A := (rdM T).2) (by omega) h57.1 h57.2 (PS.lt_mono (PS.flt fk.1.1) fk.2.1) (PS.lt_mono (PS.flt fk.1.2.1) fk.2.2)
        rw [tt] at a57
        have r57 := h46.1.frN (S := [ν + 1]) (J := []) (FrN.of h57.2 (by simp)) (by simp) (by simp) (by simp)
        have t57 := t46.frN (S := [ν + 1]) (J := []) (FrN.of h57.2 (by simp)) (by simp) (by simp)
        have e1 : up (up σ1 (2 * (5 * f + i + 2).toNat) (rdM T).2.1) (2 * (5 * f + i + 2).toNat + 1) (rdM T).2.2 (2 * (5 * f + i + 2).toNat) = (rdM T).2.1 := by rw [up_ne (by omega), up_at]
        have e2 : up (up σ1 (2 * (5 * f + i + 2).toNat) (rdM T).2.1) (2 * (5 * f + i + 2).toNat + 1) (rdM T).2.2 (2 * (5 * f + i + 2).toNat + 1) = (rdM T).2.2 := up_at
        refine v_aload hx DX12_read_60 2 rfl ?_
        refine v_iload hx DX12_read_61 3 rfl ?_
        refine v_iload hx DX12_read_62 4 rfl ?_
        refine v_cSp hx DX12_read_63 CSRX12_155 [iv f, iv i] (r_term l G Λ sz μ12 (by omega)) rfl rfl (Nat.le_of_ble_eq_true rfl) (by decide) ⟨Nat.le_refl _, Nat.le_refl _⟩ ?_
        refine v_cVi hx DX12_read_66 CVRX12_174 [iv ((5 * f + i + 2).toNat : Int)] (r_tells (f := (5 * f + i + 2).toNat) l G Λ sz μ12 hR h57.1 (by omega) (by show (up _ _ _ (2 * (5 * f + i + 2).toNat)).size ≤ 7; exact Nat.le_trans (Nat.le_of_eq (congrArg PS.size e1)) fk.2.1) (by show (up _ _ _ (2 * (5 * f + i + 2).toNat + 1)).size ≤ 5; exact Nat.le_trans (Nat.le_of_eq (congrArg PS.size e2)) fk.2.2)) hR.o rfl rfl (Nat.le_of_ble_eq_true rfl) (by decide) ⟨Nat.le_refl _, Nat.le_refl _⟩ (fun z17 μ16 hμ16 => ?_)
        obtain ⟨ez6, l6, f6⟩ := hμ16
        have ez6 : z17 = ((ftxt (rdM T).2.1 (rdM T).2.2).length : Int) := by
          rw [ez6]
          show ((ftxt (up (up σ1 (2 * (5 * f + i + 2).toNat) (rdM T).2.1) (2 * (5 * f + i + 2).toNat + 1) (rdM T).2.2 (2 * (5 * f + i + 2).toNat)) (up (up σ1 (2 * (5 * f + i + 2).toNat) (rdM T).2.1) (2 * (5 * f + i + 2).toNat + 1) (rdM T).2.2 (2 * (5 * f + i + 2).toNat + 1))).length : Int) = _
          rw [e1, e2]
        exact v_ri hx hBD DX12_read_69 (⟨by unfold redA; rw [if1 d5, if_neg (by omega)]; exact ez6, by unfold redB redH redT; rw [if_pos ⟨d5, by omega⟩, if_pos ⟨d5, by omega⟩, if_pos d5]; exact ⟨⟨⟨_, a57.frN f6 (by simp) (by simp) (by simp) (by simp)⟩, r57.frN f6 (by simp) (by simp) (by simp)⟩, t57.frN f6 (by simp) (by simp)⟩, ((((FrN.of (f27.mono (by simp)) (by simp)).trans (g34.mono (by simp) (by simp))).trans (h46.2.mono (by simp) (by simp))).trans (FrN.of (h57.2.mono (by simp)) (by simp))).trans (f6.mono (by simp) (by simp))⟩)
      · skip
        refine v_iload hx DX12_read_42 0 rfl ?_
        exact v_ri hx hBD DX12_read_44 (⟨by unfold redA; rw [if1 d5, if_pos (by omega)]; omega, red_no (μ := μ) ⟨⟨_, a34⟩, r34⟩ t34 (by omega) d5, (FrN.of (f27.mono (by simp)) (by simp)).trans (g34.mono (by simp) (by simp))⟩)
    · skip
      refine v_push hx DX12_read_19 ?_
      refine v_iload hx DX12_read_21 0 rfl ?_
      refine v_isub hx DX12_read_22 ?_
      refine v_goto hx DX12_read_23 ?_
      refine v_istore hx DX12_read_30 [(4, iv ((-20) - (fltA T))), (3, iv (fltA T)), (0, .ref ν), (1, iv f), (2, iv i)] rfl (by decide) ?_
      refine v_aload hx DX12_read_32 2 rfl ?_
      refine v_push hx DX12_read_33 ?_
      refine v_pI hx DX12_read_34 FPRX12_320 hR.o rfl (ki := 25) rfl (fun μ18 eμ18 => ?_)
      have g34 := FrN.mI0 eμ18
      have t34 : RT μ18 ν [] := RT.nil eμ18
      have a34 : RA μ18 ν ρ b := ha.frN g34 (by simp) (by simp) (by simp) (by simp)
      have r34 : RH μ18 ν h := hh.frN g34 (by simp) (by simp) (by simp)
      refine v_iload hx DX12_read_37 0 rfl ?_
      refine v_if_eq hx DX12_read_39 (by omega) (fun c39 => ?_) (fun c39 => ?_)
      · skip
        exact absurd c39 (by omega)
      · skip
        refine v_iload hx DX12_read_42 0 rfl ?_
        exact v_ri hx hBD DX12_read_44 (⟨by unfold redA; rw [if1 d5, redE_f (by omega), if_pos (by omega)], red_no (μ := μ) ⟨⟨_, a34⟩, r34⟩ t34 (by rw [redE_f (by omega)]; omega) d5, g34.mono (by simp) (by simp)⟩)
  · skip
    have d5 := bzf c5
    
    refine v_push hx DX12_read_8 ?_
    exact v_ri hx hBD DX12_read_9 (⟨by unfold redA; rw [if0 d5], by unfold redB redH redT; rw [if_neg (fun q => d5 q.1), if_neg (fun q => d5 q.1), if_neg d5]; exact ⟨⟨⟨ρ, ha⟩, hh⟩, hT⟩, FrN.rf⟩)
