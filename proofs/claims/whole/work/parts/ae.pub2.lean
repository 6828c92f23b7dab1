/-! ===== the class: image, restore, tower, type, read ===== -/
theorem IMA.any {μ : Mem} {g : Nat} {im : Option (Bd × Hs)} (h : IMA μ g im) : ∃ c k, BA μ (g + 24) c ∧ HA μ (g + 27) k := by
  cases im with
  | none => exact h.2
  | some p => exact ⟨p.1, p.2, h.2⟩
theorem KS.img {Λ : Lay} {g : Nat} {μ0 μ m1 m2 m3 : Mem} {b : Bd} {h : Hs} {im : Option (Bd × Hs)} {T : List Int} {S : Int → Sht} (hK : GK Λ g) (c : KS Λ μ0 μ g b h im T S) (hb : BA m1 (g + 24) b) (f1 : FrB (g + 24) μ m1) (hh : HA m2 (g + 27) h) (f2 : FrI (g + 27) (g + 27 + 19) m1 m2) (e3 : m3 = mI m2 g 4 1) : KS Λ μ0 m3 g b h (some (b, h)) T S := by
  obtain ⟨⟨π, hA⟩, c2, c3, c4, c5, c6, c7, cw, c8⟩ := c
  have bo := hK.2.1.2.2.1.off
  have fc1 : FC Λ (fun a => a = g ∨ (g + 24 ≤ a ∧ a ≤ g + 46)) μ m1 := f1.i.fc (fun a h0 h1 => by
    have : a = g + 24 ∨ a = g + 24 + 1 ∨ a = g + 24 + 2 := by omega
    rcases this with rfl | rfl | rfl
    · exact bo.1
    · exact bo.2.1
    · exact bo.2.2) hA (fun a h0 h1 => Or.inr ⟨h0, by omega⟩)
  obtain ⟨π1, hA1⟩ := fc1.2
  have fc2 : FC Λ (fun a => a = g ∨ (g + 24 ≤ a ∧ a ≤ g + 46)) m1 m2 := f2.fc hK.2.1.2.2.2.off hA1 (fun a h0 h1 => Or.inr ⟨by omega, by omega⟩)
  obtain ⟨π2, hA2⟩ := fc2.2
  have f3 : FrI g g m2 m3 := ⟨fun a ha => by rw [e3, mI_ne (by omega)], by rw [e3]; rfl⟩
  have fc3 : FC Λ (fun a => a = g ∨ (g + 24 ≤ a ∧ a ≤ g + 46)) m2 m3 := f3.fc (fun a h0 h1 => by obtain rfl : a = g := by omega
                                                                                                 exact hK.off) hA2 (fun a h0 h1 => Or.inl (by omega))
  have fc := (fc1.trans fc2).trans fc3
  have rk := hK.2.2.2.1.2.2.2.2.2.1
  have e := (fc.1 (g + 263) rk.off.1 (by omega)).1
  refine ⟨fc.2, c2.fc hK.2.1.1 fc ⟨by omega, by omega, by omega⟩, c3.fc hK.2.1.2.1 fc (fun a h0 h1 => by omega), ⟨by rw [e3, mI_at, if_pos rfl], (hb.i f2 (by omega)).i f3 (by omega), hh.i f3 (by omega)⟩, c5.fc rk fc ⟨by omega, by omega⟩, by rw [e]; exact c6, fun k hk => (c7 k hk).fc (hK.2.2.2.2.2.1 k hk) fc ⟨by omega, by omega⟩, WA.fc cw hK.2.2.2.1.2.2.2.2.2.2 fc ⟨by omega, by omega⟩, fc.out hK (fun a q => by omega) c8⟩
def rsoB (b : Bd) (im : Option (Bd × Hs)) : Bd := match im with
  | none => b
  | some p => p.1
def rsoH (h : Hs) (im : Option (Bd × Hs)) : Hs := match im with
  | none => h
  | some p => p.2
theorem isN_i {a : Int} (h : inR a) : isN ((Int32.ofInt a).toInt64) ↔ (0 ≤ a ∧ a ≤ 100) := by
  unfold isN
  rw [Int32.toInt_toInt64, ofI_int h]
  omega
noncomputable def twB (b : Bd) (q a0 a1 a2 a3 : Int) : Bd := if 0 ≤ towA b q a0 a1 a2 a3 then b.tow q a0 a1 a2 a3 else b
noncomputable def twH (b : Bd) (h : Hs) (q a0 a1 a2 a3 : Int) : Hs := if 0 ≤ towA b q a0 a1 a2 a3 then h.push b else h
theorem tw_no {Λ : Lay} {g : Nat} {μ0 μ : Mem} {b : Bd} {h : Hs} {im : Option (Bd × Hs)} {T : List Int} {S : Int → Sht} {q a0 a1 a2 a3 z : Int} (hC : KS Λ μ0 μ g b h im T S) (e : z = towA b q a0 a1 a2 a3) (hz : z < 0) : z = towA b q a0 a1 a2 a3 ∧ KS Λ μ0 μ g (twB b q a0 a1 a2 a3) (twH b h q a0 a1 a2 a3) im T S := by
  unfold twB twH
  rw [if_neg (by omega), if_neg (by omega)]; exact ⟨e, hC⟩
theorem typT_no {T : List Int} {c : Int} (h : ¬ ((32 ≤ c ∧ c ≤ 126) ∧ T.length ≠ 90)) : typT T c = T := if_neg (by rw [bz_neg h]; decide)
theorem ty_eq {T : List Int} {c : Int} (h : 32 ≤ c ∧ c ≤ 126) : (if T.length = 90 then T else T ++ [c]) = typT T c := by
  by_cases q : T.length = 90
  · rw [if_pos q, typT_no (fun t => t.2 q)]
  · rw [if_neg q]; exact (if_pos (bz_pos ⟨h, q⟩)).symm
theorem p_image (l : Launch) (G : Gl) (Λ : Lay) (sz : Nat) (μ : Mem) {g : Nat} {μ0 : Mem} {b : Bd} {h : Hs} {im : Option (Bd × Hs)} {T : List Int} {S : Int → Sht} (hG : GK Λ g) (hC : KS Λ μ0 μ g b h im T S) (hI : INV G Λ) (hgd : b.good) : Sp l G yX11_image cX11_image 1 (some FieldType.int) 3 [.ref g] Λ sz μ (pI (fun z μ' => z = 1 ∧ KS Λ μ μ' g b h (some (b, h)) T S)) := by
  refine Sp.intro (by decide) (Nat.le_of_ble_eq_true rfl) (fun x hx hBD => ?_)
  refine v_lv [(0, .ref g)] rfl ?_
  have hGG := hG
  obtain ⟨hG0, ⟨kB, kH, kB2, kH2⟩, ⟨kSh, kRs⟩, ⟨kK, kSp, kP, kQ, kRe, kRd, kW⟩, ⟨kGi, kSe, kTo, kAn⟩, kS4, kR5, kOut⟩ := hG
  have hG := hGG
  have hCs := hC.start
  obtain ⟨⟨π, hA⟩, hb, hh, him, hT, hdg, hSh, hWr, hout⟩ := hC
  have bok := hb.1
  obtain ⟨c0, k0, hc0, hk0⟩ := him.any
  refine v_aload hx DX11_image_0 0 rfl ?_
  refine v_get hx DX11_image_1 FLRX11_23 hG.1 (v := .ref (g + 24)) rfl ?_
  refine v_aload hx DX11_image_4 0 rfl ?_
  refine v_get hx DX11_image_5 FLRX11_12 hG.1 (v := .ref (g + 1)) rfl ?_
  refine v_cVv hx DX11_image_8 CVRX11_319 [.ref (g + 1)] (b_become (β := g + 24) (α := g + 1) (b := c0) (c := b) l G Λ sz μ kB2 hc0 kB hb (by omega)) kB2.1 rfl rfl (Nat.le_of_ble_eq_true rfl) (by decide) ⟨Nat.le_refl _, Nat.le_refl _⟩ (fun μ1 hμ1 => ?_)
  obtain ⟨q1, f1⟩ := hμ1
  refine v_aload hx DX11_image_11 0 rfl ?_
  refine v_get hx DX11_image_12 FLRX11_26 hG.1 (v := .ref (g + 27)) rfl ?_
  refine v_aload hx DX11_image_15 0 rfl ?_
  refine v_get hx DX11_image_16 FLRX11_19 hG.1 (v := .ref (g + 4)) rfl ?_
  refine v_cVv hx DX11_image_19 CVRX11_322 [.ref (g + 4)] (h_become (η := g + 27) (α := g + 4) (h := k0) (g := h) l G Λ sz μ1 kH2 kH (hk0.i f1.i (by omega)) (hh.i f1.i (by omega)) (by omega)) kH2.1 rfl rfl (Nat.le_of_ble_eq_true rfl) (by decide) ⟨Nat.le_refl _, Nat.le_refl _⟩ (fun μ3 hμ3 => ?_)
  obtain ⟨q2, f2⟩ := hμ3
  refine v_aload hx DX11_image_22 0 rfl ?_
  refine v_push hx DX11_image_23 ?_
  refine v_pZ hx DX11_image_24 FPRX11_29 hG.1 rfl (ki := 4) rfl (by omega) (fun μ5 eμ5 => ?_)
  refine v_push hx DX11_image_27 ?_
  exact v_ri hx hBD DX11_image_28 (⟨rfl, hCs.img hGG q1 f1 q2 f2 eμ5⟩)
theorem p_restore (l : Launch) (G : Gl) (Λ : Lay) (sz : Nat) (μ : Mem) {g : Nat} {μ0 : Mem} {b : Bd} {h : Hs} {im : Option (Bd × Hs)} {T : List Int} {S : Int → Sht} (hG : GK Λ g) (hC : KS Λ μ0 μ g b h im T S) (hI : INV G Λ) (hgd : b.good) : Sp l G yX11_restore cX11_restore 1 (some FieldType.int) 3 [.ref g] Λ sz μ (pI (fun z μ' => z = (if im = none then -4 else 1) ∧ KS Λ μ μ' g (rsoB b im) (rsoH h im) im T S)) := by
  refine Sp.intro (by decide) (Nat.le_of_ble_eq_true rfl) (fun x hx hBD => ?_)
  refine v_lv [(0, .ref g)] rfl ?_
  have hGG := hG
  obtain ⟨hG0, ⟨kB, kH, kB2, kH2⟩, ⟨kSh, kRs⟩, ⟨kK, kSp, kP, kQ, kRe, kRd, kW⟩, ⟨kGi, kSe, kTo, kAn⟩, kS4, kR5, kOut⟩ := hG
  have hG := hGG
  have hCs := hC.start
  obtain ⟨⟨π, hA⟩, hb, hh, him, hT, hdg, hSh, hWr, hout⟩ := hC
  have bok := hb.1
  by_cases hm : im = none
  · skip
    subst hm
    have hs : μ.1 g 4 = 0 := him.1
    refine v_aload hx DX11_restore_0 0 rfl ?_
    refine v_get hx DX11_restore_1 FLRX11_29 hG.1 (fv_i rfl hs : _ = iv 0) ?_
    refine v_if_ne hx DX11_restore_4 (by decide) (fun c4 => ?_) (fun c4 => ?_)
    · exact absurd c4 (by decide)
    · skip
      refine v_push hx DX11_restore_7 ?_
      exact v_ri hx hBD DX11_restore_9 (⟨(if_pos rfl).symm, hCs⟩)
  · skip
    obtain ⟨p, rfl⟩ : ∃ p, im = some p := by
      cases im with
      | none => exact absurd rfl hm
      | some p => exact ⟨p, rfl⟩
    have hs : μ.1 g 4 = 1 := him.1
    refine v_aload hx DX11_restore_0 0 rfl ?_
    refine v_get hx DX11_restore_1 FLRX11_29 hG.1 (fv_i rfl hs : _ = iv 1) ?_
    refine v_if_ne hx DX11_restore_4 (by decide) (fun c4 => ?_) (fun c4 => ?_)
    · skip
      refine v_aload hx DX11_restore_10 0 rfl ?_
      refine v_get hx DX11_restore_11 FLRX11_12 hG.1 (v := .ref (g + 1)) rfl ?_
      refine v_aload hx DX11_restore_14 0 rfl ?_
      refine v_get hx DX11_restore_15 FLRX11_23 hG.1 (v := .ref (g + 24)) rfl ?_
      refine v_cVv hx DX11_restore_18 CVRX11_319 [.ref (g + 24)] (b_become (β := g + 1) (α := g + 24) (b := b) (c := p.1) l G Λ sz μ kB hb kB2 him.2.1 (by omega)) kB.1 rfl rfl (Nat.le_of_ble_eq_true rfl) (by decide) ⟨Nat.le_refl _, Nat.le_refl _⟩ (fun μ1 hμ1 => ?_)
      obtain ⟨q1, f1⟩ := hμ1
      have k1 := hCs.brd hGG q1 f1
      refine v_aload hx DX11_restore_21 0 rfl ?_
      refine v_get hx DX11_restore_22 FLRX11_19 hG.1 (v := .ref (g + 4)) rfl ?_
      refine v_aload hx DX11_restore_25 0 rfl ?_
      refine v_get hx DX11_restore_26 FLRX11_26 hG.1 (v := .ref (g + 27)) rfl ?_
      refine v_cVv hx DX11_restore_29 CVRX11_322 [.ref (g + 27)] (h_become (η := g + 4) (α := g + 27) (h := h) (g := p.2) l G Λ sz μ1 kH kH2 k1.2.2.1 (him.2.2.i f1.i (by omega)) (by omega)) kH.1 rfl rfl (Nat.le_of_ble_eq_true rfl) (by decide) ⟨Nat.le_refl _, Nat.le_refl _⟩ (fun μ3 hμ3 => ?_)
      obtain ⟨q2, f2⟩ := hμ3
      have k2 := k1.hst hGG q2 f2
      refine v_push hx DX11_restore_32 ?_
      exact v_ri hx hBD DX11_restore_33 (⟨(if_neg (fun q => by cases q)).symm, k2⟩)
    · exact absurd c4 (by decide)
theorem p_tower (l : Launch) (G : Gl) (Λ : Lay) (sz : Nat) (μ : Mem) {g : Nat} {μ0 : Mem} {b : Bd} {h : Hs} {im : Option (Bd × Hs)} {T : List Int} {S : Int → Sht} {q a0 a1 a2 a3 : Int} (hG : GK Λ g) (hC : KS Λ μ0 μ g b h im T S) (hI : INV G Λ) (hgd : b.good) (rq : inR q) (ra0 : inR a0) (ra1 : inR a1) (ra2 : inR a2) (ra3 : inR a3) : Sp l G yX11_tower cX11_tower 7 (some FieldType.int) 3 [.ref g, iv q, iv a0, iv a1, iv a2, iv a3] Λ sz μ (pI (fun z μ' => z = towA b q a0 a1 a2 a3 ∧ KS Λ μ μ' g (twB b q a0 a1 a2 a3) (twH b h q a0 a1 a2 a3) im T S)) := by
  refine Sp.intro (by decide) (Nat.le_of_ble_eq_true rfl) (fun x hx hBD => ?_)
  refine v_lv [(0, .ref g), (1, iv q), (2, iv a0), (3, iv a1), (4, iv a2), (5, iv a3)] rfl ?_
  have hGG := hG
  obtain ⟨hG0, ⟨kB, kH, kB2, kH2⟩, ⟨kSh, kRs⟩, ⟨kK, kSp, kP, kQ, kRe, kRd, kW⟩, ⟨kGi, kSe, kTo, kAn⟩, kS4, kR5, kOut⟩ := hG
  have hG := hGG
  have hCs := hC.start
  obtain ⟨⟨π, hA⟩, hb, hh, him, hT, hdg, hSh, hWr, hout⟩ := hC
  have bok := hb.1
  refine v_iload hx DX11_tower_0 1 rfl ?_
  refine v_push hx DX11_tower_1 ?_
  refine v_push hx DX11_tower_2 ?_
  refine v_cSp hx DX11_tower_3 CSRX11_117 [iv q, iv 0, iv 2] (c_within l G Λ sz μ (by omega) (by omega) (by omega)) rfl rfl (Nat.le_of_ble_eq_true rfl) (by decide) ⟨Nat.le_refl _, Nat.le_refl _⟩ ?_
  have br3 := bz_rng (0 ≤ q ∧ q ≤ 2)
  refine v_if_eq hx DX11_tower_6 (by omega) (fun c6 => ?_) (fun c6 => ?_)
  · skip
    have d6 := bzf c6
    refine v_push hx DX11_tower_43 ?_
    exact v_ri hx hBD DX11_tower_44 (tw_no hCs (by unfold towA; rw [if0 (fun t => by exact d6 t.1)]) (by decide))
  · skip
    have d6 := bzt c6
    refine v_iload hx DX11_tower_9 2 rfl ?_
    refine v_i2l hx DX11_tower_10 (w := (Int32.ofInt a0).toInt64) rfl ?_
    refine v_cSp hx DX11_tower_11 CSRX11_190 [.long ((Int32.ofInt a0).toInt64)] (n_isNumber l G Λ sz μ) rfl rfl (Nat.le_of_ble_eq_true rfl) (by decide) ⟨Nat.le_refl _, Nat.le_refl _⟩ ?_
    have br11 := bz_rng (isN ((Int32.ofInt a0).toInt64))
    refine v_if_eq hx DX11_tower_14 (by omega) (fun c14 => ?_) (fun c14 => ?_)
    · skip
      have d14 := bzf c14
      have na0 := fun q => d14 ((isN_i (a := a0) (by omega)).mpr q)
      refine v_push hx DX11_tower_43 ?_
      exact v_ri hx hBD DX11_tower_44 (tw_no hCs (by unfold towA; rw [if0 (fun t => by exact na0 t.2.1)]) (by decide))
    · skip
      have d14 := bzt c14
      have na0 := (isN_i (a := a0) (by omega)).mp d14
      refine v_iload hx DX11_tower_17 3 rfl ?_
      refine v_i2l hx DX11_tower_18 (w := (Int32.ofInt a1).toInt64) rfl ?_
      refine v_cSp hx DX11_tower_19 CSRX11_190 [.long ((Int32.ofInt a1).toInt64)] (n_isNumber l G Λ sz μ) rfl rfl (Nat.le_of_ble_eq_true rfl) (by decide) ⟨Nat.le_refl _, Nat.le_refl _⟩ ?_
      have br19 := bz_rng (isN ((Int32.ofInt a1).toInt64))
      refine v_if_eq hx DX11_tower_22 (by omega) (fun c22 => ?_) (fun c22 => ?_)
      · skip
        have d22 := bzf c22
        have na1 := fun q => d22 ((isN_i (a := a1) (by omega)).mpr q)
        refine v_push hx DX11_tower_43 ?_
        exact v_ri hx hBD DX11_tower_44 (tw_no hCs (by unfold towA; rw [if0 (fun t => by exact na1 t.2.2.1)]) (by decide))
      · skip
        have d22 := bzt c22
        have na1 := (isN_i (a := a1) (by omega)).mp d22
        refine v_iload hx DX11_tower_25 4 rfl ?_
        refine v_i2l hx DX11_tower_27 (w := (Int32.ofInt a2).toInt64) rfl ?_
        refine v_cSp hx DX11_tower_28 CSRX11_190 [.long ((Int32.ofInt a2).toInt64)] (n_isNumber l G Λ sz μ) rfl rfl (Nat.le_of_ble_eq_true rfl) (by decide) ⟨Nat.le_refl _, Nat.le_refl _⟩ ?_
        have br28 := bz_rng (isN ((Int32.ofInt a2).toInt64))
        refine v_if_eq hx DX11_tower_31 (by omega) (fun c31 => ?_) (fun c31 => ?_)
        · skip
          have d31 := bzf c31
          have na2 := fun q => d31 ((isN_i (a := a2) (by omega)).mpr q)
          refine v_push hx DX11_tower_43 ?_
          exact v_ri hx hBD DX11_tower_44 (tw_no hCs (by unfold towA; rw [if0 (fun t => by exact na2 t.2.2.2.1)]) (by decide))
        · skip
          have d31 := bzt c31
          have na2 := (isN_i (a := a2) (by omega)).mp d31
          refine v_iload hx DX11_tower_34 5 rfl ?_
          refine v_i2l hx DX11_tower_36 (w := (Int32.ofInt a3).toInt64) rfl ?_
          refine v_cSp hx DX11_tower_37 CSRX11_190 [.long ((Int32.ofInt a3).toInt64)] (n_isNumber l G Λ sz μ) rfl rfl (Nat.le_of_ble_eq_true rfl) (by decide) ⟨Nat.le_refl _, Nat.le_refl _⟩ ?_
          have br37 := bz_rng (isN ((Int32.ofInt a3).toInt64))
          refine v_if_ne hx DX11_tower_40 (by omega) (fun c40 => ?_) (fun c40 => ?_)
          · skip
            have d40 := bzt c40
            have na3 := (isN_i (a := a3) (by omega)).mp d40
            refine v_iload hx DX11_tower_45 5 rfl ?_
            refine v_if_eq hx DX11_tower_47 (by omega) (fun c47 => ?_) (fun c47 => ?_)
            · skip
              refine v_iload hx DX11_tower_54 4 rfl ?_
              refine v_if_eq hx DX11_tower_56 (by omega) (fun c56 => ?_) (fun c56 => ?_)
              · skip
                refine v_iload hx DX11_tower_63 3 rfl ?_
                refine v_if_eq hx DX11_tower_64 (by omega) (fun c64 => ?_) (fun c64 => ?_)
                · skip
                  refine v_push hx DX11_tower_71 ?_
                  refine v_istore hx DX11_tower_72 [(6, iv 0), (0, .ref g), (1, iv q), (2, iv a0), (3, iv a1), (4, iv a2), (5, iv a3)] rfl (by decide) ?_
                  have mo : mostI a1 a2 a3 = 0 := by unfold mostI; rw [if_neg (by omega), if_neg (by omega), if_neg (by omega)]
                  refine v_iload hx DX11_tower_74 2 rfl ?_
                  refine v_if_ne hx DX11_tower_75 (by omega) (fun c75 => ?_) (fun c75 => ?_)
                  · skip
                    refine v_iload hx DX11_tower_89 2 rfl ?_
                    refine v_if_eq hx DX11_tower_90 (by omega) (fun c90 => ?_) (fun c90 => ?_)
                    · exact absurd c90 (by omega)
                    · skip
                      refine v_iload hx DX11_tower_93 0 rfl ?_
                      refine v_if_eq hx DX11_tower_95 (by decide) (fun c95 => ?_) (fun c95 => ?_)
                      · skip
                        refine v_push hx DX11_tower_115 ?_
                        exact v_ri hx hBD DX11_tower_117 (tw_no hCs (by unfold towA; rw [if1 ⟨by omega, by omega, by omega, by omega, by omega, fun _ => by omega⟩, if1 (Or.inr ⟨by omega, by omega⟩)]) (by decide))
                      · exact absurd c95 (by decide)
                  · skip
                    refine v_iload hx DX11_tower_78 0 rfl ?_
                    refine v_if_gt hx DX11_tower_80 (by decide) (fun c80 => ?_) (fun c80 => ?_)
                    · exact absurd c80 (by decide)
                    · skip
                      refine v_iload hx DX11_tower_83 3 rfl ?_
                      refine v_if_eq hx DX11_tower_84 (by omega) (fun c84 => ?_) (fun c84 => ?_)
                      · skip
                        refine v_iload hx DX11_tower_89 2 rfl ?_
                        refine v_if_eq hx DX11_tower_90 (by omega) (fun c90 => ?_) (fun c90 => ?_)
                        · skip
                          refine v_aload hx DX11_tower_98 1 rfl ?_
                          refine v_get hx DX11_tower_99 FLRX11_12 hG.1 (v := .ref (g + 1)) rfl ?_
                          refine v_iload hx DX11_tower_102 2 rfl ?_
                          refine v_iload hx DX11_tower_103 3 rfl ?_
                          refine v_iload hx DX11_tower_104 4 rfl ?_
                          refine v_iload hx DX11_tower_105 5 rfl ?_
                          refine v_iload hx DX11_tower_107 6 rfl ?_
                          refine v_cVp hx DX11_tower_109 CVRX11_194 [iv q, iv a0, iv a1, iv a2, iv a3] (b_hasTower l G Λ sz μ kB hb (by omega) (by omega) (by omega) (by omega) (by omega)) kB.1 rfl rfl (Nat.le_of_ble_eq_true rfl) (by decide) ⟨Nat.le_refl _, Nat.le_refl _⟩ ?_
                          have br109 := bz_rng (b.twr q a0 a1 a2 a3)
                          refine v_if_eq hx DX11_tower_112 (by omega) (fun c112 => ?_) (fun c112 => ?_)
                          · skip
                            have d112 := bzf c112
                            refine v_aload hx DX11_tower_118 1 rfl ?_
                            refine v_get hx DX11_tower_119 FLRX11_19 hG.1 (v := .ref (g + 4)) rfl ?_
                            refine v_aload hx DX11_tower_122 1 rfl ?_
                            refine v_get hx DX11_tower_123 FLRX11_12 hG.1 (v := .ref (g + 1)) rfl ?_
                            refine v_cVv hx DX11_tower_126 CVRX11_182 [.ref (g + 1)] (h_push l G Λ sz μ kH kB hh hb (by omega)) kH.1 rfl rfl (Nat.le_of_ble_eq_true rfl) (by decide) ⟨Nat.le_refl _, Nat.le_refl _⟩ (fun μ13 hμ13 => ?_)
                            obtain ⟨q1, f1⟩ := hμ13
                            have k1 := hCs.hst hGG q1 f1
                            refine v_aload hx DX11_tower_129 1 rfl ?_
                            refine v_get hx DX11_tower_130 FLRX11_12 hG.1 (v := .ref (g + 1)) rfl ?_
                            refine v_iload hx DX11_tower_133 2 rfl ?_
                            refine v_iload hx DX11_tower_134 3 rfl ?_
                            refine v_iload hx DX11_tower_135 4 rfl ?_
                            refine v_iload hx DX11_tower_136 5 rfl ?_
                            refine v_iload hx DX11_tower_138 6 rfl ?_
                            refine v_cVv hx DX11_tower_140 CVRX11_198 [iv q, iv a0, iv a1, iv a2, iv a3] (b_setTower l G Λ sz μ13 kB k1.2.1 (by omega) (by omega) (by omega) (by omega) (by omega)) kB.1 rfl rfl (Nat.le_of_ble_eq_true rfl) (by decide) ⟨Nat.le_refl _, Nat.le_refl _⟩ (fun μ15 hμ15 => ?_)
                            obtain ⟨q2, f2⟩ := hμ15
                            have k2 := k1.brd hGG q2 f2
                            refine v_iload hx DX11_tower_143 0 rfl ?_
                            exact v_ri hx hBD DX11_tower_145 (by have e : towA b q a0 a1 a2 a3 = 0 := (by unfold towA; rw [if1 ⟨by omega, by omega, by omega, by omega, by omega, fun _ => by omega⟩, if0 (fun t => t.elim d112 (fun s => by omega))]; exact mo); refine ⟨e.symm, ?_⟩; unfold twB twH; rw [e, if_pos (by decide), if_pos (by decide)]; exact k2)
                          · skip
                            have d112 := bzt c112
                            refine v_push hx DX11_tower_115 ?_
                            exact v_ri hx hBD DX11_tower_117 (tw_no hCs (by unfold towA; rw [if1 ⟨by omega, by omega, by omega, by omega, by omega, fun _ => by omega⟩, if1 (Or.inl d112)]) (by decide))
                        · exact absurd c90 (by omega)
                      · skip
                        refine v_push hx DX11_tower_87 ?_
                        exact v_ri hx hBD DX11_tower_88 (tw_no hCs (by unfold towA; rw [if0 (fun t => by have := t.2.2.2.2.2 (by omega); omega)]) (by decide))
                · skip
                  refine v_push hx DX11_tower_67 ?_
                  refine v_goto hx DX11_tower_68 ?_
                  refine v_istore hx DX11_tower_72 [(6, iv 1), (0, .ref g), (1, iv q), (2, iv a0), (3, iv a1), (4, iv a2), (5, iv a3)] rfl (by decide) ?_
                  have mo : mostI a1 a2 a3 = 1 := by unfold mostI; rw [if_neg (by omega), if_neg (by omega), if_pos (by omega)]
                  refine v_iload hx DX11_tower_74 2 rfl ?_
                  refine v_if_ne hx DX11_tower_75 (by omega) (fun c75 => ?_) (fun c75 => ?_)
                  · skip
                    refine v_iload hx DX11_tower_89 2 rfl ?_
                    refine v_if_eq hx DX11_tower_90 (by omega) (fun c90 => ?_) (fun c90 => ?_)
                    · exact absurd c90 (by omega)
                    · skip
                      refine v_iload hx DX11_tower_93 0 rfl ?_
                      refine v_if_eq hx DX11_tower_95 (by decide) (fun c95 => ?_) (fun c95 => ?_)
                      · exact absurd c95 (by decide)
                      · skip
                        refine v_aload hx DX11_tower_98 1 rfl ?_
                        refine v_get hx DX11_tower_99 FLRX11_12 hG.1 (v := .ref (g + 1)) rfl ?_
                        refine v_iload hx DX11_tower_102 2 rfl ?_
                        refine v_iload hx DX11_tower_103 3 rfl ?_
                        refine v_iload hx DX11_tower_104 4 rfl ?_
                        refine v_iload hx DX11_tower_105 5 rfl ?_
                        refine v_iload hx DX11_tower_107 6 rfl ?_
                        refine v_cVp hx DX11_tower_109 CVRX11_194 [iv q, iv a0, iv a1, iv a2, iv a3] (b_hasTower l G Λ sz μ kB hb (by omega) (by omega) (by omega) (by omega) (by omega)) kB.1 rfl rfl (Nat.le_of_ble_eq_true rfl) (by decide) ⟨Nat.le_refl _, Nat.le_refl _⟩ ?_
                        have br109 := bz_rng (b.twr q a0 a1 a2 a3)
                        refine v_if_eq hx DX11_tower_112 (by omega) (fun c112 => ?_) (fun c112 => ?_)
                        · skip
                          have d112 := bzf c112
                          refine v_aload hx DX11_tower_118 1 rfl ?_
                          refine v_get hx DX11_tower_119 FLRX11_19 hG.1 (v := .ref (g + 4)) rfl ?_
                          refine v_aload hx DX11_tower_122 1 rfl ?_
                          refine v_get hx DX11_tower_123 FLRX11_12 hG.1 (v := .ref (g + 1)) rfl ?_
                          refine v_cVv hx DX11_tower_126 CVRX11_182 [.ref (g + 1)] (h_push l G Λ sz μ kH kB hh hb (by omega)) kH.1 rfl rfl (Nat.le_of_ble_eq_true rfl) (by decide) ⟨Nat.le_refl _, Nat.le_refl _⟩ (fun μ19 hμ19 => ?_)
                          obtain ⟨q1, f1⟩ := hμ19
                          have k1 := hCs.hst hGG q1 f1
                          refine v_aload hx DX11_tower_129 1 rfl ?_
                          refine v_get hx DX11_tower_130 FLRX11_12 hG.1 (v := .ref (g + 1)) rfl ?_
                          refine v_iload hx DX11_tower_133 2 rfl ?_
                          refine v_iload hx DX11_tower_134 3 rfl ?_
                          refine v_iload hx DX11_tower_135 4 rfl ?_
                          refine v_iload hx DX11_tower_136 5 rfl ?_
                          refine v_iload hx DX11_tower_138 6 rfl ?_
                          refine v_cVv hx DX11_tower_140 CVRX11_198 [iv q, iv a0, iv a1, iv a2, iv a3] (b_setTower l G Λ sz μ19 kB k1.2.1 (by omega) (by omega) (by omega) (by omega) (by omega)) kB.1 rfl rfl (Nat.le_of_ble_eq_true rfl) (by decide) ⟨Nat.le_refl _, Nat.le_refl _⟩ (fun μ21 hμ21 => ?_)
                          obtain ⟨q2, f2⟩ := hμ21
                          have k2 := k1.brd hGG q2 f2
                          refine v_iload hx DX11_tower_143 0 rfl ?_
                          exact v_ri hx hBD DX11_tower_145 (by have e : towA b q a0 a1 a2 a3 = 1 := (by unfold towA; rw [if1 ⟨by omega, by omega, by omega, by omega, by omega, fun _ => by omega⟩, if0 (fun t => t.elim d112 (fun s => by omega))]; exact mo); refine ⟨e.symm, ?_⟩; unfold twB twH; rw [e, if_pos (by decide), if_pos (by decide)]; exact k2)
                        · skip
                          have d112 := bzt c112
                          refine v_push hx DX11_tower_115 ?_
                          exact v_ri hx hBD DX11_tower_117 (tw_no hCs (by unfold towA; rw [if1 ⟨by omega, by omega, by omega, by omega, by omega, fun _ => by omega⟩, if1 (Or.inl d112)]) (by decide))
                  · skip
                    refine v_iload hx DX11_tower_78 0 rfl ?_
                    refine v_if_gt hx DX11_tower_80 (by decide) (fun c80 => ?_) (fun c80 => ?_)
                    · skip
                      refine v_push hx DX11_tower_87 ?_
                      exact v_ri hx hBD DX11_tower_88 (tw_no hCs (by unfold towA; rw [if0 (fun t => by have := t.2.2.2.2.2 (by omega); omega)]) (by decide))
                    · exact absurd c80 (by decide)
              · skip
                refine v_push hx DX11_tower_59 ?_
                refine v_goto hx DX11_tower_60 ?_
                refine v_istore hx DX11_tower_72 [(6, iv 2), (0, .ref g), (1, iv q), (2, iv a0), (3, iv a1), (4, iv a2), (5, iv a3)] rfl (by decide) ?_
                have mo : mostI a1 a2 a3 = 2 := by unfold mostI; rw [if_neg (by omega), if_pos (by omega)]
                refine v_iload hx DX11_tower_74 2 rfl ?_
                refine v_if_ne hx DX11_tower_75 (by omega) (fun c75 => ?_) (fun c75 => ?_)
                · skip
                  refine v_iload hx DX11_tower_89 2 rfl ?_
                  refine v_if_eq hx DX11_tower_90 (by omega) (fun c90 => ?_) (fun c90 => ?_)
                  · exact absurd c90 (by omega)
                  · skip
                    refine v_iload hx DX11_tower_93 0 rfl ?_
                    refine v_if_eq hx DX11_tower_95 (by decide) (fun c95 => ?_) (fun c95 => ?_)
                    · exact absurd c95 (by decide)
                    · skip
                      refine v_aload hx DX11_tower_98 1 rfl ?_
                      refine v_get hx DX11_tower_99 FLRX11_12 hG.1 (v := .ref (g + 1)) rfl ?_
                      refine v_iload hx DX11_tower_102 2 rfl ?_
                      refine v_iload hx DX11_tower_103 3 rfl ?_
                      refine v_iload hx DX11_tower_104 4 rfl ?_
                      refine v_iload hx DX11_tower_105 5 rfl ?_
                      refine v_iload hx DX11_tower_107 6 rfl ?_
                      refine v_cVp hx DX11_tower_109 CVRX11_194 [iv q, iv a0, iv a1, iv a2, iv a3] (b_hasTower l G Λ sz μ kB hb (by omega) (by omega) (by omega) (by omega) (by omega)) kB.1 rfl rfl (Nat.le_of_ble_eq_true rfl) (by decide) ⟨Nat.le_refl _, Nat.le_refl _⟩ ?_
                      have br109 := bz_rng (b.twr q a0 a1 a2 a3)
                      refine v_if_eq hx DX11_tower_112 (by omega) (fun c112 => ?_) (fun c112 => ?_)
                      · skip
                        have d112 := bzf c112
                        refine v_aload hx DX11_tower_118 1 rfl ?_
                        refine v_get hx DX11_tower_119 FLRX11_19 hG.1 (v := .ref (g + 4)) rfl ?_
                        refine v_aload hx DX11_tower_122 1 rfl ?_
                        refine v_get hx DX11_tower_123 FLRX11_12 hG.1 (v := .ref (g + 1)) rfl ?_
                        refine v_cVv hx DX11_tower_126 CVRX11_182 [.ref (g + 1)] (h_push l G Λ sz μ kH kB hh hb (by omega)) kH.1 rfl rfl (Nat.le_of_ble_eq_true rfl) (by decide) ⟨Nat.le_refl _, Nat.le_refl _⟩ (fun μ25 hμ25 => ?_)
                        obtain ⟨q1, f1⟩ := hμ25
                        have k1 := hCs.hst hGG q1 f1
                        refine v_aload hx DX11_tower_129 1 rfl ?_
                        refine v_get hx DX11_tower_130 FLRX11_12 hG.1 (v := .ref (g + 1)) rfl ?_
                        refine v_iload hx DX11_tower_133 2 rfl ?_
                        refine v_iload hx DX11_tower_134 3 rfl ?_
                        refine v_iload hx DX11_tower_135 4 rfl ?_
                        refine v_iload hx DX11_tower_136 5 rfl ?_
                        refine v_iload hx DX11_tower_138 6 rfl ?_
                        refine v_cVv hx DX11_tower_140 CVRX11_198 [iv q, iv a0, iv a1, iv a2, iv a3] (b_setTower l G Λ sz μ25 kB k1.2.1 (by omega) (by omega) (by omega) (by omega) (by omega)) kB.1 rfl rfl (Nat.le_of_ble_eq_true rfl) (by decide) ⟨Nat.le_refl _, Nat.le_refl _⟩ (fun μ27 hμ27 => ?_)
                        obtain ⟨q2, f2⟩ := hμ27
                        have k2 := k1.brd hGG q2 f2
                        refine v_iload hx DX11_tower_143 0 rfl ?_
                        exact v_ri hx hBD DX11_tower_145 (by have e : towA b q a0 a1 a2 a3 = 2 := (by unfold towA; rw [if1 ⟨by omega, by omega, by omega, by omega, by omega, fun _ => by omega⟩, if0 (fun t => t.elim d112 (fun s => by omega))]; exact mo); refine ⟨e.symm, ?_⟩; unfold twB twH; rw [e, if_pos (by decide), if_pos (by decide)]; exact k2)
                      · skip
                        have d112 := bzt c112
                        refine v_push hx DX11_tower_115 ?_
                        exact v_ri hx hBD DX11_tower_117 (tw_no hCs (by unfold towA; rw [if1 ⟨by omega, by omega, by omega, by omega, by omega, fun _ => by omega⟩, if1 (Or.inl d112)]) (by decide))
                · skip
                  refine v_iload hx DX11_tower_78 0 rfl ?_
                  refine v_if_gt hx DX11_tower_80 (by decide) (fun c80 => ?_) (fun c80 => ?_)
                  · skip
                    refine v_push hx DX11_tower_87 ?_
                    exact v_ri hx hBD DX11_tower_88 (tw_no hCs (by unfold towA; rw [if0 (fun t => by have := t.2.2.2.2.2 (by omega); omega)]) (by decide))
                  · exact absurd c80 (by decide)
            · skip
              refine v_push hx DX11_tower_50 ?_
              refine v_goto hx DX11_tower_51 ?_
              refine v_istore hx DX11_tower_72 [(6, iv 3), (0, .ref g), (1, iv q), (2, iv a0), (3, iv a1), (4, iv a2), (5, iv a3)] rfl (by decide) ?_
              have mo : mostI a1 a2 a3 = 3 := by unfold mostI; rw [if_pos (by omega)]
              refine v_iload hx DX11_tower_74 2 rfl ?_
              refine v_if_ne hx DX11_tower_75 (by omega) (fun c75 => ?_) (fun c75 => ?_)
              · skip
                refine v_iload hx DX11_tower_89 2 rfl ?_
                refine v_if_eq hx DX11_tower_90 (by omega) (fun c90 => ?_) (fun c90 => ?_)
                · exact absurd c90 (by omega)
                · skip
                  refine v_iload hx DX11_tower_93 0 rfl ?_
                  refine v_if_eq hx DX11_tower_95 (by decide) (fun c95 => ?_) (fun c95 => ?_)
                  · exact absurd c95 (by decide)
                  · skip
                    refine v_aload hx DX11_tower_98 1 rfl ?_
                    refine v_get hx DX11_tower_99 FLRX11_12 hG.1 (v := .ref (g + 1)) rfl ?_
                    refine v_iload hx DX11_tower_102 2 rfl ?_
                    refine v_iload hx DX11_tower_103 3 rfl ?_
                    refine v_iload hx DX11_tower_104 4 rfl ?_
                    refine v_iload hx DX11_tower_105 5 rfl ?_
                    refine v_iload hx DX11_tower_107 6 rfl ?_
                    refine v_cVp hx DX11_tower_109 CVRX11_194 [iv q, iv a0, iv a1, iv a2, iv a3] (b_hasTower l G Λ sz μ kB hb (by omega) (by omega) (by omega) (by omega) (by omega)) kB.1 rfl rfl (Nat.le_of_ble_eq_true rfl) (by decide) ⟨Nat.le_refl _, Nat.le_refl _⟩ ?_
                    have br109 := bz_rng (b.twr q a0 a1 a2 a3)
                    refine v_if_eq hx DX11_tower_112 (by omega) (fun c112 => ?_) (fun c112 => ?_)
                    · skip
                      have d112 := bzf c112
                      refine v_aload hx DX11_tower_118 1 rfl ?_
                      refine v_get hx DX11_tower_119 FLRX11_19 hG.1 (v := .ref (g + 4)) rfl ?_
                      refine v_aload hx DX11_tower_122 1 rfl ?_
                      refine v_get hx DX11_tower_123 FLRX11_12 hG.1 (v := .ref (g + 1)) rfl ?_
                      refine v_cVv hx DX11_tower_126 CVRX11_182 [.ref (g + 1)] (h_push l G Λ sz μ kH kB hh hb (by omega)) kH.1 rfl rfl (Nat.le_of_ble_eq_true rfl) (by decide) ⟨Nat.le_refl _, Nat.le_refl _⟩ (fun μ31 hμ31 => ?_)
                      obtain ⟨q1, f1⟩ := hμ31
                      have k1 := hCs.hst hGG q1 f1
                      refine v_aload hx DX11_tower_129 1 rfl ?_
                      refine v_get hx DX11_tower_130 FLRX11_12 hG.1 (v := .ref (g + 1)) rfl ?_
                      refine v_iload hx DX11_tower_133 2 rfl ?_
                      refine v_iload hx DX11_tower_134 3 rfl ?_
                      refine v_iload hx DX11_tower_135 4 rfl ?_
                      refine v_iload hx DX11_tower_136 5 rfl ?_
                      refine v_iload hx DX11_tower_138 6 rfl ?_
                      refine v_cVv hx DX11_tower_140 CVRX11_198 [iv q, iv a0, iv a1, iv a2, iv a3] (b_setTower l G Λ sz μ31 kB k1.2.1 (by omega) (by omega) (by omega) (by omega) (by omega)) kB.1 rfl rfl (Nat.le_of_ble_eq_true rfl) (by decide) ⟨Nat.le_refl _, Nat.le_refl _⟩ (fun μ33 hμ33 => ?_)
                      obtain ⟨q2, f2⟩ := hμ33
                      have k2 := k1.brd hGG q2 f2
                      refine v_iload hx DX11_tower_143 0 rfl ?_
                      exact v_ri hx hBD DX11_tower_145 (by have e : towA b q a0 a1 a2 a3 = 3 := (by unfold towA; rw [if1 ⟨by omega, by omega, by omega, by omega, by omega, fun _ => by omega⟩, if0 (fun t => t.elim d112 (fun s => by omega))]; exact mo); refine ⟨e.symm, ?_⟩; unfold twB twH; rw [e, if_pos (by decide), if_pos (by decide)]; exact k2)
                    · skip
                      have d112 := bzt c112
                      refine v_push hx DX11_tower_115 ?_
                      exact v_ri hx hBD DX11_tower_117 (tw_no hCs (by unfold towA; rw [if1 ⟨by omega, by omega, by omega, by omega, by omega, fun _ => by omega⟩, if1 (Or.inl d112)]) (by decide))
              · skip
                refine v_iload hx DX11_tower_78 0 rfl ?_
                refine v_if_gt hx DX11_tower_80 (by decide) (fun c80 => ?_) (fun c80 => ?_)
                · skip
                  refine v_push hx DX11_tower_87 ?_
                  exact v_ri hx hBD DX11_tower_88 (tw_no hCs (by unfold towA; rw [if0 (fun t => by have := t.2.2.2.2.2 (by omega); omega)]) (by decide))
                · exact absurd c80 (by decide)
          · skip
            have d40 := bzf c40
            have na3 := fun q => d40 ((isN_i (a := a3) (by omega)).mpr q)
            refine v_push hx DX11_tower_43 ?_
            exact v_ri hx hBD DX11_tower_44 (tw_no hCs (by unfold towA; rw [if0 (fun t => by exact na3 t.2.2.2.2.1)]) (by decide))
theorem p_type (l : Launch) (G : Gl) (Λ : Lay) (sz : Nat) (μ : Mem) {g : Nat} {μ0 : Mem} {b : Bd} {h : Hs} {im : Option (Bd × Hs)} {T : List Int} {S : Int → Sht} {c : Int} (hG : GK Λ g) (hC : KS Λ μ0 μ g b h im T S) (hI : INV G Λ) (hgd : b.good) (rc : inR c) : Sp l G yX11_type cX11_type 2 (some FieldType.int) 1 [.ref g, iv c] Λ sz μ (pI (fun z μ' => z = typA T c ∧ KS Λ μ μ' g b h im (typT T c) S)) := by
  refine Sp.intro (by decide) (Nat.le_of_ble_eq_true rfl) (fun x hx hBD => ?_)
  refine v_lv [(0, .ref g), (1, iv c)] rfl ?_
  have hGG := hG
  obtain ⟨hG0, ⟨kB, kH, kB2, kH2⟩, ⟨kSh, kRs⟩, ⟨kK, kSp, kP, kQ, kRe, kRd, kW⟩, ⟨kGi, kSe, kTo, kAn⟩, kS4, kR5, kOut⟩ := hG
  have hG := hGG
  have hCs := hC.start
  obtain ⟨⟨π, hA⟩, hb, hh, him, hT, hdg, hSh, hWr, hout⟩ := hC
  have bok := hb.1
  refine v_iload hx DX11_type_0 1 rfl ?_
  refine v_push hx DX11_type_1 ?_
  refine v_push hx DX11_type_3 ?_
  refine v_cSp hx DX11_type_5 CSRX11_117 [iv c, iv 32, iv 126] (c_within l G Λ sz μ (by omega) (by omega) (by omega)) rfl rfl (Nat.le_of_ble_eq_true rfl) (by decide) ⟨Nat.le_refl _, Nat.le_refl _⟩ ?_
  have br5 := bz_rng (32 ≤ c ∧ c ≤ 126)
  refine v_if_ne hx DX11_type_8 (by omega) (fun c8 => ?_) (fun c8 => ?_)
  · skip
    have d8 := bzt c8
    refine v_aload hx DX11_type_13 0 rfl ?_
    refine v_get hx DX11_type_14 FLRX11_77 hG.1 (v := .ref (g + 263)) rfl ?_
    refine v_iload hx DX11_type_17 1 rfl ?_
    refine v_cVi hx DX11_type_18 CVRX11_165 [iv c] (d_append l G Λ sz μ kRd hT (by omega)) kRd.1 rfl rfl (Nat.le_of_ble_eq_true rfl) (by decide) ⟨Nat.le_refl _, Nat.le_refl _⟩ (fun z4 μ3 hμ3 => ?_)
    obtain ⟨ez, t2, f2⟩ := hμ3
    subst ez
    have h90 := hT.1
    have k2 : KS Λ μ μ3 g b h im (typT T c) S := hCs.rdr hGG (f2.fc hA (fun a q => by simp at q; rcases q with rfl | rfl; (· exact kRd.off.1); (· exact kRd.off.2.1)) (fun a q => by simp at q; omega)) (by have e : (if T.length = 90 then T else T ++ [c]) = typT T c := ty_eq d8; rw [← e]; exact t2) (by rw [f2.2.1 8 (by simp)]; exact hdg)
    refine v_if_eq hx DX11_type_21 (by split <;> omega) (fun c21 => ?_) (fun c21 => ?_)
    · skip
      have n90 : T.length = 90 := Classical.byContradiction fun q => by rw [if_neg q] at c21; omega
      refine v_push hx DX11_type_34 ?_
      exact v_ri hx hBD DX11_type_36 (⟨by unfold typA; rw [if1 d8, if_pos n90], k2⟩)
    · skip
      have n90 : T.length ≠ 90 := fun q => by rw [if_pos q] at c21; exact c21 rfl
      refine v_aload hx DX11_type_24 0 rfl ?_
      refine v_get hx DX11_type_25 FLRX11_77 hG.1 (v := .ref (g + 263)) rfl ?_
      refine v_get hx DX11_type_28 FLRX11_168 kRd.1 (fv_i rfl (by rw [if_neg n90] at t2; exact t2.2.1) : _ = iv ((T ++ [c]).length : Int)) ?_
      refine v_goto hx DX11_type_31 ?_
      exact v_ri hx hBD DX11_type_36 (⟨by unfold typA; rw [if1 d8, if_neg n90, List.length_append]; show ((T.length + 1 : Nat) : Int) = _; omega, k2⟩)
  · skip
    have d8 := bzf c8
    refine v_push hx DX11_type_11 ?_
    exact v_ri hx hBD DX11_type_12 (⟨by unfold typA; rw [if0 d8], by rw [typT_no (fun t => d8 t.1)]; exact hCs⟩)
