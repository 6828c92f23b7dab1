/-! ===== the class: sheets ===== -/
theorem sh_at {g : Nat} {z : Int} (h : 0 ≤ z ∧ z < 4) : (sh4 g).getD z.toNat none = some (g + 368 + 2 * z.toNat) := by
  have : z = 0 ∨ z = 1 ∨ z = 2 ∨ z = 3 := by omega
  rcases this with rfl | rfl | rfl | rfl <;> rfl
theorem KS.sh {Λ : Lay} {g : Nat} {μ0 μ : Mem} {b : Bd} {h : Hs} {im : Option (Bd × Hs)} {T : List Int} {S : Int → Sht} (c : KS Λ μ0 μ g b h im T S) {k : Int} (hk : 0 ≤ k ∧ k < 4) : SA μ (g + 368 + 2 * k.toNat) (S k) := by
  have q := c.2.2.2.2.2.2.1 k.toNat (by omega)
  rwa [Int.toNat_of_nonneg hk.1] at q
theorem KS.sht {Λ : Lay} {g : Nat} {μ0 μ μ' : Mem} {b : Bd} {h : Hs} {im : Option (Bd × Hs)} {T : List Int} {S : Int → Sht} {k : Int} {s : Sht} (hK : GK Λ g) (hk : 0 ≤ k ∧ k < 4) (c : KS Λ μ0 μ g b h im T S) (hs : SA μ' (g + 368 + 2 * k.toNat) s) (f : FrS (g + 368 + 2 * k.toNat) μ μ') : KS Λ μ0 μ' g b h im T (upS S k s) := by
  obtain ⟨⟨π, hA⟩, c2, c3, c4, c5, c6, c7, cw, c8⟩ := c
  have so := (hK.2.2.2.2.2.1 k.toNat (by omega)).off
  have fc : FC Λ (fun a => a = g + 368 + 2 * k.toNat ∨ a = g + 368 + 2 * k.toNat + 1) μ μ' := by
    refine ⟨fun a _ h1 => ⟨f.1 a (fun q => h1 (Or.inl q)), f.2 a (fun q => h1 (Or.inr q))⟩, π, fun a ka => ?_⟩
    exact (hA a ka).keep (f.1 a (fun q => so.1 (q ▸ Or.inl ka))) (f.1 (a + 1) (fun q => so.1 (q ▸ Or.inr ⟨a, rfl, ka⟩)))
  have rk := hK.2.2.2.1.2.2.2.2.2.1
  have e := (fc.1 (g + 263) rk.off.1 (by omega)).1
  refine ⟨fc.2, c2.fc hK.2.1.1 fc ⟨by omega, by omega, by omega⟩, c3.fc hK.2.1.2.1 fc (fun a h0 h1 => by omega), c4.fc hK fc ⟨by omega, fun a h0 h1 => by omega⟩, c5.fc rk fc ⟨by omega, by omega⟩, by rw [e]; exact c6, fun j hj => ?_, WA.fc cw hK.2.2.2.1.2.2.2.2.2.2 fc ⟨by omega, by omega⟩, fc.out hK (fun a q => by omega) c8⟩
  by_cases q : j = k.toNat
  · subst q
    rw [Int.toNat_of_nonneg hk.1, upS_at]; exact hs
  · have : upS S k s (j : Int) = S (j : Int) := if_neg (by omega)
    rw [this]
    exact (c7 j hj).fc (hK.2.2.2.2.2.1 j hj) fc ⟨by omega, by omega⟩
theorem SA.lane {m m' : Mem} {σ : Nat} {s : Sht} (h : SA m σ s) (e : m' = mI m σ 1 (-1)) : SA m' σ (-1, s.2.1, s.2.2) ∧ FrS σ m m' :=
  ⟨⟨by show (-1 : Int) ≤ -1 ∧ (-1 : Int) ≤ 3; omega, h.2.1, by rw [e, mI_at, if_pos rfl], by rw [e, mI_at, if_neg (by decide)]; exact h.2.2.2.1, fun j h0 h1 => by rw [e]; exact h.2.2.2.2 j h0 h1⟩, fun a ha => by rw [e, mI_ne ha], fun a _ => by rw [e]; rfl⟩
theorem SA.cpy {m m' : Mem} {σ τ : Nat} {s t : Sht} {i j c : Int} (hs : SA m σ s) (ht : SA m τ t) (hc : 0 ≤ i ∧ 0 ≤ j ∧ 0 ≤ c ∧ i + c ≤ 24 ∧ j + c ≤ 24) (e : m' = mCL m (σ + 1) i (τ + 1) j c) : SA m' τ (cpy s t i j c) ∧ FrS τ m m' := by
  refine ⟨⟨ht.1, ht.2.1, by rw [e]; exact ht.2.2.1, by rw [e]; exact ht.2.2.2.1, fun l h0 h1 => ?_⟩, fun a _ => by rw [e]; rfl, fun a ha => by rw [e, mCL_ne ha]⟩
  rw [e]
  show (if τ + 1 = τ + 1 ∧ j ≤ l ∧ l < j + c then m.2 (σ + 1) (i + (l - j)) else m.2 (τ + 1) l) = (if j ≤ l ∧ l < j + c then s.2.2 (i + (l - j)) else t.2.2 l)
  by_cases q : j ≤ l ∧ l < j + c
  · rw [if_pos ⟨rfl, q⟩, if_pos q]; exact hs.2.2.2.2 _ (by omega) (by omega)
  · rw [if_neg (fun z => q z.2), if_neg q]; exact ht.2.2.2.2 l h0 h1
theorem ref_0 {s : Sht} {lane i c : Int} (h : s.ref lane i c = 0) : s.1 = lane ∧ s.1 ≠ -1 ∧ 0 ≤ i ∧ 0 ≤ c ∧ i + c ≤ s.2.1 := by
  unfold Sht.ref at h
  by_cases a : s.1 = -1
  · rw [if_pos a] at h; omega
  · rw [if_neg a] at h
    by_cases b : s.1 ≠ lane
    · rw [if_pos b] at h; omega
    · rw [if_neg b] at h
      by_cases d : 0 ≤ i ∧ 0 ≤ c ∧ i + c ≤ s.2.1
      · exact ⟨by omega, a, d⟩
      · rw [if_neg d] at h; omega
theorem drp_same {S : Int → Sht} {k : Int} (h : (S k).1 = -1) : drpS S k = S := by
  unfold drpS
  split
  · have : ((-1 : Int), (S k).2.1, (S k).2.2) = S k := by rw [← h]
    rw [this, upS_self]
  · rfl
theorem p_isSheet (l : Launch) (G : Gl) (Λ : Lay) (sz : Nat) (μ : Mem) {g : Nat} {k : Int} (hG : GK Λ g) (hk : inR k) : Sp l G yX11_isSheet cX11_isSheet 2 (some FieldType.boolean) 0 [.ref g, iv k] Λ sz μ (pP μ (bz (isSh k))) := by
  refine Sp.intro (by decide) (Nat.le_of_ble_eq_true rfl) (fun x hx hBD => ?_)
  refine v_lv [(0, .ref g), (1, iv k)] rfl ?_
  refine v_iload hx DX11_isSheet_0 1 rfl ?_
  refine v_if_lt hx DX11_isSheet_1 (by omega) (fun c1 => ?_) (fun c1 => ?_)
  · skip
    have e0 : (0 : Int) = bz (isSh k) := (bz_neg (fun q => by unfold isSh at q; omega)).symm
    refine v_push hx DX11_isSheet_17 ?_
    exact v_rz hx hBD (by omega) DX11_isSheet_18 (⟨rfl, e0⟩)
  · skip
    refine v_iload hx DX11_isSheet_4 1 rfl ?_
    refine v_aload hx DX11_isSheet_5 0 rfl ?_
    refine v_get hx DX11_isSheet_6 FLRX11_35 hG.1 (v := .ref (g + 47)) rfl ?_
    refine v_alenI hx DX11_isSheet_9 hG.2.2.1.1 (by decide) (z := 4) rfl ?_
    refine v_icmp_ge hx DX11_isSheet_10 (by omega) (by decide) (fun c10 => ?_) (fun c10 => ?_)
    · skip
      have e0 : (0 : Int) = bz (isSh k) := (bz_neg (fun q => by unfold isSh at q; omega)).symm
      refine v_push hx DX11_isSheet_17 ?_
      exact v_rz hx hBD (by omega) DX11_isSheet_18 (⟨rfl, e0⟩)
    · skip
      have e0 : (1 : Int) = bz (isSh k) := (bz_pos ⟨by omega, by omega⟩).symm
      refine v_push hx DX11_isSheet_13 ?_
      refine v_goto hx DX11_isSheet_14 ?_
      exact v_rz hx hBD (by omega) DX11_isSheet_18 (⟨rfl, e0⟩)
theorem p_drop (l : Launch) (G : Gl) (Λ : Lay) (sz : Nat) (μ : Mem) {g : Nat} {μ0 : Mem} {b : Bd} {h : Hs} {im : Option (Bd × Hs)} {T : List Int} {S : Int → Sht} {k : Int} (hG : GK Λ g) (hC : KS Λ μ0 μ g b h im T S) (hI : INV G Λ) (hgd : b.good) (rk : inR k) : Sp l G yX11_drop cX11_drop 3 (some FieldType.int) 1 [.ref g, iv k] Λ sz μ (pI (fun z μ' => z = drpA S k ∧ KS Λ μ μ' g b h im T (drpS S k))) := by
  refine Sp.intro (by decide) (Nat.le_of_ble_eq_true rfl) (fun x hx hBD => ?_)
  refine v_lv [(0, .ref g), (1, iv k)] rfl ?_
  have hGG := hG
  obtain ⟨hG0, ⟨kB, kH, kB2, kH2⟩, ⟨kSh, kRs⟩, ⟨kK, kSp, kP, kQ, kRe, kRd, kW⟩, ⟨kGi, kSe, kTo, kAn⟩, kS4, kR5, kOut⟩ := hG
  have hG := hGG
  have hCs := hC.start
  obtain ⟨⟨π, hA⟩, hb, hh, him, hT, hdg, hSh, hWr, hout⟩ := hC
  have bok := hb.1
  refine v_aload hx DX11_drop_0 0 rfl ?_
  refine v_iload hx DX11_drop_1 1 rfl ?_
  refine v_cVp hx DX11_drop_2 CVRX11_325 [iv k] (p_isSheet l G Λ sz μ hG (by omega)) hG.1 rfl rfl (Nat.le_of_ble_eq_true rfl) (by decide) ⟨Nat.le_refl _, Nat.le_refl _⟩ ?_
  have br2 := bz_rng (isSh k)
  refine v_if_ne hx DX11_drop_5 (by omega) (fun c5 => ?_) (fun c5 => ?_)
  · skip
    have d5 := bzt c5
    have dd5n := d5
    unfold isSh at dd5n
    have kSk : sheetK Λ (g + 368 + 2 * k.toNat) := kS4 k.toNat (by omega)
    have hSk := hCs.sh (k := k) (by omega)
    have srk := hSk.1
    have szk := hSk.2.1
    refine v_aload hx DX11_drop_10 0 rfl ?_
    refine v_get hx DX11_drop_11 FLRX11_35 hG.1 (v := .ref (g + 47)) rfl ?_
    refine v_iload hx DX11_drop_14 1 rfl ?_
    refine v_aald hx DX11_drop_15 kSh (by decide) (by omega) (by decide) (b := g + 368 + 2 * k.toNat) (sh_at (by omega)) ?_
    refine v_astore hx DX11_drop_16 [(2, .ref (g + 368 + 2 * k.toNat)), (0, .ref g), (1, iv k)] rfl (by decide) ?_
    refine v_aload hx DX11_drop_17 0 rfl ?_
    refine v_cVp hx DX11_drop_18 CVRX11_343 [] (s_isMissing l G Λ sz μ kSk hSk) kSk.1 rfl rfl (Nat.le_of_ble_eq_true rfl) (by decide) ⟨Nat.le_refl _, Nat.le_refl _⟩ ?_
    have br18 := bz_rng ((S k).1 = -1)
    refine v_if_eq hx DX11_drop_21 (by omega) (fun c21 => ?_) (fun c21 => ?_)
    · skip
      have d21 := bzf c21
      refine v_aload hx DX11_drop_27 0 rfl ?_
      refine v_push hx DX11_drop_28 ?_
      refine v_pI hx DX11_drop_29 FPRX11_346 kSk.1 rfl (ki := 1) rfl (fun μ5 eμ5 => ?_)
      refine v_aload hx DX11_drop_32 0 rfl ?_
      refine v_get hx DX11_drop_33 FLRX11_349 kSk.1 (fv_i rfl (by rw [eμ5, mI_at, if_neg (by decide)]; exact hSk.2.2.2.1) : _ = iv ((S k).2.1)) ?_
      exact v_ri hx hBD DX11_drop_36 (⟨by unfold drpA; rw [if1 d5, if_neg d21], by unfold drpS; rw [if_pos d5]; exact hCs.sht hGG (by omega) (hSk.lane eμ5).1 (hSk.lane eμ5).2⟩)
    · skip
      have d21 := bzt c21
      refine v_push hx DX11_drop_24 ?_
      exact v_ri hx hBD DX11_drop_26 (⟨by unfold drpA; rw [if1 d5, if_pos d21], by rw [drp_same d21]; exact hCs⟩)
  · skip
    have d5 := bzf c5
    refine v_push hx DX11_drop_8 ?_
    exact v_ri hx hBD DX11_drop_9 (⟨by unfold drpA; rw [if0 d5], by unfold drpS; rw [if_neg d5]; exact hCs⟩)
theorem p_sheet (l : Launch) (G : Gl) (Λ : Lay) (sz : Nat) (μ : Mem) {g : Nat} {μ0 : Mem} {b : Bd} {h : Hs} {im : Option (Bd × Hs)} {T : List Int} {S : Int → Sht} {k lane c : Int} (hG : GK Λ g) (hC : KS Λ μ0 μ g b h im T S) (hI : INV G Λ) (hgd : b.good) (rk : inR k) (rlane : inR lane) (rc : inR c) : Sp l G yX11_sheet cX11_sheet 4 (some FieldType.int) 2 [.ref g, iv k, iv lane, iv c] Λ sz μ (pI (fun z μ' => z = shtA k lane c ∧ KS Λ μ μ' g b h im T (shtS S k lane c))) := by
  refine Sp.intro (by decide) (Nat.le_of_ble_eq_true rfl) (fun x hx hBD => ?_)
  refine v_lv [(0, .ref g), (1, iv k), (2, iv lane), (3, iv c)] rfl ?_
  have hGG := hG
  obtain ⟨hG0, ⟨kB, kH, kB2, kH2⟩, ⟨kSh, kRs⟩, ⟨kK, kSp, kP, kQ, kRe, kRd, kW⟩, ⟨kGi, kSe, kTo, kAn⟩, kS4, kR5, kOut⟩ := hG
  have hG := hGG
  have hCs := hC.start
  obtain ⟨⟨π, hA⟩, hb, hh, him, hT, hdg, hSh, hWr, hout⟩ := hC
  have bok := hb.1
  refine v_aload hx DX11_sheet_0 0 rfl ?_
  refine v_iload hx DX11_sheet_1 1 rfl ?_
  refine v_cVp hx DX11_sheet_2 CVRX11_325 [iv k] (p_isSheet l G Λ sz μ hG (by omega)) hG.1 rfl rfl (Nat.le_of_ble_eq_true rfl) (by decide) ⟨Nat.le_refl _, Nat.le_refl _⟩ ?_
  have br2 := bz_rng (isSh k)
  refine v_if_eq hx DX11_sheet_5 (by omega) (fun c5 => ?_) (fun c5 => ?_)
  · skip
    have d5 := bzf c5
    refine v_push hx DX11_sheet_23 ?_
    exact v_ri hx hBD DX11_sheet_24 (⟨by unfold shtA; rw [if0 (fun q => by exact d5 q.1)], by unfold shtS; rw [if_neg (fun q => by exact d5 q.1)]; exact hCs⟩)
  · skip
    have d5 := bzt c5
    refine v_iload hx DX11_sheet_8 2 rfl ?_
    refine v_push hx DX11_sheet_9 ?_
    refine v_push hx DX11_sheet_10 ?_
    refine v_cSp hx DX11_sheet_11 CSRX11_117 [iv lane, iv 0, iv 3] (c_within l G Λ sz μ (by omega) (by omega) (by omega)) rfl rfl (Nat.le_of_ble_eq_true rfl) (by decide) ⟨Nat.le_refl _, Nat.le_refl _⟩ ?_
    have br11 := bz_rng (0 ≤ lane ∧ lane ≤ 3)
    refine v_if_eq hx DX11_sheet_14 (by omega) (fun c14 => ?_) (fun c14 => ?_)
    · skip
      have d14 := bzf c14
      refine v_push hx DX11_sheet_23 ?_
      exact v_ri hx hBD DX11_sheet_24 (⟨by unfold shtA; rw [if0 (fun q => by exact d14 q.2.1)], by unfold shtS; rw [if_neg (fun q => by exact d14 q.2.1)]; exact hCs⟩)
    · skip
      have d14 := bzt c14
      refine v_iload hx DX11_sheet_17 3 rfl ?_
      refine v_push hx DX11_sheet_18 ?_
      refine v_icmp_le hx DX11_sheet_20 (by omega) (by decide) (fun c20 => ?_) (fun c20 => ?_)
      · skip
        refine v_iload hx DX11_sheet_25 3 rfl ?_
        refine v_if_ge hx DX11_sheet_26 (by omega) (fun c26 => ?_) (fun c26 => ?_)
        · skip
          have dd5n := d5
          unfold isSh at dd5n
          have kSk : sheetK Λ (g + 368 + 2 * k.toNat) := kS4 k.toNat (by omega)
          have hSk := hCs.sh (k := k) (by omega)
          have srk := hSk.1
          have szk := hSk.2.1
          refine v_aload hx DX11_sheet_32 0 rfl ?_
          refine v_get hx DX11_sheet_33 FLRX11_35 hG.1 (v := .ref (g + 47)) rfl ?_
          refine v_iload hx DX11_sheet_36 1 rfl ?_
          refine v_aald hx DX11_sheet_37 kSh (by decide) (by omega) (by decide) (b := g + 368 + 2 * k.toNat) (sh_at (by omega)) ?_
          refine v_iload hx DX11_sheet_38 2 rfl ?_
          refine v_iload hx DX11_sheet_39 3 rfl ?_
          refine v_cVv hx DX11_sheet_40 CVRX11_340 [iv lane, iv c] (s_create l G Λ sz μ kSk hSk (by omega) (by omega)) kSk.1 rfl rfl (Nat.le_of_ble_eq_true rfl) (by decide) ⟨Nat.le_refl _, Nat.le_refl _⟩ (fun μ5 hμ5 => ?_)
          obtain ⟨q1, f1⟩ := hμ5
          have k1 := hCs.sht hGG (k := k) (by omega) q1 f1
          refine v_iload hx DX11_sheet_43 3 rfl ?_
          exact v_ri hx hBD DX11_sheet_44 (⟨by unfold shtA; rw [if1 ⟨d5, d14, by omega⟩, if_neg (by omega)], by unfold shtS; rw [if_pos ⟨d5, d14, by omega⟩]; exact k1⟩)
        · skip
          refine v_push hx DX11_sheet_29 ?_
          exact v_ri hx hBD DX11_sheet_31 (⟨by unfold shtA; rw [if1 ⟨d5, d14, by omega⟩, if_pos (by omega)], by unfold shtS; rw [if_neg (fun q => by have := q.2.2; omega)]; exact hCs⟩)
      · skip
        refine v_push hx DX11_sheet_23 ?_
        exact v_ri hx hBD DX11_sheet_24 (⟨by unfold shtA; rw [if0 (fun q => by have := q.2.2; omega)], by unfold shtS; rw [if_neg (fun q => by have := q.2.2; omega)]; exact hCs⟩)
theorem p_item (l : Launch) (G : Gl) (Λ : Lay) (sz : Nat) (μ : Mem) {g : Nat} {μ0 : Mem} {b : Bd} {h : Hs} {im : Option (Bd × Hs)} {T : List Int} {S : Int → Sht} {k lane i : Int} {w : Int64} (hG : GK Λ g) (hC : KS Λ μ0 μ g b h im T S) (hI : INV G Λ) (hgd : b.good) (rk : inR k) (rlane : inR lane) (ri : inR i) : Sp l G yX11_item cX11_item 7 (some FieldType.int) 2 [.ref g, iv k, iv lane, iv i, .long w] Λ sz μ (pI (fun z μ' => z = itmA S k lane i ∧ KS Λ μ μ' g b h im T (itmS S k lane i w))) := by
  refine Sp.intro (by decide) (Nat.le_of_ble_eq_true rfl) (fun x hx hBD => ?_)
  refine v_lv [(0, .ref g), (1, iv k), (2, iv lane), (3, iv i), (4, .long w)] rfl ?_
  have hGG := hG
  obtain ⟨hG0, ⟨kB, kH, kB2, kH2⟩, ⟨kSh, kRs⟩, ⟨kK, kSp, kP, kQ, kRe, kRd, kW⟩, ⟨kGi, kSe, kTo, kAn⟩, kS4, kR5, kOut⟩ := hG
  have hG := hGG
  have hCs := hC.start
  obtain ⟨⟨π, hA⟩, hb, hh, him, hT, hdg, hSh, hWr, hout⟩ := hC
  have bok := hb.1
  refine v_aload hx DX11_item_0 0 rfl ?_
  refine v_iload hx DX11_item_1 1 rfl ?_
  refine v_cVp hx DX11_item_2 CVRX11_325 [iv k] (p_isSheet l G Λ sz μ hG (by omega)) hG.1 rfl rfl (Nat.le_of_ble_eq_true rfl) (by decide) ⟨Nat.le_refl _, Nat.le_refl _⟩ ?_
  have br2 := bz_rng (isSh k)
  refine v_if_eq hx DX11_item_5 (by omega) (fun c5 => ?_) (fun c5 => ?_)
  · skip
    have d5 := bzf c5
    refine v_push hx DX11_item_17 ?_
    exact v_ri hx hBD DX11_item_18 (⟨by unfold itmA; rw [if0 (fun q => by exact d5 q.1)], by unfold itmS; rw [if_neg (fun q => by exact d5 q.1.1)]; exact hCs⟩)
  · skip
    have d5 := bzt c5
    refine v_iload hx DX11_item_8 2 rfl ?_
    refine v_push hx DX11_item_9 ?_
    refine v_push hx DX11_item_10 ?_
    refine v_cSp hx DX11_item_11 CSRX11_117 [iv lane, iv 0, iv 3] (c_within l G Λ sz μ (by omega) (by omega) (by omega)) rfl rfl (Nat.le_of_ble_eq_true rfl) (by decide) ⟨Nat.le_refl _, Nat.le_refl _⟩ ?_
    have br11 := bz_rng (0 ≤ lane ∧ lane ≤ 3)
    refine v_if_ne hx DX11_item_14 (by omega) (fun c14 => ?_) (fun c14 => ?_)
    · skip
      have d14 := bzt c14
      have dd5n := d5
      unfold isSh at dd5n
      have kSk : sheetK Λ (g + 368 + 2 * k.toNat) := kS4 k.toNat (by omega)
      have hSk := hCs.sh (k := k) (by omega)
      have srk := hSk.1
      have szk := hSk.2.1
      refine v_aload hx DX11_item_19 0 rfl ?_
      refine v_get hx DX11_item_20 FLRX11_35 hG.1 (v := .ref (g + 47)) rfl ?_
      refine v_iload hx DX11_item_23 1 rfl ?_
      refine v_aald hx DX11_item_24 kSh (by decide) (by omega) (by decide) (b := g + 368 + 2 * k.toNat) (sh_at (by omega)) ?_
      refine v_iload hx DX11_item_25 2 rfl ?_
      refine v_iload hx DX11_item_26 3 rfl ?_
      refine v_push hx DX11_item_27 ?_
      refine v_cVp hx DX11_item_28 CVRX11_328 [iv lane, iv i, iv 1] (s_refusal l G Λ sz μ kSk hSk (by omega) (by omega) (by omega)) kSk.1 rfl rfl (Nat.le_of_ble_eq_true rfl) (by decide) ⟨Nat.le_refl _, Nat.le_refl _⟩ ?_
      have rr := (S k).ref_rng lane i 1
      refine v_istore hx DX11_item_31 [(6, iv ((S k).ref lane i 1)), (0, .ref g), (1, iv k), (2, iv lane), (3, iv i), (4, .long w)] rfl (by decide) ?_
      refine v_iload hx DX11_item_33 0 rfl ?_
      refine v_if_eq hx DX11_item_35 (by omega) (fun c35 => ?_) (fun c35 => ?_)
      · skip
        have rf := ref_0 (s := S k) (lane := lane) (i := i) (c := 1) (by omega)
        refine v_aload hx DX11_item_41 1 rfl ?_
        refine v_get hx DX11_item_42 FLRX11_35 hG.1 (v := .ref (g + 47)) rfl ?_
        refine v_iload hx DX11_item_45 2 rfl ?_
        refine v_aald hx DX11_item_46 kSh (by decide) (by omega) (by decide) (b := g + 368 + 2 * k.toNat) (sh_at (by omega)) ?_
        refine v_iload hx DX11_item_47 4 rfl ?_
        refine v_lload hx DX11_item_48 5 rfl ?_
        refine v_cVv hx DX11_item_50 CVRX11_336 [iv i, .long w] (s_sset l G Λ sz μ kSk hSk (by omega)) kSk.1 rfl rfl (Nat.le_of_ble_eq_true rfl) (by decide) ⟨Nat.le_refl _, Nat.le_refl _⟩ (fun μ7 hμ7 => ?_)
        obtain ⟨q1, f1⟩ := hμ7
        rw [rf.1] at q1
        have k1 := hCs.sht hGG (k := k) (by omega) q1 f1
        refine v_push hx DX11_item_53 ?_
        exact v_ri hx hBD DX11_item_54 (⟨by unfold itmA; rw [if1 ⟨d5, d14⟩, if_neg (by omega)], by unfold itmS; rw [if_pos ⟨⟨d5, d14⟩, by omega⟩]; unfold Sht.put; rw [rf.1]; exact k1⟩)
      · skip
        refine v_iload hx DX11_item_38 0 rfl ?_
        exact v_ri hx hBD DX11_item_40 (⟨by unfold itmA; rw [if1 ⟨d5, d14⟩, if_pos (by omega)], by unfold itmS; rw [if_neg (fun q => by have := q.2; omega)]; exact hCs⟩)
    · skip
      have d14 := bzf c14
      refine v_push hx DX11_item_17 ?_
      exact v_ri hx hBD DX11_item_18 (⟨by unfold itmA; rw [if0 (fun q => by exact d14 q.2)], by unfold itmS; rw [if_neg (fun q => by exact d14 q.1.2)]; exact hCs⟩)
theorem p_copy (l : Launch) (G : Gl) (Λ : Lay) (sz : Nat) (μ : Mem) {g : Nat} {μ0 : Mem} {b : Bd} {h : Hs} {im : Option (Bd × Hs)} {T : List Int} {S : Int → Sht} {k i l2 j c : Int} (hG : GK Λ g) (hC : KS Λ μ0 μ g b h im T S) (hI : INV G Λ) (hgd : b.good) (rk : inR k) (ri : inR i) (rl2 : inR l2) (rj : inR j) (rc : inR c) : Sp l G yX11_copy cX11_copy 8 (some FieldType.int) 1 [.ref g, iv k, iv i, iv l2, iv j, iv c] Λ sz μ (pI (fun z μ' => z = cpyA S k i l2 j c ∧ KS Λ μ μ' g b h im T (cpyS S k i l2 j c))) := by
  refine Sp.intro (by decide) (Nat.le_of_ble_eq_true rfl) (fun x hx hBD => ?_)
  refine v_lv [(0, .ref g), (1, iv k), (2, iv i), (3, iv l2), (4, iv j), (5, iv c)] rfl ?_
  have hGG := hG
  obtain ⟨hG0, ⟨kB, kH, kB2, kH2⟩, ⟨kSh, kRs⟩, ⟨kK, kSp, kP, kQ, kRe, kRd, kW⟩, ⟨kGi, kSe, kTo, kAn⟩, kS4, kR5, kOut⟩ := hG
  have hG := hGG
  have hCs := hC.start
  obtain ⟨⟨π, hA⟩, hb, hh, him, hT, hdg, hSh, hWr, hout⟩ := hC
  have bok := hb.1
  refine v_aload hx DX11_copy_0 0 rfl ?_
  refine v_iload hx DX11_copy_1 1 rfl ?_
  refine v_cVp hx DX11_copy_2 CVRX11_325 [iv k] (p_isSheet l G Λ sz μ hG (by omega)) hG.1 rfl rfl (Nat.le_of_ble_eq_true rfl) (by decide) ⟨Nat.le_refl _, Nat.le_refl _⟩ ?_
  have br2 := bz_rng (isSh k)
  refine v_if_eq hx DX11_copy_5 (by omega) (fun c5 => ?_) (fun c5 => ?_)
  · skip
    have d5 := bzf c5
    refine v_push hx DX11_copy_16 ?_
    exact v_ri hx hBD DX11_copy_17 (⟨by unfold cpyA; rw [if0 (fun q => by exact d5 q.1)], by unfold cpyS; rw [if_neg (fun q => by exact d5 q.1.1)]; exact hCs⟩)
  · skip
    have d5 := bzt c5
    refine v_aload hx DX11_copy_8 0 rfl ?_
    refine v_iload hx DX11_copy_9 3 rfl ?_
    refine v_cVp hx DX11_copy_10 CVRX11_325 [iv l2] (p_isSheet l G Λ sz μ hG (by omega)) hG.1 rfl rfl (Nat.le_of_ble_eq_true rfl) (by decide) ⟨Nat.le_refl _, Nat.le_refl _⟩ ?_
    have br10 := bz_rng (isSh l2)
    refine v_if_ne hx DX11_copy_13 (by omega) (fun c13 => ?_) (fun c13 => ?_)
    · skip
      have d13 := bzt c13
      have dd5n := d5
      unfold isSh at dd5n
      have kSk : sheetK Λ (g + 368 + 2 * k.toNat) := kS4 k.toNat (by omega)
      have hSk := hCs.sh (k := k) (by omega)
      have srk := hSk.1
      have szk := hSk.2.1
      have dd13n := d13
      unfold isSh at dd13n
      have kSl2 : sheetK Λ (g + 368 + 2 * l2.toNat) := kS4 l2.toNat (by omega)
      have hSl2 := hCs.sh (k := l2) (by omega)
      have srl2 := hSl2.1
      have szl2 := hSl2.2.1
      refine v_aload hx DX11_copy_18 0 rfl ?_
      refine v_get hx DX11_copy_19 FLRX11_35 hG.1 (v := .ref (g + 47)) rfl ?_
      refine v_iload hx DX11_copy_22 1 rfl ?_
      refine v_aald hx DX11_copy_23 kSh (by decide) (by omega) (by decide) (b := g + 368 + 2 * k.toNat) (sh_at (by omega)) ?_
      refine v_astore hx DX11_copy_24 [(6, .ref (g + 368 + 2 * k.toNat)), (0, .ref g), (1, iv k), (2, iv i), (3, iv l2), (4, iv j), (5, iv c)] rfl (by decide) ?_
      refine v_aload hx DX11_copy_26 1 rfl ?_
      refine v_get hx DX11_copy_27 FLRX11_35 hG.1 (v := .ref (g + 47)) rfl ?_
      refine v_iload hx DX11_copy_30 4 rfl ?_
      refine v_aald hx DX11_copy_31 kSh (by decide) (by omega) (by decide) (b := g + 368 + 2 * l2.toNat) (sh_at (by omega)) ?_
      refine v_astore hx DX11_copy_32 [(7, .ref (g + 368 + 2 * l2.toNat)), (6, .ref (g + 368 + 2 * k.toNat)), (0, .ref g), (1, iv k), (2, iv i), (3, iv l2), (4, iv j), (5, iv c)] rfl (by decide) ?_
      refine v_aload hx DX11_copy_34 1 rfl ?_
      refine v_cVp hx DX11_copy_36 CVRX11_343 [] (s_isMissing l G Λ sz μ kSk hSk) kSk.1 rfl rfl (Nat.le_of_ble_eq_true rfl) (by decide) ⟨Nat.le_refl _, Nat.le_refl _⟩ ?_
      have br36 := bz_rng ((S k).1 = -1)
      refine v_if_ne hx DX11_copy_39 (by omega) (fun c39 => ?_) (fun c39 => ?_)
      · skip
        have d39 := bzt c39
        refine v_push hx DX11_copy_50 ?_
        exact v_ri hx hBD DX11_copy_52 (⟨by unfold cpyA; rw [if1 ⟨d5, d13⟩, if_pos (Or.inl d39)], by unfold cpyS; rw [if_neg (fun q => by exact q.2.1 d39)]; exact hCs⟩)
      · skip
        have d39 := bzf c39
        refine v_aload hx DX11_copy_42 0 rfl ?_
        refine v_cVp hx DX11_copy_44 CVRX11_343 [] (s_isMissing l G Λ sz μ kSl2 hSl2) kSl2.1 rfl rfl (Nat.le_of_ble_eq_true rfl) (by decide) ⟨Nat.le_refl _, Nat.le_refl _⟩ ?_
        have br44 := bz_rng ((S l2).1 = -1)
        refine v_if_eq hx DX11_copy_47 (by omega) (fun c47 => ?_) (fun c47 => ?_)
        · skip
          have d47 := bzf c47
          refine v_aload hx DX11_copy_53 1 rfl ?_
          refine v_get hx DX11_copy_55 FLRX11_346 kSk.1 (fv_i rfl hSk.2.2.1 : _ = iv ((S k).1)) ?_
          refine v_aload hx DX11_copy_58 0 rfl ?_
          refine v_get hx DX11_copy_60 FLRX11_346 kSl2.1 (fv_i rfl hSl2.2.2.1 : _ = iv ((S l2).1)) ?_
          refine v_icmp_eq hx DX11_copy_63 (by omega) (by omega) (fun c63 => ?_) (fun c63 => ?_)
          · skip
            refine v_aload hx DX11_copy_69 1 rfl ?_
            refine v_iload hx DX11_copy_71 4 rfl ?_
            refine v_iload hx DX11_copy_72 7 rfl ?_
            refine v_cVp hx DX11_copy_74 CVRX11_350 [iv i, iv c] (s_covers l G Λ sz μ kSk hSk (by omega) (by omega)) kSk.1 rfl rfl (Nat.le_of_ble_eq_true rfl) (by decide) ⟨Nat.le_refl _, Nat.le_refl _⟩ ?_
            have br74 := bz_rng (0 ≤ i ∧ 0 ≤ c ∧ i + c ≤ (S k).2.1)
            refine v_if_eq hx DX11_copy_77 (by omega) (fun c77 => ?_) (fun c77 => ?_)
            · skip
              have d77 := bzf c77
              refine v_push hx DX11_copy_92 ?_
              exact v_ri hx hBD DX11_copy_94 (⟨by unfold cpyA; rw [if1 ⟨d5, d13⟩, if_neg (by omega), if_neg (by omega), if0 (fun q => by unfold cpyOK at q; omega)], by unfold cpyS; rw [if_neg (fun q => by have t := q.2.2.2.2; unfold cpyOK at t; omega)]; exact hCs⟩)
            · skip
              have d77 := bzt c77
              refine v_aload hx DX11_copy_80 0 rfl ?_
              refine v_iload hx DX11_copy_82 6 rfl ?_
              refine v_iload hx DX11_copy_84 7 rfl ?_
              refine v_cVp hx DX11_copy_86 CVRX11_350 [iv j, iv c] (s_covers l G Λ sz μ kSl2 hSl2 (by omega) (by omega)) kSl2.1 rfl rfl (Nat.le_of_ble_eq_true rfl) (by decide) ⟨Nat.le_refl _, Nat.le_refl _⟩ ?_
              have br86 := bz_rng (0 ≤ j ∧ 0 ≤ c ∧ j + c ≤ (S l2).2.1)
              refine v_if_ne hx DX11_copy_89 (by omega) (fun c89 => ?_) (fun c89 => ?_)
              · skip
                have d89 := bzt c89
                refine v_aload hx DX11_copy_95 1 rfl ?_
                refine v_get hx DX11_copy_97 FLRX11_353 kSk.1 (v := .ref (g + 368 + 2 * k.toNat + 1)) rfl ?_
                refine v_iload hx DX11_copy_100 4 rfl ?_
                refine v_aload hx DX11_copy_101 0 rfl ?_
                refine v_get hx DX11_copy_103 FLRX11_353 kSl2.1 (v := .ref (g + 368 + 2 * l2.toNat + 1)) rfl ?_
                refine v_iload hx DX11_copy_106 6 rfl ?_
                refine v_iload hx DX11_copy_108 7 rfl ?_
                refine v_acpyL hx DX11_copy_110 mlRX11_357 kSk.2 kSl2.2 (by decide) (by decide) (by omega) (by decide) (by decide) (fun μ13 eμ13 => ?_)
                refine v_iload hx DX11_copy_113 7 rfl ?_
                exact v_ri hx hBD DX11_copy_115 (⟨by unfold cpyA; rw [if1 ⟨d5, d13⟩, if_neg (by omega), if_neg (by omega), if1 (by unfold cpyOK; omega)], by unfold cpyS; rw [if_pos ⟨⟨d5, d13⟩, d39, d47, c63, by unfold cpyOK; omega⟩]; exact hCs.sht hGG (by omega) (hSk.cpy hSl2 (by omega) eμ13).1 (hSk.cpy hSl2 (by omega) eμ13).2⟩)
              · skip
                have d89 := bzf c89
                refine v_push hx DX11_copy_92 ?_
                exact v_ri hx hBD DX11_copy_94 (⟨by unfold cpyA; rw [if1 ⟨d5, d13⟩, if_neg (by omega), if_neg (by omega), if0 (fun q => by unfold cpyOK at q; omega)], by unfold cpyS; rw [if_neg (fun q => by have t := q.2.2.2.2; unfold cpyOK at t; omega)]; exact hCs⟩)
          · skip
            refine v_push hx DX11_copy_66 ?_
            exact v_ri hx hBD DX11_copy_68 (⟨by unfold cpyA; rw [if1 ⟨d5, d13⟩, if_neg (by omega), if_pos (by omega)], by unfold cpyS; rw [if_neg (fun q => by exact c63 q.2.2.2.1)]; exact hCs⟩)
        · skip
          have d47 := bzt c47
          refine v_push hx DX11_copy_50 ?_
          exact v_ri hx hBD DX11_copy_52 (⟨by unfold cpyA; rw [if1 ⟨d5, d13⟩, if_pos (Or.inr d47)], by unfold cpyS; rw [if_neg (fun q => by exact q.2.2.1 d47)]; exact hCs⟩)
    · skip
      have d13 := bzf c13
      refine v_push hx DX11_copy_16 ?_
      exact v_ri hx hBD DX11_copy_17 (⟨by unfold cpyA; rw [if0 (fun q => by exact d13 q.2)], by unfold cpyS; rw [if_neg (fun q => by exact d13 q.1.2)]; exact hCs⟩)
theorem p_film (l : Launch) (G : Gl) (Λ : Lay) (sz : Nat) (μ : Mem) {g : Nat} {μ0 : Mem} {b : Bd} {h : Hs} {im : Option (Bd × Hs)} {T : List Int} {S : Int → Sht} {f i k lane a : Int} (hG : GK Λ g) (hC : KS Λ μ0 μ g b h im T S) (hI : INV G Λ) (hgd : b.good) (rf : inR f) (ri : inR i) (rk : inR k) (rlane : inR lane) (ra : inR a) : Sp l G yX11_film cX11_film 10 (some FieldType.int) 2 [.ref g, iv f, iv i, iv k, iv lane, iv a] Λ sz μ (pI (fun z μ' => z = flmA S f i k lane a ∧ KS Λ μ μ' g b h im T (flmS b S f i k lane a))) := by
  refine Sp.intro (by decide) (Nat.le_of_ble_eq_true rfl) (fun x hx hBD => ?_)
  refine v_lv [(0, .ref g), (1, iv f), (2, iv i), (3, iv k), (4, iv lane), (5, iv a)] rfl ?_
  have hGG := hG
  obtain ⟨hG0, ⟨kB, kH, kB2, kH2⟩, ⟨kSh, kRs⟩, ⟨kK, kSp, kP, kQ, kRe, kRd, kW⟩, ⟨kGi, kSe, kTo, kAn⟩, kS4, kR5, kOut⟩ := hG
  have hG := hGG
  have hCs := hC.start
  obtain ⟨⟨π, hA⟩, hb, hh, him, hT, hdg, hSh, hWr, hout⟩ := hC
  have bok := hb.1
  have L64 : ∀ (nf : Nat) (j : Int) (m : Mem), (12 - j < (nf : Int)) → (isTO f i) → (0 ≤ f ∧ f < 3 ∧ -2 ≤ i ∧ i ≤ 2) → (isSh k) → (0 ≤ lane ∧ lane ≤ 3) → ((S k).ref lane a 12 = 0) → (0 ≤ j ∧ j ≤ 12) → (KS Λ μ m g b h im T (upS S k (flm (S k) b (5 * f + i + 2) a j))) → V G x (0, 0) Λ sz m 64 [(9, iv j), (7, .ref (g + 368 + 2 * k.toNat)), (6, iv (5 * f + i + 2)), (0, .ref g), (5, iv a)] [] := by
    intro nf
    induction nf with
    | zero => intro j m hm hto hn hv hv2 hrf hjr hj; exact absurd hm (by omega)
    | succ nf ih =>
      intro j m hm hto hn hv hv2 hrf hjr hj
      have hvn := hv
      unfold isSh at hvn
      have kSk : sheetK Λ (g + 368 + 2 * k.toNat) := kS4 k.toNat (by omega)
      have hSk := hCs.sh (k := k) (by omega)
      have szk := hSk.2.1
      have rf := ref_0 hrf
      refine v_iload hx DX11_film_64 0 rfl ?_
      refine v_push hx DX11_film_66 ?_
      refine v_icmp_ge hx DX11_film_68 (by omega) (by decide) (fun c68 => ?_) (fun c68 => ?_)
      · skip
        refine v_push hx DX11_film_99 ?_
        exact v_ri hx hBD DX11_film_101 (⟨by unfold flmA; rw [if1 ⟨hto, hv, hv2⟩, if_neg (by omega)], by unfold flmS; rw [if_pos ⟨⟨hto, hv, hv2⟩, hrf⟩]; rw [show j = 12 by omega] at hj; exact hj⟩)
      · skip
        refine v_aload hx DX11_film_71 1 rfl ?_
        refine v_iload hx DX11_film_73 4 rfl ?_
        refine v_iload hx DX11_film_75 0 rfl ?_
        refine v_iadd hx DX11_film_77 ?_
        refine v_aload hx DX11_film_78 3 rfl ?_
        refine v_get hx DX11_film_79 FLRX11_12 hG.1 (v := .ref (g + 1)) rfl ?_
        refine v_iload hx DX11_film_82 2 rfl ?_
        refine v_iload hx DX11_film_84 0 rfl ?_
        refine v_cVp hx DX11_film_86 CVRX11_121 [iv (5 * f + i + 2), iv j] (b_cell l G Λ sz m kB hj.2.1 (by omega) (by omega)) kB.1 rfl rfl (Nat.le_of_ble_eq_true rfl) (by decide) ⟨Nat.le_refl _, Nat.le_refl _⟩ ?_
        have clr := Bd.cell_rng bok (5 * f + i + 2) j
        refine v_i2l hx DX11_film_89 (w := Int64.ofInt (b.cell (5 * f + i + 2) j)) (i2l_of (by omega)) ?_
        refine v_cVv hx DX11_film_90 CVRX11_336 [iv (a + j), .long (Int64.ofInt (b.cell (5 * f + i + 2) j))] (s_sset (w := Int64.ofInt (b.cell (5 * f + i + 2) j)) l G Λ sz m kSk (hj.sh (k := k) (by omega)) (by omega)) kSk.1 rfl rfl (Nat.le_of_ble_eq_true rfl) (by decide) ⟨Nat.le_refl _, Nat.le_refl _⟩ (fun μ3 hμ3 => ?_)
        obtain ⟨q1, f1⟩ := hμ3
        rw [upS_at] at q1
        have k1 := hj.sht hGG (k := k) (by omega) q1 f1
        rw [upS_up] at k1
        refine v_iinc hx DX11_film_93 0 rfl [(9, iv (j + 1)), (7, .ref (g + 368 + 2 * k.toNat)), (6, iv (5 * f + i + 2)), (0, .ref g), (5, iv a)] rfl (by decide) ?_
        refine v_goto hx DX11_film_96 ?_
        exact v_sub [0, 1, 2, 3, 4] _ rfl (ih (j + 1) μ3 (by omega) hto hn hv hv2 hrf (by omega) (by rw [← flm_put (by omega)]; unfold Sht.put; have e : cut (flm (S k) b (5 * f + i + 2) a j).1 (Int64.ofInt (b.cell (5 * f + i + 2) j)) = Int64.ofInt (b.cell (5 * f + i + 2) j) := cut_small (by show 0 ≤ (S k).1 ∧ (S k).1 ≤ 3; omega) clr; rw [e] at k1; exact k1))
  by_cases hto : isTO f i
  · skip
    have hn := hto.n
    refine v_iload hx DX11_film_0 1 rfl ?_
    refine v_iload hx DX11_film_1 2 rfl ?_
    refine v_cSp hx DX11_film_2 CSRX11_113 [iv f, iv i] (c_termOf l G Λ sz μ (by omega) (by omega)) rfl rfl (Nat.le_of_ble_eq_true rfl) (by decide) ⟨Nat.le_refl _, Nat.le_refl _⟩ ?_
    refine v_top (z' := (5 * f + i + 2)) (if1 hto) ?_
    refine v_istore hx DX11_film_5 [(6, iv (5 * f + i + 2)), (0, .ref g), (1, iv f), (2, iv i), (3, iv k), (4, iv lane), (5, iv a)] rfl (by decide) ?_
    refine v_iload hx DX11_film_7 0 rfl ?_
    refine v_if_lt hx DX11_film_9 (by omega) (fun c9 => ?_) (fun c9 => ?_)
    · skip
      refine v_push hx DX11_film_30 ?_
      exact v_ri hx hBD DX11_film_31 (⟨by unfold flmA; rw [if0 (fun q => by omega)], by unfold flmS; rw [if_neg (fun q => by omega)]; exact hCs⟩)
    · skip
      refine v_aload hx DX11_film_12 1 rfl ?_
      refine v_iload hx DX11_film_13 4 rfl ?_
      refine v_cVp hx DX11_film_14 CVRX11_325 [iv k] (p_isSheet l G Λ sz μ hG (by omega)) hG.1 rfl rfl (Nat.le_of_ble_eq_true rfl) (by decide) ⟨Nat.le_refl _, Nat.le_refl _⟩ ?_
      have br14 := bz_rng (isSh k)
      refine v_if_eq hx DX11_film_17 (by omega) (fun c17 => ?_) (fun c17 => ?_)
      · skip
        have d17 := bzf c17
        refine v_push hx DX11_film_30 ?_
        exact v_ri hx hBD DX11_film_31 (⟨by unfold flmA; rw [if0 (fun q => by exact d17 q.2.1)], by unfold flmS; rw [if_neg (fun q => by exact d17 q.1.2.1)]; exact hCs⟩)
      · skip
        have d17 := bzt c17
        refine v_iload hx DX11_film_20 5 rfl ?_
        refine v_push hx DX11_film_22 ?_
        refine v_push hx DX11_film_23 ?_
        refine v_cSp hx DX11_film_24 CSRX11_117 [iv lane, iv 0, iv 3] (c_within l G Λ sz μ (by omega) (by omega) (by omega)) rfl rfl (Nat.le_of_ble_eq_true rfl) (by decide) ⟨Nat.le_refl _, Nat.le_refl _⟩ ?_
        have br24 := bz_rng (0 ≤ lane ∧ lane ≤ 3)
        refine v_if_ne hx DX11_film_27 (by omega) (fun c27 => ?_) (fun c27 => ?_)
        · skip
          have d27 := bzt c27
          have dd17n := d17
          unfold isSh at dd17n
          have kSk : sheetK Λ (g + 368 + 2 * k.toNat) := kS4 k.toNat (by omega)
          have hSk := hCs.sh (k := k) (by omega)
          have srk := hSk.1
          have szk := hSk.2.1
          refine v_aload hx DX11_film_32 1 rfl ?_
          refine v_get hx DX11_film_33 FLRX11_35 hG.1 (v := .ref (g + 47)) rfl ?_
          refine v_iload hx DX11_film_36 4 rfl ?_
          refine v_aald hx DX11_film_37 kSh (by decide) (by omega) (by decide) (b := g + 368 + 2 * k.toNat) (sh_at (by omega)) ?_
          refine v_astore hx DX11_film_38 [(7, .ref (g + 368 + 2 * k.toNat)), (6, iv (5 * f + i + 2)), (0, .ref g), (1, iv f), (2, iv i), (3, iv k), (4, iv lane), (5, iv a)] rfl (by decide) ?_
          refine v_aload hx DX11_film_40 0 rfl ?_
          refine v_iload hx DX11_film_42 6 rfl ?_
          refine v_iload hx DX11_film_44 7 rfl ?_
          refine v_push hx DX11_film_46 ?_
          refine v_cVp hx DX11_film_48 CVRX11_328 [iv lane, iv a, iv 12] (s_refusal l G Λ sz μ kSk hSk (by omega) (by omega) (by omega)) kSk.1 rfl rfl (Nat.le_of_ble_eq_true rfl) (by decide) ⟨Nat.le_refl _, Nat.le_refl _⟩ ?_
          have rr := (S k).ref_rng lane a 12
          refine v_istore hx DX11_film_51 [(8, iv ((S k).ref lane a 12)), (7, .ref (g + 368 + 2 * k.toNat)), (6, iv (5 * f + i + 2)), (0, .ref g), (1, iv f), (2, iv i), (3, iv k), (4, iv lane), (5, iv a)] rfl (by decide) ?_
          refine v_iload hx DX11_film_53 0 rfl ?_
          refine v_if_eq hx DX11_film_55 (by omega) (fun c55 => ?_) (fun c55 => ?_)
          · skip
            have rf := ref_0 (s := S k) (lane := lane) (i := a) (c := 12) (by omega)
            refine v_push hx DX11_film_61 ?_
            refine v_istore hx DX11_film_62 [(9, iv 0), (8, iv ((S k).ref lane a 12)), (7, .ref (g + 368 + 2 * k.toNat)), (6, iv (5 * f + i + 2)), (0, .ref g), (1, iv f), (2, iv i), (3, iv k), (4, iv lane), (5, iv a)] rfl (by decide) ?_
            exact v_sub [0, 2, 3, 4, 9] _ rfl (L64 20 0 μ (by omega) hto (by omega) d17 d27 (by omega) (by omega) (by rw [flm_zero, upS_self]; exact hCs))
          · skip
            refine v_iload hx DX11_film_58 0 rfl ?_
            exact v_ri hx hBD DX11_film_60 (⟨by unfold flmA; rw [if1 ⟨hto, d17, d27⟩, if_pos (by omega)], by unfold flmS; rw [if_neg (fun q => by have := q.2; omega)]; exact hCs⟩)
        · skip
          have d27 := bzf c27
          refine v_push hx DX11_film_30 ?_
          exact v_ri hx hBD DX11_film_31 (⟨by unfold flmA; rw [if0 (fun q => by exact d27 q.2.2)], by unfold flmS; rw [if_neg (fun q => by exact d27 q.1.2.2)]; exact hCs⟩)
  · skip
    refine v_iload hx DX11_film_0 1 rfl ?_
    refine v_iload hx DX11_film_1 2 rfl ?_
    refine v_cSp hx DX11_film_2 CSRX11_113 [iv f, iv i] (c_termOf l G Λ sz μ (by omega) (by omega)) rfl rfl (Nat.le_of_ble_eq_true rfl) (by decide) ⟨Nat.le_refl _, Nat.le_refl _⟩ ?_
    refine v_top (z' := -1) (if0 hto) ?_
    refine v_istore hx DX11_film_5 [(6, iv (-1)), (0, .ref g), (1, iv f), (2, iv i), (3, iv k), (4, iv lane), (5, iv a)] rfl (by decide) ?_
    refine v_iload hx DX11_film_7 0 rfl ?_
    refine v_if_lt hx DX11_film_9 (by decide) (fun c9 => ?_) (fun c9 => ?_)
    · skip
      refine v_push hx DX11_film_30 ?_
      exact v_ri hx hBD DX11_film_31 (⟨by unfold flmA; rw [if0 (fun q => by exact hto q.1)], by unfold flmS; rw [if_neg (fun q => by exact hto q.1.1)]; exact hCs⟩)
    · exact absurd c9 (by decide)
