/-! ===== the class: part, split, asked, integral, left, residue, log, pencil ===== -/
theorem rs_at {g : Nat} {z : Int} (h : 0 ≤ z ∧ z < 5) : (rs5 g).getD z.toNat none = some (g + 376 + 5 * z.toNat) := by
  have : z = 0 ∨ z = 1 ∨ z = 2 ∨ z = 3 ∨ z = 4 := by omega
  rcases this with rfl | rfl | rfl | rfl | rfl <;> rfl
theorem spl_hid {b : Bd} {t : Int} (h : SplOK (b.tm t) 7 5) : Hid ((b.den t).size ≤ 20 ∧ (b.num t).size ≤ 40 ∧ PS.zero.size ≤ 4 ∧ gdI (b.num t) (b.den t) PS.zero ≤ 10) := by
  have g : gdI (b.num t) (b.den t) PS.zero ≤ 10 := by
    unfold gdI
    rcases h.2 with q | q
    · have q : b.num t = PS.zero := q
      rw [q, PS.zero_sz]; omega
    · have q : ((b.num t).size : Int) ≤ (b.den t).size + 6 := q
      rw [PS.zero_sz]; omega
  have z1 : (b.num t).size ≤ 7 := h.1.2.1
  have z2 : (b.den t).size ≤ 5 := h.1.2.2
  exact (show _ ∧ _ ∧ _ ∧ _ from ⟨by omega, by omega, by rw [PS.zero_sz]; omega, g⟩)
theorem zrF_ge (P : PS) (j : Int) (n : Nat) : -1 ≤ zrF P j n := by
  induction n with
  | zero => exact Int.le_refl _
  | succ n ih =>
    rw [zrF]
    split
    · exact ih
    · split <;> omega
theorem p_result (l : Launch) (G : Gl) (Λ : Lay) (sz : Nat) (μ : Mem) {g : Nat} {i : Int} (hG : GK Λ g) (hi : -2 ≤ i ∧ i ≤ 2) : Sp l G yX11_result cX11_result 3 (some (FieldType.object "FiniteTerms$Frac")) 0 [.ref g, iv i] Λ sz μ (pR (fun a μ' => a = g + 376 + 5 * (i + 2).toNat ∧ μ' = μ)) := by
  refine Sp.intro (by decide) (Nat.le_of_ble_eq_true rfl) (fun x hx hBD => ?_)
  refine v_lv [(0, .ref g), (1, iv i)] rfl ?_
  refine v_iload hx DX11_result_0 1 rfl ?_
  refine v_push hx DX11_result_1 ?_
  refine v_iadd hx DX11_result_2 ?_
  refine v_istore hx DX11_result_3 [(2, iv (i + 2)), (0, .ref g), (1, iv i)] rfl (by decide) ?_
  refine v_iload hx DX11_result_4 0 rfl ?_
  refine v_if_lt hx DX11_result_5 (by omega) (fun c5 => ?_) (fun c5 => ?_)
  · exact absurd c5 (by omega)
  · skip
    refine v_iload hx DX11_result_8 0 rfl ?_
    refine v_aload hx DX11_result_9 1 rfl ?_
    refine v_get hx DX11_result_10 FLRX11_90 hG.1 (v := .ref (g + 350)) rfl ?_
    refine v_alenI hx DX11_result_13 hG.2.2.1.2 (by decide) (z := 5) rfl ?_
    refine v_icmp_ge hx DX11_result_14 (by omega) (by decide) (fun c14 => ?_) (fun c14 => ?_)
    · exact absurd c14 (by omega)
    · skip
      refine v_aload hx DX11_result_17 1 rfl ?_
      refine v_get hx DX11_result_18 FLRX11_90 hG.1 (v := .ref (g + 350)) rfl ?_
      refine v_iload hx DX11_result_21 0 rfl ?_
      refine v_aald hx DX11_result_22 hG.2.2.1.2 (by decide) (by omega) (by decide) (b := g + 376 + 5 * (i + 2).toNat) (rs_at (by omega)) ?_
      refine v_goto hx DX11_result_23 ?_
      exact v_rr hx hBD DX11_result_30 (⟨rfl, rfl⟩)
theorem p_part (l : Launch) (G : Gl) (Λ : Lay) (sz : Nat) (μ : Mem) {g : Nat} {μ0 : Mem} {b : Bd} {h : Hs} {im : Option (Bd × Hs)} {T : List Int} {S : Int → Sht} {f i p k : Int} (hG : GK Λ g) (hC : KS Λ μ0 μ g b h im T S) (hI : INV G Λ) (hgd : b.good) (rf : inR f) (ri : inR i) (rp : inR p) (rk : inR k) : Sp l G yX11_part cX11_part 6 (some FieldType.int) 5 [.ref g, iv f, iv i, iv p, iv k] Λ sz μ (pI (fun z μ' => z = prtA b f i p k ∧ KS Λ μ μ' g b h im T S)) := by
  refine Sp.intro (by decide) (Nat.le_of_ble_eq_true rfl) (fun x hx hBD => ?_)
  refine v_lv [(0, .ref g), (1, iv f), (2, iv i), (3, iv p), (4, iv k)] rfl ?_
  have hGG := hG
  obtain ⟨hG0, ⟨kB, kH, kB2, kH2⟩, ⟨kSh, kRs⟩, ⟨kK, kSp, kP, kQ, kRe, kRd, kW⟩, ⟨kGi, kSe, kTo, kAn⟩, kS4, kR5, kOut⟩ := hG
  have hG := hGG
  have hCs := hC.start
  obtain ⟨⟨π, hA⟩, hb, hh, him, hT, hdg, hSh, hWr, hout⟩ := hC
  have bok := hb.1
  have hch0 : Chg Λ (fun c => c = g + 351 + 1 ∨ c = g + 351 + 3 ∨ c = g + 366 ∨ (g + 65 < c ∧ c < g + 65 + 17) ∨ (g + 48 < c ∧ c < g + 48 + 17)) μ μ π π := Chg.rf hA
  by_cases hto : isTO f i
  · skip
    have hn := hto.n
    refine v_iload hx DX11_part_0 1 rfl ?_
    refine v_iload hx DX11_part_1 2 rfl ?_
    refine v_cSp hx DX11_part_2 CSRX11_113 [iv f, iv i] (c_termOf l G Λ sz μ (by omega) (by omega)) rfl rfl (Nat.le_of_ble_eq_true rfl) (by decide) ⟨Nat.le_refl _, Nat.le_refl _⟩ ?_
    refine v_top (z' := (5 * f + i + 2)) (if1 hto) ?_
    refine v_istore hx DX11_part_5 [(5, iv (5 * f + i + 2)), (0, .ref g), (1, iv f), (2, iv i), (3, iv p), (4, iv k)] rfl (by decide) ?_
    refine v_iload hx DX11_part_7 0 rfl ?_
    refine v_if_lt hx DX11_part_9 (by omega) (fun c9 => ?_) (fun c9 => ?_)
    · skip
      refine v_push hx DX11_part_26 ?_
      exact v_ri hx hBD DX11_part_27 (⟨by unfold prtA; rw [if0 (fun q => by omega)], hCs⟩)
    · skip
      refine v_iload hx DX11_part_12 4 rfl ?_
      refine v_push hx DX11_part_13 ?_
      refine v_push hx DX11_part_14 ?_
      refine v_cSp hx DX11_part_15 CSRX11_117 [iv p, iv 1, iv 4] (c_within l G Λ sz μ (by omega) (by omega) (by omega)) rfl rfl (Nat.le_of_ble_eq_true rfl) (by decide) ⟨Nat.le_refl _, Nat.le_refl _⟩ ?_
      have br15 := bz_rng (1 ≤ p ∧ p ≤ 4)
      refine v_if_eq hx DX11_part_18 (by omega) (fun c18 => ?_) (fun c18 => ?_)
      · skip
        have d18 := bzf c18
        refine v_push hx DX11_part_26 ?_
        exact v_ri hx hBD DX11_part_27 (⟨by unfold prtA; rw [if0 (fun q => by exact d18 q.2.1)], hCs⟩)
      · skip
        have d18 := bzt c18
        refine v_iload hx DX11_part_21 5 rfl ?_
        refine v_if_ge hx DX11_part_23 (by omega) (fun c23 => ?_) (fun c23 => ?_)
        · skip
          refine v_aload hx DX11_part_28 1 rfl ?_
          refine v_get hx DX11_part_29 FLRX11_12 hG.1 (v := .ref (g + 1)) rfl ?_
          refine v_iload hx DX11_part_32 0 rfl ?_
          refine v_aload hx DX11_part_34 1 rfl ?_
          refine v_get hx DX11_part_35 FLRX11_95 hG.1 (v := .ref (g + 351)) rfl ?_
          refine v_cVv hx DX11_part_38 CVRX11_124 [iv (5 * f + i + 2), .ref (g + 351)] (b_load (t := (5 * f + i + 2)) l G Λ sz μ hA kB hb kGi (by omega)) kB.1 rfl rfl (Nat.le_of_ble_eq_true rfl) (by decide) ⟨Nat.le_refl _, Nat.le_refl _⟩ (fun μ5 hμ5 => ?_)
          obtain ⟨π5, hc5, he5_0, he5_1⟩ := hμ5
          have hA5 := hc5.1
          have hch5 := hch0.trans (hc5.mono (fun c hc => by first | omega | (dsimp only at hc ⊢; omega)))
          refine v_aload hx DX11_part_41 1 rfl ?_
          refine v_get hx DX11_part_42 FLRX11_51 hG.1 (v := .ref (g + 65)) rfl ?_
          refine v_aload hx DX11_part_45 1 rfl ?_
          refine v_get hx DX11_part_46 FLRX11_95 hG.1 (v := .ref (g + 351)) rfl ?_
          refine v_get hx DX11_part_49 FLRX11_248 kGi.1 (v := .ref (g + 351 + 3)) rfl ?_
          refine v_iload hx DX11_part_52 4 rfl ?_
          refine v_aload hx DX11_part_53 1 rfl ?_
          refine v_get hx DX11_part_54 FLRX11_108 hG.1 (v := .ref (g + 366)) rfl ?_
          refine v_cVv hx DX11_part_57 CVRX11_265 [.ref (g + 351 + 3), iv p, .ref (g + 366)] (q_factorsOf l G Λ sz μ5 hA5 hI kK kSp (by omega) kGi.2.2 kAn (by omega) (by omega) (by omega) (by rw [he5_1]; exact (hgd.tm (t := (5 * f + i + 2)) (by omega)).1.2.2.1) (by rw [he5_1]; have := PS.size_le (b.den_lt (5 * f + i + 2)); omega)) kSp.1 rfl rfl (Nat.le_of_ble_eq_true rfl) (by decide) ⟨Nat.le_refl _, Nat.le_refl _⟩ (fun μ6 hμ6 => ?_)
          obtain ⟨π6, hc6, he6_0⟩ := hμ6
          have hA6 := hc6.1
          have hch6 := hch5.trans (hc6.mono (fun c hc => by first | omega | (dsimp only at hc ⊢; omega)))
          have v6_0 : π6 (g + 351 + 1) = b.num (5 * f + i + 2) := (hc6.2.1 (g + 351 + 1) (by first | omega | (dsimp only; omega))).trans he5_0
          have v6_1 : π6 (g + 351 + 3) = b.den (5 * f + i + 2) := (hc6.2.1 (g + 351 + 3) (by first | omega | (dsimp only; omega))).trans he5_1
          have g6_0 : π6 (g + 366) = prt (b.den (5 * f + i + 2)) p.toNat := he6_0.trans (by rw [he5_1]; rfl)
          refine v_aload hx DX11_part_60 1 rfl ?_
          refine v_get hx DX11_part_61 FLRX11_108 hG.1 (v := .ref (g + 366)) rfl ?_
          refine v_iload hx DX11_part_64 5 rfl ?_
          refine v_cVp hx DX11_part_66 CVRX11_268 [iv k] (s_at l G Λ sz μ6 kAn (AB.get (A := prt (b.den (5 * f + i + 2)) p.toNat) hA6 kAn g6_0) (by omega)) kAn.1 rfl rfl (Nat.le_of_ble_eq_true rfl) (by decide) ⟨Nat.le_refl _, Nat.le_refl _⟩ ?_
          exact v_ri hx hBD DX11_part_69 (⟨by unfold prtA; rw [if1 ⟨hto, d18, by omega⟩], (hCs.scr hGG (hch6.fc (X := fun _ => False)) (fun a q => q.elim))⟩)
        · skip
          refine v_push hx DX11_part_26 ?_
          exact v_ri hx hBD DX11_part_27 (⟨by unfold prtA; rw [if0 (fun q => by have := q.2.2; omega)], hCs⟩)
  · skip
    refine v_iload hx DX11_part_0 1 rfl ?_
    refine v_iload hx DX11_part_1 2 rfl ?_
    refine v_cSp hx DX11_part_2 CSRX11_113 [iv f, iv i] (c_termOf l G Λ sz μ (by omega) (by omega)) rfl rfl (Nat.le_of_ble_eq_true rfl) (by decide) ⟨Nat.le_refl _, Nat.le_refl _⟩ ?_
    refine v_top (z' := -1) (if0 hto) ?_
    refine v_istore hx DX11_part_5 [(5, iv (-1)), (0, .ref g), (1, iv f), (2, iv i), (3, iv p), (4, iv k)] rfl (by decide) ?_
    refine v_iload hx DX11_part_7 0 rfl ?_
    refine v_if_lt hx DX11_part_9 (by decide) (fun c9 => ?_) (fun c9 => ?_)
    · skip
      refine v_push hx DX11_part_26 ?_
      exact v_ri hx hBD DX11_part_27 (⟨by unfold prtA; rw [if0 (fun q => by exact hto q.1)], hCs⟩)
    · exact absurd c9 (by decide)
theorem p_split (l : Launch) (G : Gl) (Λ : Lay) (sz : Nat) (μ : Mem) {g : Nat} {μ0 : Mem} {b : Bd} {h : Hs} {im : Option (Bd × Hs)} {T : List Int} {S : Int → Sht} {f i w k : Int} (hG : GK Λ g) (hC : KS Λ μ0 μ g b h im T S) (hI : INV G Λ) (hgd : b.good) (rf : inR f) (ri : inR i) (rw : inR w) (rk : inR k) : Sp l G yX11_split cX11_split 7 (some FieldType.int) 6 [.ref g, iv f, iv i, iv w, iv k] Λ sz μ (pI (fun z μ' => z = splA b f i w k ∧ KS Λ μ μ' g b h im T S)) := by
  refine Sp.intro (by decide) (Nat.le_of_ble_eq_true rfl) (fun x hx hBD => ?_)
  refine v_lv [(0, .ref g), (1, iv f), (2, iv i), (3, iv w), (4, iv k)] rfl ?_
  have hGG := hG
  obtain ⟨hG0, ⟨kB, kH, kB2, kH2⟩, ⟨kSh, kRs⟩, ⟨kK, kSp, kP, kQ, kRe, kRd, kW⟩, ⟨kGi, kSe, kTo, kAn⟩, kS4, kR5, kOut⟩ := hG
  have hG := hGG
  have hCs := hC.start
  obtain ⟨⟨π, hA⟩, hb, hh, him, hT, hdg, hSh, hWr, hout⟩ := hC
  have bok := hb.1
  have kR2 : fracK Λ (g + 386) := kR5 2 (by omega)
  have hch0 : Chg Λ (fun c => c = g + 351 + 1 ∨ c = g + 351 + 3 ∨ c = g + 356 + 1 ∨ c = g + 356 + 3 ∨ c = g + 366 ∨ c = g + 386 + 1 ∨ c = g + 386 + 3 ∨ (g + 65 < c ∧ c < g + 65 + 17) ∨ (g + 48 < c ∧ c < g + 48 + 17)) μ μ π π := Chg.rf hA
  by_cases hto : isTO f i
  · skip
    have hn := hto.n
    refine v_iload hx DX11_split_0 1 rfl ?_
    refine v_iload hx DX11_split_1 2 rfl ?_
    refine v_cSp hx DX11_split_2 CSRX11_113 [iv f, iv i] (c_termOf l G Λ sz μ (by omega) (by omega)) rfl rfl (Nat.le_of_ble_eq_true rfl) (by decide) ⟨Nat.le_refl _, Nat.le_refl _⟩ ?_
    refine v_top (z' := (5 * f + i + 2)) (if1 hto) ?_
    refine v_istore hx DX11_split_5 [(5, iv (5 * f + i + 2)), (0, .ref g), (1, iv f), (2, iv i), (3, iv w), (4, iv k)] rfl (by decide) ?_
    refine v_iload hx DX11_split_7 0 rfl ?_
    refine v_if_lt hx DX11_split_9 (by omega) (fun c9 => ?_) (fun c9 => ?_)
    · skip
      refine v_push hx DX11_split_26 ?_
      exact v_ri hx hBD DX11_split_27 (⟨by unfold splA; rw [if0 (fun q => by omega)], hCs⟩)
    · skip
      refine v_iload hx DX11_split_12 4 rfl ?_
      refine v_push hx DX11_split_13 ?_
      refine v_push hx DX11_split_14 ?_
      refine v_cSp hx DX11_split_15 CSRX11_117 [iv w, iv 0, iv 3] (c_within l G Λ sz μ (by omega) (by omega) (by omega)) rfl rfl (Nat.le_of_ble_eq_true rfl) (by decide) ⟨Nat.le_refl _, Nat.le_refl _⟩ ?_
      have br15 := bz_rng (0 ≤ w ∧ w ≤ 3)
      refine v_if_eq hx DX11_split_18 (by omega) (fun c18 => ?_) (fun c18 => ?_)
      · skip
        have d18 := bzf c18
        refine v_push hx DX11_split_26 ?_
        exact v_ri hx hBD DX11_split_27 (⟨by unfold splA; rw [if0 (fun q => by exact d18 q.2.1)], hCs⟩)
      · skip
        have d18 := bzt c18
        refine v_iload hx DX11_split_21 5 rfl ?_
        refine v_if_ge hx DX11_split_23 (by omega) (fun c23 => ?_) (fun c23 => ?_)
        · skip
          have sk := tm_spl (i := i) hgd (by omega : 0 ≤ f ∧ f < 3) (by omega)
          refine v_aload hx DX11_split_28 1 rfl ?_
          refine v_get hx DX11_split_29 FLRX11_12 hG.1 (v := .ref (g + 1)) rfl ?_
          refine v_iload hx DX11_split_32 0 rfl ?_
          refine v_aload hx DX11_split_34 1 rfl ?_
          refine v_get hx DX11_split_35 FLRX11_95 hG.1 (v := .ref (g + 351)) rfl ?_
          refine v_cVv hx DX11_split_38 CVRX11_124 [iv (5 * f + i + 2), .ref (g + 351)] (b_load (t := (5 * f + i + 2)) l G Λ sz μ hA kB hb kGi (by omega)) kB.1 rfl rfl (Nat.le_of_ble_eq_true rfl) (by decide) ⟨Nat.le_refl _, Nat.le_refl _⟩ (fun μ5 hμ5 => ?_)
          obtain ⟨π5, hc5, he5_0, he5_1⟩ := hμ5
          have hA5 := hc5.1
          have hch5 := hch0.trans (hc5.mono (fun c hc => by first | omega | (dsimp only at hc ⊢; omega)))
          refine v_aload hx DX11_split_41 1 rfl ?_
          refine v_get hx DX11_split_42 FLRX11_108 hG.1 (v := .ref (g + 366)) rfl ?_
          refine v_cVv hx DX11_split_45 CVRX11_241 [] (s_clear l G Λ sz μ5 kAn (AB.get (A := π5 (g + 366)) hA5 kAn rfl)) kAn.1 rfl rfl (Nat.le_of_ble_eq_true rfl) (by decide) ⟨Nat.le_refl _, Nat.le_refl _⟩ (fun μ6 hμ6 => ?_)
          obtain ⟨π6, hc6, he6, ho6⟩ := Chg.one (S := fun c => c = g + 351 + 1 ∨ c = g + 351 + 3 ∨ c = g + 356 + 1 ∨ c = g + 356 + 3 ∨ c = g + 366 ∨ c = g + 386 + 1 ∨ c = g + 386 + 3 ∨ (g + 65 < c ∧ c < g + 65 + 17) ∨ (g + 48 < c ∧ c < g + 48 + 17)) (R := PS.zero) hA5 kAn (by first | omega | (dsimp only; omega)) hμ6
          have hA6 := hc6.1
          have hch6 := hch5.trans hc6
          have v6_0 : π6 (g + 351 + 1) = b.num (5 * f + i + 2) := (ho6 (g + 351 + 1) (by omega)).trans he5_0
          have v6_1 : π6 (g + 351 + 3) = b.den (5 * f + i + 2) := (ho6 (g + 351 + 3) (by omega)).trans he5_1
          refine v_aload hx DX11_split_48 1 rfl ?_
          refine v_get hx DX11_split_49 FLRX11_51 hG.1 (v := .ref (g + 65)) rfl ?_
          refine v_aload hx DX11_split_52 1 rfl ?_
          refine v_get hx DX11_split_53 FLRX11_95 hG.1 (v := .ref (g + 351)) rfl ?_
          refine v_aload hx DX11_split_56 1 rfl ?_
          refine v_get hx DX11_split_57 FLRX11_108 hG.1 (v := .ref (g + 366)) rfl ?_
          refine v_aload hx DX11_split_60 1 rfl ?_
          refine v_push hx DX11_split_61 ?_
          refine v_cVr hx DX11_split_62 CVRX11_223 [iv 0] (p_result (i := 0) l G Λ sz μ6 hG (by omega)) hG.1 rfl rfl (Nat.le_of_ble_eq_true rfl) (by decide) ⟨Nat.le_refl _, Nat.le_refl _⟩ (fun z8 μ7 hμ7 => ?_)
          obtain ⟨ea, em⟩ := hμ7
          have ea : z8 = g + 386 := ea
          rw [ea, em]
          refine v_aload hx DX11_split_65 1 rfl ?_
          refine v_get hx DX11_split_66 FLRX11_99 hG.1 (v := .ref (g + 356)) rfl ?_
          refine v_cVv hx DX11_split_69 CVRX11_271 [.ref (g + 351), .ref (g + 366), .ref (g + 386), .ref (g + 356)] (q_runB (N := b.num (5 * f + i + 2)) (D := b.den (5 * f + i + 2)) (W := PS.zero) l G Λ sz μ6 hA6 hI kK kSp kAn kR2 kSe kGi (by omega) (he6) (v6_0) (v6_1) sk.1.1.2.2.1 sk.1.1.2.2.2.1 (spl_hid sk) (fun e => by have r := sk.1.1; unfold Bd.tm at r; dsimp only at r; rw [e] at r; exact r.z)) kSp.1 rfl rfl (Nat.le_of_ble_eq_true rfl) (by decide) ⟨Nat.le_refl _, Nat.le_refl _⟩ (fun μ9 hμ9 => ?_)
          obtain ⟨π9, hc9, he9_0, he9_1, he9_2, he9_3⟩ := hμ9
          have hA9 := hc9.1
          have hch9 := hch6.trans (hc9.mono (fun c hc => by first | omega | (dsimp only at hc ⊢; omega)))
          have v9_0 : π9 (g + 351 + 1) = b.num (5 * f + i + 2) := (hc9.2.1 (g + 351 + 1) (by first | omega | (dsimp only; omega))).trans v6_0
          have v9_1 : π9 (g + 351 + 3) = b.den (5 * f + i + 2) := (hc9.2.1 (g + 351 + 3) (by first | omega | (dsimp only; omega))).trans v6_1
          have v9_2 : π9 (g + 366) = PS.zero := (hc9.2.1 (g + 366) (by first | omega | (dsimp only; omega))).trans he6
          have g9_0 : π9 ((g + 386) + 1) = (sp2 (b.tm (5 * f + i + 2)) PS.zero).1.1 := he9_0.trans rfl
          have g9_1 : π9 ((g + 386) + 3) = (sp2 (b.tm (5 * f + i + 2)) PS.zero).1.2 := he9_1.trans rfl
          have g9_2 : π9 (g + 356 + 1) = (sp2 (b.tm (5 * f + i + 2)) PS.zero).2.1 := he9_2.trans rfl
          have g9_3 : π9 (g + 356 + 3) = (sp2 (b.tm (5 * f + i + 2)) PS.zero).2.2 := he9_3.trans rfl
          refine v_iload hx DX11_split_72 4 rfl ?_
          refine v_push hx DX11_split_73 ?_
          refine v_icmp_ge hx DX11_split_74 (by omega) (by decide) (fun c74 => ?_) (fun c74 => ?_)
          · skip
            refine v_aload hx DX11_split_85 1 rfl ?_
            refine v_get hx DX11_split_86 FLRX11_99 hG.1 (v := .ref (g + 356)) rfl ?_
            refine v_astore hx DX11_split_89 [(6, .ref (g + 356)), (5, iv (5 * f + i + 2)), (0, .ref g), (1, iv f), (2, iv i), (3, iv w), (4, iv k)] rfl (by decide) ?_
            refine v_iload hx DX11_split_91 5 rfl ?_
            refine v_push hx DX11_split_92 ?_
            refine v_irem hx (by omega) (by decide) DX11_split_93 ?_
            refine v_if_ne hx DX11_split_94 (by omega) (fun c94 => ?_) (fun c94 => ?_)
            · skip
              refine v_aload hx DX11_split_105 0 rfl ?_
              refine v_get hx DX11_split_107 FLRX11_248 kSe.1 (v := .ref (g + 356 + 3)) rfl ?_
              refine v_iload hx DX11_split_110 6 rfl ?_
              refine v_cVp hx DX11_split_112 CVRX11_268 [iv k] (s_at l G Λ sz μ9 kSe.2.2 (AB.get (A := (sp2 (b.tm (5 * f + i + 2)) PS.zero).2.2) hA9 kSe.2.2 g9_3) (by omega)) kSe.2.2.1 rfl rfl (Nat.le_of_ble_eq_true rfl) (by decide) ⟨Nat.le_refl _, Nat.le_refl _⟩ ?_
              exact v_ri hx hBD DX11_split_115 (⟨by unfold splA; rw [if1 ⟨hto, d18, by omega⟩, if_neg (by omega)]; unfold frP; rw [if_neg (by omega)], (hCs.scr hGG (hch9.fc (X := fun _ => False)) (fun a q => q.elim))⟩)
            · skip
              refine v_aload hx DX11_split_97 0 rfl ?_
              refine v_get hx DX11_split_99 FLRX11_238 kSe.1 (v := .ref (g + 356 + 1)) rfl ?_
              refine v_goto hx DX11_split_102 ?_
              refine v_iload hx DX11_split_110 6 rfl ?_
              refine v_cVp hx DX11_split_112 CVRX11_268 [iv k] (s_at l G Λ sz μ9 kSe.2.1 (AB.get (A := (sp2 (b.tm (5 * f + i + 2)) PS.zero).2.1) hA9 kSe.2.1 g9_2) (by omega)) kSe.2.1.1 rfl rfl (Nat.le_of_ble_eq_true rfl) (by decide) ⟨Nat.le_refl _, Nat.le_refl _⟩ ?_
              exact v_ri hx hBD DX11_split_115 (⟨by unfold splA; rw [if1 ⟨hto, d18, by omega⟩, if_neg (by omega)]; unfold frP; rw [if_pos (by omega)], (hCs.scr hGG (hch9.fc (X := fun _ => False)) (fun a q => q.elim))⟩)
          · skip
            refine v_aload hx DX11_split_77 1 rfl ?_
            refine v_push hx DX11_split_78 ?_
            refine v_cVr hx DX11_split_79 CVRX11_223 [iv 0] (p_result (i := 0) l G Λ sz μ9 hG (by omega)) hG.1 rfl rfl (Nat.le_of_ble_eq_true rfl) (by decide) ⟨Nat.le_refl _, Nat.le_refl _⟩ (fun z13 μ12 hμ12 => ?_)
            obtain ⟨ea, em⟩ := hμ12
            have ea : z13 = g + 386 := ea
            rw [ea, em]
            refine v_goto hx DX11_split_82 ?_
            refine v_astore hx DX11_split_89 [(6, .ref (g + 386)), (5, iv (5 * f + i + 2)), (0, .ref g), (1, iv f), (2, iv i), (3, iv w), (4, iv k)] rfl (by decide) ?_
            refine v_iload hx DX11_split_91 5 rfl ?_
            refine v_push hx DX11_split_92 ?_
            refine v_irem hx (by omega) (by decide) DX11_split_93 ?_
            refine v_if_ne hx DX11_split_94 (by omega) (fun c94 => ?_) (fun c94 => ?_)
            · skip
              refine v_aload hx DX11_split_105 0 rfl ?_
              refine v_get hx DX11_split_107 FLRX11_248 kR2.1 (v := .ref ((g + 386) + 3)) rfl ?_
              refine v_iload hx DX11_split_110 6 rfl ?_
              refine v_cVp hx DX11_split_112 CVRX11_268 [iv k] (s_at l G Λ sz μ9 kR2.2.2 (AB.get (A := (sp2 (b.tm (5 * f + i + 2)) PS.zero).1.2) hA9 kR2.2.2 g9_1) (by omega)) kR2.2.2.1 rfl rfl (Nat.le_of_ble_eq_true rfl) (by decide) ⟨Nat.le_refl _, Nat.le_refl _⟩ ?_
              exact v_ri hx hBD DX11_split_115 (⟨by unfold splA; rw [if1 ⟨hto, d18, by omega⟩, if_pos (by omega)]; unfold frP; rw [if_neg (by omega)], (hCs.scr hGG (hch9.fc (X := fun _ => False)) (fun a q => q.elim))⟩)
            · skip
              refine v_aload hx DX11_split_97 0 rfl ?_
              refine v_get hx DX11_split_99 FLRX11_238 kR2.1 (v := .ref ((g + 386) + 1)) rfl ?_
              refine v_goto hx DX11_split_102 ?_
              refine v_iload hx DX11_split_110 6 rfl ?_
              refine v_cVp hx DX11_split_112 CVRX11_268 [iv k] (s_at l G Λ sz μ9 kR2.2.1 (AB.get (A := (sp2 (b.tm (5 * f + i + 2)) PS.zero).1.1) hA9 kR2.2.1 g9_0) (by omega)) kR2.2.1.1 rfl rfl (Nat.le_of_ble_eq_true rfl) (by decide) ⟨Nat.le_refl _, Nat.le_refl _⟩ ?_
              exact v_ri hx hBD DX11_split_115 (⟨by unfold splA; rw [if1 ⟨hto, d18, by omega⟩, if_pos (by omega)]; unfold frP; rw [if_pos (by omega)], (hCs.scr hGG (hch9.fc (X := fun _ => False)) (fun a q => q.elim))⟩)
        · skip
          refine v_push hx DX11_split_26 ?_
          exact v_ri hx hBD DX11_split_27 (⟨by unfold splA; rw [if0 (fun q => by have := q.2.2; omega)], hCs⟩)
  · skip
    refine v_iload hx DX11_split_0 1 rfl ?_
    refine v_iload hx DX11_split_1 2 rfl ?_
    refine v_cSp hx DX11_split_2 CSRX11_113 [iv f, iv i] (c_termOf l G Λ sz μ (by omega) (by omega)) rfl rfl (Nat.le_of_ble_eq_true rfl) (by decide) ⟨Nat.le_refl _, Nat.le_refl _⟩ ?_
    refine v_top (z' := -1) (if0 hto) ?_
    refine v_istore hx DX11_split_5 [(5, iv (-1)), (0, .ref g), (1, iv f), (2, iv i), (3, iv w), (4, iv k)] rfl (by decide) ?_
    refine v_iload hx DX11_split_7 0 rfl ?_
    refine v_if_lt hx DX11_split_9 (by decide) (fun c9 => ?_) (fun c9 => ?_)
    · skip
      refine v_push hx DX11_split_26 ?_
      exact v_ri hx hBD DX11_split_27 (⟨by unfold splA; rw [if0 (fun q => by exact hto q.1)], hCs⟩)
    · exact absurd c9 (by decide)
theorem p_asked (l : Launch) (G : Gl) (Λ : Lay) (sz : Nat) (μ : Mem) {g : Nat} {μ0 : Mem} {b : Bd} {h : Hs} {im : Option (Bd × Hs)} {T : List Int} {S : Int → Sht} {f w : Int} (hG : GK Λ g) (hC : KS Λ μ0 μ g b h im T S) (hI : INV G Λ) (hgd : b.good) (rf : inR f) (rw : inR w) : Sp l G yX11_asked cX11_asked 3 (some FieldType.int) 7 [.ref g, iv f, iv w] Λ sz μ (pI (fun z μ' => z = askA b f w ∧ KS Λ μ μ' g b h im T S)) := by
  refine Sp.intro (by decide) (Nat.le_of_ble_eq_true rfl) (fun x hx hBD => ?_)
  refine v_lv [(0, .ref g), (1, iv f), (2, iv w)] rfl ?_
  have hGG := hG
  obtain ⟨hG0, ⟨kB, kH, kB2, kH2⟩, ⟨kSh, kRs⟩, ⟨kK, kSp, kP, kQ, kRe, kRd, kW⟩, ⟨kGi, kSe, kTo, kAn⟩, kS4, kR5, kOut⟩ := hG
  have hG := hGG
  have hCs := hC.start
  obtain ⟨⟨π, hA⟩, hb, hh, him, hT, hdg, hSh, hWr, hout⟩ := hC
  have bok := hb.1
  refine v_iload hx DX11_asked_0 1 rfl ?_
  refine v_cSp hx DX11_asked_1 CSRX11_139 [iv f] (c_isFunction l G Λ sz μ (by omega)) rfl rfl (Nat.le_of_ble_eq_true rfl) (by decide) ⟨Nat.le_refl _, Nat.le_refl _⟩ ?_
  have br1 := bz_rng (0 ≤ f ∧ f ≤ 2)
  refine v_if_eq hx DX11_asked_4 (by omega) (fun c4 => ?_) (fun c4 => ?_)
  · skip
    have d4 := bzf c4
    refine v_push hx DX11_asked_16 ?_
    exact v_ri hx hBD DX11_asked_17 (⟨by unfold askA; rw [if0 (fun q => by exact d4 q.1)], hCs⟩)
  · skip
    have d4 := bzt c4
    refine v_iload hx DX11_asked_7 2 rfl ?_
    refine v_push hx DX11_asked_8 ?_
    refine v_push hx DX11_asked_9 ?_
    refine v_cSp hx DX11_asked_10 CSRX11_117 [iv w, iv 0, iv 4] (c_within l G Λ sz μ (by omega) (by omega) (by omega)) rfl rfl (Nat.le_of_ble_eq_true rfl) (by decide) ⟨Nat.le_refl _, Nat.le_refl _⟩ ?_
    have br10 := bz_rng (0 ≤ w ∧ w ≤ 4)
    refine v_if_ne hx DX11_asked_13 (by omega) (fun c13 => ?_) (fun c13 => ?_)
    · skip
      have d13 := bzt c13
      refine v_aload hx DX11_asked_18 0 rfl ?_
      refine v_get hx DX11_asked_19 FLRX11_12 hG.1 (v := .ref (g + 1)) rfl ?_
      refine v_iload hx DX11_asked_22 1 rfl ?_
      refine v_cVp hx DX11_asked_23 CVRX11_152 [iv f] (b_fits l G Λ sz μ kB hb (by omega)) kB.1 rfl rfl (Nat.le_of_ble_eq_true rfl) (by decide) ⟨Nat.le_refl _, Nat.le_refl _⟩ ?_
      have ftrf := b.fit_rng f
      refine v_if_ne hx DX11_asked_26 (by omega) (fun c26 => ?_) (fun c26 => ?_)
      · skip
        refine v_aload hx DX11_asked_32 0 rfl ?_
        refine v_get hx DX11_asked_33 FLRX11_60 hG.1 (v := .ref (g + 82)) rfl ?_
        refine v_aload hx DX11_asked_36 0 rfl ?_
        refine v_get hx DX11_asked_37 FLRX11_12 hG.1 (v := .ref (g + 1)) rfl ?_
        refine v_iload hx DX11_asked_40 1 rfl ?_
        refine v_cVv hx DX11_asked_41 CVRX11_275 [.ref (g + 1), iv f] (c_compute (p := g + 82) (κ := g + 48) (σ := g + 65) (β := g + 1) (f := f) l G Λ sz μ hA hI kK kSp kP kB hb hgd (by omega) (by omega) (by omega)) kP.1 rfl rfl (Nat.le_of_ble_eq_true rfl) (by decide) ⟨Nat.le_refl _, Nat.le_refl _⟩ (fun μ7 hμ7 => ?_)
        obtain ⟨π1, w1, cx1, u13a1, w141, w151, hQ1, hR1, u131, u151⟩ := hμ7
        have k1 : KS Λ μ μ7 g b h im T S := hCs.scr hGG (cx1.fc (X := fun a => a = g + 82) rfl) (fun a q => by unfold scr9; omega)
        have hwr1 := hwI_rng b (fnJ b f) 5 (by omega)
        refine v_iload hx DX11_asked_44 2 rfl ?_
        refine v_if_ne hx DX11_asked_45 (by omega) (fun c45 => ?_) (fun c45 => ?_)
        · skip
          refine v_iload hx DX11_asked_64 2 rfl ?_
          refine v_push hx DX11_asked_65 ?_
          refine v_icmp_ne hx DX11_asked_66 (by omega) (by decide) (fun c66 => ?_) (fun c66 => ?_)
          · skip
            have e1 : π1 (g + 82 + 66 + 1) = (rst b f).1 := (hR1 0 (by omega) (by omega)).1
            have e3 : π1 (g + 82 + 66 + 3) = (rst b f).2 := (hR1 0 (by omega) (by omega)).2
            have ok := (cls_ok (i := 0) hgd (by omega : 0 ≤ f ∧ f < 3) (by omega) (by omega)).2
            have ok : RDP (rst b f).1 (rst b f).2 ∧ (rst b f).1.size ≤ 24 ∧ (rst b f).2.size ≤ 20 := ok
            refine v_aload hx DX11_asked_94 0 rfl ?_
            refine v_get hx DX11_asked_95 FLRX11_70 hG.1 (v := .ref (g + 244)) rfl ?_
            refine v_aload hx DX11_asked_98 0 rfl ?_
            refine v_get hx DX11_asked_99 FLRX11_60 hG.1 (v := .ref (g + 82)) rfl ?_
            refine v_push hx DX11_asked_102 ?_
            refine v_cVr hx DX11_asked_103 CVRX11_285 [iv 0] (c_rest (i := 0) l G Λ sz μ7 kP (by omega)) kP.1 rfl rfl (Nat.le_of_ble_eq_true rfl) (by decide) ⟨Nat.le_refl _, Nat.le_refl _⟩ (fun z10 μ9 hμ9 => ?_)
            obtain ⟨ea, em⟩ := hμ9
            have ea : z10 = g + 82 + 66 := ea
            rw [ea, em]
            refine v_cVv hx DX11_asked_106 CVRX11_288 [.ref (g + 82 + 66)] (c_rcompute (r := g + 244) (κ := g + 48) (f := g + 82 + 66) l G Λ sz μ7 cx1.1 hI kK kRe (by omega) (kP.2.2.2.2.2.2.2 2 (by omega)) (by omega) (by rw [e1, e3]; exact ok.1) (by rw [e1, e3]; exact ok.2) (by rw [e3]; exact rst_sqf hgd (by omega) (by omega))) kRe.1 rfl rfl (Nat.le_of_ble_eq_true rfl) (by decide) ⟨Nat.le_refl _, Nat.le_refl _⟩ (fun μ11 hμ11 => ?_)
            obtain ⟨π2, c2, r1, r3, r5, r17⟩ := hμ11
            rw [e1] at r1
            rw [e3] at r3 r5
            rw [e1, e3] at r17
            have k2 : KS Λ μ μ11 g b h im T S := k1.scr hGG (c2.fc (X := fun _ => False)) (fun a q => q.elim)
            have ne0 := res_ne ok.1 (by have := ok.2; omega) (rst_sqf hgd (by omega) (by omega))
            refine v_iload hx DX11_asked_109 2 rfl ?_
            refine v_push hx DX11_asked_110 ?_
            refine v_icmp_ne hx DX11_asked_111 (by omega) (by decide) (fun c111 => ?_) (fun c111 => ?_)
            · skip
              refine v_iload hx DX11_asked_122 2 rfl ?_
              refine v_push hx DX11_asked_123 ?_
              refine v_icmp_ne hx DX11_asked_124 (by omega) (by decide) (fun c124 => ?_) (fun c124 => ?_)
              · skip
                refine v_aload hx DX11_asked_137 0 rfl ?_
                refine v_get hx DX11_asked_138 FLRX11_70 hG.1 (v := .ref (g + 244)) rfl ?_
                refine v_get hx DX11_asked_141 FLRX11_296 kRe.1 (v := .ref (g + 244 + 17)) rfl ?_
                refine v_get hx DX11_asked_144 FLRX11_299 kRe.2.2.2.2.2.2.2.2.2.1 (fv_i rfl ((c2.1.get kRe.2.2.2.2.2.2.2.2.2 r17).2) : _ = iv (((rsP (rst b f).1 (rst b f).2).size : Int) - 1)) ?_
                exact v_ri hx hBD DX11_asked_147 (⟨by unfold askA; rw [if1 ⟨d4, d13⟩, if_neg (by omega), if_neg (by omega), if_neg (by omega), if_neg (by omega), if_neg (by omega)], k2⟩)
              · skip
                refine v_aload hx DX11_asked_127 0 rfl ?_
                refine v_get hx DX11_asked_128 FLRX11_70 hG.1 (v := .ref (g + 244)) rfl ?_
                refine v_cVi hx DX11_asked_131 CVRX11_293 [] (c_openDegree (a := (rst b f).1) (s := (rst b f).2) (P := rsP (rst b f).1 (rst b f).2) l G Λ sz μ11 c2.1 hI kK kRe (by omega) r1 r3 r5 r17 ⟨ok.1.2.1, ok.1.2.2.1, by have := ok.2; omega⟩) kRe.1 rfl rfl (Nat.le_of_ble_eq_true rfl) (by decide) ⟨Nat.le_refl _, Nat.le_refl _⟩ (fun z14 μ13 hμ13 => ?_)
                obtain ⟨ez, -⟩ : _ ∧ True := ⟨hμ13, True.intro⟩
                obtain ⟨π3, c3, ez⟩ := ez
                rw [ez]
                have k3 : KS Λ μ μ13 g b h im T S := k2.scr hGG (c3.fc (X := fun _ => False)) (fun a q => q.elim)
                refine v_goto hx DX11_asked_134 ?_
                exact v_ri hx hBD DX11_asked_147 (⟨by unfold askA; rw [if1 ⟨d4, d13⟩, if_neg (by omega), if_neg (by omega), if_neg (by omega), if_neg (by omega), if_pos (by omega)]; exact op_lg ne0 ok.1.1 ok.1.2.1 ok.1.2.2.1 (by have := ok.2; omega) (by have := ok.2; omega) 100, k3⟩)
            · skip
              refine v_aload hx DX11_asked_114 0 rfl ?_
              refine v_get hx DX11_asked_115 FLRX11_70 hG.1 (v := .ref (g + 244)) rfl ?_
              refine v_cVp hx DX11_asked_118 CVRX11_290 [] (c_logarithms l G Λ sz μ11 hI kK kRe (by omega) (c2.1.get kRe.2.2.2.2.2.2.2.2.2 r17)) kRe.1 rfl rfl (Nat.le_of_ble_eq_true rfl) (by decide) ⟨Nat.le_refl _, Nat.le_refl _⟩ ?_
              exact v_ri hx hBD DX11_asked_121 (⟨by unfold askA; rw [if1 ⟨d4, d13⟩, if_neg (by omega), if_neg (by omega), if_neg (by omega), if_pos (by omega)]; exact zr_lg ne0 100, k2⟩)
          · skip
            refine v_aload hx DX11_asked_69 0 rfl ?_
            refine v_get hx DX11_asked_70 FLRX11_60 hG.1 (v := .ref (g + 82)) rfl ?_
            refine v_get hx DX11_asked_73 FLRX11_279 kP.1 (fv_i rfl (by rw [cx1.2.2.2.1]; exact w141) : _ = iv ((hwI b (fnJ b f) 5).1)) ?_
            refine v_if_eq hx DX11_asked_76 (by omega) (fun c76 => ?_) (fun c76 => ?_)
            · skip
              refine v_aload hx DX11_asked_84 0 rfl ?_
              refine v_get hx DX11_asked_85 FLRX11_60 hG.1 (v := .ref (g + 82)) rfl ?_
              refine v_get hx DX11_asked_88 FLRX11_282 kP.1 (fv_i rfl (by rw [cx1.2.2.2.1]; exact w151 (by omega)) : _ = iv ((hwI b (fnJ b f) 5).2)) ?_
              refine v_push hx DX11_asked_91 ?_
              refine v_iadd hx DX11_asked_92 ?_
              exact v_ri hx hBD DX11_asked_93 (⟨by unfold askA; rw [if1 ⟨d4, d13⟩, if_neg (by omega), if_neg (by omega), if_pos (by omega), if_pos (by omega)], k1⟩)
            · skip
              refine v_push hx DX11_asked_79 ?_
              refine v_goto hx DX11_asked_81 ?_
              exact v_ri hx hBD DX11_asked_93 (⟨by unfold askA; rw [if1 ⟨d4, d13⟩, if_neg (by omega), if_neg (by omega), if_pos (by omega), if_neg (by omega)], k1⟩)
        · skip
          refine v_aload hx DX11_asked_48 0 rfl ?_
          refine v_get hx DX11_asked_49 FLRX11_60 hG.1 (v := .ref (g + 82)) rfl ?_
          refine v_get hx DX11_asked_52 FLRX11_279 kP.1 (fv_i rfl (by rw [cx1.2.2.2.1]; exact w141) : _ = iv ((hwI b (fnJ b f) 5).1)) ?_
          refine v_if_eq hx DX11_asked_55 (by omega) (fun c55 => ?_) (fun c55 => ?_)
          · skip
            refine v_push hx DX11_asked_62 ?_
            exact v_ri hx hBD DX11_asked_63 (⟨by unfold askA; rw [if1 ⟨d4, d13⟩, if_neg (by omega), if_pos (by omega)]; omega, k1⟩)
          · skip
            refine v_push hx DX11_asked_58 ?_
            refine v_goto hx DX11_asked_59 ?_
            exact v_ri hx hBD DX11_asked_63 (⟨by unfold askA; rw [if1 ⟨d4, d13⟩, if_neg (by omega), if_pos (by omega)]; omega, k1⟩)
      · skip
        refine v_push hx DX11_asked_29 ?_
        exact v_ri hx hBD DX11_asked_31 (⟨by unfold askA; rw [if1 ⟨d4, d13⟩, if_pos (by omega)], hCs⟩)
    · skip
      have d13 := bzf c13
      refine v_push hx DX11_asked_16 ?_
      exact v_ri hx hBD DX11_asked_17 (⟨by unfold askA; rw [if0 (fun q => by exact d13 q.2)], hCs⟩)
theorem p_integral (l : Launch) (G : Gl) (Λ : Lay) (sz : Nat) (μ : Mem) {g : Nat} {μ0 : Mem} {b : Bd} {h : Hs} {im : Option (Bd × Hs)} {T : List Int} {S : Int → Sht} {f i w k : Int} (hG : GK Λ g) (hC : KS Λ μ0 μ g b h im T S) (hI : INV G Λ) (hgd : b.good) (rf : inR f) (ri : inR i) (rw : inR w) (rk : inR k) : Sp l G yX11_integral cX11_integral 6 (some FieldType.int) 7 [.ref g, iv f, iv i, iv w, iv k] Λ sz μ (pI (fun z μ' => z = intA b f i w k ∧ KS Λ μ μ' g b h im T S)) := by
  refine Sp.intro (by decide) (Nat.le_of_ble_eq_true rfl) (fun x hx hBD => ?_)
  refine v_lv [(0, .ref g), (1, iv f), (2, iv i), (3, iv w), (4, iv k)] rfl ?_
  have hGG := hG
  obtain ⟨hG0, ⟨kB, kH, kB2, kH2⟩, ⟨kSh, kRs⟩, ⟨kK, kSp, kP, kQ, kRe, kRd, kW⟩, ⟨kGi, kSe, kTo, kAn⟩, kS4, kR5, kOut⟩ := hG
  have hG := hGG
  have hCs := hC.start
  obtain ⟨⟨π, hA⟩, hb, hh, him, hT, hdg, hSh, hWr, hout⟩ := hC
  have bok := hb.1
  refine v_iload hx DX11_integral_0 1 rfl ?_
  refine v_cSp hx DX11_integral_1 CSRX11_139 [iv f] (c_isFunction l G Λ sz μ (by omega)) rfl rfl (Nat.le_of_ble_eq_true rfl) (by decide) ⟨Nat.le_refl _, Nat.le_refl _⟩ ?_
  have br1 := bz_rng (0 ≤ f ∧ f ≤ 2)
  refine v_if_eq hx DX11_integral_4 (by omega) (fun c4 => ?_) (fun c4 => ?_)
  · skip
    have d4 := bzf c4
    refine v_push hx DX11_integral_31 ?_
    exact v_ri hx hBD DX11_integral_32 (⟨by unfold intA; rw [if0 (fun q => by exact d4 q.1)], hCs⟩)
  · skip
    have d4 := bzt c4
    refine v_iload hx DX11_integral_7 2 rfl ?_
    refine v_push hx DX11_integral_8 ?_
    refine v_push hx DX11_integral_10 ?_
    refine v_cSp hx DX11_integral_11 CSRX11_117 [iv i, iv (-2), iv 3] (c_within l G Λ sz μ (by omega) (by omega) (by omega)) rfl rfl (Nat.le_of_ble_eq_true rfl) (by decide) ⟨Nat.le_refl _, Nat.le_refl _⟩ ?_
    have br11 := bz_rng ((-2) ≤ i ∧ i ≤ 3)
    refine v_if_eq hx DX11_integral_14 (by omega) (fun c14 => ?_) (fun c14 => ?_)
    · skip
      have d14 := bzf c14
      refine v_push hx DX11_integral_31 ?_
      exact v_ri hx hBD DX11_integral_32 (⟨by unfold intA; rw [if0 (fun q => by exact d14 q.2.1)], hCs⟩)
    · skip
      have d14 := bzt c14
      refine v_iload hx DX11_integral_17 3 rfl ?_
      refine v_push hx DX11_integral_18 ?_
      refine v_push hx DX11_integral_19 ?_
      refine v_cSp hx DX11_integral_20 CSRX11_117 [iv w, iv 0, iv 1] (c_within l G Λ sz μ (by omega) (by omega) (by omega)) rfl rfl (Nat.le_of_ble_eq_true rfl) (by decide) ⟨Nat.le_refl _, Nat.le_refl _⟩ ?_
      have br20 := bz_rng (0 ≤ w ∧ w ≤ 1)
      refine v_if_eq hx DX11_integral_23 (by omega) (fun c23 => ?_) (fun c23 => ?_)
      · skip
        have d23 := bzf c23
        refine v_push hx DX11_integral_31 ?_
        exact v_ri hx hBD DX11_integral_32 (⟨by unfold intA; rw [if0 (fun q => by exact d23 q.2.2.1)], hCs⟩)
      · skip
        have d23 := bzt c23
        refine v_iload hx DX11_integral_26 4 rfl ?_
        refine v_if_ge hx DX11_integral_28 (by omega) (fun c28 => ?_) (fun c28 => ?_)
        · skip
          refine v_aload hx DX11_integral_33 0 rfl ?_
          refine v_get hx DX11_integral_34 FLRX11_12 hG.1 (v := .ref (g + 1)) rfl ?_
          refine v_iload hx DX11_integral_37 1 rfl ?_
          refine v_cVp hx DX11_integral_38 CVRX11_152 [iv f] (b_fits l G Λ sz μ kB hb (by omega)) kB.1 rfl rfl (Nat.le_of_ble_eq_true rfl) (by decide) ⟨Nat.le_refl _, Nat.le_refl _⟩ ?_
          have ftrf := b.fit_rng f
          refine v_if_ne hx DX11_integral_41 (by omega) (fun c41 => ?_) (fun c41 => ?_)
          · skip
            refine v_aload hx DX11_integral_47 0 rfl ?_
            refine v_get hx DX11_integral_48 FLRX11_60 hG.1 (v := .ref (g + 82)) rfl ?_
            refine v_aload hx DX11_integral_51 0 rfl ?_
            refine v_get hx DX11_integral_52 FLRX11_12 hG.1 (v := .ref (g + 1)) rfl ?_
            refine v_iload hx DX11_integral_55 1 rfl ?_
            refine v_cVv hx DX11_integral_56 CVRX11_275 [.ref (g + 1), iv f] (c_compute (p := g + 82) (κ := g + 48) (σ := g + 65) (β := g + 1) (f := f) l G Λ sz μ hA hI kK kSp kP kB hb hgd (by omega) (by omega) (by omega)) kP.1 rfl rfl (Nat.le_of_ble_eq_true rfl) (by decide) ⟨Nat.le_refl _, Nat.le_refl _⟩ (fun μ9 hμ9 => ?_)
            obtain ⟨π1, w1, cx1, u13a1, w141, w151, hQ1, hR1, u131, u151⟩ := hμ9
            have k1 : KS Λ μ μ9 g b h im T S := hCs.scr hGG (cx1.fc (X := fun a => a = g + 82) rfl) (fun a q => by unfold scr9; omega)
            have hwr1 := hwI_rng b (fnJ b f) 5 (by omega)
            refine v_aload hx DX11_integral_59 0 rfl ?_
            refine v_get hx DX11_integral_60 FLRX11_60 hG.1 (v := .ref (g + 82)) rfl ?_
            refine v_get hx DX11_integral_63 FLRX11_279 kP.1 (fv_i rfl (by rw [cx1.2.2.2.1]; exact w141) : _ = iv ((hwI b (fnJ b f) 5).1)) ?_
            refine v_if_ne hx DX11_integral_66 (by omega) (fun c66 => ?_) (fun c66 => ?_)
            · skip
              refine v_aload hx DX11_integral_72 0 rfl ?_
              refine v_get hx DX11_integral_73 FLRX11_60 hG.1 (v := .ref (g + 82)) rfl ?_
              refine v_iload hx DX11_integral_76 2 rfl ?_
              refine v_cVr hx DX11_integral_77 CVRX11_302 [iv i] (c_piece (i := i) l G Λ sz μ9 kP (by omega)) kP.1 rfl rfl (Nat.le_of_ble_eq_true rfl) (by decide) ⟨Nat.le_refl _, Nat.le_refl _⟩ (fun z12 μ11 hμ11 => ?_)
              obtain ⟨ea, em⟩ := hμ11
              rw [ea, em]
              have kFp : fracK Λ (g + 82 + 26 + 5 * (i + 2).toNat) := kP.2.2.2.2.2.2.1 (i + 2).toNat (by omega)
              refine v_astore hx DX11_integral_80 [(5, .ref (g + 82 + 26 + 5 * (i + 2).toNat)), (0, .ref g), (1, iv f), (2, iv i), (3, iv w), (4, iv k)] rfl (by decide) ?_
              refine v_iload hx DX11_integral_82 4 rfl ?_
              refine v_if_ne hx DX11_integral_83 (by omega) (fun c83 => ?_) (fun c83 => ?_)
              · skip
                refine v_aload hx DX11_integral_94 0 rfl ?_
                refine v_get hx DX11_integral_96 FLRX11_248 kFp.1 (v := .ref ((g + 82 + 26 + 5 * (i + 2).toNat) + 3)) rfl ?_
                refine v_iload hx DX11_integral_99 5 rfl ?_
                refine v_cVp hx DX11_integral_101 CVRX11_268 [iv k] (s_at l G Λ sz μ9 kFp.2.2 (cx1.1.get kFp.2.2 (hQ1 i (by omega) (by omega)).2) (by omega)) kFp.2.2.1 rfl rfl (Nat.le_of_ble_eq_true rfl) (by decide) ⟨Nat.le_refl _, Nat.le_refl _⟩ ?_
                exact v_ri hx hBD DX11_integral_104 (⟨by unfold intA; rw [if1 ⟨d4, d14, d23, by omega⟩, if_neg (by omega), if_neg (by omega)]; unfold frP; rw [if_neg (by omega)], k1⟩)
              · skip
                refine v_aload hx DX11_integral_86 0 rfl ?_
                refine v_get hx DX11_integral_88 FLRX11_238 kFp.1 (v := .ref ((g + 82 + 26 + 5 * (i + 2).toNat) + 1)) rfl ?_
                refine v_goto hx DX11_integral_91 ?_
                refine v_iload hx DX11_integral_99 5 rfl ?_
                refine v_cVp hx DX11_integral_101 CVRX11_268 [iv k] (s_at l G Λ sz μ9 kFp.2.1 (cx1.1.get kFp.2.1 (hQ1 i (by omega) (by omega)).1) (by omega)) kFp.2.1.1 rfl rfl (Nat.le_of_ble_eq_true rfl) (by decide) ⟨Nat.le_refl _, Nat.le_refl _⟩ ?_
                exact v_ri hx hBD DX11_integral_104 (⟨by unfold intA; rw [if1 ⟨d4, d14, d23, by omega⟩, if_neg (by omega), if_neg (by omega)]; unfold frP; rw [if_pos (by omega)], k1⟩)
            · skip
              refine v_push hx DX11_integral_69 ?_
              exact v_ri hx hBD DX11_integral_71 (⟨by unfold intA; rw [if1 ⟨d4, d14, d23, by omega⟩, if_neg (by omega), if_pos (by omega)], k1⟩)
          · skip
            refine v_push hx DX11_integral_44 ?_
            exact v_ri hx hBD DX11_integral_46 (⟨by unfold intA; rw [if1 ⟨d4, d14, d23, by omega⟩, if_pos (by omega)], hCs⟩)
        · skip
          refine v_push hx DX11_integral_31 ?_
          exact v_ri hx hBD DX11_integral_32 (⟨by unfold intA; rw [if0 (fun q => by have := q.2.2.2; omega)], hCs⟩)
theorem p_left (l : Launch) (G : Gl) (Λ : Lay) (sz : Nat) (μ : Mem) {g : Nat} {μ0 : Mem} {b : Bd} {h : Hs} {im : Option (Bd × Hs)} {T : List Int} {S : Int → Sht} {f i w k : Int} (hG : GK Λ g) (hC : KS Λ μ0 μ g b h im T S) (hI : INV G Λ) (hgd : b.good) (rf : inR f) (ri : inR i) (rw : inR w) (rk : inR k) : Sp l G yX11_left cX11_left 6 (some FieldType.int) 7 [.ref g, iv f, iv i, iv w, iv k] Λ sz μ (pI (fun z μ' => z = lefA b f i w k ∧ KS Λ μ μ' g b h im T S)) := by
  refine Sp.intro (by decide) (Nat.le_of_ble_eq_true rfl) (fun x hx hBD => ?_)
  refine v_lv [(0, .ref g), (1, iv f), (2, iv i), (3, iv w), (4, iv k)] rfl ?_
  have hGG := hG
  obtain ⟨hG0, ⟨kB, kH, kB2, kH2⟩, ⟨kSh, kRs⟩, ⟨kK, kSp, kP, kQ, kRe, kRd, kW⟩, ⟨kGi, kSe, kTo, kAn⟩, kS4, kR5, kOut⟩ := hG
  have hG := hGG
  have hCs := hC.start
  obtain ⟨⟨π, hA⟩, hb, hh, him, hT, hdg, hSh, hWr, hout⟩ := hC
  have bok := hb.1
  by_cases hto : isTO f i
  · skip
    have hn := hto.n
    refine v_iload hx DX11_left_0 1 rfl ?_
    refine v_iload hx DX11_left_1 2 rfl ?_
    refine v_cSp hx DX11_left_2 CSRX11_113 [iv f, iv i] (c_termOf l G Λ sz μ (by omega) (by omega)) rfl rfl (Nat.le_of_ble_eq_true rfl) (by decide) ⟨Nat.le_refl _, Nat.le_refl _⟩ ?_
    refine v_top (z' := (5 * f + i + 2)) (if1 hto) ?_
    refine v_if_lt hx DX11_left_5 (by omega) (fun c5 => ?_) (fun c5 => ?_)
    · skip
      refine v_push hx DX11_left_22 ?_
      exact v_ri hx hBD DX11_left_23 (⟨by unfold lefA; rw [if0 (fun q => by omega)], hCs⟩)
    · skip
      refine v_iload hx DX11_left_8 3 rfl ?_
      refine v_push hx DX11_left_9 ?_
      refine v_push hx DX11_left_10 ?_
      refine v_cSp hx DX11_left_11 CSRX11_117 [iv w, iv 0, iv 1] (c_within l G Λ sz μ (by omega) (by omega) (by omega)) rfl rfl (Nat.le_of_ble_eq_true rfl) (by decide) ⟨Nat.le_refl _, Nat.le_refl _⟩ ?_
      have br11 := bz_rng (0 ≤ w ∧ w ≤ 1)
      refine v_if_eq hx DX11_left_14 (by omega) (fun c14 => ?_) (fun c14 => ?_)
      · skip
        have d14 := bzf c14
        refine v_push hx DX11_left_22 ?_
        exact v_ri hx hBD DX11_left_23 (⟨by unfold lefA; rw [if0 (fun q => by exact d14 q.2.1)], hCs⟩)
      · skip
        have d14 := bzt c14
        refine v_iload hx DX11_left_17 4 rfl ?_
        refine v_if_ge hx DX11_left_19 (by omega) (fun c19 => ?_) (fun c19 => ?_)
        · skip
          refine v_aload hx DX11_left_24 0 rfl ?_
          refine v_get hx DX11_left_25 FLRX11_12 hG.1 (v := .ref (g + 1)) rfl ?_
          refine v_iload hx DX11_left_28 1 rfl ?_
          refine v_cVp hx DX11_left_29 CVRX11_152 [iv f] (b_fits l G Λ sz μ kB hb (by omega)) kB.1 rfl rfl (Nat.le_of_ble_eq_true rfl) (by decide) ⟨Nat.le_refl _, Nat.le_refl _⟩ ?_
          have ftrf := b.fit_rng f
          refine v_if_ne hx DX11_left_32 (by omega) (fun c32 => ?_) (fun c32 => ?_)
          · skip
            refine v_aload hx DX11_left_38 0 rfl ?_
            refine v_get hx DX11_left_39 FLRX11_60 hG.1 (v := .ref (g + 82)) rfl ?_
            refine v_aload hx DX11_left_42 0 rfl ?_
            refine v_get hx DX11_left_43 FLRX11_12 hG.1 (v := .ref (g + 1)) rfl ?_
            refine v_iload hx DX11_left_46 1 rfl ?_
            refine v_cVv hx DX11_left_47 CVRX11_275 [.ref (g + 1), iv f] (c_compute (p := g + 82) (κ := g + 48) (σ := g + 65) (β := g + 1) (f := f) l G Λ sz μ hA hI kK kSp kP kB hb hgd (by omega) (by omega) (by omega)) kP.1 rfl rfl (Nat.le_of_ble_eq_true rfl) (by decide) ⟨Nat.le_refl _, Nat.le_refl _⟩ (fun μ7 hμ7 => ?_)
            obtain ⟨π1, w1, cx1, u13a1, w141, w151, hQ1, hR1, u131, u151⟩ := hμ7
            have k1 : KS Λ μ μ7 g b h im T S := hCs.scr hGG (cx1.fc (X := fun a => a = g + 82) rfl) (fun a q => by unfold scr9; omega)
            have hwr1 := hwI_rng b (fnJ b f) 5 (by omega)
            refine v_aload hx DX11_left_50 0 rfl ?_
            refine v_get hx DX11_left_51 FLRX11_60 hG.1 (v := .ref (g + 82)) rfl ?_
            refine v_iload hx DX11_left_54 2 rfl ?_
            refine v_cVr hx DX11_left_55 CVRX11_285 [iv i] (c_rest (i := i) l G Λ sz μ7 kP (by omega)) kP.1 rfl rfl (Nat.le_of_ble_eq_true rfl) (by decide) ⟨Nat.le_refl _, Nat.le_refl _⟩ (fun z10 μ9 hμ9 => ?_)
            obtain ⟨ea, em⟩ := hμ9
            rw [ea, em]
            have kFr : fracK Λ (g + 82 + 56 + 5 * (i + 2).toNat) := kP.2.2.2.2.2.2.2 (i + 2).toNat (by omega)
            refine v_astore hx DX11_left_58 [(5, .ref (g + 82 + 56 + 5 * (i + 2).toNat)), (0, .ref g), (1, iv f), (2, iv i), (3, iv w), (4, iv k)] rfl (by decide) ?_
            refine v_iload hx DX11_left_60 4 rfl ?_
            refine v_if_ne hx DX11_left_61 (by omega) (fun c61 => ?_) (fun c61 => ?_)
            · skip
              refine v_aload hx DX11_left_72 0 rfl ?_
              refine v_get hx DX11_left_74 FLRX11_248 kFr.1 (v := .ref ((g + 82 + 56 + 5 * (i + 2).toNat) + 3)) rfl ?_
              refine v_iload hx DX11_left_77 5 rfl ?_
              refine v_cVp hx DX11_left_79 CVRX11_268 [iv k] (s_at l G Λ sz μ7 kFr.2.2 (cx1.1.get kFr.2.2 (hR1 i (by omega) (by omega)).2) (by omega)) kFr.2.2.1 rfl rfl (Nat.le_of_ble_eq_true rfl) (by decide) ⟨Nat.le_refl _, Nat.le_refl _⟩ ?_
              exact v_ri hx hBD DX11_left_82 (⟨by unfold lefA; rw [if1 ⟨hto, d14, by omega⟩, if_neg (by omega)]; unfold frP; rw [if_neg (by omega)], k1⟩)
            · skip
              refine v_aload hx DX11_left_64 0 rfl ?_
              refine v_get hx DX11_left_66 FLRX11_238 kFr.1 (v := .ref ((g + 82 + 56 + 5 * (i + 2).toNat) + 1)) rfl ?_
              refine v_goto hx DX11_left_69 ?_
              refine v_iload hx DX11_left_77 5 rfl ?_
              refine v_cVp hx DX11_left_79 CVRX11_268 [iv k] (s_at l G Λ sz μ7 kFr.2.1 (cx1.1.get kFr.2.1 (hR1 i (by omega) (by omega)).1) (by omega)) kFr.2.1.1 rfl rfl (Nat.le_of_ble_eq_true rfl) (by decide) ⟨Nat.le_refl _, Nat.le_refl _⟩ ?_
              exact v_ri hx hBD DX11_left_82 (⟨by unfold lefA; rw [if1 ⟨hto, d14, by omega⟩, if_neg (by omega)]; unfold frP; rw [if_pos (by omega)], k1⟩)
          · skip
            refine v_push hx DX11_left_35 ?_
            exact v_ri hx hBD DX11_left_37 (⟨by unfold lefA; rw [if1 ⟨hto, d14, by omega⟩, if_pos (by omega)], hCs⟩)
        · skip
          refine v_push hx DX11_left_22 ?_
          exact v_ri hx hBD DX11_left_23 (⟨by unfold lefA; rw [if0 (fun q => by have := q.2.2; omega)], hCs⟩)
  · skip
    refine v_iload hx DX11_left_0 1 rfl ?_
    refine v_iload hx DX11_left_1 2 rfl ?_
    refine v_cSp hx DX11_left_2 CSRX11_113 [iv f, iv i] (c_termOf l G Λ sz μ (by omega) (by omega)) rfl rfl (Nat.le_of_ble_eq_true rfl) (by decide) ⟨Nat.le_refl _, Nat.le_refl _⟩ ?_
    refine v_top (z' := -1) (if0 hto) ?_
    refine v_if_lt hx DX11_left_5 (by decide) (fun c5 => ?_) (fun c5 => ?_)
    · skip
      refine v_push hx DX11_left_22 ?_
      exact v_ri hx hBD DX11_left_23 (⟨by unfold lefA; rw [if0 (fun q => by exact hto q.1)], hCs⟩)
    · exact absurd c5 (by decide)
theorem p_residue (l : Launch) (G : Gl) (Λ : Lay) (sz : Nat) (μ : Mem) {g : Nat} {μ0 : Mem} {b : Bd} {h : Hs} {im : Option (Bd × Hs)} {T : List Int} {S : Int → Sht} {f k : Int} (hG : GK Λ g) (hC : KS Λ μ0 μ g b h im T S) (hI : INV G Λ) (hgd : b.good) (rf : inR f) (rk : inR k) : Sp l G yX11_residue cX11_residue 3 (some FieldType.int) 7 [.ref g, iv f, iv k] Λ sz μ (pI (fun z μ' => z = resA b f k ∧ KS Λ μ μ' g b h im T S)) := by
  refine Sp.intro (by decide) (Nat.le_of_ble_eq_true rfl) (fun x hx hBD => ?_)
  refine v_lv [(0, .ref g), (1, iv f), (2, iv k)] rfl ?_
  have hGG := hG
  obtain ⟨hG0, ⟨kB, kH, kB2, kH2⟩, ⟨kSh, kRs⟩, ⟨kK, kSp, kP, kQ, kRe, kRd, kW⟩, ⟨kGi, kSe, kTo, kAn⟩, kS4, kR5, kOut⟩ := hG
  have hG := hGG
  have hCs := hC.start
  obtain ⟨⟨π, hA⟩, hb, hh, him, hT, hdg, hSh, hWr, hout⟩ := hC
  have bok := hb.1
  refine v_iload hx DX11_residue_0 1 rfl ?_
  refine v_cSp hx DX11_residue_1 CSRX11_139 [iv f] (c_isFunction l G Λ sz μ (by omega)) rfl rfl (Nat.le_of_ble_eq_true rfl) (by decide) ⟨Nat.le_refl _, Nat.le_refl _⟩ ?_
  have br1 := bz_rng (0 ≤ f ∧ f ≤ 2)
  refine v_if_eq hx DX11_residue_4 (by omega) (fun c4 => ?_) (fun c4 => ?_)
  · skip
    have d4 := bzf c4
    refine v_push hx DX11_residue_11 ?_
    exact v_ri hx hBD DX11_residue_12 (⟨by unfold resA; rw [if0 (fun q => by exact d4 q.1)], hCs⟩)
  · skip
    have d4 := bzt c4
    refine v_iload hx DX11_residue_7 2 rfl ?_
    refine v_if_ge hx DX11_residue_8 (by omega) (fun c8 => ?_) (fun c8 => ?_)
    · skip
      refine v_aload hx DX11_residue_13 0 rfl ?_
      refine v_get hx DX11_residue_14 FLRX11_12 hG.1 (v := .ref (g + 1)) rfl ?_
      refine v_iload hx DX11_residue_17 1 rfl ?_
      refine v_cVp hx DX11_residue_18 CVRX11_152 [iv f] (b_fits l G Λ sz μ kB hb (by omega)) kB.1 rfl rfl (Nat.le_of_ble_eq_true rfl) (by decide) ⟨Nat.le_refl _, Nat.le_refl _⟩ ?_
      have ftrf := b.fit_rng f
      refine v_if_ne hx DX11_residue_21 (by omega) (fun c21 => ?_) (fun c21 => ?_)
      · skip
        refine v_aload hx DX11_residue_27 0 rfl ?_
        refine v_get hx DX11_residue_28 FLRX11_60 hG.1 (v := .ref (g + 82)) rfl ?_
        refine v_aload hx DX11_residue_31 0 rfl ?_
        refine v_get hx DX11_residue_32 FLRX11_12 hG.1 (v := .ref (g + 1)) rfl ?_
        refine v_iload hx DX11_residue_35 1 rfl ?_
        refine v_cVv hx DX11_residue_36 CVRX11_275 [.ref (g + 1), iv f] (c_compute (p := g + 82) (κ := g + 48) (σ := g + 65) (β := g + 1) (f := f) l G Λ sz μ hA hI kK kSp kP kB hb hgd (by omega) (by omega) (by omega)) kP.1 rfl rfl (Nat.le_of_ble_eq_true rfl) (by decide) ⟨Nat.le_refl _, Nat.le_refl _⟩ (fun μ5 hμ5 => ?_)
        obtain ⟨π1, w1, cx1, u13a1, w141, w151, hQ1, hR1, u131, u151⟩ := hμ5
        have k1 : KS Λ μ μ5 g b h im T S := hCs.scr hGG (cx1.fc (X := fun a => a = g + 82) rfl) (fun a q => by unfold scr9; omega)
        have hwr1 := hwI_rng b (fnJ b f) 5 (by omega)
        have e1 : π1 (g + 82 + 66 + 1) = (rst b f).1 := (hR1 0 (by omega) (by omega)).1
        have e3 : π1 (g + 82 + 66 + 3) = (rst b f).2 := (hR1 0 (by omega) (by omega)).2
        have ok := (cls_ok (i := 0) hgd (by omega : 0 ≤ f ∧ f < 3) (by omega) (by omega)).2
        have ok : RDP (rst b f).1 (rst b f).2 ∧ (rst b f).1.size ≤ 24 ∧ (rst b f).2.size ≤ 20 := ok
        refine v_aload hx DX11_residue_39 0 rfl ?_
        refine v_get hx DX11_residue_40 FLRX11_70 hG.1 (v := .ref (g + 244)) rfl ?_
        refine v_aload hx DX11_residue_43 0 rfl ?_
        refine v_get hx DX11_residue_44 FLRX11_60 hG.1 (v := .ref (g + 82)) rfl ?_
        refine v_push hx DX11_residue_47 ?_
        refine v_cVr hx DX11_residue_48 CVRX11_285 [iv 0] (c_rest (i := 0) l G Λ sz μ5 kP (by omega)) kP.1 rfl rfl (Nat.le_of_ble_eq_true rfl) (by decide) ⟨Nat.le_refl _, Nat.le_refl _⟩ (fun z8 μ7 hμ7 => ?_)
        obtain ⟨ea, em⟩ := hμ7
        have ea : z8 = g + 82 + 66 := ea
        rw [ea, em]
        refine v_cVv hx DX11_residue_51 CVRX11_288 [.ref (g + 82 + 66)] (c_rcompute (r := g + 244) (κ := g + 48) (f := g + 82 + 66) l G Λ sz μ5 cx1.1 hI kK kRe (by omega) (kP.2.2.2.2.2.2.2 2 (by omega)) (by omega) (by rw [e1, e3]; exact ok.1) (by rw [e1, e3]; exact ok.2) (by rw [e3]; exact rst_sqf hgd (by omega) (by omega))) kRe.1 rfl rfl (Nat.le_of_ble_eq_true rfl) (by decide) ⟨Nat.le_refl _, Nat.le_refl _⟩ (fun μ9 hμ9 => ?_)
        obtain ⟨π2, c2, r1, r3, r5, r17⟩ := hμ9
        rw [e1] at r1
        rw [e3] at r3 r5
        rw [e1, e3] at r17
        have k2 : KS Λ μ μ9 g b h im T S := k1.scr hGG (c2.fc (X := fun _ => False)) (fun a q => q.elim)
        have ne0 := res_ne ok.1 (by have := ok.2; omega) (rst_sqf hgd (by omega) (by omega))
        refine v_aload hx DX11_residue_54 0 rfl ?_
        refine v_get hx DX11_residue_55 FLRX11_70 hG.1 (v := .ref (g + 244)) rfl ?_
        refine v_get hx DX11_residue_58 FLRX11_296 kRe.1 (v := .ref (g + 244 + 17)) rfl ?_
        refine v_iload hx DX11_residue_61 2 rfl ?_
        refine v_cVp hx DX11_residue_62 CVRX11_268 [iv k] (s_at l G Λ sz μ9 kRe.2.2.2.2.2.2.2.2.2 (c2.1.get kRe.2.2.2.2.2.2.2.2.2 r17) (by omega)) kRe.2.2.2.2.2.2.2.2.2.1 rfl rfl (Nat.le_of_ble_eq_true rfl) (by decide) ⟨Nat.le_refl _, Nat.le_refl _⟩ ?_
        exact v_ri hx hBD DX11_residue_65 (⟨by unfold resA; rw [if1 ⟨d4, by omega⟩, if_neg (by omega)], k2⟩)
      · skip
        refine v_push hx DX11_residue_24 ?_
        exact v_ri hx hBD DX11_residue_26 (⟨by unfold resA; rw [if1 ⟨d4, by omega⟩, if_pos (by omega)], hCs⟩)
    · skip
      refine v_push hx DX11_residue_11 ?_
      exact v_ri hx hBD DX11_residue_12 (⟨by unfold resA; rw [if0 (fun q => by have := q.2; omega)], hCs⟩)
theorem p_log (l : Launch) (G : Gl) (Λ : Lay) (sz : Nat) (μ : Mem) {g : Nat} {μ0 : Mem} {b : Bd} {h : Hs} {im : Option (Bd × Hs)} {T : List Int} {S : Int → Sht} {f j w k : Int} (hG : GK Λ g) (hC : KS Λ μ0 μ g b h im T S) (hI : INV G Λ) (hgd : b.good) (rf : inR f) (rj : inR j) (rw : inR w) (rk : inR k) : Sp l G yX11_log cX11_log 6 (some FieldType.int) 7 [.ref g, iv f, iv j, iv w, iv k] Λ sz μ (pI (fun z μ' => z = logA b f j w k ∧ KS Λ μ μ' g b h im T S)) := by
  refine Sp.intro (by decide) (Nat.le_of_ble_eq_true rfl) (fun x hx hBD => ?_)
  refine v_lv [(0, .ref g), (1, iv f), (2, iv j), (3, iv w), (4, iv k)] rfl ?_
  have hGG := hG
  obtain ⟨hG0, ⟨kB, kH, kB2, kH2⟩, ⟨kSh, kRs⟩, ⟨kK, kSp, kP, kQ, kRe, kRd, kW⟩, ⟨kGi, kSe, kTo, kAn⟩, kS4, kR5, kOut⟩ := hG
  have hG := hGG
  have hCs := hC.start
  obtain ⟨⟨π, hA⟩, hb, hh, him, hT, hdg, hSh, hWr, hout⟩ := hC
  have bok := hb.1
  refine v_iload hx DX11_log_0 1 rfl ?_
  refine v_cSp hx DX11_log_1 CSRX11_139 [iv f] (c_isFunction l G Λ sz μ (by omega)) rfl rfl (Nat.le_of_ble_eq_true rfl) (by decide) ⟨Nat.le_refl _, Nat.le_refl _⟩ ?_
  have br1 := bz_rng (0 ≤ f ∧ f ≤ 2)
  refine v_if_eq hx DX11_log_4 (by omega) (fun c4 => ?_) (fun c4 => ?_)
  · skip
    have d4 := bzf c4
    refine v_push hx DX11_log_25 ?_
    exact v_ri hx hBD DX11_log_26 (⟨by unfold logA; rw [if0 (fun q => by exact d4 q.1)], hCs⟩)
  · skip
    have d4 := bzt c4
    refine v_iload hx DX11_log_7 2 rfl ?_
    refine v_if_lt hx DX11_log_8 (by omega) (fun c8 => ?_) (fun c8 => ?_)
    · skip
      refine v_push hx DX11_log_25 ?_
      exact v_ri hx hBD DX11_log_26 (⟨by unfold logA; rw [if0 (fun q => by have := q.2.1; omega)], hCs⟩)
    · skip
      refine v_iload hx DX11_log_11 3 rfl ?_
      refine v_push hx DX11_log_12 ?_
      refine v_push hx DX11_log_13 ?_
      refine v_cSp hx DX11_log_14 CSRX11_117 [iv w, iv 0, iv 1] (c_within l G Λ sz μ (by omega) (by omega) (by omega)) rfl rfl (Nat.le_of_ble_eq_true rfl) (by decide) ⟨Nat.le_refl _, Nat.le_refl _⟩ ?_
      have br14 := bz_rng (0 ≤ w ∧ w ≤ 1)
      refine v_if_eq hx DX11_log_17 (by omega) (fun c17 => ?_) (fun c17 => ?_)
      · skip
        have d17 := bzf c17
        refine v_push hx DX11_log_25 ?_
        exact v_ri hx hBD DX11_log_26 (⟨by unfold logA; rw [if0 (fun q => by exact d17 q.2.2.1)], hCs⟩)
      · skip
        have d17 := bzt c17
        refine v_iload hx DX11_log_20 4 rfl ?_
        refine v_if_ge hx DX11_log_22 (by omega) (fun c22 => ?_) (fun c22 => ?_)
        · skip
          refine v_aload hx DX11_log_27 0 rfl ?_
          refine v_get hx DX11_log_28 FLRX11_12 hG.1 (v := .ref (g + 1)) rfl ?_
          refine v_iload hx DX11_log_31 1 rfl ?_
          refine v_cVp hx DX11_log_32 CVRX11_152 [iv f] (b_fits l G Λ sz μ kB hb (by omega)) kB.1 rfl rfl (Nat.le_of_ble_eq_true rfl) (by decide) ⟨Nat.le_refl _, Nat.le_refl _⟩ ?_
          have ftrf := b.fit_rng f
          refine v_if_ne hx DX11_log_35 (by omega) (fun c35 => ?_) (fun c35 => ?_)
          · skip
            refine v_aload hx DX11_log_41 0 rfl ?_
            refine v_get hx DX11_log_42 FLRX11_60 hG.1 (v := .ref (g + 82)) rfl ?_
            refine v_aload hx DX11_log_45 0 rfl ?_
            refine v_get hx DX11_log_46 FLRX11_12 hG.1 (v := .ref (g + 1)) rfl ?_
            refine v_iload hx DX11_log_49 1 rfl ?_
            refine v_cVv hx DX11_log_50 CVRX11_275 [.ref (g + 1), iv f] (c_compute (p := g + 82) (κ := g + 48) (σ := g + 65) (β := g + 1) (f := f) l G Λ sz μ hA hI kK kSp kP kB hb hgd (by omega) (by omega) (by omega)) kP.1 rfl rfl (Nat.le_of_ble_eq_true rfl) (by decide) ⟨Nat.le_refl _, Nat.le_refl _⟩ (fun μ7 hμ7 => ?_)
            obtain ⟨π1, w1, cx1, u13a1, w141, w151, hQ1, hR1, u131, u151⟩ := hμ7
            have k1 : KS Λ μ μ7 g b h im T S := hCs.scr hGG (cx1.fc (X := fun a => a = g + 82) rfl) (fun a q => by unfold scr9; omega)
            have hwr1 := hwI_rng b (fnJ b f) 5 (by omega)
            have e1 : π1 (g + 82 + 66 + 1) = (rst b f).1 := (hR1 0 (by omega) (by omega)).1
            have e3 : π1 (g + 82 + 66 + 3) = (rst b f).2 := (hR1 0 (by omega) (by omega)).2
            have ok := (cls_ok (i := 0) hgd (by omega : 0 ≤ f ∧ f < 3) (by omega) (by omega)).2
            have ok : RDP (rst b f).1 (rst b f).2 ∧ (rst b f).1.size ≤ 24 ∧ (rst b f).2.size ≤ 20 := ok
            refine v_aload hx DX11_log_53 0 rfl ?_
            refine v_get hx DX11_log_54 FLRX11_70 hG.1 (v := .ref (g + 244)) rfl ?_
            refine v_aload hx DX11_log_57 0 rfl ?_
            refine v_get hx DX11_log_58 FLRX11_60 hG.1 (v := .ref (g + 82)) rfl ?_
            refine v_push hx DX11_log_61 ?_
            refine v_cVr hx DX11_log_62 CVRX11_285 [iv 0] (c_rest (i := 0) l G Λ sz μ7 kP (by omega)) kP.1 rfl rfl (Nat.le_of_ble_eq_true rfl) (by decide) ⟨Nat.le_refl _, Nat.le_refl _⟩ (fun z10 μ9 hμ9 => ?_)
            obtain ⟨ea, em⟩ := hμ9
            have ea : z10 = g + 82 + 66 := ea
            rw [ea, em]
            refine v_cVv hx DX11_log_65 CVRX11_288 [.ref (g + 82 + 66)] (c_rcompute (r := g + 244) (κ := g + 48) (f := g + 82 + 66) l G Λ sz μ7 cx1.1 hI kK kRe (by omega) (kP.2.2.2.2.2.2.2 2 (by omega)) (by omega) (by rw [e1, e3]; exact ok.1) (by rw [e1, e3]; exact ok.2) (by rw [e3]; exact rst_sqf hgd (by omega) (by omega))) kRe.1 rfl rfl (Nat.le_of_ble_eq_true rfl) (by decide) ⟨Nat.le_refl _, Nat.le_refl _⟩ (fun μ11 hμ11 => ?_)
            obtain ⟨π2, c2, r1, r3, r5, r17⟩ := hμ11
            rw [e1] at r1
            rw [e3] at r3 r5
            rw [e1, e3] at r17
            have k2 : KS Λ μ μ11 g b h im T S := k1.scr hGG (c2.fc (X := fun _ => False)) (fun a q => q.elim)
            have ne0 := res_ne ok.1 (by have := ok.2; omega) (rst_sqf hgd (by omega) (by omega))
            refine v_aload hx DX11_log_68 0 rfl ?_
            refine v_get hx DX11_log_69 FLRX11_70 hG.1 (v := .ref (g + 244)) rfl ?_
            refine v_iload hx DX11_log_72 2 rfl ?_
            refine v_cVp hx DX11_log_73 CVRX11_305 [iv j] (c_number l G Λ sz μ11 hI kK kRe (by omega) (c2.1.get kRe.2.2.2.2.2.2.2.2.2 r17) (by omega)) kRe.1 rfl rfl (Nat.le_of_ble_eq_true rfl) (by decide) ⟨Nat.le_refl _, Nat.le_refl _⟩ ?_
            have za := zr_rofA (P := (rsP (rst b f).1 (rst b f).2)) (j := j) ne0
            have zrr := rofA_rng (rsP (rst b f).1 (rst b f).2) j
            have zfr : -1 ≤ zrF (rsP (rst b f).1 (rst b f).2) j 101 ∧ zrF (rsP (rst b f).1 (rst b f).2) j 101 ≤ 100 := by
              by_cases q : zrF (rsP (rst b f).1 (rst b f).2) j 101 < 0
              · have := zrF_ge (rsP (rst b f).1 (rst b f).2) j 101; omega
              · have := (za.2 q).1; omega
            refine v_istore hx DX11_log_76 [(5, iv (zrF (rsP (rst b f).1 (rst b f).2) j 101)), (0, .ref g), (1, iv f), (2, iv j), (3, iv w), (4, iv k)] rfl (by decide) ?_
            refine v_iload hx DX11_log_78 0 rfl ?_
            refine v_if_ge hx DX11_log_80 (by omega) (fun c80 => ?_) (fun c80 => ?_)
            · skip
              refine v_iload hx DX11_log_86 4 rfl ?_
              refine v_if_ne hx DX11_log_87 (by omega) (fun c87 => ?_) (fun c87 => ?_)
              · skip
                refine v_aload hx DX11_log_93 1 rfl ?_
                refine v_get hx DX11_log_94 FLRX11_70 hG.1 (v := .ref (g + 244)) rfl ?_
                refine v_iload hx DX11_log_97 0 rfl ?_
                refine v_aload hx DX11_log_99 1 rfl ?_
                refine v_get hx DX11_log_100 FLRX11_108 hG.1 (v := .ref (g + 366)) rfl ?_
                refine v_cVv hx DX11_log_103 CVRX11_308 [iv (zrF (rsP (rst b f).1 (rst b f).2) j 101), .ref (g + 366)] (c_argument (o := g + 366) (c := zrF (rsP (rst b f).1 (rst b f).2) j 101) l G Λ sz μ11 c2.1 hI kK kRe (by omega) kAn (by omega) (by omega) (by rw [r5]; have := PS.der_size ok.1.2.1; have := ok.2; omega)) kRe.1 rfl rfl (Nat.le_of_ble_eq_true rfl) (by decide) ⟨Nat.le_refl _, Nat.le_refl _⟩ (fun μ15 hμ15 => ?_)
                obtain ⟨π3, c3, e9⟩ := hμ15
                rw [r1, r3, r5] at e9
                have k3 : KS Λ μ μ15 g b h im T S := k2.scr hGG (c3.fc (X := fun _ => False)) (fun a q => q.elim)
                refine v_aload hx DX11_log_106 1 rfl ?_
                refine v_get hx DX11_log_107 FLRX11_108 hG.1 (v := .ref (g + 366)) rfl ?_
                refine v_iload hx DX11_log_110 5 rfl ?_
                refine v_cVp hx DX11_log_112 CVRX11_268 [iv k] (s_at l G Λ sz μ15 kAn (c3.1.get kAn e9) (by omega)) kAn.1 rfl rfl (Nat.le_of_ble_eq_true rfl) (by decide) ⟨Nat.le_refl _, Nat.le_refl _⟩ ?_
                exact v_ri hx hBD DX11_log_115 (⟨by unfold logA; rw [if1 ⟨d4, by omega, d17, by omega⟩, if_neg (by omega), if_neg (fun q => q.elim (za.2 (by omega)).2 (fun q => by omega)), ← (za.2 (by omega)).1]; show ca (lgC (rst b f).1 (rst b f).2 (zrF (rsP (rst b f).1 (rst b f).2) j 101)) k = _; rw [lgC_P ok.1.1 ok.1.2.1 ok.1.2.2.1 (by have := ok.2; omega) (by have := ok.2; omega)], k3⟩)
              · skip
                refine v_iload hx DX11_log_90 0 rfl ?_
                exact v_ri hx hBD DX11_log_92 (⟨by unfold logA; rw [if1 ⟨d4, by omega, d17, by omega⟩, if_neg (by omega), if_pos (Or.inr (by omega))]; exact (za.2 (by omega)).1, k2⟩)
            · skip
              refine v_push hx DX11_log_83 ?_
              exact v_ri hx hBD DX11_log_85 (⟨by unfold logA; rw [if1 ⟨d4, by omega, d17, by omega⟩, if_neg (by omega), if_pos (Or.inl (za.1 (by omega)))]; exact (za.1 (by omega)).symm, k2⟩)
          · skip
            refine v_push hx DX11_log_38 ?_
            exact v_ri hx hBD DX11_log_40 (⟨by unfold logA; rw [if1 ⟨d4, by omega, d17, by omega⟩, if_pos (by omega)], hCs⟩)
        · skip
          refine v_push hx DX11_log_25 ?_
          exact v_ri hx hBD DX11_log_26 (⟨by unfold logA; rw [if0 (fun q => by have := q.2.2.2; omega)], hCs⟩)
theorem p_pencil (l : Launch) (G : Gl) (Λ : Lay) (sz : Nat) (μ : Mem) {g : Nat} {μ0 : Mem} {b : Bd} {h : Hs} {im : Option (Bd × Hs)} {T : List Int} {S : Int → Sht} {f f2 w : Int} (hG : GK Λ g) (hC : KS Λ μ0 μ g b h im T S) (hI : INV G Λ) (hgd : b.good) (rf : inR f) (rf2 : inR f2) (rw : inR w) : Sp l G yX11_pencil cX11_pencil 7 (some FieldType.int) 7 [.ref g, iv f, iv f2, iv w] Λ sz μ (pI (fun z μ' => z = penA b f f2 w ∧ KS Λ μ μ' g b h im T S)) := by
  refine Sp.intro (by decide) (Nat.le_of_ble_eq_true rfl) (fun x hx hBD => ?_)
  refine v_lv [(0, .ref g), (1, iv f), (2, iv f2), (3, iv w)] rfl ?_
  have hGG := hG
  obtain ⟨hG0, ⟨kB, kH, kB2, kH2⟩, ⟨kSh, kRs⟩, ⟨kK, kSp, kP, kQ, kRe, kRd, kW⟩, ⟨kGi, kSe, kTo, kAn⟩, kS4, kR5, kOut⟩ := hG
  have hG := hGG
  have hCs := hC.start
  obtain ⟨⟨π, hA⟩, hb, hh, him, hT, hdg, hSh, hWr, hout⟩ := hC
  have bok := hb.1
  have L96 : ∀ (nf : Nat) (c z y : Int) (m : Mem), (c + 1 < (nf : Int)) → (penV f f2 w ∧ b.fit f ≠ 0 ∧ b.fit f2 ≠ 0) → (KS Λ μ m g b h im T S) → (∀ c : Int, 0 ≤ c → c < 101 → (m.1 (g + 82 + 25) c = 0 ∨ m.1 (g + 82 + 25) c = 1) ∧ (m.1 (g + 82 + 25) c = 1 ↔ (hwI b (pnJ b f f2 c) 5).1 = 1)) → (-1 ≤ c ∧ c ≤ 100) → (z = (penS b f f2 (100 - c).toNat).1) → (y = (penS b f f2 (100 - c).toNat).2) → V G x (0, 0) Λ sz m 96 [(6, iv c), (5, iv y), (4, iv z), (0, .ref g), (3, iv w)] [] := by
    intro nf
    induction nf with
    | zero => intro c z y m hm hv hk hs hc hz hy; exact absurd hm (by omega)
    | succ nf ih =>
      intro c z y m hm hv hk hs hc hz hy
      have hvw := hv.1.2.2
      have pr := penS_rng b f f2 (100 - c).toNat (by omega)
      refine v_iload hx DX11_pencil_96 0 rfl ?_
      refine v_if_lt hx DX11_pencil_98 (by omega) (fun c98 => ?_) (fun c98 => ?_)
      · skip
        refine v_iload hx DX11_pencil_126 4 rfl ?_
        refine v_if_ne hx DX11_pencil_127 (by omega) (fun c127 => ?_) (fun c127 => ?_)
        · skip
          refine v_iload hx DX11_pencil_135 1 rfl ?_
          exact v_ri hx hBD DX11_pencil_137 (⟨by unfold penA; rw [if1 hv.1, if_neg (by have := hv.2; omega), if_neg (by omega), hy, show (100 - c).toNat = 101 by omega], hk⟩)
        · skip
          refine v_iload hx DX11_pencil_130 2 rfl ?_
          refine v_goto hx DX11_pencil_132 ?_
          exact v_ri hx hBD DX11_pencil_137 (⟨by unfold penA; rw [if1 hv.1, if_neg (by have := hv.2; omega), if_pos (by omega), hz, show (100 - c).toNat = 101 by omega], hk⟩)
      · skip
        refine v_aload hx DX11_pencil_101 3 rfl ?_
        refine v_get hx DX11_pencil_102 FLRX11_60 hG.1 (v := .ref (g + 82)) rfl ?_
        refine v_iload hx DX11_pencil_105 0 rfl ?_
        refine v_cVp hx DX11_pencil_107 CVRX11_316 [iv c] (c_suits (c := c) l G Λ sz m kP (by omega) (hs c (by omega) (by omega)).1) kP.1 rfl rfl (Nat.le_of_ble_eq_true rfl) (by decide) ⟨Nat.le_refl _, Nat.le_refl _⟩ ?_
        have w01 := (hs c (by omega) (by omega)).1
        have wif := (hs c (by omega) (by omega)).2
        have hwr := hwI_rng b (pnJ b f f2 c) 5 (by omega)
        refine v_if_eq hx DX11_pencil_110 (by omega) (fun c110 => ?_) (fun c110 => ?_)
        · skip
          refine v_iinc hx DX11_pencil_120 0 rfl [(6, iv (c + (-1))), (5, iv y), (4, iv z), (0, .ref g), (3, iv w)] rfl (by decide) ?_
          refine v_goto hx DX11_pencil_123 ?_
          exact v_sub [0, 1, 2, 3, 4] _ rfl (ih (c + (-1)) z y m (by omega) hv hk hs (by omega) (by rw [show (100 - (c + (-1))).toNat = (100 - c).toNat + 1 by omega, penS, show 100 - (((100 - c).toNat : Nat) : Int) = c by omega, if_pos (by omega)]; exact hz) (by rw [show (100 - (c + (-1))).toNat = (100 - c).toNat + 1 by omega, penS, show 100 - (((100 - c).toNat : Nat) : Int) = c by omega, if_pos (by omega)]; exact hy))
        · skip
          refine v_iinc hx DX11_pencil_113 2 rfl [(4, iv (z + 1)), (6, iv c), (5, iv y), (0, .ref g), (3, iv w)] rfl (by decide) ?_
          refine v_iload hx DX11_pencil_116 1 rfl ?_
          refine v_istore hx DX11_pencil_118 [(5, iv c), (4, iv (z + 1)), (6, iv c), (0, .ref g), (3, iv w)] rfl (by decide) ?_
          refine v_iinc hx DX11_pencil_120 2 rfl [(6, iv (c + (-1))), (5, iv c), (4, iv (z + 1)), (0, .ref g), (3, iv w)] rfl (by decide) ?_
          refine v_goto hx DX11_pencil_123 ?_
          exact v_sub [0, 1, 2, 3, 4] _ rfl (ih (c + (-1)) (z + 1) c m (by omega) hv hk hs (by omega) (by rw [show (100 - (c + (-1))).toNat = (100 - c).toNat + 1 by omega, penS, show 100 - (((100 - c).toNat : Nat) : Int) = c by omega, if_neg (by omega)]; show z + 1 = (penS b f f2 (100 - c).toNat).1 + 1; rw [hz]) (by rw [show (100 - (c + (-1))).toNat = (100 - c).toNat + 1 by omega, penS, show 100 - (((100 - c).toNat : Nat) : Int) = c by omega, if_neg (by omega)]; first | done | rfl))
  refine v_iload hx DX11_pencil_0 1 rfl ?_
  refine v_cSp hx DX11_pencil_1 CSRX11_139 [iv f] (c_isFunction l G Λ sz μ (by omega)) rfl rfl (Nat.le_of_ble_eq_true rfl) (by decide) ⟨Nat.le_refl _, Nat.le_refl _⟩ ?_
  have br1 := bz_rng (0 ≤ f ∧ f ≤ 2)
  refine v_if_eq hx DX11_pencil_4 (by omega) (fun c4 => ?_) (fun c4 => ?_)
  · skip
    have d4 := bzf c4
    refine v_push hx DX11_pencil_23 ?_
    exact v_ri hx hBD DX11_pencil_24 (⟨by unfold penA; rw [if0 (fun q => by exact d4 q.1)], hCs⟩)
  · skip
    have d4 := bzt c4
    refine v_iload hx DX11_pencil_7 2 rfl ?_
    refine v_cSp hx DX11_pencil_8 CSRX11_139 [iv f2] (c_isFunction l G Λ sz μ (by omega)) rfl rfl (Nat.le_of_ble_eq_true rfl) (by decide) ⟨Nat.le_refl _, Nat.le_refl _⟩ ?_
    have br8 := bz_rng (0 ≤ f2 ∧ f2 ≤ 2)
    refine v_if_eq hx DX11_pencil_11 (by omega) (fun c11 => ?_) (fun c11 => ?_)
    · skip
      have d11 := bzf c11
      refine v_push hx DX11_pencil_23 ?_
      exact v_ri hx hBD DX11_pencil_24 (⟨by unfold penA; rw [if0 (fun q => by exact d11 q.2.1)], hCs⟩)
    · skip
      have d11 := bzt c11
      refine v_iload hx DX11_pencil_14 3 rfl ?_
      refine v_push hx DX11_pencil_15 ?_
      refine v_push hx DX11_pencil_16 ?_
      refine v_cSp hx DX11_pencil_17 CSRX11_117 [iv w, iv 0, iv 1] (c_within l G Λ sz μ (by omega) (by omega) (by omega)) rfl rfl (Nat.le_of_ble_eq_true rfl) (by decide) ⟨Nat.le_refl _, Nat.le_refl _⟩ ?_
      have br17 := bz_rng (0 ≤ w ∧ w ≤ 1)
      refine v_if_ne hx DX11_pencil_20 (by omega) (fun c20 => ?_) (fun c20 => ?_)
      · skip
        have d20 := bzt c20
        refine v_aload hx DX11_pencil_25 0 rfl ?_
        refine v_get hx DX11_pencil_26 FLRX11_12 hG.1 (v := .ref (g + 1)) rfl ?_
        refine v_iload hx DX11_pencil_29 1 rfl ?_
        refine v_cVp hx DX11_pencil_30 CVRX11_152 [iv f] (b_fits l G Λ sz μ kB hb (by omega)) kB.1 rfl rfl (Nat.le_of_ble_eq_true rfl) (by decide) ⟨Nat.le_refl _, Nat.le_refl _⟩ ?_
        have ftrf := b.fit_rng f
        refine v_if_eq hx DX11_pencil_33 (by omega) (fun c33 => ?_) (fun c33 => ?_)
        · skip
          refine v_push hx DX11_pencil_47 ?_
          exact v_ri hx hBD DX11_pencil_49 (⟨by unfold penA; rw [if1 ⟨d4, d11, d20⟩, if_pos (Or.inl (by omega))], hCs⟩)
        · skip
          refine v_aload hx DX11_pencil_36 0 rfl ?_
          refine v_get hx DX11_pencil_37 FLRX11_12 hG.1 (v := .ref (g + 1)) rfl ?_
          refine v_iload hx DX11_pencil_40 2 rfl ?_
          refine v_cVp hx DX11_pencil_41 CVRX11_152 [iv f2] (b_fits l G Λ sz μ kB hb (by omega)) kB.1 rfl rfl (Nat.le_of_ble_eq_true rfl) (by decide) ⟨Nat.le_refl _, Nat.le_refl _⟩ ?_
          have ftrf2 := b.fit_rng f2
          refine v_if_ne hx DX11_pencil_44 (by omega) (fun c44 => ?_) (fun c44 => ?_)
          · skip
            refine v_aload hx DX11_pencil_50 0 rfl ?_
            refine v_get hx DX11_pencil_51 FLRX11_60 hG.1 (v := .ref (g + 82)) rfl ?_
            refine v_aload hx DX11_pencil_54 0 rfl ?_
            refine v_get hx DX11_pencil_55 FLRX11_12 hG.1 (v := .ref (g + 1)) rfl ?_
            refine v_iload hx DX11_pencil_58 1 rfl ?_
            refine v_cVv hx DX11_pencil_59 CVRX11_275 [.ref (g + 1), iv f] (c_compute (p := g + 82) (κ := g + 48) (σ := g + 65) (β := g + 1) (f := f) l G Λ sz μ hA hI kK kSp kP kB hb hgd (by omega) (by omega) (by omega)) kP.1 rfl rfl (Nat.le_of_ble_eq_true rfl) (by decide) ⟨Nat.le_refl _, Nat.le_refl _⟩ (fun μ13 hμ13 => ?_)
            obtain ⟨π1, w1, cx1, u13a1, w141, w151, hQ1, hR1, u131, u151⟩ := hμ13
            have k1 : KS Λ μ μ13 g b h im T S := hCs.scr hGG (cx1.fc (X := fun a => a = g + 82) rfl) (fun a q => by unfold scr9; omega)
            have hwr1 := hwI_rng b (fnJ b f) 5 (by omega)
            refine v_aload hx DX11_pencil_62 0 rfl ?_
            refine v_get hx DX11_pencil_63 FLRX11_64 hG.1 (v := .ref (g + 163)) rfl ?_
            refine v_aload hx DX11_pencil_66 0 rfl ?_
            refine v_get hx DX11_pencil_67 FLRX11_12 hG.1 (v := .ref (g + 1)) rfl ?_
            refine v_iload hx DX11_pencil_70 2 rfl ?_
            refine v_cVv hx DX11_pencil_71 CVRX11_275 [.ref (g + 1), iv f2] (c_compute (p := g + 163) (κ := g + 48) (σ := g + 65) (β := g + 1) (f := f2) l G Λ sz μ13 cx1.1 hI kK kSp kQ kB k1.2.1 hgd (by omega) (by omega) (by omega)) kQ.1 rfl rfl (Nat.le_of_ble_eq_true rfl) (by decide) ⟨Nat.le_refl _, Nat.le_refl _⟩ (fun μ15 hμ15 => ?_)
            obtain ⟨π2, w2, cx2, u13a2, w142, w152, hQ2, hR2, u132, u152⟩ := hμ15
            have k2 : KS Λ μ μ15 g b h im T S := k1.scr hGG (cx2.fc (X := fun a => a = g + 163) rfl) (fun a q => by unfold scr9; omega)
            have hwr2 := hwI_rng b (fnJ b f2) 5 (by omega)
            have R1 : ∀ j : Int, -2 ≤ j → j ≤ 2 → π2 (g + 82 + 56 + 5 * (j + 2).toNat + 1) = (igR b (fnJ b f) j).1 ∧ π2 (g + 82 + 56 + 5 * (j + 2).toNat + 3) = (igR b (fnJ b f) j).2 := fun j h0 h1 => ⟨(cx2.2.1 _ (by omega)).trans (hR1 j h0 h1).1, (cx2.2.1 _ (by omega)).trans (hR1 j h0 h1).2⟩
            have U13 : π2 (g + 82 + 13) = b.uP := (cx2.2.1 _ (by omega)).trans u131
            have U15 : π2 (g + 82 + 15) = b.uP.der := (cx2.2.1 _ (by omega)).trans u151
            have plim := pen_lim hgd (by omega : 0 ≤ f ∧ f < 3) (by omega : 0 ≤ f2 ∧ f2 < 3) (by omega) (by omega) U13 U15 R1 hR2
            have pfin := fun c => pen_fin (c := c) hgd (by omega : 0 ≤ f ∧ f < 3) (by omega : 0 ≤ f2 ∧ f2 < 3) (by omega) (by omega) U13 U15 R1 hR2
            refine v_aload hx DX11_pencil_74 0 rfl ?_
            refine v_get hx DX11_pencil_75 FLRX11_60 hG.1 (v := .ref (g + 82)) rfl ?_
            refine v_aload hx DX11_pencil_78 0 rfl ?_
            refine v_get hx DX11_pencil_79 FLRX11_64 hG.1 (v := .ref (g + 163)) rfl ?_
            refine v_cVv hx DX11_pencil_82 CVRX11_312 [.ref (g + 163)] (c_compare (p := g + 82) (q := g + 163) (κ := g + 48) (σ := g + 65) (kd := b.2.2.1) l G Λ sz μ15 cx2.1 hI kK kP kQ ⟨by rw [cx2.2.2.1.1 (g + 82) kP.off (by omega), cx1.2.2.2.1]; exact u13a1, bok.2.2.1⟩ (by omega) plim) kP.1 rfl rfl (Nat.le_of_ble_eq_true rfl) (by decide) ⟨Nat.le_refl _, Nat.le_refl _⟩ (fun μ17 hμ17 => ?_)
            obtain ⟨π3, w3, cx3, hb3, hc3⟩ := hμ17
            have k3 : KS Λ μ μ17 g b h im T S := k2.scr hGG (cx3.fc (X := fun a => a = g + 107) rfl) (fun a q => by unfold scr9; omega)
            refine v_push hx DX11_pencil_85 ?_
            refine v_istore hx DX11_pencil_86 [(4, iv 0), (0, .ref g), (1, iv f), (2, iv f2), (3, iv w)] rfl (by decide) ?_
            refine v_push hx DX11_pencil_88 ?_
            refine v_istore hx DX11_pencil_90 [(5, iv (-4)), (4, iv 0), (0, .ref g), (1, iv f), (2, iv f2), (3, iv w)] rfl (by decide) ?_
            refine v_push hx DX11_pencil_92 ?_
            refine v_istore hx DX11_pencil_94 [(6, iv 100), (5, iv (-4)), (4, iv 0), (0, .ref g), (1, iv f), (2, iv f2), (3, iv w)] rfl (by decide) ?_
            exact v_sub [0, 1, 2, 3, 6] _ rfl (L96 200 100 0 (-4) μ17 (by omega) ⟨⟨d4, d11, d20⟩, by omega, by omega⟩ k3 (fun c h0 h1 => by rw [show g + 82 + 25 = g + 107 by omega] at *; rw [cx3.2.2.2.1]; exact ⟨hb3 c h0 h1, (hc3 c h0 h1).trans (pfin c)⟩) (by omega) rfl rfl)
          · skip
            refine v_push hx DX11_pencil_47 ?_
            exact v_ri hx hBD DX11_pencil_49 (⟨by unfold penA; rw [if1 ⟨d4, d11, d20⟩, if_pos (Or.inr (by omega))], hCs⟩)
      · skip
        have d20 := bzf c20
        refine v_push hx DX11_pencil_23 ?_
        exact v_ri hx hBD DX11_pencil_24 (⟨by unfold penA; rw [if0 (fun q => by exact d20 q.2.2)], hCs⟩)
