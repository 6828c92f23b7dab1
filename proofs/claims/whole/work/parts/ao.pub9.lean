/-! ===== the class: keepResults, join, derive, drift ===== -/
theorem bc_one {v : Int} (h : 0 ≤ v ∧ v < 32) : bcI v = 1 ↔ oneB v := by
  have q : ∀ k : Fin 32, (bcI (k.val : Int) = 1 ↔ ((k.val : Int) = 1 ∨ (k.val : Int) = 2 ∨ (k.val : Int) = 4 ∨ (k.val : Int) = 8 ∨ (k.val : Int) = 16)) := by decide +kernel
  have := q ⟨v.toNat, by omega⟩
  simpa [Int.toNat_of_nonneg h.1, oneB] using this
theorem bc_rng {v : Int} : 0 ≤ bcI v ∧ bcI v ≤ 5 := by unfold bcI; omega
theorem join_no2 {Λ : Lay} {g : Nat} {μ0 μ : Mem} {b : Bd} {h : Hs} {im : Option (Bd × Hs)} {T : List Int} {S : Int → Sht} {f act f1 f2 : Int} (c : KS Λ μ0 μ g b h im T S) (n : ¬ joinK b f act f1 f2) : KS Λ μ0 μ g (joinB b f act f1 f2) (joinH b h f act f1 f2) im T S := by
  unfold joinB joinH
  rw [if_neg n, if_neg n]; exact c
theorem der_no2 {Λ : Lay} {g : Nat} {μ0 μ : Mem} {b : Bd} {h : Hs} {im : Option (Bd × Hs)} {T : List Int} {S : Int → Sht} {f f1 : Int} (c : KS Λ μ0 μ g b h im T S) (n : ¬ derK b f f1) : KS Λ μ0 μ g (derB b f f1) (derH b h f f1) im T S := by
  unfold derB derH
  rw [if_neg n, if_neg n]; exact c
theorem den_n0 {b : Bd} {t : Int} (h : b.good) (ht : t = -1 ∨ (0 ≤ t ∧ t < 15)) : b.den t ≠ PS.zero := by
  rcases ht with rfl | q
  · rw [tm_neg.2]; exact PS.one_ne
  · exact (h.tm q).1.2.2.1
theorem p_keepResults (l : Launch) (G : Gl) (Λ : Lay) (sz : Nat) (μ : Mem) {g : Nat} {μ0 : Mem} {b : Bd} {h : Hs} {im : Option (Bd × Hs)} {T : List Int} {S : Int → Sht} {π1 : Nat → PS} {f : Int} {J : Int → FP2} (hG : GK Λ g) (hC : KS Λ μ0 μ g b h im T S) (hI : INV G Λ) (hA1 : AB Λ μ π1) (hJ : ∀ s : Int, -2 ≤ s → s ≤ 2 → π1 ((g + 376 + 5 * (s + 2).toNat) + 1) = (J s).1 ∧ π1 ((g + 376 + 5 * (s + 2).toNat) + 3) = (J s).2) (hf : 0 ≤ f ∧ f ≤ 2) : Sp l G yX11_keepResults cX11_keepResults 3 (some FieldType.int) 4 [.ref g, iv f] Λ sz μ (pI (fun z μ' => z = (kp b f J 5).fl f 5 ∧ KS Λ μ0 μ' g (kp b f J 5) (h.push b) im T S)) := by
  refine Sp.intro (by decide) (Nat.le_of_ble_eq_true rfl) (fun x hx hBD => ?_)
  refine v_lv [(0, .ref g), (1, iv f)] rfl ?_
  have hGG := hG
  obtain ⟨hG0, ⟨kB, kH, kB2, kH2⟩, ⟨kSh, kRs⟩, ⟨kK, kSp, kP, kQ, kRe, kRd, kW⟩, ⟨kGi, kSe, kTo, kAn⟩, kS4, kR5, kOut⟩ := hG
  have hG := hGG
  have hCs := hC
  obtain ⟨⟨π, hA⟩, hb, hh, him, hT, hdg, hSh, hWr, hout⟩ := hC
  have bok := hb.1
  have L14 : ∀ (nf : Nat) (i : Int) (m : Mem), (3 - i < (nf : Int)) → (-2 ≤ i ∧ i ≤ 3) → (KS Λ μ0 m g (kp b f J (i + 2).toNat) (h.push b) im T S) → (∀ s : Int, -2 ≤ s → s ≤ 2 → PA m ((g + 376 + 5 * (s + 2).toNat) + 1) (J s).1 ∧ PA m ((g + 376 + 5 * (s + 2).toNat) + 3) (J s).2) → V G x (0, 0) Λ sz m 14 [(2, iv i), (0, .ref g), (1, iv f)] [] := by
    intro nf
    induction nf with
    | zero => intro i m hm hi hk hP; exact absurd hm (by omega)
    | succ nf ih =>
      intro i m hm hi hk hP
      refine v_iload hx DX11_keepResults_14 0 rfl ?_
      refine v_push hx DX11_keepResults_15 ?_
      refine v_icmp_gt hx DX11_keepResults_16 (by omega) (by decide) (fun c16 => ?_) (fun c16 => ?_)
      · skip
        refine v_aload hx DX11_keepResults_42 1 rfl ?_
        refine v_get hx DX11_keepResults_43 FLRX11_12 hG.1 (v := .ref (g + 1)) rfl ?_
        refine v_iload hx DX11_keepResults_46 2 rfl ?_
        refine v_cVp hx DX11_keepResults_47 CVRX11_143 [iv f] (b_filled l G Λ sz m kB (by have t := hk.2.1; rw [show (i + 2).toNat = 5 by omega] at t; exact t) (by omega)) kB.1 rfl rfl (Nat.le_of_ble_eq_true rfl) (by decide) ⟨Nat.le_refl _, Nat.le_refl _⟩ ?_
        exact v_ri hx hBD DX11_keepResults_50 (⟨rfl, by rw [show (i + 2).toNat = 5 by omega] at hk; exact hk⟩)
      · skip
        have kRi : fracK Λ (g + 376 + 5 * (i + 2).toNat) := kR5 (i + 2).toNat (by omega)
        refine v_aload hx DX11_keepResults_19 1 rfl ?_
        refine v_get hx DX11_keepResults_20 FLRX11_12 hG.1 (v := .ref (g + 1)) rfl ?_
        refine v_iload hx DX11_keepResults_23 2 rfl ?_
        refine v_iload hx DX11_keepResults_24 0 rfl ?_
        refine v_cSp hx DX11_keepResults_25 CSRX11_113 [iv f, iv i] (c_termOf l G Λ sz m (by omega) (by omega)) rfl rfl (Nat.le_of_ble_eq_true rfl) (by decide) ⟨Nat.le_refl _, Nat.le_refl _⟩ ?_
        refine v_top (z' := (5 * f + i + 2)) (if1 ⟨by omega, by omega, by omega, by omega⟩) ?_
        refine v_aload hx DX11_keepResults_28 1 rfl ?_
        refine v_iload hx DX11_keepResults_29 0 rfl ?_
        refine v_cVr hx DX11_keepResults_30 CVRX11_223 [iv i] (p_result (i := i) l G Λ sz m hG (by omega)) hG.1 rfl rfl (Nat.le_of_ble_eq_true rfl) (by decide) ⟨Nat.le_refl _, Nat.le_refl _⟩ (fun z6 μ5 hμ5 => ?_)
        obtain ⟨ea, em⟩ := hμ5
        rw [ea, em]
        refine v_cVv hx DX11_keepResults_33 CVRX11_186 [iv (5 * f + i + 2), .ref (g + 376 + 5 * (i + 2).toNat)] (b_store (t := 5 * f + i + 2) l G Λ sz m kB hk.2.1 kRi (hP i (by omega) (by omega)).1 (hP i (by omega) (by omega)).2 (by omega)) kB.1 rfl rfl (Nat.le_of_ble_eq_true rfl) (by decide) ⟨Nat.le_refl _, Nat.le_refl _⟩ (fun μ7 hμ7 => ?_)
        obtain ⟨q2, f2⟩ := hμ7
        have k2 := hk.brd hGG q2 f2
        refine v_iinc hx DX11_keepResults_36 0 rfl [(2, iv (i + 1)), (0, .ref g), (1, iv f)] rfl (by decide) ?_
        refine v_goto hx DX11_keepResults_39 ?_
        exact v_sub [0, 1, 2] _ rfl (ih (i + 1) μ7 (by omega) (by omega) (by rw [show (i + 1 + 2).toNat = (i + 2).toNat + 1 by omega, kp, show 5 * f + (((i + 2).toNat : Nat) : Int) = 5 * f + i + 2 by omega, show (((i + 2).toNat : Nat) : Int) - 2 = i by omega]; exact k2) (fun s h0 h1 => ⟨(hP s h0 h1).1.keep (f2.i.1 _ (by omega)) (f2.i.1 _ (by omega)), (hP s h0 h1).2.keep (f2.i.1 _ (by omega)) (f2.i.1 _ (by omega))⟩))
  refine v_aload hx DX11_keepResults_0 0 rfl ?_
  refine v_get hx DX11_keepResults_1 FLRX11_19 hG.1 (v := .ref (g + 4)) rfl ?_
  refine v_aload hx DX11_keepResults_4 0 rfl ?_
  refine v_get hx DX11_keepResults_5 FLRX11_12 hG.1 (v := .ref (g + 1)) rfl ?_
  refine v_cVv hx DX11_keepResults_8 CVRX11_182 [.ref (g + 1)] (h_push l G Λ sz μ kH kB hh hb (by omega)) kH.1 rfl rfl (Nat.le_of_ble_eq_true rfl) (by decide) ⟨Nat.le_refl _, Nat.le_refl _⟩ (fun μ9 hμ9 => ?_)
  obtain ⟨q1, f1⟩ := hμ9
  have k1 := hCs.hst hGG q1 f1
  refine v_push hx DX11_keepResults_11 ?_
  refine v_istore hx DX11_keepResults_13 [(2, iv (-2)), (0, .ref g), (1, iv f)] rfl (by decide) ?_
  exact v_sub [0, 1, 2] _ rfl (L14 10 (-2) μ9 (by omega) (by omega) k1 (fun s h0 h1 => ⟨(hA1.get (kR5 (s + 2).toNat (by omega)).2.1 (hJ s h0 h1).1).keep (f1.1 _ (by omega)) (f1.1 _ (by omega)), (hA1.get (kR5 (s + 2).toNat (by omega)).2.2 (hJ s h0 h1).2).keep (f1.1 _ (by omega)) (f1.1 _ (by omega))⟩))
theorem p_join (l : Launch) (G : Gl) (Λ : Lay) (sz : Nat) (μ : Mem) {g : Nat} {μ0 : Mem} {b : Bd} {h : Hs} {im : Option (Bd × Hs)} {T : List Int} {S : Int → Sht} {f act f1 f2 : Int} (hG : GK Λ g) (hC : KS Λ μ0 μ g b h im T S) (hI : INV G Λ) (hgd : b.good) (rf : inR f) (ract : inR act) (rf1 : inR f1) (rf2 : inR f2) : Sp l G yX11_join cX11_join 6 (some FieldType.int) 6 [.ref g, iv f, iv act, iv f1, iv f2] Λ sz μ (pI (fun z μ' => z = joinA b f act f1 f2 ∧ KS Λ μ μ' g (joinB b f act f1 f2) (joinH b h f act f1 f2) im T S)) := by
  refine Sp.intro (by decide) (Nat.le_of_ble_eq_true rfl) (fun x hx hBD => ?_)
  refine v_lv [(0, .ref g), (1, iv f), (2, iv act), (3, iv f1), (4, iv f2)] rfl ?_
  have hGG := hG
  obtain ⟨hG0, ⟨kB, kH, kB2, kH2⟩, ⟨kSh, kRs⟩, ⟨kK, kSp, kP, kQ, kRe, kRd, kW⟩, ⟨kGi, kSe, kTo, kAn⟩, kS4, kR5, kOut⟩ := hG
  have hG := hGG
  have hCs := hC.start
  obtain ⟨⟨π, hA⟩, hb, hh, him, hT, hdg, hSh, hWr, hout⟩ := hC
  have bok := hb.1
  refine v_iload hx DX11_join_0 1 rfl ?_
  refine v_cSp hx DX11_join_1 CSRX11_139 [iv f] (c_isFunction l G Λ sz μ (by omega)) rfl rfl (Nat.le_of_ble_eq_true rfl) (by decide) ⟨Nat.le_refl _, Nat.le_refl _⟩ ?_
  have br1 := bz_rng (0 ≤ f ∧ f ≤ 2)
  refine v_if_eq hx DX11_join_4 (by omega) (fun c4 => ?_) (fun c4 => ?_)
  · skip
    have d4 := bzf c4
    refine v_push hx DX11_join_31 ?_
    exact v_ri hx hBD DX11_join_32 (⟨by unfold joinA; rw [if0 (fun q => by exact d4 q.1)], join_no2 hCs (fun q => by exact d4 q.1.1)⟩)
  · skip
    have d4 := bzt c4
    refine v_iload hx DX11_join_7 2 rfl ?_
    refine v_push hx DX11_join_8 ?_
    refine v_push hx DX11_join_9 ?_
    refine v_cSp hx DX11_join_10 CSRX11_117 [iv act, iv 0, iv 3] (c_within l G Λ sz μ (by omega) (by omega) (by omega)) rfl rfl (Nat.le_of_ble_eq_true rfl) (by decide) ⟨Nat.le_refl _, Nat.le_refl _⟩ ?_
    have br10 := bz_rng (0 ≤ act ∧ act ≤ 3)
    refine v_if_eq hx DX11_join_13 (by omega) (fun c13 => ?_) (fun c13 => ?_)
    · skip
      have d13 := bzf c13
      refine v_push hx DX11_join_31 ?_
      exact v_ri hx hBD DX11_join_32 (⟨by unfold joinA; rw [if0 (fun q => by exact d13 q.2.1)], join_no2 hCs (fun q => by exact d13 q.1.2.1)⟩)
    · skip
      have d13 := bzt c13
      refine v_iload hx DX11_join_16 3 rfl ?_
      refine v_cSp hx DX11_join_17 CSRX11_139 [iv f1] (c_isFunction l G Λ sz μ (by omega)) rfl rfl (Nat.le_of_ble_eq_true rfl) (by decide) ⟨Nat.le_refl _, Nat.le_refl _⟩ ?_
      have br17 := bz_rng (0 ≤ f1 ∧ f1 ≤ 2)
      refine v_if_eq hx DX11_join_20 (by omega) (fun c20 => ?_) (fun c20 => ?_)
      · skip
        have d20 := bzf c20
        refine v_push hx DX11_join_31 ?_
        exact v_ri hx hBD DX11_join_32 (⟨by unfold joinA; rw [if0 (fun q => by exact d20 q.2.2.1)], join_no2 hCs (fun q => by exact d20 q.1.2.2.1)⟩)
      · skip
        have d20 := bzt c20
        refine v_iload hx DX11_join_23 4 rfl ?_
        refine v_cSp hx DX11_join_25 CSRX11_139 [iv f2] (c_isFunction l G Λ sz μ (by omega)) rfl rfl (Nat.le_of_ble_eq_true rfl) (by decide) ⟨Nat.le_refl _, Nat.le_refl _⟩ ?_
        have br25 := bz_rng (0 ≤ f2 ∧ f2 ≤ 2)
        refine v_if_ne hx DX11_join_28 (by omega) (fun c28 => ?_) (fun c28 => ?_)
        · skip
          have d28 := bzt c28
          refine v_iload hx DX11_join_33 2 rfl ?_
          refine v_push hx DX11_join_34 ?_
          refine v_icmp_ne hx DX11_join_35 (by omega) (by decide) (fun c35 => ?_) (fun c35 => ?_)
          · skip
            refine v_iload hx DX11_join_57 2 rfl ?_
            refine v_push hx DX11_join_58 ?_
            refine v_icmp_ge hx DX11_join_59 (by omega) (by decide) (fun c59 => ?_) (fun c59 => ?_)
            · skip
              refine v_iload hx DX11_join_84 2 rfl ?_
              refine v_push hx DX11_join_85 ?_
              refine v_icmp_ne hx DX11_join_86 (by omega) (by decide) (fun c86 => ?_) (fun c86 => ?_)
              · skip
                exact absurd c86 (by omega)
              · skip
                refine v_aload hx DX11_join_89 0 rfl ?_
                refine v_iload hx DX11_join_90 3 rfl ?_
                refine v_iload hx DX11_join_91 4 rfl ?_
                refine v_cVi hx DX11_join_93 CVRX11_210 [iv f1, iv f2] (p_multiplyTerms l G Λ sz μ hG hA hb hI hgd (by omega) (by omega)) hG.1 rfl rfl (Nat.le_of_ble_eq_true rfl) (by decide) ⟨Nat.le_refl _, Nat.le_refl _⟩ (fun z10 μ9 hμ9 => ?_)
                obtain ⟨ez, π1, c1, r1⟩ := hμ9
                subst ez
                have k1 : KS Λ μ μ9 g b h im T S := hCs.scr hGG (c1.fc (X := fun _ => False)) (fun a q => q.elim)
                have ja : jn b act f1 f2 = jn b 2 f1 f2 := by rw [show act = 2 by omega]
                have okr := bz_rng (okJ (jn b 2 f1 f2))
                refine v_goto hx DX11_join_96 ?_
                refine v_istore hx DX11_join_106 [(5, iv (bz (okJ (jn b 2 f1 f2)))), (0, .ref g), (1, iv f), (2, iv act), (3, iv f1), (4, iv f2)] rfl (by decide) ?_
                refine v_iload hx DX11_join_108 0 rfl ?_
                refine v_if_eq hx DX11_join_110 (by omega) (fun c110 => ?_) (fun c110 => ?_)
                · skip
                  have d110 := bzf c110
                  refine v_push hx DX11_join_121 ?_
                  exact v_ri hx hBD DX11_join_123 (⟨by unfold joinA keepA; rw [if1 ⟨d4, d13, d20, d28⟩, if0 (fun q => absurd q.1 (by omega)), ja, if0 (bzf (by omega))], join_no2 k1 (fun q => by have t := q.2.2; rw [ja] at t; exact bzf (by omega) t)⟩)
                · skip
                  have d110 := bzt c110
                  refine v_aload hx DX11_join_113 1 rfl ?_
                  refine v_iload hx DX11_join_114 2 rfl ?_
                  refine v_cVi hx DX11_join_115 CVRX11_217 [iv f] (p_keepResults (J := jn b 2 f1 f2) l G Λ sz μ9 hG k1 hI c1.1 (fun s h0 h1 => r1 (bzt (by omega)) s h0 h1 (by omega)) (by omega)) hG.1 rfl rfl (Nat.le_of_ble_eq_true rfl) (by decide) ⟨Nat.le_refl _, Nat.le_refl _⟩ (fun z12 μ11 hμ11 => ?_)
                  obtain ⟨ez2, k2⟩ := hμ11
                  refine v_goto hx DX11_join_118 ?_
                  exact v_ri hx hBD DX11_join_123 (⟨by unfold joinA keepA; rw [if1 ⟨d4, d13, d20, d28⟩, if0 (fun q => absurd q.1 (by omega)), ja, if1 (bzt (by omega))]; exact ez2, by unfold joinB joinH; rw [if_pos ⟨⟨d4, d13, d20, d28⟩, (fun q => absurd q.1 (by omega)), by rw [ja]; exact bzt (by omega)⟩, if_pos ⟨⟨d4, d13, d20, d28⟩, (fun q => absurd q.1 (by omega)), by rw [ja]; exact bzt (by omega)⟩, ja]; exact k2⟩)
            · skip
              refine v_aload hx DX11_join_62 0 rfl ?_
              refine v_iload hx DX11_join_63 3 rfl ?_
              refine v_iload hx DX11_join_64 4 rfl ?_
              refine v_iload hx DX11_join_66 2 rfl ?_
              refine v_if_ne hx DX11_join_67 (by omega) (fun c67 => ?_) (fun c67 => ?_)
              · skip
                refine v_push hx DX11_join_74 ?_
                refine v_cVi hx DX11_join_76 CVRX11_207 [iv f1, iv f2, iv 100] (p_addTerms (act := act) l G Λ sz μ hG hA hb hI hgd (by omega) (by omega) (by omega)) hG.1 rfl rfl (Nat.le_of_ble_eq_true rfl) (by decide) ⟨Nat.le_refl _, Nat.le_refl _⟩ (fun z14 μ13 hμ13 => ?_)
                obtain ⟨ez, π1, c1, r1⟩ := hμ13
                subst ez
                have k1 : KS Λ μ μ13 g b h im T S := hCs.scr hGG (c1.fc (X := fun _ => False)) (fun a q => q.elim)
                have ja : jn b act f1 f2 = jn b act f1 f2 := rfl
                have okr := bz_rng (okJ (jn b act f1 f2))
                refine v_istore hx DX11_join_79 [(5, iv (bz (okJ (jn b act f1 f2)))), (0, .ref g), (1, iv f), (2, iv act), (3, iv f1), (4, iv f2)] rfl (by decide) ?_
                refine v_goto hx DX11_join_81 ?_
                refine v_iload hx DX11_join_108 0 rfl ?_
                refine v_if_eq hx DX11_join_110 (by omega) (fun c110 => ?_) (fun c110 => ?_)
                · skip
                  have d110 := bzf c110
                  refine v_push hx DX11_join_121 ?_
                  exact v_ri hx hBD DX11_join_123 (⟨by unfold joinA keepA; rw [if1 ⟨d4, d13, d20, d28⟩, if0 (fun q => absurd q.1 (by omega)), ja, if0 (bzf (by omega))], join_no2 k1 (fun q => by have t := q.2.2; rw [ja] at t; exact bzf (by omega) t)⟩)
                · skip
                  have d110 := bzt c110
                  refine v_aload hx DX11_join_113 1 rfl ?_
                  refine v_iload hx DX11_join_114 2 rfl ?_
                  refine v_cVi hx DX11_join_115 CVRX11_217 [iv f] (p_keepResults (J := jn b act f1 f2) l G Λ sz μ13 hG k1 hI c1.1 (fun s h0 h1 => r1 (bzt (by omega)) s h0 h1 (by omega)) (by omega)) hG.1 rfl rfl (Nat.le_of_ble_eq_true rfl) (by decide) ⟨Nat.le_refl _, Nat.le_refl _⟩ (fun z16 μ15 hμ15 => ?_)
                  obtain ⟨ez2, k2⟩ := hμ15
                  refine v_goto hx DX11_join_118 ?_
                  exact v_ri hx hBD DX11_join_123 (⟨by unfold joinA keepA; rw [if1 ⟨d4, d13, d20, d28⟩, if0 (fun q => absurd q.1 (by omega)), ja, if1 (bzt (by omega))]; exact ez2, by unfold joinB joinH; rw [if_pos ⟨⟨d4, d13, d20, d28⟩, (fun q => absurd q.1 (by omega)), by rw [ja]; exact bzt (by omega)⟩, if_pos ⟨⟨d4, d13, d20, d28⟩, (fun q => absurd q.1 (by omega)), by rw [ja]; exact bzt (by omega)⟩, ja]; exact k2⟩)
              · skip
                refine v_push hx DX11_join_70 ?_
                refine v_goto hx DX11_join_71 ?_
                refine v_cVi hx DX11_join_76 CVRX11_207 [iv f1, iv f2, iv 1] (p_addTerms (act := act) l G Λ sz μ hG hA hb hI hgd (by omega) (by omega) (by omega)) hG.1 rfl rfl (Nat.le_of_ble_eq_true rfl) (by decide) ⟨Nat.le_refl _, Nat.le_refl _⟩ (fun z18 μ17 hμ17 => ?_)
                obtain ⟨ez, π1, c1, r1⟩ := hμ17
                subst ez
                have k1 : KS Λ μ μ17 g b h im T S := hCs.scr hGG (c1.fc (X := fun _ => False)) (fun a q => q.elim)
                have ja : jn b act f1 f2 = jn b act f1 f2 := rfl
                have okr := bz_rng (okJ (jn b act f1 f2))
                refine v_istore hx DX11_join_79 [(5, iv (bz (okJ (jn b act f1 f2)))), (0, .ref g), (1, iv f), (2, iv act), (3, iv f1), (4, iv f2)] rfl (by decide) ?_
                refine v_goto hx DX11_join_81 ?_
                refine v_iload hx DX11_join_108 0 rfl ?_
                refine v_if_eq hx DX11_join_110 (by omega) (fun c110 => ?_) (fun c110 => ?_)
                · skip
                  have d110 := bzf c110
                  refine v_push hx DX11_join_121 ?_
                  exact v_ri hx hBD DX11_join_123 (⟨by unfold joinA keepA; rw [if1 ⟨d4, d13, d20, d28⟩, if0 (fun q => absurd q.1 (by omega)), ja, if0 (bzf (by omega))], join_no2 k1 (fun q => by have t := q.2.2; rw [ja] at t; exact bzf (by omega) t)⟩)
                · skip
                  have d110 := bzt c110
                  refine v_aload hx DX11_join_113 1 rfl ?_
                  refine v_iload hx DX11_join_114 2 rfl ?_
                  refine v_cVi hx DX11_join_115 CVRX11_217 [iv f] (p_keepResults (J := jn b act f1 f2) l G Λ sz μ17 hG k1 hI c1.1 (fun s h0 h1 => r1 (bzt (by omega)) s h0 h1 (by omega)) (by omega)) hG.1 rfl rfl (Nat.le_of_ble_eq_true rfl) (by decide) ⟨Nat.le_refl _, Nat.le_refl _⟩ (fun z20 μ19 hμ19 => ?_)
                  obtain ⟨ez2, k2⟩ := hμ19
                  refine v_goto hx DX11_join_118 ?_
                  exact v_ri hx hBD DX11_join_123 (⟨by unfold joinA keepA; rw [if1 ⟨d4, d13, d20, d28⟩, if0 (fun q => absurd q.1 (by omega)), ja, if1 (bzt (by omega))]; exact ez2, by unfold joinB joinH; rw [if_pos ⟨⟨d4, d13, d20, d28⟩, (fun q => absurd q.1 (by omega)), by rw [ja]; exact bzt (by omega)⟩, if_pos ⟨⟨d4, d13, d20, d28⟩, (fun q => absurd q.1 (by omega)), by rw [ja]; exact bzt (by omega)⟩, ja]; exact k2⟩)
          · skip
            refine v_aload hx DX11_join_38 0 rfl ?_
            refine v_get hx DX11_join_39 FLRX11_12 hG.1 (v := .ref (g + 1)) rfl ?_
            refine v_iload hx DX11_join_42 4 rfl ?_
            refine v_cVp hx DX11_join_44 CVRX11_143 [iv f2] (b_filled l G Λ sz μ kB hb (by omega)) kB.1 rfl rfl (Nat.le_of_ble_eq_true rfl) (by decide) ⟨Nat.le_refl _, Nat.le_refl _⟩ ?_
            have flr := b.fl_rng f2 5
            refine v_cSp hx DX11_join_47 CSRX11_202 [iv (b.fl f2 5)] (j_bits l G Λ sz μ (by omega)) rfl rfl (Nat.le_of_ble_eq_true rfl) (by decide) ⟨Nat.le_refl _, Nat.le_refl _⟩ ?_
            have bcr := bc_rng (v := b.fl f2 5)
            have bco := bc_one (v := b.fl f2 5) (by omega)
            refine v_push hx DX11_join_50 ?_
            refine v_icmp_eq hx DX11_join_51 (by omega) (by decide) (fun c51 => ?_) (fun c51 => ?_)
            · skip
              refine v_iload hx DX11_join_57 2 rfl ?_
              refine v_push hx DX11_join_58 ?_
              refine v_icmp_ge hx DX11_join_59 (by omega) (by decide) (fun c59 => ?_) (fun c59 => ?_)
              · skip
                refine v_iload hx DX11_join_84 2 rfl ?_
                refine v_push hx DX11_join_85 ?_
                refine v_icmp_ne hx DX11_join_86 (by omega) (by decide) (fun c86 => ?_) (fun c86 => ?_)
                · skip
                  refine v_aload hx DX11_join_99 0 rfl ?_
                  refine v_iload hx DX11_join_100 3 rfl ?_
                  refine v_iload hx DX11_join_101 4 rfl ?_
                  refine v_cVi hx DX11_join_103 CVRX11_214 [iv f1, iv f2] (p_divideTerms l G Λ sz μ hG hA hb hI hgd (by omega) (by omega) (bco.mp (by omega))) hG.1 rfl rfl (Nat.le_of_ble_eq_true rfl) (by decide) ⟨Nat.le_refl _, Nat.le_refl _⟩ (fun z26 μ25 hμ25 => ?_)
                  obtain ⟨ez, π1, c1, r1⟩ := hμ25
                  subst ez
                  have k1 : KS Λ μ μ25 g b h im T S := hCs.scr hGG (c1.fc (X := fun _ => False)) (fun a q => q.elim)
                  have ja : jn b act f1 f2 = jn b 3 f1 f2 := by rw [show act = 3 by omega]
                  have okr := bz_rng (okJ (jn b 3 f1 f2))
                  refine v_istore hx DX11_join_106 [(5, iv (bz (okJ (jn b 3 f1 f2)))), (0, .ref g), (1, iv f), (2, iv act), (3, iv f1), (4, iv f2)] rfl (by decide) ?_
                  refine v_iload hx DX11_join_108 0 rfl ?_
                  refine v_if_eq hx DX11_join_110 (by omega) (fun c110 => ?_) (fun c110 => ?_)
                  · skip
                    have d110 := bzf c110
                    refine v_push hx DX11_join_121 ?_
                    exact v_ri hx hBD DX11_join_123 (⟨by unfold joinA keepA; rw [if1 ⟨d4, d13, d20, d28⟩, if0 (fun q => q.2 (bco.mp (by omega))), ja, if0 (bzf (by omega))], join_no2 k1 (fun q => by have t := q.2.2; rw [ja] at t; exact bzf (by omega) t)⟩)
                  · skip
                    have d110 := bzt c110
                    refine v_aload hx DX11_join_113 1 rfl ?_
                    refine v_iload hx DX11_join_114 2 rfl ?_
                    refine v_cVi hx DX11_join_115 CVRX11_217 [iv f] (p_keepResults (J := jn b 3 f1 f2) l G Λ sz μ25 hG k1 hI c1.1 (fun s h0 h1 => r1 (bzt (by omega)) s h0 h1 (by omega)) (by omega)) hG.1 rfl rfl (Nat.le_of_ble_eq_true rfl) (by decide) ⟨Nat.le_refl _, Nat.le_refl _⟩ (fun z28 μ27 hμ27 => ?_)
                    obtain ⟨ez2, k2⟩ := hμ27
                    refine v_goto hx DX11_join_118 ?_
                    exact v_ri hx hBD DX11_join_123 (⟨by unfold joinA keepA; rw [if1 ⟨d4, d13, d20, d28⟩, if0 (fun q => q.2 (bco.mp (by omega))), ja, if1 (bzt (by omega))]; exact ez2, by unfold joinB joinH; rw [if_pos ⟨⟨d4, d13, d20, d28⟩, (fun q => q.2 (bco.mp (by omega))), by rw [ja]; exact bzt (by omega)⟩, if_pos ⟨⟨d4, d13, d20, d28⟩, (fun q => q.2 (bco.mp (by omega))), by rw [ja]; exact bzt (by omega)⟩, ja]; exact k2⟩)
                · exact absurd c86 (by omega)
              · exact absurd c59 (by omega)
            · skip
              refine v_push hx DX11_join_54 ?_
              exact v_ri hx hBD DX11_join_56 (⟨by unfold joinA; rw [if1 ⟨d4, d13, d20, d28⟩, if1 ⟨by omega, fun q => c51 (bco.mpr q)⟩], join_no2 hCs (fun q => q.2.1 ⟨by omega, fun q => c51 (bco.mpr q)⟩)⟩)
        · skip
          have d28 := bzf c28
          refine v_push hx DX11_join_31 ?_
          exact v_ri hx hBD DX11_join_32 (⟨by unfold joinA; rw [if0 (fun q => by exact d28 q.2.2.2)], join_no2 hCs (fun q => by exact d28 q.1.2.2.2)⟩)
theorem p_derive (l : Launch) (G : Gl) (Λ : Lay) (sz : Nat) (μ : Mem) {g : Nat} {μ0 : Mem} {b : Bd} {h : Hs} {im : Option (Bd × Hs)} {T : List Int} {S : Int → Sht} {f f1 : Int} (hG : GK Λ g) (hC : KS Λ μ0 μ g b h im T S) (hI : INV G Λ) (hgd : b.good) (rf : inR f) (rf1 : inR f1) : Sp l G yX11_derive cX11_derive 4 (some FieldType.int) 6 [.ref g, iv f, iv f1] Λ sz μ (pI (fun z μ' => z = derA b f f1 ∧ KS Λ μ μ' g (derB b f f1) (derH b h f f1) im T S)) := by
  refine Sp.intro (by decide) (Nat.le_of_ble_eq_true rfl) (fun x hx hBD => ?_)
  refine v_lv [(0, .ref g), (1, iv f), (2, iv f1)] rfl ?_
  have hGG := hG
  obtain ⟨hG0, ⟨kB, kH, kB2, kH2⟩, ⟨kSh, kRs⟩, ⟨kK, kSp, kP, kQ, kRe, kRd, kW⟩, ⟨kGi, kSe, kTo, kAn⟩, kS4, kR5, kOut⟩ := hG
  have hG := hGG
  have hCs := hC.start
  obtain ⟨⟨π, hA⟩, hb, hh, him, hT, hdg, hSh, hWr, hout⟩ := hC
  have bok := hb.1
  have hoff := kP.off
  have hch0 : ChgX Λ (fun c => (g + 84 < c ∧ c < g + 106) ∨ (g + 350 < c ∧ c < g + 366) ∨ (g + 375 < c ∧ c < g + 401) ∨ (g + 48 < c ∧ c < g + 65)) (g + 82) (μ.1 (g + 82)) μ μ π π := ChgX.rf hA hoff
  have L44 : ∀ (nf : Nat) (i : Int) (m : Mem) (w : Int → Int) (πk : Nat → PS), (3 - i < (nf : Int)) → (ChgX Λ (fun c => (g + 84 < c ∧ c < g + 106) ∨ (g + 350 < c ∧ c < g + 366) ∨ (g + 375 < c ∧ c < g + 401) ∨ (g + 48 < c ∧ c < g + 65)) (g + 82) w μ m π πk) → (πk (g + 82 + 13) = b.uP) → (πk (g + 82 + 15) = b.uP.der) → (derOK f f1) → (b.fit f1 ≠ 0) → (-2 ≤ i ∧ i ≤ 3) → (w 13 = b.2.2.1) → (∀ s : Int, -2 ≤ s → s ≤ 2 → s < i → πk ((g + 376 + 5 * (s + 2).toNat) + 1) = ((dj b f1) s).1 ∧ πk ((g + 376 + 5 * (s + 2).toNat) + 3) = ((dj b f1) s).2) → (∀ s : Int, -2 ≤ s → s < i → isT (dj b f1 s).1 (dj b f1 s).2 = 1) → V G x (0, 0) Λ sz m 44 [(3, iv i), (0, .ref g), (1, iv f), (2, iv f1)] [] := by
    intro nf
    induction nf with
    | zero => intro i m w πk hm hchπk vπk_0 vπk_1 hdk hft hi hw13 hR ht; exact absurd hm (by omega)
    | succ nf ih =>
      intro i m w πk hm hchπk vπk_0 vπk_1 hdk hft hi hw13 hR ht
      have hAπk := hchπk.1
      have hdn := hdk
      unfold derOK at hdn
      refine v_iload hx DX11_derive_44 0 rfl ?_
      refine v_push hx DX11_derive_45 ?_
      refine v_icmp_gt hx DX11_derive_46 (by omega) (by decide) (fun c46 => ?_) (fun c46 => ?_)
      · skip
        refine v_aload hx DX11_derive_133 1 rfl ?_
        refine v_iload hx DX11_derive_134 2 rfl ?_
        refine v_cVi hx DX11_derive_135 CVRX11_217 [iv f] (p_keepResults (J := dj b f1) l G Λ sz m hG (hCs.scr hGG (hchπk.fc (X := fun a => a = g + 82) rfl) (fun a q => by unfold scr9; omega)) hI hAπk (fun s h0 h1 => hR s h0 h1 (by omega)) (by omega)) hG.1 rfl rfl (Nat.le_of_ble_eq_true rfl) (by decide) ⟨Nat.le_refl _, Nat.le_refl _⟩ (fun z2 μ1 hμ1 => ?_)
        obtain ⟨ez2, k2⟩ := hμ1
        exact v_ri hx hBD DX11_derive_138 (by have ok : okJ (dj b f1) := okJ_dj.mpr (fun s h0 h1 => ht s h0 (by omega)); exact ⟨by unfold derA keepA; rw [if1 hdk, if_neg hft, if1 ok]; exact ez2, by unfold derB derH; rw [if_pos ⟨hdk, hft, ok⟩, if_pos ⟨hdk, hft, ok⟩]; exact k2⟩)
      · skip
        have kRi : fracK Λ (g + 376 + 5 * (i + 2).toNat) := kR5 (i + 2).toNat (by omega)
        refine v_aload hx DX11_derive_49 1 rfl ?_
        refine v_get hx DX11_derive_50 FLRX11_12 hG.1 (v := .ref (g + 1)) rfl ?_
        refine v_iload hx DX11_derive_53 3 rfl ?_
        refine v_iload hx DX11_derive_54 0 rfl ?_
        refine v_cSp hx DX11_derive_55 CSRX11_113 [iv f1, iv i] (c_termOf l G Λ sz m (by omega) (by omega)) rfl rfl (Nat.le_of_ble_eq_true rfl) (by decide) ⟨Nat.le_refl _, Nat.le_refl _⟩ ?_
        refine v_top (z' := (5 * f1 + i + 2)) (if1 ⟨by omega, by omega, by omega, by omega⟩) ?_
        refine v_aload hx DX11_derive_58 1 rfl ?_
        refine v_get hx DX11_derive_59 FLRX11_95 hG.1 (v := .ref (g + 351)) rfl ?_
        refine v_cVv hx DX11_derive_62 CVRX11_124 [iv (5 * f1 + i + 2), .ref (g + 351)] (b_load (t := 5 * f1 + i + 2) l G Λ sz m hAπk kB (hb.cx kB hchπk (by omega)) kGi (by first | omega | (split <;> omega))) kB.1 rfl rfl (Nat.le_of_ble_eq_true rfl) (by decide) ⟨Nat.le_refl _, Nat.le_refl _⟩ (fun μ5 hμ5 => ?_)
        obtain ⟨π5, hc5, he5_0, he5_1⟩ := hμ5
        have hA5 := hc5.1
        have hch5 := hchπk.trans (hc5.mono (fun c hc => by first | omega | (dsimp only at hc ⊢; omega)))
        have v5_0 : π5 (g + 82 + 13) = b.uP := (hc5.2.1 (g + 82 + 13) (by first | omega | (dsimp only; omega))).trans vπk_0
        have v5_1 : π5 (g + 82 + 15) = b.uP.der := (hc5.2.1 (g + 82 + 15) (by first | omega | (dsimp only; omega))).trans vπk_1
        refine v_aload hx DX11_derive_65 1 rfl ?_
        refine v_get hx DX11_derive_66 FLRX11_12 hG.1 (v := .ref (g + 1)) rfl ?_
        refine v_iload hx DX11_derive_69 0 rfl ?_
        refine v_push hx DX11_derive_70 ?_
        refine v_icmp_ge hx DX11_derive_71 (by omega) (by decide) (fun c71 => ?_) (fun c71 => ?_)
        · skip
          refine v_push hx DX11_derive_84 ?_
          refine v_top (z' := (if i < 2 then 5 * f1 + i + 3 else -1)) (by rw [if_neg (by omega)]) ?_
          refine v_aload hx DX11_derive_85 1 rfl ?_
          refine v_get hx DX11_derive_86 FLRX11_99 hG.1 (v := .ref (g + 356)) rfl ?_
          refine v_cVv hx DX11_derive_89 CVRX11_124 [iv (if i < 2 then 5 * f1 + i + 3 else -1), .ref (g + 356)] (b_load (t := (if i < 2 then 5 * f1 + i + 3 else -1)) l G Λ sz μ5 hA5 kB (hb.cx kB hch5 (by omega)) kSe (by first | omega | (split <;> omega))) kB.1 rfl rfl (Nat.le_of_ble_eq_true rfl) (by decide) ⟨Nat.le_refl _, Nat.le_refl _⟩ (fun μ6 hμ6 => ?_)
          obtain ⟨π6, hc6, he6_0, he6_1⟩ := hμ6
          have hA6 := hc6.1
          have hch6 := hch5.trans (hc6.mono (fun c hc => by first | omega | (dsimp only at hc ⊢; omega)))
          have v6_0 : π6 (g + 82 + 13) = b.uP := (hc6.2.1 (g + 82 + 13) (by first | omega | (dsimp only; omega))).trans v5_0
          have v6_1 : π6 (g + 82 + 15) = b.uP.der := (hc6.2.1 (g + 82 + 15) (by first | omega | (dsimp only; omega))).trans v5_1
          have v6_2 : π6 (g + 351 + 1) = b.num (5 * f1 + i + 2) := (hc6.2.1 (g + 351 + 1) (by first | omega | (dsimp only; omega))).trans he5_0
          have v6_3 : π6 (g + 351 + 3) = b.den (5 * f1 + i + 2) := (hc6.2.1 (g + 351 + 3) (by first | omega | (dsimp only; omega))).trans he5_1
          refine v_aload hx DX11_derive_92 1 rfl ?_
          refine v_get hx DX11_derive_93 FLRX11_60 hG.1 (v := .ref (g + 82)) rfl ?_
          refine v_iload hx DX11_derive_96 0 rfl ?_
          refine v_aload hx DX11_derive_97 1 rfl ?_
          refine v_get hx DX11_derive_98 FLRX11_95 hG.1 (v := .ref (g + 351)) rfl ?_
          refine v_aload hx DX11_derive_101 1 rfl ?_
          refine v_get hx DX11_derive_102 FLRX11_99 hG.1 (v := .ref (g + 356)) rfl ?_
          refine v_aload hx DX11_derive_105 1 rfl ?_
          refine v_iload hx DX11_derive_106 0 rfl ?_
          refine v_cVr hx DX11_derive_107 CVRX11_223 [iv i] (p_result (i := i) l G Λ sz μ6 hG (by omega)) hG.1 rfl rfl (Nat.le_of_ble_eq_true rfl) (by decide) ⟨Nat.le_refl _, Nat.le_refl _⟩ (fun z8 μ7 hμ7 => ?_)
          obtain ⟨ea, em⟩ := hμ7
          rw [ea, em]
          refine v_cVv hx DX11_derive_110 CVRX11_227 [iv i, .ref (g + 351), .ref (g + 356), .ref (g + 376 + 5 * (i + 2).toNat)] (c_differentiate (κ := g + 48) (σ := g + 65) (kd := b.2.2.1) (i := i) l G Λ sz μ6 hA6 hI kK kP kGi kSe kRi (by omega) ⟨by rw [hch6.2.2.2.1]; exact hw13, bok.2.2.1⟩ (by omega) (by rw [v6_2, v6_3, he6_0, he6_1, v6_0, v6_1]; exact ⟨PS.size_le (b.num_lt _), PS.size_le (b.den_lt _), PS.size_le (b.num_lt _), PS.size_le (b.den_lt _), b.uP_sz.1, b.uP_sz.2⟩) (by rw [v6_3, he6_1]; exact ⟨(hgd.tm (t := 5 * f1 + i + 2) (by omega)).1.2.2.1, den_n0 hgd (by omega)⟩) (fun q => by rw [v6_0]; exact (Bd.us hgd (by omega)).2.2.1)) kP.1 rfl rfl (Nat.le_of_ble_eq_true rfl) (by decide) ⟨Nat.le_refl _, Nat.le_refl _⟩ (fun μ9 hμ9 => ?_)
          obtain ⟨π9, hc9, he9_0, he9_1⟩ := hμ9
          have hA9 := hc9.1
          have hch9 := hch6.trans (hc9.mono (fun c hc => by first | omega | (dsimp only at hc ⊢; omega)))
          have v9_0 : π9 (g + 82 + 13) = b.uP := (hc9.2.1 (g + 82 + 13) (by first | omega | (dsimp only; omega))).trans v6_0
          have v9_1 : π9 (g + 82 + 15) = b.uP.der := (hc9.2.1 (g + 82 + 15) (by first | omega | (dsimp only; omega))).trans v6_1
          have v9_2 : π9 (g + 351 + 1) = b.num (5 * f1 + i + 2) := (hc9.2.1 (g + 351 + 1) (by first | omega | (dsimp only; omega))).trans v6_2
          have v9_3 : π9 (g + 351 + 3) = b.den (5 * f1 + i + 2) := (hc9.2.1 (g + 351 + 3) (by first | omega | (dsimp only; omega))).trans v6_3
          have v9_4 : π9 (g + 356 + 1) = b.num ((if i < 2 then 5 * f1 + i + 3 else -1)) := (hc9.2.1 (g + 356 + 1) (by first | omega | (dsimp only; omega))).trans he6_0
          have v9_5 : π9 (g + 356 + 3) = b.den ((if i < 2 then 5 * f1 + i + 3 else -1)) := (hc9.2.1 (g + 356 + 3) (by first | omega | (dsimp only; omega))).trans he6_1
          have g9_0 : π9 ((g + 376 + 5 * (i + 2).toNat) + 1) = (dj b f1 i).1 := he9_0.trans (by rw [v6_2, v6_3, he6_0, he6_1, v6_0, v6_1, df_dj hgd (by omega) (by omega) hft])
          have g9_1 : π9 ((g + 376 + 5 * (i + 2).toNat) + 3) = (dj b f1 i).2 := he9_1.trans (by rw [v6_2, v6_3, he6_0, he6_1, v6_0, v6_1, df_dj hgd (by omega) (by omega) hft])
          have itr := isT_rng (dj b f1 i).1 (dj b f1 i).2
          refine v_aload hx DX11_derive_113 1 rfl ?_
          refine v_iload hx DX11_derive_114 0 rfl ?_
          refine v_cVr hx DX11_derive_115 CVRX11_223 [iv i] (p_result (i := i) l G Λ sz μ9 hG (by omega)) hG.1 rfl rfl (Nat.le_of_ble_eq_true rfl) (by decide) ⟨Nat.le_refl _, Nat.le_refl _⟩ (fun z11 μ10 hμ10 => ?_)
          obtain ⟨ea, em⟩ := hμ10
          rw [ea, em]
          refine v_cVp hx DX11_derive_118 CVRX11_231 [] (q_isTerm l G Λ sz μ9 kRi (AB.get (A := (dj b f1 i).1) hA9 kRi.2.1 g9_0) (AB.get (A := (dj b f1 i).2) hA9 kRi.2.2 g9_1)) kRi.1 rfl rfl (Nat.le_of_ble_eq_true rfl) (by decide) ⟨Nat.le_refl _, Nat.le_refl _⟩ ?_
          refine v_if_ne hx DX11_derive_121 (by omega) (fun c121 => ?_) (fun c121 => ?_)
          · skip
            have fr : ∀ a : Nat, (g + 375 < a ∧ a < g + 376 + 5 * (i + 2).toNat) → π9 a = πk a := fun a ha => ((hc9.2.1 a (by first | omega | (dsimp only; omega))).trans ((hc6.2.1 a (by first | omega | (dsimp only; omega))).trans (hc5.2.1 a (by first | omega | (dsimp only; omega)))))
            refine v_iinc hx DX11_derive_127 0 rfl [(3, iv (i + 1)), (0, .ref g), (1, iv f), (2, iv f1)] rfl (by decide) ?_
            refine v_goto hx DX11_derive_130 ?_
            exact v_sub [0, 1, 2, 3] _ rfl (ih (i + 1) μ9 w π9 (by omega) hch9 v9_0 v9_1 hdk hft (by omega) hw13 (fun s h0 h1 h2 => Classical.byCases (fun q : s = i => q ▸ ⟨g9_0, g9_1⟩) (fun q => ⟨(fr _ (by omega)).trans (hR s h0 h1 (by omega)).1, (fr _ (by omega)).trans (hR s h0 h1 (by omega)).2⟩)) (fun s h0 h1 => Classical.byCases (fun q : s = i => q ▸ (by omega)) (fun q => ht s h0 (by omega))))
          · skip
            refine v_push hx DX11_derive_124 ?_
            exact v_ri hx hBD DX11_derive_126 (by have nk : ¬ okJ (dj b f1) := (fun q => by have := okJ_dj.mp q i (by omega) (by omega); omega); exact ⟨by unfold derA keepA; rw [if1 hdk, if_neg hft, if0 nk], der_no2 (hCs.scr hGG (hch9.fc (X := fun a => a = g + 82) rfl) (fun a q => by unfold scr9; omega)) (fun q => nk q.2.2)⟩)
        · skip
          refine v_iload hx DX11_derive_74 3 rfl ?_
          refine v_iload hx DX11_derive_75 0 rfl ?_
          refine v_push hx DX11_derive_76 ?_
          refine v_iadd hx DX11_derive_77 ?_
          refine v_cSp hx DX11_derive_78 CSRX11_113 [iv f1, iv (i + 1)] (c_termOf l G Λ sz μ5 (by omega) (by omega)) rfl rfl (Nat.le_of_ble_eq_true rfl) (by decide) ⟨Nat.le_refl _, Nat.le_refl _⟩ ?_
          refine v_goto hx DX11_derive_81 ?_
          refine v_top (z' := (if i < 2 then 5 * f1 + i + 3 else -1)) (by rw [if1 ⟨by omega, by omega, by omega, by omega⟩, if_pos (by omega)]; omega) ?_
          refine v_aload hx DX11_derive_85 1 rfl ?_
          refine v_get hx DX11_derive_86 FLRX11_99 hG.1 (v := .ref (g + 356)) rfl ?_
          refine v_cVv hx DX11_derive_89 CVRX11_124 [iv (if i < 2 then 5 * f1 + i + 3 else -1), .ref (g + 356)] (b_load (t := (if i < 2 then 5 * f1 + i + 3 else -1)) l G Λ sz μ5 hA5 kB (hb.cx kB hch5 (by omega)) kSe (by first | omega | (split <;> omega))) kB.1 rfl rfl (Nat.le_of_ble_eq_true rfl) (by decide) ⟨Nat.le_refl _, Nat.le_refl _⟩ (fun μ16 hμ16 => ?_)
          obtain ⟨π16, hc16, he16_0, he16_1⟩ := hμ16
          have hA16 := hc16.1
          have hch16 := hch5.trans (hc16.mono (fun c hc => by first | omega | (dsimp only at hc ⊢; omega)))
          have v16_0 : π16 (g + 82 + 13) = b.uP := (hc16.2.1 (g + 82 + 13) (by first | omega | (dsimp only; omega))).trans v5_0
          have v16_1 : π16 (g + 82 + 15) = b.uP.der := (hc16.2.1 (g + 82 + 15) (by first | omega | (dsimp only; omega))).trans v5_1
          have v16_2 : π16 (g + 351 + 1) = b.num (5 * f1 + i + 2) := (hc16.2.1 (g + 351 + 1) (by first | omega | (dsimp only; omega))).trans he5_0
          have v16_3 : π16 (g + 351 + 3) = b.den (5 * f1 + i + 2) := (hc16.2.1 (g + 351 + 3) (by first | omega | (dsimp only; omega))).trans he5_1
          refine v_aload hx DX11_derive_92 1 rfl ?_
          refine v_get hx DX11_derive_93 FLRX11_60 hG.1 (v := .ref (g + 82)) rfl ?_
          refine v_iload hx DX11_derive_96 0 rfl ?_
          refine v_aload hx DX11_derive_97 1 rfl ?_
          refine v_get hx DX11_derive_98 FLRX11_95 hG.1 (v := .ref (g + 351)) rfl ?_
          refine v_aload hx DX11_derive_101 1 rfl ?_
          refine v_get hx DX11_derive_102 FLRX11_99 hG.1 (v := .ref (g + 356)) rfl ?_
          refine v_aload hx DX11_derive_105 1 rfl ?_
          refine v_iload hx DX11_derive_106 0 rfl ?_
          refine v_cVr hx DX11_derive_107 CVRX11_223 [iv i] (p_result (i := i) l G Λ sz μ16 hG (by omega)) hG.1 rfl rfl (Nat.le_of_ble_eq_true rfl) (by decide) ⟨Nat.le_refl _, Nat.le_refl _⟩ (fun z18 μ17 hμ17 => ?_)
          obtain ⟨ea, em⟩ := hμ17
          rw [ea, em]
          refine v_cVv hx DX11_derive_110 CVRX11_227 [iv i, .ref (g + 351), .ref (g + 356), .ref (g + 376 + 5 * (i + 2).toNat)] (c_differentiate (κ := g + 48) (σ := g + 65) (kd := b.2.2.1) (i := i) l G Λ sz μ16 hA16 hI kK kP kGi kSe kRi (by omega) ⟨by rw [hch16.2.2.2.1]; exact hw13, bok.2.2.1⟩ (by omega) (by rw [v16_2, v16_3, he16_0, he16_1, v16_0, v16_1]; exact ⟨PS.size_le (b.num_lt _), PS.size_le (b.den_lt _), PS.size_le (b.num_lt _), PS.size_le (b.den_lt _), b.uP_sz.1, b.uP_sz.2⟩) (by rw [v16_3, he16_1]; exact ⟨(hgd.tm (t := 5 * f1 + i + 2) (by omega)).1.2.2.1, den_n0 hgd (by omega)⟩) (fun q => by rw [v16_0]; exact (Bd.us hgd (by omega)).2.2.1)) kP.1 rfl rfl (Nat.le_of_ble_eq_true rfl) (by decide) ⟨Nat.le_refl _, Nat.le_refl _⟩ (fun μ19 hμ19 => ?_)
          obtain ⟨π19, hc19, he19_0, he19_1⟩ := hμ19
          have hA19 := hc19.1
          have hch19 := hch16.trans (hc19.mono (fun c hc => by first | omega | (dsimp only at hc ⊢; omega)))
          have v19_0 : π19 (g + 82 + 13) = b.uP := (hc19.2.1 (g + 82 + 13) (by first | omega | (dsimp only; omega))).trans v16_0
          have v19_1 : π19 (g + 82 + 15) = b.uP.der := (hc19.2.1 (g + 82 + 15) (by first | omega | (dsimp only; omega))).trans v16_1
          have v19_2 : π19 (g + 351 + 1) = b.num (5 * f1 + i + 2) := (hc19.2.1 (g + 351 + 1) (by first | omega | (dsimp only; omega))).trans v16_2
          have v19_3 : π19 (g + 351 + 3) = b.den (5 * f1 + i + 2) := (hc19.2.1 (g + 351 + 3) (by first | omega | (dsimp only; omega))).trans v16_3
          have v19_4 : π19 (g + 356 + 1) = b.num ((if i < 2 then 5 * f1 + i + 3 else -1)) := (hc19.2.1 (g + 356 + 1) (by first | omega | (dsimp only; omega))).trans he16_0
          have v19_5 : π19 (g + 356 + 3) = b.den ((if i < 2 then 5 * f1 + i + 3 else -1)) := (hc19.2.1 (g + 356 + 3) (by first | omega | (dsimp only; omega))).trans he16_1
          have g19_0 : π19 ((g + 376 + 5 * (i + 2).toNat) + 1) = (dj b f1 i).1 := he19_0.trans (by rw [v16_2, v16_3, he16_0, he16_1, v16_0, v16_1, df_dj hgd (by omega) (by omega) hft])
          have g19_1 : π19 ((g + 376 + 5 * (i + 2).toNat) + 3) = (dj b f1 i).2 := he19_1.trans (by rw [v16_2, v16_3, he16_0, he16_1, v16_0, v16_1, df_dj hgd (by omega) (by omega) hft])
          have itr := isT_rng (dj b f1 i).1 (dj b f1 i).2
          refine v_aload hx DX11_derive_113 1 rfl ?_
          refine v_iload hx DX11_derive_114 0 rfl ?_
          refine v_cVr hx DX11_derive_115 CVRX11_223 [iv i] (p_result (i := i) l G Λ sz μ19 hG (by omega)) hG.1 rfl rfl (Nat.le_of_ble_eq_true rfl) (by decide) ⟨Nat.le_refl _, Nat.le_refl _⟩ (fun z21 μ20 hμ20 => ?_)
          obtain ⟨ea, em⟩ := hμ20
          rw [ea, em]
          refine v_cVp hx DX11_derive_118 CVRX11_231 [] (q_isTerm l G Λ sz μ19 kRi (AB.get (A := (dj b f1 i).1) hA19 kRi.2.1 g19_0) (AB.get (A := (dj b f1 i).2) hA19 kRi.2.2 g19_1)) kRi.1 rfl rfl (Nat.le_of_ble_eq_true rfl) (by decide) ⟨Nat.le_refl _, Nat.le_refl _⟩ ?_
          refine v_if_ne hx DX11_derive_121 (by omega) (fun c121 => ?_) (fun c121 => ?_)
          · skip
            have fr : ∀ a : Nat, (g + 375 < a ∧ a < g + 376 + 5 * (i + 2).toNat) → π19 a = πk a := fun a ha => ((hc19.2.1 a (by first | omega | (dsimp only; omega))).trans ((hc16.2.1 a (by first | omega | (dsimp only; omega))).trans (hc5.2.1 a (by first | omega | (dsimp only; omega)))))
            refine v_iinc hx DX11_derive_127 0 rfl [(3, iv (i + 1)), (0, .ref g), (1, iv f), (2, iv f1)] rfl (by decide) ?_
            refine v_goto hx DX11_derive_130 ?_
            exact v_sub [0, 1, 2, 3] _ rfl (ih (i + 1) μ19 w π19 (by omega) hch19 v19_0 v19_1 hdk hft (by omega) hw13 (fun s h0 h1 h2 => Classical.byCases (fun q : s = i => q ▸ ⟨g19_0, g19_1⟩) (fun q => ⟨(fr _ (by omega)).trans (hR s h0 h1 (by omega)).1, (fr _ (by omega)).trans (hR s h0 h1 (by omega)).2⟩)) (fun s h0 h1 => Classical.byCases (fun q : s = i => q ▸ (by omega)) (fun q => ht s h0 (by omega))))
          · skip
            refine v_push hx DX11_derive_124 ?_
            exact v_ri hx hBD DX11_derive_126 (by have nk : ¬ okJ (dj b f1) := (fun q => by have := okJ_dj.mp q i (by omega) (by omega); omega); exact ⟨by unfold derA keepA; rw [if1 hdk, if_neg hft, if0 nk], der_no2 (hCs.scr hGG (hch19.fc (X := fun a => a = g + 82) rfl) (fun a q => by unfold scr9; omega)) (fun q => nk q.2.2)⟩)
  refine v_iload hx DX11_derive_0 1 rfl ?_
  refine v_cSp hx DX11_derive_1 CSRX11_139 [iv f] (c_isFunction l G Λ sz μ (by omega)) rfl rfl (Nat.le_of_ble_eq_true rfl) (by decide) ⟨Nat.le_refl _, Nat.le_refl _⟩ ?_
  have br1 := bz_rng (0 ≤ f ∧ f ≤ 2)
  refine v_if_eq hx DX11_derive_4 (by omega) (fun c4 => ?_) (fun c4 => ?_)
  · skip
    have d4 := bzf c4
    refine v_push hx DX11_derive_14 ?_
    exact v_ri hx hBD DX11_derive_15 (⟨by unfold derA; rw [if0 (fun q => by exact d4 q.1)], der_no2 hCs (fun q => by exact d4 q.1.1)⟩)
  · skip
    have d4 := bzt c4
    refine v_iload hx DX11_derive_7 2 rfl ?_
    refine v_cSp hx DX11_derive_8 CSRX11_139 [iv f1] (c_isFunction l G Λ sz μ (by omega)) rfl rfl (Nat.le_of_ble_eq_true rfl) (by decide) ⟨Nat.le_refl _, Nat.le_refl _⟩ ?_
    have br8 := bz_rng (0 ≤ f1 ∧ f1 ≤ 2)
    refine v_if_ne hx DX11_derive_11 (by omega) (fun c11 => ?_) (fun c11 => ?_)
    · skip
      have d11 := bzt c11
      refine v_aload hx DX11_derive_16 0 rfl ?_
      refine v_get hx DX11_derive_17 FLRX11_12 hG.1 (v := .ref (g + 1)) rfl ?_
      refine v_iload hx DX11_derive_20 2 rfl ?_
      refine v_cVp hx DX11_derive_21 CVRX11_152 [iv f1] (b_fits l G Λ sz μ kB hb (by omega)) kB.1 rfl rfl (Nat.le_of_ble_eq_true rfl) (by decide) ⟨Nat.le_refl _, Nat.le_refl _⟩ ?_
      have ftr := b.fit_rng f1
      refine v_if_ne hx DX11_derive_24 (by omega) (fun c24 => ?_) (fun c24 => ?_)
      · skip
        refine v_aload hx DX11_derive_30 0 rfl ?_
        refine v_get hx DX11_derive_31 FLRX11_60 hG.1 (v := .ref (g + 82)) rfl ?_
        refine v_aload hx DX11_derive_34 0 rfl ?_
        refine v_get hx DX11_derive_35 FLRX11_12 hG.1 (v := .ref (g + 1)) rfl ?_
        refine v_cVv hx DX11_derive_38 CVRX11_220 [.ref (g + 1)] (c_prepare (p := g + 82) (κ := g + 48) (σ := g + 65) l G Λ sz μ hA kP kB hb (by omega)) kP.1 rfl rfl (Nat.le_of_ble_eq_true rfl) (by decide) ⟨Nat.le_refl _, Nat.le_refl _⟩ (fun μ30 hμ30 => ?_)
        obtain ⟨πa, ca, ua, sa⟩ := hμ30
        have hAa := ca.1
        have hcha : ChgX Λ (fun c => (g + 84 < c ∧ c < g + 106) ∨ (g + 350 < c ∧ c < g + 366) ∨ (g + 375 < c ∧ c < g + 401) ∨ (g + 48 < c ∧ c < g + 65)) (g + 82) (rw1 (μ.1 (g + 82)) 13 b.2.2.1) μ μ30 π πa := ChgX.of hoff (ca.mono (fun c hc => by first | omega | (dsimp only at hc ⊢; omega)))
        refine v_push hx DX11_derive_41 ?_
        refine v_istore hx DX11_derive_43 [(3, iv (-2)), (0, .ref g), (1, iv f), (2, iv f1)] rfl (by decide) ?_
        exact v_sub [0, 1, 2, 3] _ rfl (L44 10 (-2) μ30 (rw1 (μ.1 (g + 82)) 13 b.2.2.1) πa (by omega) hcha ua sa ⟨d4, d11⟩ (by omega) (by omega) rfl (fun s h0 h1 h2 => absurd h2 (by omega)) (fun s h0 h1 => absurd h1 (by omega)))
      · skip
        refine v_push hx DX11_derive_27 ?_
        exact v_ri hx hBD DX11_derive_29 (⟨by unfold derA; rw [if1 ⟨d4, d11⟩, if_pos (by omega)], der_no2 hCs (fun q => q.2.1 (by omega))⟩)
    · skip
      have d11 := bzf c11
      refine v_push hx DX11_derive_14 ?_
      exact v_ri hx hBD DX11_derive_15 (⟨by unfold derA; rw [if0 (fun q => by exact d11 q.2)], der_no2 hCs (fun q => by exact d11 q.1.2)⟩)
