/-! ===== the class: drift ===== -/
theorem putc_set {p : PS} {k : Int} {c : F} (h : 0 ≤ k) : p.putc k c = p.set k.toNat c := by unfold PS.putc; rw [if_neg (by omega)]
theorem zero_set (c : F) : PS.zero.set 0 c = PS.C c := by funext i; unfold PS.set PS.C PS.zero; by_cases q : i = 0 <;> simp [q]
theorem dN_put (w : Int) : ((PS.zero.putc 0 (fi (w % 101))).putc 1 (fi (w / 101 % 101))).putc 2 (fi (w / 10201)) = dN w := rfl
theorem dF_put (z : Int) : (PS.zero.putc 0 (fi (z / 4 % 101))).putc 1 (fi 1) = dF z := by
  rw [putc_set (by omega), putc_set (by omega), fi_1]; show (PS.zero.set 0 _).set 1 _ = _; rw [zero_set]; rfl
theorem dF_lim (z : Int) {n : Int} (h : n ≤ 3) (j : Nat) (hj : (j : Int) < n) : ((dF z).pw j).size + (dF z).size ≤ 49 := by
  have a := PS.size_le (dF_pw z j (by omega)).1
  have c := PS.size_le (dF_sz z).2
  omega
theorem p_drift (l : Launch) (G : Gl) (Λ : Lay) (sz : Nat) (μ : Mem) {g : Nat} {μ0 : Mem} {b : Bd} {h : Hs} {im : Option (Bd × Hs)} {T : List Int} {S : Int → Sht} {k : Int} (hG : GK Λ g) (hC : KS Λ μ0 μ g b h im T S) (hI : INV G Λ) (hgd : b.good) (rk : inR k) : Sp l G yX11_drift cX11_drift 6 (some FieldType.int) 6 [.ref g, iv k] Λ sz μ (pI (fun z μ' => z = driA b h k ∧ KS Λ μ μ' g (driS b h k).1 (driS b h k).2 im T S)) := by
  refine Sp.intro (by decide) (Nat.le_of_ble_eq_true rfl) (fun x hx hBD => ?_)
  refine v_lv [(0, .ref g), (1, iv k)] rfl ?_
  have hGG := hG
  obtain ⟨hG0, ⟨kB, kH, kB2, kH2⟩, ⟨kSh, kRs⟩, ⟨kK, kSp, kP, kQ, kRe, kRd, kW⟩, ⟨kGi, kSe, kTo, kAn⟩, kS4, kR5, kOut⟩ := hG
  have hG := hGG
  have hCs := hC.start
  obtain ⟨⟨π, hA⟩, hb, hh, him, hT, hdg, hSh, hWr, hout⟩ := hC
  have bok := hb.1
  have hch0 : Chg Λ (fun c => (g + 350 < c ∧ c < g + 357) ∨ (g + 365 < c ∧ c < g + 368) ∨ (g + 48 < c ∧ c < g + 65)) μ μ π π := Chg.rf hA
  have L14 : ∀ (nf : Nat) (j : Int) (B : Bd) (H : Hs) (m : Mem), (k - j < (nf : Int)) → (1 ≤ k ∧ k ≤ 40) → (0 ≤ j ∧ j ≤ k) → (drS b h j.toNat = (B, H)) → (KS Λ μ m g B H im T S) → V G x (0, 0) Λ sz m 14 [(2, iv j), (0, .ref g), (1, iv k)] [] := by
    intro nf
    induction nf with
    | zero => intro j B H m hm ok hj hB hk; exact absurd hm (by omega)
    | succ nf ih =>
      intro j B H m hm ok hj hB hk
      refine v_iload hx DX11_drift_14 0 rfl ?_
      refine v_iload hx DX11_drift_15 2 rfl ?_
      refine v_icmp_ge hx DX11_drift_16 (by omega) (by omega) (fun c16 => ?_) (fun c16 => ?_)
      · skip
        refine v_push hx DX11_drift_212 ?_
        refine v_istore hx DX11_drift_213 [(2, iv 0), (0, .ref g), (1, iv k)] rfl (by decide) ?_
        refine v_push hx DX11_drift_214 ?_
        refine v_istore hx DX11_drift_215 [(3, iv 0), (2, iv 0), (0, .ref g), (1, iv k)] rfl (by decide) ?_
        refine v_iload hx DX11_drift_216 0 rfl ?_
        refine v_push hx DX11_drift_217 ?_
        refine v_icmp_ge hx DX11_drift_218 (by decide) (by decide) (fun c218 => ?_) (fun c218 => ?_)
        · exact absurd c218 (by decide)
        · skip
          refine v_iload hx DX11_drift_221 1 rfl ?_
          refine v_aload hx DX11_drift_222 2 rfl ?_
          refine v_get hx DX11_drift_223 FLRX11_12 hG.1 (v := .ref (g + 1)) rfl ?_
          refine v_iload hx DX11_drift_226 0 rfl ?_
          refine v_cVp hx DX11_drift_227 CVRX11_152 [iv 0] (b_fits l G Λ sz m kB hk.2.1 (by omega)) kB.1 rfl rfl (Nat.le_of_ble_eq_true rfl) (by decide) ⟨Nat.le_refl _, Nat.le_refl _⟩ ?_
          have t0 := B.fit_rng 0
          refine v_if_eq hx DX11_drift_230 (by omega) (fun c230 => ?_) (fun c230 => ?_)
          · skip
            refine v_push hx DX11_drift_239 ?_
            refine v_ior hx DX11_drift_240 (z := 0) (by decide +kernel) ?_
            refine v_istore hx DX11_drift_241 [(2, iv 0), (3, iv 0), (0, .ref g), (1, iv k)] rfl (by decide) ?_
            refine v_iinc hx DX11_drift_242 1 rfl [(3, iv 1), (2, iv 0), (0, .ref g), (1, iv k)] rfl (by decide) ?_
            refine v_goto hx DX11_drift_245 ?_
            refine v_iload hx DX11_drift_216 0 rfl ?_
            refine v_push hx DX11_drift_217 ?_
            refine v_icmp_ge hx DX11_drift_218 (by decide) (by decide) (fun c218 => ?_) (fun c218 => ?_)
            · exact absurd c218 (by decide)
            · skip
              refine v_iload hx DX11_drift_221 1 rfl ?_
              refine v_aload hx DX11_drift_222 2 rfl ?_
              refine v_get hx DX11_drift_223 FLRX11_12 hG.1 (v := .ref (g + 1)) rfl ?_
              refine v_iload hx DX11_drift_226 0 rfl ?_
              refine v_cVp hx DX11_drift_227 CVRX11_152 [iv 1] (b_fits l G Λ sz m kB hk.2.1 (by omega)) kB.1 rfl rfl (Nat.le_of_ble_eq_true rfl) (by decide) ⟨Nat.le_refl _, Nat.le_refl _⟩ ?_
              have t1 := B.fit_rng 1
              refine v_if_eq hx DX11_drift_230 (by omega) (fun c230 => ?_) (fun c230 => ?_)
              · skip
                refine v_push hx DX11_drift_239 ?_
                refine v_ior hx DX11_drift_240 (z := 0) (by decide +kernel) ?_
                refine v_istore hx DX11_drift_241 [(2, iv 0), (3, iv 1), (0, .ref g), (1, iv k)] rfl (by decide) ?_
                refine v_iinc hx DX11_drift_242 1 rfl [(3, iv 2), (2, iv 0), (0, .ref g), (1, iv k)] rfl (by decide) ?_
                refine v_goto hx DX11_drift_245 ?_
                refine v_iload hx DX11_drift_216 0 rfl ?_
                refine v_push hx DX11_drift_217 ?_
                refine v_icmp_ge hx DX11_drift_218 (by decide) (by decide) (fun c218 => ?_) (fun c218 => ?_)
                · exact absurd c218 (by decide)
                · skip
                  refine v_iload hx DX11_drift_221 1 rfl ?_
                  refine v_aload hx DX11_drift_222 2 rfl ?_
                  refine v_get hx DX11_drift_223 FLRX11_12 hG.1 (v := .ref (g + 1)) rfl ?_
                  refine v_iload hx DX11_drift_226 0 rfl ?_
                  refine v_cVp hx DX11_drift_227 CVRX11_152 [iv 2] (b_fits l G Λ sz m kB hk.2.1 (by omega)) kB.1 rfl rfl (Nat.le_of_ble_eq_true rfl) (by decide) ⟨Nat.le_refl _, Nat.le_refl _⟩ ?_
                  have t2 := B.fit_rng 2
                  refine v_if_eq hx DX11_drift_230 (by omega) (fun c230 => ?_) (fun c230 => ?_)
                  · skip
                    refine v_push hx DX11_drift_239 ?_
                    refine v_ior hx DX11_drift_240 (z := 0) (by decide +kernel) ?_
                    refine v_istore hx DX11_drift_241 [(2, iv 0), (3, iv 2), (0, .ref g), (1, iv k)] rfl (by decide) ?_
                    refine v_iinc hx DX11_drift_242 1 rfl [(3, iv 3), (2, iv 0), (0, .ref g), (1, iv k)] rfl (by decide) ?_
                    refine v_goto hx DX11_drift_245 ?_
                    refine v_iload hx DX11_drift_216 0 rfl ?_
                    refine v_push hx DX11_drift_217 ?_
                    refine v_icmp_ge hx DX11_drift_218 (by decide) (by decide) (fun c218 => ?_) (fun c218 => ?_)
                    · skip
                      refine v_iload hx DX11_drift_248 1 rfl ?_
                      exact v_ri hx hBD DX11_drift_249 (by have ej : j = k := (by omega); subst ej; exact ⟨by unfold driA; rw [if_pos ok, hB]; dsimp only; omega, by unfold driS; rw [if_pos ok, hB]; exact hk⟩)
                    · exact absurd c218 (by decide)
                  · skip
                    refine v_push hx DX11_drift_233 ?_
                    refine v_iload hx DX11_drift_234 0 rfl ?_
                    refine v_ishl hx DX11_drift_235 (z := 4) (by decide +kernel) ?_
                    refine v_goto hx DX11_drift_236 ?_
                    refine v_ior hx DX11_drift_240 (z := 4) (by decide +kernel) ?_
                    refine v_istore hx DX11_drift_241 [(2, iv 4), (3, iv 2), (0, .ref g), (1, iv k)] rfl (by decide) ?_
                    refine v_iinc hx DX11_drift_242 1 rfl [(3, iv 3), (2, iv 4), (0, .ref g), (1, iv k)] rfl (by decide) ?_
                    refine v_goto hx DX11_drift_245 ?_
                    refine v_iload hx DX11_drift_216 0 rfl ?_
                    refine v_push hx DX11_drift_217 ?_
                    refine v_icmp_ge hx DX11_drift_218 (by decide) (by decide) (fun c218 => ?_) (fun c218 => ?_)
                    · skip
                      refine v_iload hx DX11_drift_248 1 rfl ?_
                      exact v_ri hx hBD DX11_drift_249 (by have ej : j = k := (by omega); subst ej; exact ⟨by unfold driA; rw [if_pos ok, hB]; dsimp only; omega, by unfold driS; rw [if_pos ok, hB]; exact hk⟩)
                    · exact absurd c218 (by decide)
              · skip
                refine v_push hx DX11_drift_233 ?_
                refine v_iload hx DX11_drift_234 0 rfl ?_
                refine v_ishl hx DX11_drift_235 (z := 2) (by decide +kernel) ?_
                refine v_goto hx DX11_drift_236 ?_
                refine v_ior hx DX11_drift_240 (z := 2) (by decide +kernel) ?_
                refine v_istore hx DX11_drift_241 [(2, iv 2), (3, iv 1), (0, .ref g), (1, iv k)] rfl (by decide) ?_
                refine v_iinc hx DX11_drift_242 1 rfl [(3, iv 2), (2, iv 2), (0, .ref g), (1, iv k)] rfl (by decide) ?_
                refine v_goto hx DX11_drift_245 ?_
                refine v_iload hx DX11_drift_216 0 rfl ?_
                refine v_push hx DX11_drift_217 ?_
                refine v_icmp_ge hx DX11_drift_218 (by decide) (by decide) (fun c218 => ?_) (fun c218 => ?_)
                · exact absurd c218 (by decide)
                · skip
                  refine v_iload hx DX11_drift_221 1 rfl ?_
                  refine v_aload hx DX11_drift_222 2 rfl ?_
                  refine v_get hx DX11_drift_223 FLRX11_12 hG.1 (v := .ref (g + 1)) rfl ?_
                  refine v_iload hx DX11_drift_226 0 rfl ?_
                  refine v_cVp hx DX11_drift_227 CVRX11_152 [iv 2] (b_fits l G Λ sz m kB hk.2.1 (by omega)) kB.1 rfl rfl (Nat.le_of_ble_eq_true rfl) (by decide) ⟨Nat.le_refl _, Nat.le_refl _⟩ ?_
                  have t2 := B.fit_rng 2
                  refine v_if_eq hx DX11_drift_230 (by omega) (fun c230 => ?_) (fun c230 => ?_)
                  · skip
                    refine v_push hx DX11_drift_239 ?_
                    refine v_ior hx DX11_drift_240 (z := 2) (by decide +kernel) ?_
                    refine v_istore hx DX11_drift_241 [(2, iv 2), (3, iv 2), (0, .ref g), (1, iv k)] rfl (by decide) ?_
                    refine v_iinc hx DX11_drift_242 1 rfl [(3, iv 3), (2, iv 2), (0, .ref g), (1, iv k)] rfl (by decide) ?_
                    refine v_goto hx DX11_drift_245 ?_
                    refine v_iload hx DX11_drift_216 0 rfl ?_
                    refine v_push hx DX11_drift_217 ?_
                    refine v_icmp_ge hx DX11_drift_218 (by decide) (by decide) (fun c218 => ?_) (fun c218 => ?_)
                    · skip
                      refine v_iload hx DX11_drift_248 1 rfl ?_
                      exact v_ri hx hBD DX11_drift_249 (by have ej : j = k := (by omega); subst ej; exact ⟨by unfold driA; rw [if_pos ok, hB]; dsimp only; omega, by unfold driS; rw [if_pos ok, hB]; exact hk⟩)
                    · exact absurd c218 (by decide)
                  · skip
                    refine v_push hx DX11_drift_233 ?_
                    refine v_iload hx DX11_drift_234 0 rfl ?_
                    refine v_ishl hx DX11_drift_235 (z := 4) (by decide +kernel) ?_
                    refine v_goto hx DX11_drift_236 ?_
                    refine v_ior hx DX11_drift_240 (z := 6) (by decide +kernel) ?_
                    refine v_istore hx DX11_drift_241 [(2, iv 6), (3, iv 2), (0, .ref g), (1, iv k)] rfl (by decide) ?_
                    refine v_iinc hx DX11_drift_242 1 rfl [(3, iv 3), (2, iv 6), (0, .ref g), (1, iv k)] rfl (by decide) ?_
                    refine v_goto hx DX11_drift_245 ?_
                    refine v_iload hx DX11_drift_216 0 rfl ?_
                    refine v_push hx DX11_drift_217 ?_
                    refine v_icmp_ge hx DX11_drift_218 (by decide) (by decide) (fun c218 => ?_) (fun c218 => ?_)
                    · skip
                      refine v_iload hx DX11_drift_248 1 rfl ?_
                      exact v_ri hx hBD DX11_drift_249 (by have ej : j = k := (by omega); subst ej; exact ⟨by unfold driA; rw [if_pos ok, hB]; dsimp only; omega, by unfold driS; rw [if_pos ok, hB]; exact hk⟩)
                    · exact absurd c218 (by decide)
          · skip
            refine v_push hx DX11_drift_233 ?_
            refine v_iload hx DX11_drift_234 0 rfl ?_
            refine v_ishl hx DX11_drift_235 (z := 1) (by decide +kernel) ?_
            refine v_goto hx DX11_drift_236 ?_
            refine v_ior hx DX11_drift_240 (z := 1) (by decide +kernel) ?_
            refine v_istore hx DX11_drift_241 [(2, iv 1), (3, iv 0), (0, .ref g), (1, iv k)] rfl (by decide) ?_
            refine v_iinc hx DX11_drift_242 1 rfl [(3, iv 1), (2, iv 1), (0, .ref g), (1, iv k)] rfl (by decide) ?_
            refine v_goto hx DX11_drift_245 ?_
            refine v_iload hx DX11_drift_216 0 rfl ?_
            refine v_push hx DX11_drift_217 ?_
            refine v_icmp_ge hx DX11_drift_218 (by decide) (by decide) (fun c218 => ?_) (fun c218 => ?_)
            · exact absurd c218 (by decide)
            · skip
              refine v_iload hx DX11_drift_221 1 rfl ?_
              refine v_aload hx DX11_drift_222 2 rfl ?_
              refine v_get hx DX11_drift_223 FLRX11_12 hG.1 (v := .ref (g + 1)) rfl ?_
              refine v_iload hx DX11_drift_226 0 rfl ?_
              refine v_cVp hx DX11_drift_227 CVRX11_152 [iv 1] (b_fits l G Λ sz m kB hk.2.1 (by omega)) kB.1 rfl rfl (Nat.le_of_ble_eq_true rfl) (by decide) ⟨Nat.le_refl _, Nat.le_refl _⟩ ?_
              have t1 := B.fit_rng 1
              refine v_if_eq hx DX11_drift_230 (by omega) (fun c230 => ?_) (fun c230 => ?_)
              · skip
                refine v_push hx DX11_drift_239 ?_
                refine v_ior hx DX11_drift_240 (z := 1) (by decide +kernel) ?_
                refine v_istore hx DX11_drift_241 [(2, iv 1), (3, iv 1), (0, .ref g), (1, iv k)] rfl (by decide) ?_
                refine v_iinc hx DX11_drift_242 1 rfl [(3, iv 2), (2, iv 1), (0, .ref g), (1, iv k)] rfl (by decide) ?_
                refine v_goto hx DX11_drift_245 ?_
                refine v_iload hx DX11_drift_216 0 rfl ?_
                refine v_push hx DX11_drift_217 ?_
                refine v_icmp_ge hx DX11_drift_218 (by decide) (by decide) (fun c218 => ?_) (fun c218 => ?_)
                · exact absurd c218 (by decide)
                · skip
                  refine v_iload hx DX11_drift_221 1 rfl ?_
                  refine v_aload hx DX11_drift_222 2 rfl ?_
                  refine v_get hx DX11_drift_223 FLRX11_12 hG.1 (v := .ref (g + 1)) rfl ?_
                  refine v_iload hx DX11_drift_226 0 rfl ?_
                  refine v_cVp hx DX11_drift_227 CVRX11_152 [iv 2] (b_fits l G Λ sz m kB hk.2.1 (by omega)) kB.1 rfl rfl (Nat.le_of_ble_eq_true rfl) (by decide) ⟨Nat.le_refl _, Nat.le_refl _⟩ ?_
                  have t2 := B.fit_rng 2
                  refine v_if_eq hx DX11_drift_230 (by omega) (fun c230 => ?_) (fun c230 => ?_)
                  · skip
                    refine v_push hx DX11_drift_239 ?_
                    refine v_ior hx DX11_drift_240 (z := 1) (by decide +kernel) ?_
                    refine v_istore hx DX11_drift_241 [(2, iv 1), (3, iv 2), (0, .ref g), (1, iv k)] rfl (by decide) ?_
                    refine v_iinc hx DX11_drift_242 1 rfl [(3, iv 3), (2, iv 1), (0, .ref g), (1, iv k)] rfl (by decide) ?_
                    refine v_goto hx DX11_drift_245 ?_
                    refine v_iload hx DX11_drift_216 0 rfl ?_
                    refine v_push hx DX11_drift_217 ?_
                    refine v_icmp_ge hx DX11_drift_218 (by decide) (by decide) (fun c218 => ?_) (fun c218 => ?_)
                    · skip
                      refine v_iload hx DX11_drift_248 1 rfl ?_
                      exact v_ri hx hBD DX11_drift_249 (by have ej : j = k := (by omega); subst ej; exact ⟨by unfold driA; rw [if_pos ok, hB]; dsimp only; omega, by unfold driS; rw [if_pos ok, hB]; exact hk⟩)
                    · exact absurd c218 (by decide)
                  · skip
                    refine v_push hx DX11_drift_233 ?_
                    refine v_iload hx DX11_drift_234 0 rfl ?_
                    refine v_ishl hx DX11_drift_235 (z := 4) (by decide +kernel) ?_
                    refine v_goto hx DX11_drift_236 ?_
                    refine v_ior hx DX11_drift_240 (z := 5) (by decide +kernel) ?_
                    refine v_istore hx DX11_drift_241 [(2, iv 5), (3, iv 2), (0, .ref g), (1, iv k)] rfl (by decide) ?_
                    refine v_iinc hx DX11_drift_242 1 rfl [(3, iv 3), (2, iv 5), (0, .ref g), (1, iv k)] rfl (by decide) ?_
                    refine v_goto hx DX11_drift_245 ?_
                    refine v_iload hx DX11_drift_216 0 rfl ?_
                    refine v_push hx DX11_drift_217 ?_
                    refine v_icmp_ge hx DX11_drift_218 (by decide) (by decide) (fun c218 => ?_) (fun c218 => ?_)
                    · skip
                      refine v_iload hx DX11_drift_248 1 rfl ?_
                      exact v_ri hx hBD DX11_drift_249 (by have ej : j = k := (by omega); subst ej; exact ⟨by unfold driA; rw [if_pos ok, hB]; dsimp only; omega, by unfold driS; rw [if_pos ok, hB]; exact hk⟩)
                    · exact absurd c218 (by decide)
              · skip
                refine v_push hx DX11_drift_233 ?_
                refine v_iload hx DX11_drift_234 0 rfl ?_
                refine v_ishl hx DX11_drift_235 (z := 2) (by decide +kernel) ?_
                refine v_goto hx DX11_drift_236 ?_
                refine v_ior hx DX11_drift_240 (z := 3) (by decide +kernel) ?_
                refine v_istore hx DX11_drift_241 [(2, iv 3), (3, iv 1), (0, .ref g), (1, iv k)] rfl (by decide) ?_
                refine v_iinc hx DX11_drift_242 1 rfl [(3, iv 2), (2, iv 3), (0, .ref g), (1, iv k)] rfl (by decide) ?_
                refine v_goto hx DX11_drift_245 ?_
                refine v_iload hx DX11_drift_216 0 rfl ?_
                refine v_push hx DX11_drift_217 ?_
                refine v_icmp_ge hx DX11_drift_218 (by decide) (by decide) (fun c218 => ?_) (fun c218 => ?_)
                · exact absurd c218 (by decide)
                · skip
                  refine v_iload hx DX11_drift_221 1 rfl ?_
                  refine v_aload hx DX11_drift_222 2 rfl ?_
                  refine v_get hx DX11_drift_223 FLRX11_12 hG.1 (v := .ref (g + 1)) rfl ?_
                  refine v_iload hx DX11_drift_226 0 rfl ?_
                  refine v_cVp hx DX11_drift_227 CVRX11_152 [iv 2] (b_fits l G Λ sz m kB hk.2.1 (by omega)) kB.1 rfl rfl (Nat.le_of_ble_eq_true rfl) (by decide) ⟨Nat.le_refl _, Nat.le_refl _⟩ ?_
                  have t2 := B.fit_rng 2
                  refine v_if_eq hx DX11_drift_230 (by omega) (fun c230 => ?_) (fun c230 => ?_)
                  · skip
                    refine v_push hx DX11_drift_239 ?_
                    refine v_ior hx DX11_drift_240 (z := 3) (by decide +kernel) ?_
                    refine v_istore hx DX11_drift_241 [(2, iv 3), (3, iv 2), (0, .ref g), (1, iv k)] rfl (by decide) ?_
                    refine v_iinc hx DX11_drift_242 1 rfl [(3, iv 3), (2, iv 3), (0, .ref g), (1, iv k)] rfl (by decide) ?_
                    refine v_goto hx DX11_drift_245 ?_
                    refine v_iload hx DX11_drift_216 0 rfl ?_
                    refine v_push hx DX11_drift_217 ?_
                    refine v_icmp_ge hx DX11_drift_218 (by decide) (by decide) (fun c218 => ?_) (fun c218 => ?_)
                    · skip
                      refine v_iload hx DX11_drift_248 1 rfl ?_
                      exact v_ri hx hBD DX11_drift_249 (by have ej : j = k := (by omega); subst ej; exact ⟨by unfold driA; rw [if_pos ok, hB]; dsimp only; omega, by unfold driS; rw [if_pos ok, hB]; exact hk⟩)
                    · exact absurd c218 (by decide)
                  · skip
                    refine v_push hx DX11_drift_233 ?_
                    refine v_iload hx DX11_drift_234 0 rfl ?_
                    refine v_ishl hx DX11_drift_235 (z := 4) (by decide +kernel) ?_
                    refine v_goto hx DX11_drift_236 ?_
                    refine v_ior hx DX11_drift_240 (z := 7) (by decide +kernel) ?_
                    refine v_istore hx DX11_drift_241 [(2, iv 7), (3, iv 2), (0, .ref g), (1, iv k)] rfl (by decide) ?_
                    refine v_iinc hx DX11_drift_242 1 rfl [(3, iv 3), (2, iv 7), (0, .ref g), (1, iv k)] rfl (by decide) ?_
                    refine v_goto hx DX11_drift_245 ?_
                    refine v_iload hx DX11_drift_216 0 rfl ?_
                    refine v_push hx DX11_drift_217 ?_
                    refine v_icmp_ge hx DX11_drift_218 (by decide) (by decide) (fun c218 => ?_) (fun c218 => ?_)
                    · skip
                      refine v_iload hx DX11_drift_248 1 rfl ?_
                      exact v_ri hx hBD DX11_drift_249 (by have ej : j = k := (by omega); subst ej; exact ⟨by unfold driA; rw [if_pos ok, hB]; dsimp only; omega, by unfold driS; rw [if_pos ok, hB]; exact hk⟩)
                    · exact absurd c218 (by decide)
      · skip
        refine v_aload hx DX11_drift_19 1 rfl ?_
        refine v_get hx DX11_drift_20 FLRX11_19 hG.1 (v := .ref (g + 4)) rfl ?_
        refine v_aload hx DX11_drift_23 1 rfl ?_
        refine v_get hx DX11_drift_24 FLRX11_12 hG.1 (v := .ref (g + 1)) rfl ?_
        refine v_cVv hx DX11_drift_27 CVRX11_182 [.ref (g + 1)] (h_push l G Λ sz m kH kB hk.2.2.1 hk.2.1 (by omega)) kH.1 rfl rfl (Nat.le_of_ble_eq_true rfl) (by decide) ⟨Nat.le_refl _, Nat.le_refl _⟩ (fun μ15 hμ15 => ?_)
        obtain ⟨q1, f1⟩ := hμ15
        have k1 := hk.hst hGG q1 f1
        refine v_aload hx DX11_drift_30 1 rfl ?_
        refine v_get hx DX11_drift_31 FLRX11_12 hG.1 (v := .ref (g + 1)) rfl ?_
        refine v_cVi hx DX11_drift_34 CVRX11_235 [] (b_draw l G Λ sz μ15 kB k1.2.1) kB.1 rfl rfl (Nat.le_of_ble_eq_true rfl) (by decide) ⟨Nat.le_refl _, Nat.le_refl _⟩ (fun z18 μ17 hμ17 => ?_)
        obtain ⟨ez1, qb1, fb1⟩ := hμ17
        have k2 : KS Λ μ μ17 g B.rn (H.push B) im T S := k1.brd hGG qb1 fb1
        subst ez1
        have r1 := (Bd.rn_ok hk.2.1.1).2.2.2
        have r2 := (Bd.rn_ok (Bd.rn_ok hk.2.1.1)).2.2.2
        have r3 := (Bd.rn_ok (Bd.rn_ok (Bd.rn_ok hk.2.1.1))).2.2.2
        refine v_istore hx DX11_drift_37 [(3, iv (B.rn.2.2.2 / 65536)), (2, iv j), (0, .ref g), (1, iv k)] rfl (by decide) ?_
        refine v_aload hx DX11_drift_38 2 rfl ?_
        refine v_get hx DX11_drift_39 FLRX11_12 hG.1 (v := .ref (g + 1)) rfl ?_
        refine v_cVi hx DX11_drift_42 CVRX11_235 [] (b_draw l G Λ sz μ17 kB k2.2.1) kB.1 rfl rfl (Nat.le_of_ble_eq_true rfl) (by decide) ⟨Nat.le_refl _, Nat.le_refl _⟩ (fun z20 μ19 hμ19 => ?_)
        obtain ⟨ez2, qb2, fb2⟩ := hμ19
        have k3 : KS Λ μ μ19 g B.rn.rn (H.push B) im T S := k2.brd hGG qb2 fb2
        subst ez2
        refine v_istore hx DX11_drift_45 [(4, iv (B.rn.rn.2.2.2 / 65536)), (3, iv (B.rn.2.2.2 / 65536)), (2, iv j), (0, .ref g), (1, iv k)] rfl (by decide) ?_
        refine v_aload hx DX11_drift_47 3 rfl ?_
        refine v_get hx DX11_drift_48 FLRX11_12 hG.1 (v := .ref (g + 1)) rfl ?_
        refine v_cVi hx DX11_drift_51 CVRX11_235 [] (b_draw l G Λ sz μ19 kB k3.2.1) kB.1 rfl rfl (Nat.le_of_ble_eq_true rfl) (by decide) ⟨Nat.le_refl _, Nat.le_refl _⟩ (fun z22 μ21 hμ21 => ?_)
        obtain ⟨ez3, qb3, fb3⟩ := hμ21
        have k4 : KS Λ μ μ21 g B.rn.rn.rn (H.push B) im T S := k3.brd hGG qb3 fb3
        subst ez3
        refine v_istore hx DX11_drift_54 [(5, iv (B.rn.rn.rn.2.2.2 / 65536)), (4, iv (B.rn.rn.2.2.2 / 65536)), (3, iv (B.rn.2.2.2 / 65536)), (2, iv j), (0, .ref g), (1, iv k)] rfl (by decide) ?_
        obtain ⟨πd, hAd⟩ := k4.1
        have hchd : Chg Λ (fun c => (g + 350 < c ∧ c < g + 357) ∨ (g + 365 < c ∧ c < g + 368) ∨ (g + 48 < c ∧ c < g + 65)) μ21 μ21 πd πd := Chg.rf hAd
        refine v_aload hx DX11_drift_56 4 rfl ?_
        refine v_get hx DX11_drift_57 FLRX11_95 hG.1 (v := .ref (g + 351)) rfl ?_
        refine v_get hx DX11_drift_60 FLRX11_238 kGi.1 (v := .ref (g + 351 + 1)) rfl ?_
        refine v_cVv hx DX11_drift_63 CVRX11_241 [] (s_clear l G Λ sz μ21 kGi.2.1 (AB.get (A := πd (g + 351 + 1)) hAd kGi.2.1 rfl)) kGi.2.1.1 rfl rfl (Nat.le_of_ble_eq_true rfl) (by decide) ⟨Nat.le_refl _, Nat.le_refl _⟩ (fun μ23 hμ23 => ?_)
        obtain ⟨π23, hc23, he23, ho23⟩ := Chg.one (S := fun c => (g + 350 < c ∧ c < g + 357) ∨ (g + 365 < c ∧ c < g + 368) ∨ (g + 48 < c ∧ c < g + 65)) (R := PS.zero) hAd kGi.2.1 (by first | omega | (dsimp only; omega)) hμ23
        have hA23 := hc23.1
        have hch23 := hchd.trans hc23
        refine v_aload hx DX11_drift_66 4 rfl ?_
        refine v_get hx DX11_drift_67 FLRX11_95 hG.1 (v := .ref (g + 351)) rfl ?_
        refine v_get hx DX11_drift_70 FLRX11_238 kGi.1 (v := .ref (g + 351 + 1)) rfl ?_
        refine v_push hx DX11_drift_73 ?_
        refine v_iload hx DX11_drift_74 1 rfl ?_
        refine v_push hx DX11_drift_76 ?_
        refine v_irem hx (by omega) (by decide) DX11_drift_78 ?_
        refine v_cVv hx DX11_drift_79 CVRX11_244 [iv 0, iv ((B.rn.rn.2.2.2 / 65536) % 101)] (s_put l G Λ sz μ23 kGi.2.1 (AB.get (A := PS.zero) hA23 kGi.2.1 he23) (by omega) (by omega)) kGi.2.1.1 rfl rfl (Nat.le_of_ble_eq_true rfl) (by decide) ⟨Nat.le_refl _, Nat.le_refl _⟩ (fun μ24 hμ24 => ?_)
        obtain ⟨π24, hc24, he24, ho24⟩ := Chg.one (S := fun c => (g + 350 < c ∧ c < g + 357) ∨ (g + 365 < c ∧ c < g + 368) ∨ (g + 48 < c ∧ c < g + 65)) (R := PS.putc PS.zero 0 (fi ((B.rn.rn.2.2.2 / 65536) % 101))) hA23 kGi.2.1 (by first | omega | (dsimp only; omega)) hμ24
        have hA24 := hc24.1
        have hch24 := hch23.trans hc24
        refine v_aload hx DX11_drift_82 4 rfl ?_
        refine v_get hx DX11_drift_83 FLRX11_95 hG.1 (v := .ref (g + 351)) rfl ?_
        refine v_get hx DX11_drift_86 FLRX11_238 kGi.1 (v := .ref (g + 351 + 1)) rfl ?_
        refine v_push hx DX11_drift_89 ?_
        refine v_iload hx DX11_drift_90 1 rfl ?_
        refine v_push hx DX11_drift_92 ?_
        refine v_idiv hx (by omega) (by decide) DX11_drift_94 ?_
        refine v_push hx DX11_drift_95 ?_
        refine v_irem hx (by omega) (by decide) DX11_drift_97 ?_
        refine v_cVv hx DX11_drift_98 CVRX11_244 [iv 1, iv (((B.rn.rn.2.2.2 / 65536) / 101) % 101)] (s_put l G Λ sz μ24 kGi.2.1 (AB.get (A := PS.putc PS.zero 0 (fi ((B.rn.rn.2.2.2 / 65536) % 101))) hA24 kGi.2.1 he24) (by omega) (by omega)) kGi.2.1.1 rfl rfl (Nat.le_of_ble_eq_true rfl) (by decide) ⟨Nat.le_refl _, Nat.le_refl _⟩ (fun μ25 hμ25 => ?_)
        obtain ⟨π25, hc25, he25, ho25⟩ := Chg.one (S := fun c => (g + 350 < c ∧ c < g + 357) ∨ (g + 365 < c ∧ c < g + 368) ∨ (g + 48 < c ∧ c < g + 65)) (R := PS.putc (PS.putc PS.zero 0 (fi ((B.rn.rn.2.2.2 / 65536) % 101))) 1 (fi (((B.rn.rn.2.2.2 / 65536) / 101) % 101))) hA24 kGi.2.1 (by first | omega | (dsimp only; omega)) hμ25
        have hA25 := hc25.1
        have hch25 := hch24.trans hc25
        refine v_aload hx DX11_drift_101 4 rfl ?_
        refine v_get hx DX11_drift_102 FLRX11_95 hG.1 (v := .ref (g + 351)) rfl ?_
        refine v_get hx DX11_drift_105 FLRX11_238 kGi.1 (v := .ref (g + 351 + 1)) rfl ?_
        refine v_push hx DX11_drift_108 ?_
        refine v_iload hx DX11_drift_109 1 rfl ?_
        refine v_push hx DX11_drift_111 ?_
        refine v_idiv hx (by omega) (by decide) DX11_drift_114 ?_
        refine v_cVv hx DX11_drift_115 CVRX11_244 [iv 2, iv ((B.rn.rn.2.2.2 / 65536) / 10201)] (s_put l G Λ sz μ25 kGi.2.1 (AB.get (A := PS.putc (PS.putc PS.zero 0 (fi ((B.rn.rn.2.2.2 / 65536) % 101))) 1 (fi (((B.rn.rn.2.2.2 / 65536) / 101) % 101))) hA25 kGi.2.1 he25) (by omega) (by omega)) kGi.2.1.1 rfl rfl (Nat.le_of_ble_eq_true rfl) (by decide) ⟨Nat.le_refl _, Nat.le_refl _⟩ (fun μ26 hμ26 => ?_)
        obtain ⟨π26, hc26, he26, ho26⟩ := Chg.one (S := fun c => (g + 350 < c ∧ c < g + 357) ∨ (g + 365 < c ∧ c < g + 368) ∨ (g + 48 < c ∧ c < g + 65)) (R := PS.putc (PS.putc (PS.putc PS.zero 0 (fi ((B.rn.rn.2.2.2 / 65536) % 101))) 1 (fi (((B.rn.rn.2.2.2 / 65536) / 101) % 101))) 2 (fi ((B.rn.rn.2.2.2 / 65536) / 10201))) hA25 kGi.2.1 (by first | omega | (dsimp only; omega)) hμ26
        have hA26 := hc26.1
        have hch26 := hch25.trans hc26
        have w27 : π26 (g + 351 + 1) = dN (B.rn.rn.2.2.2 / 65536) := he26.trans (dN_put (B.rn.rn.2.2.2 / 65536))
        refine v_aload hx DX11_drift_118 4 rfl ?_
        refine v_get hx DX11_drift_119 FLRX11_108 hG.1 (v := .ref (g + 366)) rfl ?_
        refine v_cVv hx DX11_drift_122 CVRX11_241 [] (s_clear l G Λ sz μ26 kAn (AB.get (A := π26 (g + 366)) hA26 kAn rfl)) kAn.1 rfl rfl (Nat.le_of_ble_eq_true rfl) (by decide) ⟨Nat.le_refl _, Nat.le_refl _⟩ (fun μ28 hμ28 => ?_)
        obtain ⟨π28, hc28, he28, ho28⟩ := Chg.one (S := fun c => (g + 350 < c ∧ c < g + 357) ∨ (g + 365 < c ∧ c < g + 368) ∨ (g + 48 < c ∧ c < g + 65)) (R := PS.zero) hA26 kAn (by first | omega | (dsimp only; omega)) hμ28
        have hA28 := hc28.1
        have hch28 := hch26.trans hc28
        have v28_0 : π28 (g + 351 + 1) = dN (B.rn.rn.2.2.2 / 65536) := (ho28 (g + 351 + 1) (by omega)).trans w27
        refine v_aload hx DX11_drift_125 4 rfl ?_
        refine v_get hx DX11_drift_126 FLRX11_108 hG.1 (v := .ref (g + 366)) rfl ?_
        refine v_push hx DX11_drift_129 ?_
        refine v_iload hx DX11_drift_130 0 rfl ?_
        refine v_push hx DX11_drift_132 ?_
        refine v_idiv hx (by omega) (by decide) DX11_drift_133 ?_
        refine v_push hx DX11_drift_134 ?_
        refine v_irem hx (by omega) (by decide) DX11_drift_136 ?_
        refine v_cVv hx DX11_drift_137 CVRX11_244 [iv 0, iv (((B.rn.rn.rn.2.2.2 / 65536) / 4) % 101)] (s_put l G Λ sz μ28 kAn (AB.get (A := PS.zero) hA28 kAn he28) (by omega) (by omega)) kAn.1 rfl rfl (Nat.le_of_ble_eq_true rfl) (by decide) ⟨Nat.le_refl _, Nat.le_refl _⟩ (fun μ29 hμ29 => ?_)
        obtain ⟨π29, hc29, he29, ho29⟩ := Chg.one (S := fun c => (g + 350 < c ∧ c < g + 357) ∨ (g + 365 < c ∧ c < g + 368) ∨ (g + 48 < c ∧ c < g + 65)) (R := PS.putc PS.zero 0 (fi (((B.rn.rn.rn.2.2.2 / 65536) / 4) % 101))) hA28 kAn (by first | omega | (dsimp only; omega)) hμ29
        have hA29 := hc29.1
        have hch29 := hch28.trans hc29
        have v29_0 : π29 (g + 351 + 1) = dN (B.rn.rn.2.2.2 / 65536) := (ho29 (g + 351 + 1) (by omega)).trans v28_0
        refine v_aload hx DX11_drift_140 4 rfl ?_
        refine v_get hx DX11_drift_141 FLRX11_108 hG.1 (v := .ref (g + 366)) rfl ?_
        refine v_push hx DX11_drift_144 ?_
        refine v_push hx DX11_drift_145 ?_
        refine v_cVv hx DX11_drift_146 CVRX11_244 [iv 1, iv 1] (s_put l G Λ sz μ29 kAn (AB.get (A := PS.putc PS.zero 0 (fi (((B.rn.rn.rn.2.2.2 / 65536) / 4) % 101))) hA29 kAn he29) (by omega) (by omega)) kAn.1 rfl rfl (Nat.le_of_ble_eq_true rfl) (by decide) ⟨Nat.le_refl _, Nat.le_refl _⟩ (fun μ30 hμ30 => ?_)
        obtain ⟨π30, hc30, he30, ho30⟩ := Chg.one (S := fun c => (g + 350 < c ∧ c < g + 357) ∨ (g + 365 < c ∧ c < g + 368) ∨ (g + 48 < c ∧ c < g + 65)) (R := PS.putc (PS.putc PS.zero 0 (fi (((B.rn.rn.rn.2.2.2 / 65536) / 4) % 101))) 1 (fi 1)) hA29 kAn (by first | omega | (dsimp only; omega)) hμ30
        have hA30 := hc30.1
        have hch30 := hch29.trans hc30
        have v30_0 : π30 (g + 351 + 1) = dN (B.rn.rn.2.2.2 / 65536) := (ho30 (g + 351 + 1) (by omega)).trans v29_0
        have w31 : π30 (g + 366) = dF (B.rn.rn.rn.2.2.2 / 65536) := he30.trans (dF_put (B.rn.rn.rn.2.2.2 / 65536))
        refine v_aload hx DX11_drift_149 4 rfl ?_
        refine v_get hx DX11_drift_150 FLRX11_42 hG.1 (v := .ref (g + 48)) rfl ?_
        refine v_aload hx DX11_drift_153 4 rfl ?_
        refine v_get hx DX11_drift_154 FLRX11_108 hG.1 (v := .ref (g + 366)) rfl ?_
        refine v_iload hx DX11_drift_157 0 rfl ?_
        refine v_push hx DX11_drift_159 ?_
        refine v_irem hx (by omega) (by decide) DX11_drift_160 ?_
        refine v_aload hx DX11_drift_161 4 rfl ?_
        refine v_get hx DX11_drift_162 FLRX11_95 hG.1 (v := .ref (g + 351)) rfl ?_
        refine v_get hx DX11_drift_165 FLRX11_248 kGi.1 (v := .ref (g + 351 + 3)) rfl ?_
        refine v_cVv hx DX11_drift_168 CVRX11_251 [.ref (g + 366), iv ((B.rn.rn.rn.2.2.2 / 65536) % 4), .ref (g + 351 + 3)] (q_raise (n := (B.rn.rn.rn.2.2.2 / 65536) % 4) (κ := g + 48) (p := g + 366) (o := g + 351 + 3) l G Λ sz μ30 hA30 kK kAn kGi.2.2 (by omega) (by omega) (by omega) (by omega) (by rw [w31]; exact fun j hj => dF_lim (B.rn.rn.rn.2.2.2 / 65536) (by omega) j hj)) kK.1 rfl rfl (Nat.le_of_ble_eq_true rfl) (by decide) ⟨Nat.le_refl _, Nat.le_refl _⟩ (fun μ32 hμ32 => ?_)
        obtain ⟨π32, hc32, he32_0⟩ := hμ32
        have hA32 := hc32.1
        have hch32 := hch30.trans (hc32.mono (fun c hc => by first | omega | (dsimp only at hc ⊢; omega)))
        have v32_0 : π32 (g + 351 + 1) = dN (B.rn.rn.2.2.2 / 65536) := (hc32.2.1 (g + 351 + 1) (by first | omega | (dsimp only; omega))).trans v30_0
        have v32_1 : π32 (g + 366) = dF (B.rn.rn.rn.2.2.2 / 65536) := (hc32.2.1 (g + 366) (by first | omega | (dsimp only; omega))).trans w31
        have g32_0 : π32 (g + 351 + 3) = (dF (B.rn.rn.rn.2.2.2 / 65536)).pw ((B.rn.rn.rn.2.2.2 / 65536) % 4).toNat := he32_0.trans (by rw [w31])
        refine v_aload hx DX11_drift_171 4 rfl ?_
        refine v_get hx DX11_drift_172 FLRX11_42 hG.1 (v := .ref (g + 48)) rfl ?_
        refine v_aload hx DX11_drift_175 4 rfl ?_
        refine v_get hx DX11_drift_176 FLRX11_95 hG.1 (v := .ref (g + 351)) rfl ?_
        refine v_cVv hx DX11_drift_179 CVRX11_255 [.ref (g + 351)] (q_reduce (κ := g + 48) (f := g + 351) l G Λ sz μ32 hA32 hI kK kGi (by omega) (by rw [g32_0]; exact (dF_pw (B.rn.rn.rn.2.2.2 / 65536) _ (by omega)).2)) kK.1 rfl rfl (Nat.le_of_ble_eq_true rfl) (by decide) ⟨Nat.le_refl _, Nat.le_refl _⟩ (fun μ33 hμ33 => ?_)
        obtain ⟨π33, hc33, he33_0, he33_1⟩ := hμ33
        have hA33 := hc33.1
        have hch33 := hch32.trans (hc33.mono (fun c hc => by first | omega | (dsimp only at hc ⊢; omega)))
        have v33_1 : π33 (g + 366) = dF (B.rn.rn.rn.2.2.2 / 65536) := (hc33.2.1 (g + 366) (by first | omega | (dsimp only; omega))).trans v32_1
        have g33_0 : π33 (g + 351 + 1) = (drX (B.rn.rn.2.2.2 / 65536) (B.rn.rn.rn.2.2.2 / 65536)).1 := he33_0.trans (by rw [v32_0, g32_0]; rfl)
        have g33_1 : π33 (g + 351 + 3) = (drX (B.rn.rn.2.2.2 / 65536) (B.rn.rn.rn.2.2.2 / 65536)).2 := he33_1.trans (by rw [v32_0, g32_0]; rfl)
        have k5 := k4.scr hGG (hch33.fc (X := fun _ => False)) (fun a q => q.elim)
        refine v_aload hx DX11_drift_182 4 rfl ?_
        refine v_get hx DX11_drift_183 FLRX11_12 hG.1 (v := .ref (g + 1)) rfl ?_
        refine v_iload hx DX11_drift_186 2 rfl ?_
        refine v_push hx DX11_drift_187 ?_
        refine v_irem hx (by omega) (by decide) DX11_drift_188 ?_
        refine v_iload hx DX11_drift_189 2 rfl ?_
        refine v_push hx DX11_drift_190 ?_
        refine v_idiv hx (by omega) (by decide) DX11_drift_191 ?_
        refine v_push hx DX11_drift_192 ?_
        refine v_irem hx (by omega) (by decide) DX11_drift_193 ?_
        refine v_push hx DX11_drift_194 ?_
        refine v_isub hx DX11_drift_195 ?_
        refine v_cSp hx DX11_drift_196 CSRX11_113 [iv ((B.rn.2.2.2 / 65536) % 3), iv ((((B.rn.2.2.2 / 65536) / 4) % 5) - 2)] (c_termOf l G Λ sz μ33 (by omega) (by omega)) rfl rfl (Nat.le_of_ble_eq_true rfl) (by decide) ⟨Nat.le_refl _, Nat.le_refl _⟩ ?_
        refine v_top (z' := (drT (B.rn.2.2.2 / 65536))) (by rw [if1 ⟨by omega, by omega, by omega, by omega⟩]; rfl) ?_
        refine v_aload hx DX11_drift_199 4 rfl ?_
        refine v_get hx DX11_drift_200 FLRX11_95 hG.1 (v := .ref (g + 351)) rfl ?_
        refine v_cVv hx DX11_drift_203 CVRX11_186 [iv (drT (B.rn.2.2.2 / 65536)), .ref (g + 351)] (b_store (t := drT (B.rn.2.2.2 / 65536)) l G Λ sz μ33 kB k5.2.1 kGi (AB.get (A := (drX (B.rn.rn.2.2.2 / 65536) (B.rn.rn.rn.2.2.2 / 65536)).1) hA33 kGi.2.1 g33_0) (AB.get (A := (drX (B.rn.rn.2.2.2 / 65536) (B.rn.rn.rn.2.2.2 / 65536)).2) hA33 kGi.2.2 g33_1) (by unfold drT; omega)) kB.1 rfl rfl (Nat.le_of_ble_eq_true rfl) (by decide) ⟨Nat.le_refl _, Nat.le_refl _⟩ (fun μ36 hμ36 => ?_)
        obtain ⟨q6, f6⟩ := hμ36
        have k6 := k5.brd hGG q6 f6
        refine v_iinc hx DX11_drift_206 3 rfl [(2, iv (j + 1)), (5, iv (B.rn.rn.rn.2.2.2 / 65536)), (4, iv (B.rn.rn.2.2.2 / 65536)), (3, iv (B.rn.2.2.2 / 65536)), (0, .ref g), (1, iv k)] rfl (by decide) ?_
        refine v_goto hx DX11_drift_209 ?_
        exact v_sub [0, 4, 5] _ rfl (ih (j + 1) _ _ μ36 (by omega) ok (by omega) (by rw [show (j + 1).toNat = j.toNat + 1 by omega, drS, hB]; rfl) k6)
  refine v_iload hx DX11_drift_0 1 rfl ?_
  refine v_push hx DX11_drift_1 ?_
  refine v_push hx DX11_drift_2 ?_
  refine v_cSp hx DX11_drift_4 CSRX11_117 [iv k, iv 1, iv 40] (c_within l G Λ sz μ (by omega) (by omega) (by omega)) rfl rfl (Nat.le_of_ble_eq_true rfl) (by decide) ⟨Nat.le_refl _, Nat.le_refl _⟩ ?_
  have br4 := bz_rng (1 ≤ k ∧ k ≤ 40)
  refine v_if_ne hx DX11_drift_7 (by omega) (fun c7 => ?_) (fun c7 => ?_)
  · skip
    have d7 := bzt c7
    have gz1 := d7
    refine v_push hx DX11_drift_12 ?_
    refine v_istore hx DX11_drift_13 [(2, iv 0), (0, .ref g), (1, iv k)] rfl (by decide) ?_
    exact v_sub [0, 1, 2] _ rfl (L14 100 0 _ _ μ (by omega) d7 (by omega) rfl hCs)
  · skip
    have d7 := bzf c7
    have gz2 := d7
    refine v_push hx DX11_drift_10 ?_
    exact v_ri hx hBD DX11_drift_11 (⟨by unfold driA; rw [if_neg (by omega)], by unfold driS; rw [if_neg (by omega)]; exact hCs⟩)
