/-! ===== the reference: what is solved ===== -/
theorem RW.abs {m : Mem} {ν : Nat} {σ : Nat → PS} {s : Nat} {A : PS} (h : RW m ν (up σ s A)) : ∃ σ', RW m ν σ' ∧ σ' s = A ∧ ∀ r, r ≠ s → σ' r = σ r := ⟨_, h, up_at, fun r h => up_ne h⟩
theorem RW.puttr {m m' : Mem} {ν : Nat} {σ : Nat → PS} {s : Nat} {p : PS} {k z o : Int} (h : RW m ν σ) (e : σ s = p.tr k.toNat) (hk : 0 ≤ k ∧ k < 96) (hz : z = ((p k.toNat).val : Int)) (hs : s < 154) (w : m' = mI m (ν + 1) o z) (ho : o = 96 * (s : Int) + k) : ∃ σ', RW m' ν σ' ∧ σ' s = p.tr (k + 1).toNat ∧ ∀ r, r ≠ s → σ' r = σ r := by
  refine ⟨_, by rw [w, ho]; exact h.put1 hk.1 hk.2 hz hs, ?_, fun r h => up_ne h⟩
  rw [up_at, e, PS.tr_set, show (k + 1).toNat = k.toNat + 1 by omega]
/-- the rows while what is solved is laid -/
def SvI (μ m : Mem) (ν : Nat) (ρ σ : Nat → PS) : Prop := RW m ν σ ∧ (∀ r, r ≠ 142 → r ≠ 143 → r ≠ 145 → σ r = ρ r) ∧ Fr [ν + 1, ν + 2] μ m
theorem tr_le {p : PS} {n k : Nat} (h : p.lt n) (hk : n ≤ k) : p.tr k = p := PS.tr_end (PS.lt_mono h hk)
theorem RW.abs2 {m : Mem} {ν : Nat} {σ : Nat → PS} {s : Nat} {A B : PS} (h : RW m ν (up σ s (A.tr 96))) (hA : A = B) (hl : B.lt 96) : ∃ σ', RW m ν σ' ∧ σ' s = B ∧ ∀ r, r ≠ s → σ' r = σ r := by
  rw [hA, PS.tr_end hl] at h
  exact h.abs
theorem cH_low {y : Nat → F} {o nh low : Nat} {k : Int} (h : k.toNat ≤ low) : (cH y o nh low).tr k.toNat = PS.zero := PS.ext fun j => by
  show (if j < k.toNat then cH y o nh low j else 0) = 0
  by_cases c : j < k.toNat
  · rw [if_pos c]
    unfold cH
    rw [if_neg (by omega)]
  · rw [if_neg c]
theorem r_shortensI (l : Launch) (G : Gl) (Λ : Lay) (sz : Nat) (μ : Mem) {ν : Nat} {ρ : Nat → PS} {t : Int} (hR : refK Λ ν) (hw : RW μ ν ρ) (ht : 0 ≤ t ∧ t < 70) (hD0 : ρ (2 * t.toNat + 1) ≠ PS.zero) : Sp l G yX12_shortens cX12_shortens 3 none 4 [.ref ν, iv t] Λ sz μ (pV (fun μ' => ∃ ρ', RW μ' ν ρ' ∧ ρ' (2 * t.toNat) = rdN (ρ (2 * t.toNat)) (ρ (2 * t.toNat + 1)) ∧ ρ' (2 * t.toNat + 1) = rdD (ρ (2 * t.toNat)) (ρ (2 * t.toNat + 1)) ∧ (∀ r, (r < 146 ∨ 147 < r ∧ r < 151) → r ≠ 2 * t.toNat → r ≠ 2 * t.toNat + 1 → ρ' r = ρ r) ∧ Fr [ν + 1] μ μ')) := by
  have q := r_shortens (f := t.toNat) l G Λ sz μ hR hw (by omega) hD0
  rwa [Int.toNat_of_nonneg ht.1] at q
theorem r_solved (l : Launch) (G : Gl) (Λ : Lay) (sz : Nat) (μ : Mem) {ν : Nat} {ρ : Nat → PS} {y : Nat → F} {q lf lo hi dwi : Int} {de dr nh low dw : Nat} (hR : refK Λ ν) (hw : RW μ ν ρ) (hq : (0 ≤ q ∧ q < 70) ∧ (0 ≤ lf ∧ lf < 70) ∧ q ≠ lf) (hde : (de : Int) = ((ρ 144).size : Int) - 1) (hdr : (dr : Int) = ((ρ 149).size : Int) - 1) (hlo : lo = (low : Int)) (hhi : (hi < lo ∧ nh = 0) ∨ (nh : Int) = hi - lo + 1) (hdw : (dwi ≤ 0 ∧ dw = 0) ∨ dwi = (dw : Int)) (hz : de + dr ≤ 40 ∧ low + nh ≤ 20 ∧ dw ≤ 4) (hy : ∀ c : Nat, c < de + dr + nh + dw → μ.1 (ν + 8) (c : Int) = ((y c).val : Int)) (hir : (-1000 ≤ hi ∧ hi ≤ 1000) ∧ (-1000 ≤ dwi ∧ dwi ≤ 1000)) : Sp l G yX12_solved cX12_solved 10 none 5 [.ref ν, iv q, iv lf, iv lo, iv hi, iv dwi] Λ sz μ (pV (fun μ' => ∃ σ, RW μ' ν σ ∧ RFI σ q (frd ((cA y de).add ((cH y (de + dr) nh low).mul (ρ 144))) (ρ 144)) ∧ RFI σ lf (frd ((cB y de dr).add ((cB y (de + dr + nh) dw).mul (ρ 149))) (ρ 149)) ∧ (∀ r : Nat, (r < 140 ∨ r = 148) → r ≠ 2 * q.toNat → r ≠ 2 * q.toNat + 1 → r ≠ 2 * lf.toNat → r ≠ 2 * lf.toNat + 1 → σ r = ρ r) ∧ Fr [ν + 1, ν + 2] μ μ')) := by
  refine Sp.intro (by decide) (Nat.le_of_ble_eq_true rfl) (fun x hx hBD => ?_)
  refine v_lv [(0, .ref ν), (1, iv q), (2, iv lf), (3, iv lo), (4, iv hi), (5, iv dwi)] rfl ?_
  have lE := PS.lt_size (hw 144 (by decide)).1
  have lM := PS.lt_size (hw 149 (by decide)).1
  have lA := cA_lt y de
  have lB := cB_lt y de dr
  have lH := cH_lt y (de + dr) nh low
  have lY := cB_lt y (de + dr + nh) dw
  have lHE : ((cH y (de + dr) nh low).mul (ρ 144)).lt 96 := PS.lt_mul' lH lE (by omega)
  have lYM : ((cB y (de + dr + nh) dw).mul (ρ 149)).lt 96 := PS.lt_mul' lY lM (by omega)
  have zE : (ρ 144) ≠ PS.zero := PS.ne_of_size (by omega)
  have zM : (ρ 149) ≠ PS.zero := PS.ne_of_size (by omega)
  have L187 : ∀ (nf : Nat) (k ai : Int) (m : Mem) (σ : Nat → PS), ((dw : Int) - k < (nf : Int)) → (0 ≤ k ∧ k ≤ dw) → (ai = de + dr + nh + k) → (SvI μ m ν ρ σ) → (σ 142 = (cA y de).add ((cH y (de + dr) nh low).mul (ρ 144))) → (σ 143 = cB y de dr) → (σ 145 = (cB y (de + dr + nh) dw).tr k.toNat) → V G x (0, 0) Λ sz m 187 [(9, iv k), (6, iv ai), (0, .ref ν), (1, iv q), (2, iv lf), (3, iv lo), (4, iv hi), (5, iv dwi)] [] := by
    intro nf
    induction nf with
    | zero => intro k ai m σ hm hk ha hI e2 e3 e5; exact absurd hm (by omega)
    | succ nf ih =>
      intro k ai m σ hm hk ha hI e2 e3 e5
      refine v_iload hx DX12_solved_187 0 rfl ?_
      refine v_iload hx DX12_solved_189 7 rfl ?_
      refine v_icmp_ge hx DX12_solved_191 (by omega) (by omega) (fun c191 => ?_) (fun c191 => ?_)
      · skip
        refine v_aload hx DX12_solved_221 2 rfl ?_
        refine v_push hx DX12_solved_222 ?_
        refine v_push hx DX12_solved_225 ?_
        refine v_push hx DX12_solved_228 ?_
        refine v_cVv hx DX12_solved_231 CVRX12_50 [iv 145, iv 145, iv 149] (r_times (s := 145) (a := 145) (b := 149) l G Λ sz m hR hI.1 (by decide) (by decide) (by decide)) hR.o rfl rfl (Nat.le_of_ble_eq_true rfl) (by decide) ⟨Nat.le_refl _, Nat.le_refl _⟩ (fun μ1 hμ1 => ?_)
        obtain ⟨σ7, w7, x7, k7⟩ := RW.abs2 (B := (cB y (de + dr + nh) dw).mul (ρ 149)) hμ1.1 (by rw [e5, tr_le lY (by omega), hI.2.1 149 (by omega) (by omega) (by omega)]) lYM
        have f7 := hI.2.2.trans hμ1.2
        refine v_aload hx DX12_solved_234 2 rfl ?_
        refine v_push hx DX12_solved_235 ?_
        refine v_push hx DX12_solved_238 ?_
        refine v_push hx DX12_solved_241 ?_
        refine v_cVv hx DX12_solved_242 CVRX12_53 [iv 143, iv 145, iv 1] (r_adds (s := 143) (t := 145) l G Λ sz μ1 hR w7 (by decide) (by decide) (by decide)) hR.o rfl rfl (Nat.le_of_ble_eq_true rfl) (by decide) ⟨Nat.le_refl _, Nat.le_refl _⟩ (fun μ3 hμ3 => ?_)
        obtain ⟨σ8, w8, x8a, k8⟩ := RW.abs hμ3.1
        have x8 : σ8 143 = (cB y de dr).add ((cB y (de + dr + nh) dw).mul (ρ 149)) := by rw [x8a, x7, k7 143 (by omega), e3, fi_1, PS.sm_one]
        have x82 : σ8 142 = (cA y de).add ((cH y (de + dr) nh low).mul (ρ 144)) := (k8 142 (by omega)).trans ((k7 142 (by omega)).trans e2)
        have f8 := f7.trans (hμ3.2.mono (by simp))
        have g8 : ∀ r, r ≠ 142 → r ≠ 143 → r ≠ 145 → σ8 r = ρ r := fun r h1 h2 h3 => (k8 r h2).trans ((k7 r h3).trans (hI.2.1 r h1 h2 h3))
        refine v_aload hx DX12_solved_245 2 rfl ?_
        refine v_iload hx DX12_solved_246 3 rfl ?_
        refine v_cSp hx DX12_solved_247 CSRX12_38 [iv q] (r_aboveI (t := q) l G Λ sz μ3 (by omega)) rfl rfl (Nat.le_of_ble_eq_true rfl) (by decide) ⟨Nat.le_refl _, Nat.le_refl _⟩ ?_
        refine v_push hx DX12_solved_250 ?_
        refine v_cVv hx DX12_solved_253 CVRX12_27 [iv ((2 * q.toNat : Nat) : Int), iv 142] (r_lays (s := 2 * q.toNat) (t := 142) l G Λ sz μ3 hR w8 (by omega) (by decide)) hR.o rfl rfl (Nat.le_of_ble_eq_true rfl) (by decide) ⟨Nat.le_refl _, Nat.le_refl _⟩ (fun μ7 hμ7 => ?_)
        have h253 := hμ7
        refine v_aload hx DX12_solved_256 2 rfl ?_
        refine v_iload hx DX12_solved_257 3 rfl ?_
        refine v_cSp hx DX12_solved_258 CSRX12_41 [iv q] (r_belowI (t := q) l G Λ sz μ7 (by omega)) rfl rfl (Nat.le_of_ble_eq_true rfl) (by decide) ⟨Nat.le_refl _, Nat.le_refl _⟩ ?_
        refine v_push hx DX12_solved_261 ?_
        refine v_cVv hx DX12_solved_264 CVRX12_27 [iv ((2 * q.toNat + 1 : Nat) : Int), iv 144] (r_lays (s := 2 * q.toNat + 1) (t := 144) l G Λ sz μ7 hR h253.1 (by omega) (by decide)) hR.o rfl rfl (Nat.le_of_ble_eq_true rfl) (by decide) ⟨Nat.le_refl _, Nat.le_refl _⟩ (fun μ11 hμ11 => ?_)
        have h264 := hμ11
        refine v_aload hx DX12_solved_267 2 rfl ?_
        refine v_iload hx DX12_solved_268 4 rfl ?_
        refine v_cSp hx DX12_solved_269 CSRX12_38 [iv lf] (r_aboveI (t := lf) l G Λ sz μ11 (by omega)) rfl rfl (Nat.le_of_ble_eq_true rfl) (by decide) ⟨Nat.le_refl _, Nat.le_refl _⟩ ?_
        refine v_push hx DX12_solved_272 ?_
        refine v_cVv hx DX12_solved_275 CVRX12_27 [iv ((2 * lf.toNat : Nat) : Int), iv 143] (r_lays (s := 2 * lf.toNat) (t := 143) l G Λ sz μ11 hR h264.1 (by omega) (by decide)) hR.o rfl rfl (Nat.le_of_ble_eq_true rfl) (by decide) ⟨Nat.le_refl _, Nat.le_refl _⟩ (fun μ15 hμ15 => ?_)
        have h275 := hμ15
        refine v_aload hx DX12_solved_278 2 rfl ?_
        refine v_iload hx DX12_solved_279 4 rfl ?_
        refine v_cSp hx DX12_solved_280 CSRX12_41 [iv lf] (r_belowI (t := lf) l G Λ sz μ15 (by omega)) rfl rfl (Nat.le_of_ble_eq_true rfl) (by decide) ⟨Nat.le_refl _, Nat.le_refl _⟩ ?_
        refine v_push hx DX12_solved_283 ?_
        refine v_cVv hx DX12_solved_286 CVRX12_27 [iv ((2 * lf.toNat + 1 : Nat) : Int), iv 149] (r_lays (s := 2 * lf.toNat + 1) (t := 149) l G Λ sz μ15 hR h275.1 (by omega) (by decide)) hR.o rfl rfl (Nat.le_of_ble_eq_true rfl) (by decide) ⟨Nat.le_refl _, Nat.le_refl _⟩ (fun μ19 hμ19 => ?_)
        have h286 := hμ19
        obtain ⟨σ4, w4, y1, y2, y3, y4, y5⟩ : ∃ σ4, RW μ19 ν σ4 ∧ σ4 (2 * q.toNat) = (cA y de).add ((cH y (de + dr) nh low).mul (ρ 144)) ∧ σ4 (2 * q.toNat + 1) = (ρ 144) ∧ σ4 (2 * lf.toNat) = (cB y de dr).add ((cB y (de + dr + nh) dw).mul (ρ 149)) ∧ σ4 (2 * lf.toNat + 1) = (ρ 149) ∧ (∀ r : Nat, (r < 140 ∨ r = 148) → r ≠ 2 * q.toNat → r ≠ 2 * q.toNat + 1 → r ≠ 2 * lf.toNat → r ≠ 2 * lf.toNat + 1 → σ4 r = ρ r) := by
          refine ⟨_, h286.1, ?_, ?_, ?_, ?_, fun r h0 h1 h2 h3 h4 => ?_⟩
          · rw [up_ne (by omega), up_ne (by omega), up_ne (by omega), up_at]; exact x82
          · rw [up_ne (by omega), up_ne (by omega), up_at, up_ne (by omega)]; exact g8 144 (by omega) (by omega) (by omega)
          · rw [up_ne (by omega), up_at, up_ne (by omega), up_ne (by omega)]; exact x8
          · rw [up_at, up_ne (by omega), up_ne (by omega), up_ne (by omega)]; exact g8 149 (by omega) (by omega) (by omega)
          · rw [up_ne h4, up_ne h3, up_ne h2, up_ne h1]; exact g8 r (by omega) (by omega) (by omega)
        have f4 := (((f8.trans (h253.2.mono (by simp))).trans (h264.2.mono (by simp))).trans (h275.2.mono (by simp))).trans (h286.2.mono (by simp))
        refine v_aload hx DX12_solved_289 2 rfl ?_
        refine v_iload hx DX12_solved_290 3 rfl ?_
        refine v_cVv hx DX12_solved_291 CVRX12_56 [iv q] (r_shortensI (t := q) l G Λ sz μ19 hR w4 (by omega) (by rw [y2]; exact zE)) hR.o rfl rfl (Nat.le_of_ble_eq_true rfl) (by decide) ⟨Nat.le_refl _, Nat.le_refl _⟩ (fun μ21 hμ21 => ?_)
        obtain ⟨σ5, w5, u1, u2, u3, u4⟩ := hμ21
        rw [y1, y2] at u1 u2
        refine v_aload hx DX12_solved_294 2 rfl ?_
        refine v_iload hx DX12_solved_295 4 rfl ?_
        refine v_cVv hx DX12_solved_296 CVRX12_56 [iv lf] (r_shortensI (t := lf) l G Λ sz μ21 hR w5 (by omega) (by rw [u3 _ (by omega) (by omega) (by omega), y4]; exact zM)) hR.o rfl rfl (Nat.le_of_ble_eq_true rfl) (by decide) ⟨Nat.le_refl _, Nat.le_refl _⟩ (fun μ23 hμ23 => ?_)
        obtain ⟨σ6, w6, v1, v2, v3, v4⟩ := hμ23
        rw [u3 _ (by omega) (by omega) (by omega), u3 _ (by omega) (by omega) (by omega), y3, y4] at v1 v2
        exact v_rv hx hBD DX12_solved_299 (⟨σ6, w6, ⟨(v3 _ (by omega) (by omega) (by omega)).trans u1, (v3 _ (by omega) (by omega) (by omega)).trans u2⟩, ⟨v1, v2⟩, fun r h0 h1 h2 h3 h4 => (v3 r (by omega) h3 h4).trans ((u3 r (by omega) h1 h2).trans (y5 r h0 h1 h2 h3 h4)), (f4.trans (u4.mono (by simp))).trans (v4.mono (by simp))⟩)
      · skip
        refine v_aload hx DX12_solved_194 2 rfl ?_
        refine v_get hx DX12_solved_195 FLRX12_3 hR.o (v := .ref (ν + 1)) rfl ?_
        refine v_push hx DX12_solved_198 ?_
        refine v_iload hx DX12_solved_201 0 rfl ?_
        refine v_iadd hx DX12_solved_203 ?_
        refine v_aload hx DX12_solved_204 2 rfl ?_
        refine v_get hx DX12_solved_205 FLRX12_87 hR.o (v := .ref (ν + 8)) rfl ?_
        refine v_iload hx DX12_solved_208 1 rfl ?_
        refine v_iald hx DX12_solved_210 hR.solution (by omega) (by decide) (z := ((y ai.toNat).val : Int)) (by rw [hI.2.2.1 _ (by simp)]; have w := hy ai.toNat (by omega); rwa [Int.toNat_of_nonneg (by omega)] at w) ?_
        refine v_iastm hx DX12_solved_211 hR.p (by omega) (by decide) (fun μ25 eμ25 => ?_)
        obtain ⟨σ1, w1, x1, k1⟩ := hI.1.puttr (s := 145) (p := cB y (de + dr + nh) dw) (k := k) e5 (by omega) (by show ((y ai.toNat).val : Int) = _; unfold cB; rw [if_pos (by omega), show ai.toNat = de + dr + nh + k.toNat by omega]) (by decide) eμ25 (by omega)
        refine v_iinc hx DX12_solved_212 1 rfl [(6, iv (ai + 1)), (9, iv k), (0, .ref ν), (1, iv q), (2, iv lf), (3, iv lo), (4, iv hi), (5, iv dwi)] rfl (by decide) ?_
        refine v_iinc hx DX12_solved_215 1 rfl [(9, iv (k + 1)), (6, iv (ai + 1)), (0, .ref ν), (1, iv q), (2, iv lf), (3, iv lo), (4, iv hi), (5, iv dwi)] rfl (by decide) ?_
        refine v_goto hx DX12_solved_218 ?_
        exact v_sub [0, 1, 2, 3, 4, 5, 6, 7] _ rfl (ih (k + 1) (ai + 1) μ25 σ1 (by omega) (by omega) (by omega) ⟨w1, fun r h1 h2 h3 => (k1 r h3).trans (hI.2.1 r h1 h2 h3), hI.2.2.trans (by rw [eμ25]; exact Fr.mI (by simp))⟩ ((k1 142 (by omega)).trans e2) ((k1 143 (by omega)).trans e3) x1)
  have L119 : ∀ (nf : Nat) (k ai : Int) (m : Mem) (σ : Nat → PS), (2000 - k < (nf : Int)) → (lo ≤ k ∧ (k ≤ hi + 1 ∨ k = lo)) → (ai = de + dr + (k - lo)) → (SvI μ m ν ρ σ) → (σ 142 = cA y de) → (σ 143 = cB y de dr) → (σ 145 = (cH y (de + dr) nh low).tr k.toNat) → V G x (0, 0) Λ sz m 119 [(9, iv k), (6, iv ai), (0, .ref ν), (1, iv q), (2, iv lf), (3, iv lo), (4, iv hi), (5, iv dwi)] [] := by
    intro nf
    induction nf with
    | zero => intro k ai m σ hm hk ha hI e2 e3 e5; exact absurd hm (by omega)
    | succ nf ih =>
      intro k ai m σ hm hk ha hI e2 e3 e5
      refine v_iload hx DX12_solved_119 0 rfl ?_
      refine v_iload hx DX12_solved_121 6 rfl ?_
      refine v_icmp_gt hx DX12_solved_123 (by omega) (by omega) (fun c123 => ?_) (fun c123 => ?_)
      · skip
        refine v_aload hx DX12_solved_153 2 rfl ?_
        refine v_push hx DX12_solved_154 ?_
        refine v_push hx DX12_solved_157 ?_
        refine v_push hx DX12_solved_160 ?_
        refine v_cVv hx DX12_solved_163 CVRX12_50 [iv 145, iv 145, iv 144] (r_times (s := 145) (a := 145) (b := 144) l G Λ sz m hR hI.1 (by decide) (by decide) (by decide)) hR.o rfl rfl (Nat.le_of_ble_eq_true rfl) (by decide) ⟨Nat.le_refl _, Nat.le_refl _⟩ (fun μ26 hμ26 => ?_)
        obtain ⟨σ7, w7, x7, k7⟩ := RW.abs2 (B := (cH y (de + dr) nh low).mul (ρ 144)) hμ26.1 (by rw [e5, tr_le lH (by omega), hI.2.1 144 (by omega) (by omega) (by omega)]) lHE
        have f7 := hI.2.2.trans hμ26.2
        refine v_aload hx DX12_solved_166 2 rfl ?_
        refine v_push hx DX12_solved_167 ?_
        refine v_push hx DX12_solved_170 ?_
        refine v_push hx DX12_solved_173 ?_
        refine v_cVv hx DX12_solved_174 CVRX12_53 [iv 142, iv 145, iv 1] (r_adds (s := 142) (t := 145) l G Λ sz μ26 hR w7 (by decide) (by decide) (by decide)) hR.o rfl rfl (Nat.le_of_ble_eq_true rfl) (by decide) ⟨Nat.le_refl _, Nat.le_refl _⟩ (fun μ28 hμ28 => ?_)
        obtain ⟨σ8, w8, x8a, k8⟩ := RW.abs hμ28.1
        have x8 : σ8 142 = (cA y de).add ((cH y (de + dr) nh low).mul (ρ 144)) := by rw [x8a, x7, k7 142 (by omega), e2, fi_1, PS.sm_one]
        have f8 := f7.trans (hμ28.2.mono (by simp))
        have g8 : ∀ r, r ≠ 142 → r ≠ 143 → r ≠ 145 → σ8 r = ρ r := fun r h1 h2 h3 => (k8 r h1).trans ((k7 r h3).trans (hI.2.1 r h1 h2 h3))
        refine v_aload hx DX12_solved_177 2 rfl ?_
        refine v_push hx DX12_solved_178 ?_
        refine v_cVv hx DX12_solved_181 CVRX12_7 [iv 145] (r_zero (s := 145) l G Λ sz μ28 hR w8 (by decide)) hR.o rfl rfl (Nat.le_of_ble_eq_true rfl) (by decide) ⟨Nat.le_refl _, Nat.le_refl _⟩ (fun μ30 hμ30 => ?_)
        obtain ⟨σ9, w9, x9, k9⟩ := RW.abs hμ30.1
        refine v_push hx DX12_solved_184 ?_
        refine v_istore hx DX12_solved_185 [(9, iv 0), (6, iv ai), (0, .ref ν), (1, iv q), (2, iv lf), (3, iv lo), (4, iv hi), (5, iv dwi)] rfl (by decide) ?_
        exact v_sub [0, 1, 2, 3, 4, 5, 6, 7] _ rfl (L187 2000 0 ai μ30 σ9 (by omega) (by omega) (by omega) ⟨w9, fun r h1 h2 h3 => (k9 r h3).trans (g8 r h1 h2 h3), f8.trans (hμ30.2.mono (by simp))⟩ ((k9 142 (by omega)).trans x8) ((k9 143 (by omega)).trans ((k8 143 (by omega)).trans ((k7 143 (by omega)).trans e3))) (by rw [x9, show (0 : Int).toNat = 0 from rfl, tr0]))
      · skip
        refine v_aload hx DX12_solved_126 2 rfl ?_
        refine v_get hx DX12_solved_127 FLRX12_3 hR.o (v := .ref (ν + 1)) rfl ?_
        refine v_push hx DX12_solved_130 ?_
        refine v_iload hx DX12_solved_133 0 rfl ?_
        refine v_iadd hx DX12_solved_135 ?_
        refine v_aload hx DX12_solved_136 2 rfl ?_
        refine v_get hx DX12_solved_137 FLRX12_87 hR.o (v := .ref (ν + 8)) rfl ?_
        refine v_iload hx DX12_solved_140 1 rfl ?_
        refine v_iald hx DX12_solved_142 hR.solution (by omega) (by decide) (z := ((y ai.toNat).val : Int)) (by rw [hI.2.2.1 _ (by simp)]; have w := hy ai.toNat (by omega); rwa [Int.toNat_of_nonneg (by omega)] at w) ?_
        refine v_iastm hx DX12_solved_143 hR.p (by omega) (by decide) (fun μ32 eμ32 => ?_)
        obtain ⟨σ1, w1, x1, k1⟩ := hI.1.puttr (s := 145) (p := cH y (de + dr) nh low) (k := k) e5 (by omega) (by show ((y ai.toNat).val : Int) = _; unfold cH; rw [if_pos (by omega), show ai.toNat = de + dr + (k.toNat - low) by omega]) (by decide) eμ32 (by omega)
        refine v_iinc hx DX12_solved_144 1 rfl [(6, iv (ai + 1)), (9, iv k), (0, .ref ν), (1, iv q), (2, iv lf), (3, iv lo), (4, iv hi), (5, iv dwi)] rfl (by decide) ?_
        refine v_iinc hx DX12_solved_147 1 rfl [(9, iv (k + 1)), (6, iv (ai + 1)), (0, .ref ν), (1, iv q), (2, iv lf), (3, iv lo), (4, iv hi), (5, iv dwi)] rfl (by decide) ?_
        refine v_goto hx DX12_solved_150 ?_
        exact v_sub [0, 1, 2, 3, 4, 5, 6, 7] _ rfl (ih (k + 1) (ai + 1) μ32 σ1 (by omega) (by omega) (by omega) ⟨w1, fun r h1 h2 h3 => (k1 r h3).trans (hI.2.1 r h1 h2 h3), hI.2.2.trans (by rw [eμ32]; exact Fr.mI (by simp))⟩ ((k1 142 (by omega)).trans e2) ((k1 143 (by omega)).trans e3) x1)
  have L75 : ∀ (nf : Nat) (k ai : Int) (m : Mem) (σ : Nat → PS), ((dr : Int) - k < (nf : Int)) → (0 ≤ k ∧ k ≤ dr) → (ai = de + k) → (SvI μ m ν ρ σ) → (σ 142 = cA y de) → (σ 143 = (cB y de dr).tr k.toNat) → V G x (0, 0) Λ sz m 75 [(9, iv k), (8, iv (dr : Int)), (6, iv ai), (0, .ref ν), (1, iv q), (2, iv lf), (3, iv lo), (4, iv hi), (5, iv dwi)] [] := by
    intro nf
    induction nf with
    | zero => intro k ai m σ hm hk ha hI e2 e3; exact absurd hm (by omega)
    | succ nf ih =>
      intro k ai m σ hm hk ha hI e2 e3
      refine v_iload hx DX12_solved_75 0 rfl ?_
      refine v_iload hx DX12_solved_77 1 rfl ?_
      refine v_icmp_ge hx DX12_solved_79 (by omega) (by omega) (fun c79 => ?_) (fun c79 => ?_)
      · skip
        refine v_aload hx DX12_solved_109 3 rfl ?_
        refine v_push hx DX12_solved_110 ?_
        refine v_cVv hx DX12_solved_113 CVRX12_7 [iv 145] (r_zero (s := 145) l G Λ sz m hR hI.1 (by decide)) hR.o rfl rfl (Nat.le_of_ble_eq_true rfl) (by decide) ⟨Nat.le_refl _, Nat.le_refl _⟩ (fun μ33 hμ33 => ?_)
        obtain ⟨σ9, w9, x9, k9⟩ := RW.abs hμ33.1
        refine v_iload hx DX12_solved_116 6 rfl ?_
        refine v_istore hx DX12_solved_117 [(9, iv lo), (8, iv (dr : Int)), (6, iv ai), (0, .ref ν), (1, iv q), (2, iv lf), (3, iv lo), (4, iv hi), (5, iv dwi)] rfl (by decide) ?_
        exact v_sub [0, 2, 3, 4, 5, 6, 7, 8] _ rfl (L119 4000 lo ai μ33 σ9 (by omega) (by omega) (by omega) ⟨w9, fun r h1 h2 h3 => (k9 r h3).trans (hI.2.1 r h1 h2 h3), hI.2.2.trans (hμ33.2.mono (by simp))⟩ ((k9 142 (by omega)).trans e2) ((k9 143 (by omega)).trans (e3.trans (tr_le lB (by omega)))) (x9.trans (cH_low (by omega)).symm))
      · skip
        refine v_aload hx DX12_solved_82 3 rfl ?_
        refine v_get hx DX12_solved_83 FLRX12_3 hR.o (v := .ref (ν + 1)) rfl ?_
        refine v_push hx DX12_solved_86 ?_
        refine v_iload hx DX12_solved_89 0 rfl ?_
        refine v_iadd hx DX12_solved_91 ?_
        refine v_aload hx DX12_solved_92 3 rfl ?_
        refine v_get hx DX12_solved_93 FLRX12_87 hR.o (v := .ref (ν + 8)) rfl ?_
        refine v_iload hx DX12_solved_96 2 rfl ?_
        refine v_iald hx DX12_solved_98 hR.solution (by omega) (by decide) (z := ((y ai.toNat).val : Int)) (by rw [hI.2.2.1 _ (by simp)]; have w := hy ai.toNat (by omega); rwa [Int.toNat_of_nonneg (by omega)] at w) ?_
        refine v_iastm hx DX12_solved_99 hR.p (by omega) (by decide) (fun μ35 eμ35 => ?_)
        obtain ⟨σ1, w1, x1, k1⟩ := hI.1.puttr (s := 143) (p := cB y de dr) (k := k) e3 (by omega) (by show ((y ai.toNat).val : Int) = _; unfold cB; rw [if_pos (by omega), show ai.toNat = de + k.toNat by omega]) (by decide) eμ35 (by omega)
        refine v_iinc hx DX12_solved_100 2 rfl [(6, iv (ai + 1)), (9, iv k), (8, iv (dr : Int)), (0, .ref ν), (1, iv q), (2, iv lf), (3, iv lo), (4, iv hi), (5, iv dwi)] rfl (by decide) ?_
        refine v_iinc hx DX12_solved_103 1 rfl [(9, iv (k + 1)), (6, iv (ai + 1)), (8, iv (dr : Int)), (0, .ref ν), (1, iv q), (2, iv lf), (3, iv lo), (4, iv hi), (5, iv dwi)] rfl (by decide) ?_
        refine v_goto hx DX12_solved_106 ?_
        exact v_sub [0, 2, 1, 3, 4, 5, 6, 7, 8] _ rfl (ih (k + 1) (ai + 1) μ35 σ1 (by omega) (by omega) (by omega) ⟨w1, fun r h1 h2 h3 => (k1 r h2).trans (hI.2.1 r h1 h2 h3), hI.2.2.trans (by rw [eμ35]; exact Fr.mI (by simp))⟩ ((k1 142 (by omega)).trans e2) x1)
  have L31 : ∀ (nf : Nat) (k ai : Int) (m : Mem) (σ : Nat → PS), ((de : Int) - k < (nf : Int)) → (0 ≤ k ∧ k ≤ de) → (ai = k) → (SvI μ m ν ρ σ) → (σ 142 = (cA y de).tr k.toNat) → V G x (0, 0) Λ sz m 31 [(9, iv k), (8, iv (dr : Int)), (7, iv (de : Int)), (6, iv ai), (0, .ref ν), (1, iv q), (2, iv lf), (3, iv lo), (4, iv hi), (5, iv dwi)] [] := by
    intro nf
    induction nf with
    | zero => intro k ai m σ hm hk ha hI e2; exact absurd hm (by omega)
    | succ nf ih =>
      intro k ai m σ hm hk ha hI e2
      refine v_iload hx DX12_solved_31 0 rfl ?_
      refine v_iload hx DX12_solved_33 2 rfl ?_
      refine v_icmp_ge hx DX12_solved_35 (by omega) (by omega) (fun c35 => ?_) (fun c35 => ?_)
      · skip
        refine v_aload hx DX12_solved_65 4 rfl ?_
        refine v_push hx DX12_solved_66 ?_
        refine v_cVv hx DX12_solved_69 CVRX12_7 [iv 143] (r_zero (s := 143) l G Λ sz m hR hI.1 (by decide)) hR.o rfl rfl (Nat.le_of_ble_eq_true rfl) (by decide) ⟨Nat.le_refl _, Nat.le_refl _⟩ (fun μ36 hμ36 => ?_)
        obtain ⟨σ9, w9, x9, k9⟩ := RW.abs hμ36.1
        refine v_push hx DX12_solved_72 ?_
        refine v_istore hx DX12_solved_73 [(9, iv 0), (8, iv (dr : Int)), (7, iv (de : Int)), (6, iv ai), (0, .ref ν), (1, iv q), (2, iv lf), (3, iv lo), (4, iv hi), (5, iv dwi)] rfl (by decide) ?_
        exact v_sub [0, 1, 3, 4, 5, 6, 7, 8, 9] _ rfl (L75 100 0 ai μ36 σ9 (by omega) (by omega) (by omega) ⟨w9, fun r h1 h2 h3 => (k9 r h2).trans (hI.2.1 r h1 h2 h3), hI.2.2.trans (hμ36.2.mono (by simp))⟩ ((k9 142 (by omega)).trans (e2.trans (tr_le lA (by omega)))) (by rw [x9, show (0 : Int).toNat = 0 from rfl, tr0]))
      · skip
        refine v_aload hx DX12_solved_38 4 rfl ?_
        refine v_get hx DX12_solved_39 FLRX12_3 hR.o (v := .ref (ν + 1)) rfl ?_
        refine v_push hx DX12_solved_42 ?_
        refine v_iload hx DX12_solved_45 0 rfl ?_
        refine v_iadd hx DX12_solved_47 ?_
        refine v_aload hx DX12_solved_48 4 rfl ?_
        refine v_get hx DX12_solved_49 FLRX12_87 hR.o (v := .ref (ν + 8)) rfl ?_
        refine v_iload hx DX12_solved_52 3 rfl ?_
        refine v_iald hx DX12_solved_54 hR.solution (by omega) (by decide) (z := ((y ai.toNat).val : Int)) (by rw [hI.2.2.1 _ (by simp)]; have w := hy ai.toNat (by omega); rwa [Int.toNat_of_nonneg (by omega)] at w) ?_
        refine v_iastm hx DX12_solved_55 hR.p (by omega) (by decide) (fun μ38 eμ38 => ?_)
        obtain ⟨σ1, w1, x1, k1⟩ := hI.1.puttr (s := 142) (p := cA y de) (k := k) e2 (by omega) (by show ((y ai.toNat).val : Int) = _; unfold cA; rw [if_pos (by omega), show ai.toNat = k.toNat by omega]) (by decide) eμ38 (by omega)
        refine v_iinc hx DX12_solved_56 3 rfl [(6, iv (ai + 1)), (9, iv k), (8, iv (dr : Int)), (7, iv (de : Int)), (0, .ref ν), (1, iv q), (2, iv lf), (3, iv lo), (4, iv hi), (5, iv dwi)] rfl (by decide) ?_
        refine v_iinc hx DX12_solved_59 1 rfl [(9, iv (k + 1)), (6, iv (ai + 1)), (8, iv (dr : Int)), (7, iv (de : Int)), (0, .ref ν), (1, iv q), (2, iv lf), (3, iv lo), (4, iv hi), (5, iv dwi)] rfl (by decide) ?_
        refine v_goto hx DX12_solved_62 ?_
        exact v_sub [0, 2, 3, 1, 4, 5, 6, 7, 8, 9] _ rfl (ih (k + 1) (ai + 1) μ38 σ1 (by omega) (by omega) (by omega) ⟨w1, fun r h1 h2 h3 => (k1 r h1).trans (hI.2.1 r h1 h2 h3), hI.2.2.trans (by rw [eμ38]; exact Fr.mI (by simp))⟩ x1)
  refine v_push hx DX12_solved_0 ?_
  refine v_istore hx DX12_solved_1 [(6, iv 0), (0, .ref ν), (1, iv q), (2, iv lf), (3, iv lo), (4, iv hi), (5, iv dwi)] rfl (by decide) ?_
  refine v_aload hx DX12_solved_3 1 rfl ?_
  refine v_push hx DX12_solved_4 ?_
  refine v_cVp hx DX12_solved_7 CVRX12_15 [iv 144] (r_degree (s := 144) l G Λ sz μ hR hw (by decide)) hR.o rfl rfl (Nat.le_of_ble_eq_true rfl) (by decide) ⟨Nat.le_refl _, Nat.le_refl _⟩ ?_
  rw [← hde]
  refine v_istore hx DX12_solved_10 [(7, iv (de : Int)), (6, iv 0), (0, .ref ν), (1, iv q), (2, iv lf), (3, iv lo), (4, iv hi), (5, iv dwi)] rfl (by decide) ?_
  refine v_aload hx DX12_solved_12 2 rfl ?_
  refine v_push hx DX12_solved_13 ?_
  refine v_cVp hx DX12_solved_16 CVRX12_15 [iv 149] (r_degree (s := 149) l G Λ sz μ hR hw (by decide)) hR.o rfl rfl (Nat.le_of_ble_eq_true rfl) (by decide) ⟨Nat.le_refl _, Nat.le_refl _⟩ ?_
  rw [← hdr]
  refine v_istore hx DX12_solved_19 [(8, iv (dr : Int)), (7, iv (de : Int)), (6, iv 0), (0, .ref ν), (1, iv q), (2, iv lf), (3, iv lo), (4, iv hi), (5, iv dwi)] rfl (by decide) ?_
  refine v_aload hx DX12_solved_21 3 rfl ?_
  refine v_push hx DX12_solved_22 ?_
  refine v_cVv hx DX12_solved_25 CVRX12_7 [iv 142] (r_zero (s := 142) l G Λ sz μ hR hw (by decide)) hR.o rfl rfl (Nat.le_of_ble_eq_true rfl) (by decide) ⟨Nat.le_refl _, Nat.le_refl _⟩ (fun μ43 hμ43 => ?_)
  obtain ⟨σ9, w9, x9, k9⟩ := RW.abs hμ43.1
  refine v_push hx DX12_solved_28 ?_
  refine v_istore hx DX12_solved_29 [(9, iv 0), (8, iv (dr : Int)), (7, iv (de : Int)), (6, iv 0), (0, .ref ν), (1, iv q), (2, iv lf), (3, iv lo), (4, iv hi), (5, iv dwi)] rfl (by decide) ?_
  exact v_sub [0, 1, 2, 3, 4, 5, 6, 7, 8, 9] _ rfl (L31 100 0 0 μ43 σ9 (by omega) (by omega) (by omega) ⟨w9, fun r h1 h2 h3 => k9 r h1, hμ43.2.mono (by simp)⟩ (by rw [x9, show (0 : Int).toNat = 0 from rfl, tr0]))
