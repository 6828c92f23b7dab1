/-! ===== the reference: columns and equations ===== -/
def MXI (μ : Mem) (ν : Nat) (X : Mx) : Prop := ∀ r c : Int, 0 ≤ r → r < 96 → 0 ≤ c → c < 65 → μ.1 (ν + 7) (65 * r + c) = ((X r.toNat c.toNat).val : Int)
theorem MXI.cong {μ : Mem} {ν : Nat} {X Y : Mx} (h : MXI μ ν X) (e : ∀ r c : Nat, r < 96 → c < 65 → X r c = Y r c) : MXI μ ν Y := fun r c h0 h1 h2 h3 => by rw [h r c h0 h1 h2 h3, e _ _ (by omega) (by omega)]
theorem MXI.fr {μ μ' : Mem} {ν : Nat} {X : Mx} (h : MXI μ ν X) (e : μ'.1 (ν + 7) = μ.1 (ν + 7)) : MXI μ' ν X := fun r c h0 h1 h2 h3 => by rw [e]; exact h r c h0 h1 h2 h3
theorem MXI.put {m m' : Mem} {ν : Nat} {X : Mx} {r c z : Int} {v : F} (h : MXI m ν X) (hr : 0 ≤ r ∧ r < 96) (hc : 0 ≤ c ∧ c < 65) (hz : z = (v.val : Int)) (e : m' = mI m (ν + 7) (65 * r + c) z) : MXI m' ν (fun q j => if q = r.toNat ∧ j = c.toNat then v else X q j) := by
  intro q j h0 h1 h2 h3
  rw [e, mI_at]
  show _ = (((if q.toNat = r.toNat ∧ j.toNat = c.toNat then v else X q.toNat j.toNat) : F).val : Int)
  by_cases w : q = r ∧ j = c
  · rw [if_pos (by omega), if_pos (by omega)]; exact hz
  · rw [if_neg (by omega), if_neg (by omega)]; exact h q j h0 h1 h2 h3
/-- a column's first numbers -/
def colS (X : Mx) (n : Nat) (p : PS) (k : Nat) : Mx := fun q j => if j = n ∧ q < k then p q else X q j
theorem col_step {m m' : Mem} {ν : Nat} {X : Mx} {n : Nat} {p : PS} {k z : Int} (h : MXI m ν (colS X n p k.toNat)) (hk : 0 ≤ k ∧ k < 96) (hn : n < 65) (hz : z = cf p k) (e : m' = mI m (ν + 7) (65 * k + (n : Int)) z) : MXI m' ν (colS X n p (k + 1).toNat) := by
  refine (h.put (c := (n : Int)) (v := p k.toNat) hk (by omega) hz e).cong (fun r c hr hc => ?_)
  unfold colS
  by_cases w : r = k.toNat ∧ c = (n : Int).toNat
  · rw [if_pos w, if_pos (by omega), w.1]
  · rw [if_neg w]
    by_cases w2 : c = n ∧ r < k.toNat
    · rw [if_pos w2, if_pos (by omega)]
    · rw [if_neg w2, if_neg (by omega)]
def setC (X : Mx) (n : Nat) (p : PS) : Mx := fun q j => if j = n then p q else X q j
theorem col_done {m : Mem} {ν : Nat} {X : Mx} {n : Nat} {p : PS} {k : Nat} (h : MXI m ν (colS X n p k)) (hk : 96 ≤ k) : MXI m ν (setC X n p) := h.cong (fun r c hr hc => by
  unfold colS setC
  by_cases w : c = n
  · rw [if_pos ⟨w, by omega⟩, if_pos w]
  · rw [if_neg (fun q => w q.1), if_neg w])
theorem col_start {m : Mem} {ν : Nat} {X : Mx} {n : Nat} {p : PS} (h : MXI m ν X) : MXI m ν (colS X n p (0 : Int).toNat) := h.cong (fun r c hr hc => by
  unfold colS
  rw [if_neg (by omega)])
/-! exchange of two rows -/
def swS (X : Mx) (c row : Nat) (y : F) (k : Nat) : Mx := fun q j => if j < k then (if q = c then X row j * y else if q = row then X c j else X q j) else X q j
theorem sw_start {m : Mem} {ν : Nat} {X : Mx} {c row : Nat} {y : F} (h : MXI m ν X) : MXI m ν (swS X c row y (0 : Int).toNat) := h.cong (fun r c hr hc => by
  unfold swS
  rw [if_neg (by omega)])
theorem sw_step {m m1 m2 : Mem} {ν : Nat} {X : Mx} {c row : Nat} {y : F} {k z1 z2 : Int} (h : MXI m ν (swS X c row y k.toNat)) (hc : c < 96) (hr : row < 96) (hk : 0 ≤ k ∧ k < 65) (e1 : z1 = ((X c k.toNat).val : Int)) (e2 : z2 = ((X row k.toNat * y).val : Int)) (w1 : m1 = mI m (ν + 7) (65 * (row : Int) + k) z1) (w2 : m2 = mI m1 (ν + 7) (65 * (c : Int) + k) z2) : MXI m2 ν (swS X c row y (k + 1).toNat) := by
  refine ((h.put (r := (row : Int)) (c := k) (v := X c k.toNat) (by omega) hk e1 w1).put (r := (c : Int)) (c := k) (v := X row k.toNat * y) (by omega) hk e2 w2).cong (fun q j hq hj => ?_)
  unfold swS
  by_cases d : j = k.toNat
  · subst d
    by_cases d1 : q = c
    · rw [if_pos (by omega), if_pos (by omega), if_pos d1]
    · rw [if_neg (by omega)]
      by_cases d2 : q = row
      · rw [if_pos (by omega), if_pos (by omega), if_neg d1, if_pos d2]
      · rw [if_neg (by omega), if_neg (by omega), if_pos (by omega), if_neg d1, if_neg d2]
  · rw [if_neg (by omega), if_neg (by omega)]
    by_cases d3 : j < k.toNat
    · have d4 : j < (k + 1).toNat := by omega
      simp only [d3, d4, if_true]
    · have d4 : ¬ j < (k + 1).toNat := by omega
      simp only [d3, d4, if_false]
/-! a row taken off the others -/
def elS (Y : Mx) (c r : Nat) : Mx := fun q j => if q < r ∧ q ≠ c then Y q j - Y q c * Y c j else Y q j
def elK (Y : Mx) (c r k : Nat) : Mx := fun q j => if q = r ∧ r ≠ c ∧ j < k then Y r j - Y r c * Y c j else elS Y c r q j
theorem el_start {m : Mem} {ν : Nat} {Y : Mx} {c : Nat} (h : MXI m ν Y) : MXI m ν (elS Y c (0 : Int).toNat) := h.cong (fun q j hr hc => by
  unfold elS
  rw [if_neg (by omega)])
theorem ek_start {m : Mem} {ν : Nat} {Y : Mx} {c r : Nat} (h : MXI m ν (elS Y c r)) : MXI m ν (elK Y c r (0 : Int).toNat) := h.cong (fun q j hr hc => by
  unfold elK
  rw [if_neg (by omega)])
theorem ek_step {m m1 : Mem} {ν : Nat} {Y : Mx} {c r : Nat} {k z : Int} (h : MXI m ν (elK Y c r k.toNat)) (hc : c < 96) (hr : r < 96) (hn : r ≠ c) (hk : 0 ≤ k ∧ k < 65) (e : z = ((Y r k.toNat - Y r c * Y c k.toNat).val : Int)) (w : m1 = mI m (ν + 7) (65 * (r : Int) + k) z) : MXI m1 ν (elK Y c r (k + 1).toNat) := by
  refine (h.put (r := (r : Int)) (c := k) (v := Y r k.toNat - Y r c * Y c k.toNat) (by omega) hk e w).cong (fun q j hq hj => ?_)
  unfold elK
  by_cases d : q = r ∧ j = k.toNat
  · rw [if_pos (by omega), if_pos (by omega), d.2]
  · rw [if_neg (by omega)]
    by_cases d2 : q = r ∧ r ≠ c ∧ j < k.toNat
    · rw [if_pos d2, if_pos (by omega)]
    · rw [if_neg d2, if_neg (by omega)]
theorem ek_done {m : Mem} {ν : Nat} {Y : Mx} {c r k : Nat} (h : MXI m ν (elK Y c r k)) (hk : 65 ≤ k ∨ r = c ∨ Y r c = 0) : MXI m ν (elS Y c (r + 1)) := h.cong (fun q j hq hj => by
  unfold elK elS
  by_cases d : q = r
  · subst d
    by_cases d1 : q = c
    · rw [if_neg (by omega), if_neg (by omega), if_neg (by omega)]
    · rw [if_neg (show ¬ (q < q ∧ q ≠ c) by omega), if_pos (show q < q + 1 ∧ q ≠ c by omega)]
      rcases hk with hk | hk | hk
      · rw [if_pos (by omega)]
      · exact absurd hk d1
      · rw [hk]
        split
        · rfl
        · grind
  · rw [if_neg (by omega)]
    by_cases d2 : q < r ∧ q ≠ c
    · rw [if_pos d2, if_pos (by omega)]
    · rw [if_neg d2, if_neg (by omega)])
theorem el_done {m : Mem} {ν : Nat} {X : Mx} {c row k r : Nat} (hk : 65 ≤ k) (hr : 96 ≤ r) (hc : c < 65) (h : MXI m ν (elS (swS X c row (finv (X row c)) k) c r)) : MXI m ν (gstep X c row) := h.cong (fun q j hq hj => by
  unfold elS gstep gP gbase swS
  by_cases d : q = c
  · rw [if_neg (by omega), if_pos (by omega), if_pos d, if_pos d]
  · simp only [show q < r by omega, d, ne_eq, not_false_eq_true, and_self, if_true, if_false, show j < k by omega, show c < k by omega])
theorem vsub {a b c : F} : (((a - b * c : F).val : Int)) = ((a.val : Int) - (b.val : Int) * (c.val : Int)) % 101 := by
  have h : fi ((a.val : Int) - (b.val : Int) * (c.val : Int)) = a - b * c := by
    have e : (a.val : Int) - (b.val : Int) * (c.val : Int) = (a.val : Int) + (-1) * ((b.val : Int) * (c.val : Int)) := by omega
    rw [e, fi_add, fi_mul, fi_mul]
    have f1 : ∀ x : F, fi (x.val : Int) = x := fun x => by
      have := fi_cf (fun _ => x) 0
      exact this
    rw [f1, f1, f1, show fi (-1) = -1 from by decide]
    grind
  rw [← h, fi_val]
theorem vmul {a b : F} : (((a * b : F).val : Int)) = ((a.val : Int) * (b.val : Int)) % 101 := by
  have f1 : ∀ x : F, fi (x.val : Int) = x := fun x => by
    have := fi_cf (fun _ => x) 0
    exact this
  have h : fi ((a.val : Int) * (b.val : Int)) = a * b := by rw [fi_mul, f1, f1]
  rw [← h, fi_val]
theorem vrng (a : F) : 0 ≤ (a.val : Int) ∧ (a.val : Int) ≤ 100 := ⟨by omega, by have := a.isLt; omega⟩
theorem fz {a : F} (h : (a.val : Int) = 0) : a = 0 := Fin.eq_of_val_eq (by have h2 : a.val = 0 := (by omega); exact h2)
theorem ivI_fin (a : F) : ivI (a.val : Int) = ((finv a).val : Int) := by
  unfold ivI
  have : fi (a.val : Int) = a := fi_cf (fun _ => a) 0
  rw [this]
theorem r_power (l : Launch) (G : Gl) (Λ : Lay) (sz : Nat) (μ : Mem) {ν : Nat} {ρ : Nat → PS} {s : Nat} {k : Int} (hR : refK Λ ν) (hw : RW μ ν ρ) (hs : s < 154) (hk : -1 ≤ k ∧ k < 96) : Sp l G yX12_power cX12_power 3 none 1 [.ref ν, iv (s : Int), iv k] Λ sz μ (pV (fun μ' => RW μ' ν (up ρ s (if k < 0 then PS.zero else PS.zero.set k.toNat 1)) ∧ Fr [ν + 1] μ μ')) := by
  refine Sp.intro (by decide) (Nat.le_of_ble_eq_true rfl) (fun x hx hBD => ?_)
  refine v_lv [(0, .ref ν), (1, iv (s : Int)), (2, iv k)] rfl ?_
  refine v_aload hx DX12_power_0 0 rfl ?_
  refine v_iload hx DX12_power_1 1 rfl ?_
  refine v_cVv hx DX12_power_2 CVRX12_7 [iv (s : Int)] (r_zero l G Λ sz μ hR hw hs) hR.o rfl rfl (Nat.le_of_ble_eq_true rfl) (by decide) ⟨Nat.le_refl _, Nat.le_refl _⟩ (fun μ1 hμ1 => ?_)
  have h2 := hμ1
  refine v_iload hx DX12_power_5 2 rfl ?_
  refine v_if_lt hx DX12_power_6 (by omega) (fun c6 => ?_) (fun c6 => ?_)
  · skip
    exact v_rv hx hBD DX12_power_21 (⟨by rw [if_pos c6]; exact h2.1, h2.2⟩)
  · skip
    refine v_aload hx DX12_power_9 0 rfl ?_
    refine v_get hx DX12_power_10 FLRX12_3 hR.o (v := .ref (ν + 1)) rfl ?_
    refine v_push hx DX12_power_13 ?_
    refine v_iload hx DX12_power_15 1 rfl ?_
    refine v_imul hx DX12_power_16 ?_
    refine v_iload hx DX12_power_17 2 rfl ?_
    refine v_iadd hx DX12_power_18 ?_
    refine v_push hx DX12_power_19 ?_
    refine v_iastm hx DX12_power_20 hR.p (by omega) (by decide) (fun μ3 eμ3 => ?_)
    exact v_rv hx hBD DX12_power_21 (⟨by rw [if_neg (by omega), eμ3]; exact h2.1.put (by omega) (by omega) (by decide) hs, h2.2.trans (by rw [eμ3]; exact Fr.mI (by simp))⟩)
theorem r_column (l : Launch) (G : Gl) (Λ : Lay) (sz : Nat) (μ : Mem) {ν : Nat} {ρ : Nat → PS} {X : Mx} {s n : Nat} (hR : refK Λ ν) (hw : RW μ ν ρ) (hX : MXI μ ν X) (hn : n < 64) (hc : μ.1 ν 16 = (n : Int)) (hs : s < 154) : Sp l G yX12_column cX12_column 3 none 0 [.ref ν, iv (s : Int)] Λ sz μ (pV (fun μ' => MXI μ' ν (setC X n (ρ s)) ∧ μ'.1 ν 16 = (n : Int) + 1 ∧ FrN ν [ν + 7] [16] μ μ')) := by
  refine Sp.intro (by decide) (Nat.le_of_ble_eq_true rfl) (fun x hx hBD => ?_)
  refine v_lv [(0, .ref ν), (1, iv (s : Int))] rfl ?_
  have L2 : ∀ (nf : Nat) (k : Int) (m : Mem), (96 - k < (nf : Int)) → (0 ≤ k ∧ k ≤ 96) → (MXI m ν (colS X n (ρ s) k.toNat)) → (FrN ν [ν + 7] [16] μ m) → (m.1 ν 16 = (n : Int)) → V G x (0, 0) Λ sz m 2 [(2, iv k), (0, .ref ν), (1, iv (s : Int))] [] := by
    intro nf
    induction nf with
    | zero => intro k m hm hk hm hf hc2; exact absurd hm (by omega)
    | succ nf ih =>
      intro k m hm hk hm hf hc2
      refine v_iload hx DX12_column_2 0 rfl ?_
      refine v_push hx DX12_column_3 ?_
      refine v_icmp_ge hx DX12_column_5 (by omega) (by decide) (fun c5 => ?_) (fun c5 => ?_)
      · skip
        refine v_aload hx DX12_column_39 1 rfl ?_
        refine v_dup hx DX12_column_40 rfl ?_
        refine v_get hx DX12_column_41 FLRX12_259 hR.o (fv_i rfl hc2 : _ = iv (n : Int)) ?_
        refine v_push hx DX12_column_44 ?_
        refine v_iadd hx DX12_column_45 ?_
        refine v_pI hx DX12_column_46 FPRX12_259 hR.o rfl (ki := 16) rfl (fun μ1 eμ1 => ?_)
        exact v_rv hx hBD DX12_column_49 (⟨(col_done (m := μ1) (hm.fr (by rw [eμ1, mI_ne (by omega)])) (by omega)), by rw [eμ1, mI_at, if_pos (by omega)], hf.trans (by rw [eμ1]; exact FrN.wJ (by simp))⟩)
      · skip
        refine v_aload hx DX12_column_8 1 rfl ?_
        refine v_get hx DX12_column_9 FLRX12_84 hR.o (v := .ref (ν + 7)) rfl ?_
        refine v_push hx DX12_column_12 ?_
        refine v_iload hx DX12_column_14 0 rfl ?_
        refine v_imul hx DX12_column_15 ?_
        refine v_aload hx DX12_column_16 1 rfl ?_
        refine v_get hx DX12_column_17 FLRX12_259 hR.o (fv_i rfl hc2 : _ = iv (n : Int)) ?_
        refine v_iadd hx DX12_column_20 ?_
        refine v_aload hx DX12_column_21 1 rfl ?_
        refine v_get hx DX12_column_22 FLRX12_3 hR.o (v := .ref (ν + 1)) rfl ?_
        refine v_push hx DX12_column_25 ?_
        refine v_iload hx DX12_column_27 2 rfl ?_
        refine v_imul hx DX12_column_28 ?_
        refine v_iload hx DX12_column_29 0 rfl ?_
        refine v_iadd hx DX12_column_30 ?_
        refine v_iald hx DX12_column_31 hR.p (by omega) (by decide) (z := cf (ρ s) k) (by rw [hf.1 _ (by omega) (by simp)]; exact hw.at hs (by omega) (by omega) rfl) ?_
        refine v_iastm hx DX12_column_32 hR.cells (by omega) (by decide) (fun μ2 eμ2 => ?_)
        refine v_iinc hx DX12_column_33 0 rfl [(2, iv (k + 1)), (0, .ref ν), (1, iv (s : Int))] rfl (by decide) ?_
        refine v_goto hx DX12_column_36 ?_
        exact v_sub [0, 1, 2] _ rfl (ih (k + 1) μ2 (by omega) (by omega) (col_step hm (by omega) (by omega) rfl eμ2) (hf.trans (by rw [eμ2]; exact FrN.wI (by simp) (by omega))) (by rw [eμ2, mI_ne (by omega)]; exact hc2))
  refine v_push hx DX12_column_0 ?_
  refine v_istore hx DX12_column_1 [(2, iv 0), (0, .ref ν), (1, iv (s : Int))] rfl (by decide) ?_
  exact v_sub [0, 1, 2] _ rfl (L2 100 0 μ (by omega) (by omega) (col_start hX) FrN.rf hc)
theorem r_solves (l : Launch) (G : Gl) (Λ : Lay) (sz : Nat) (μ : Mem) {ν : Nat} {ρ : Nat → PS} {Z : Mx} {s n : Nat} {y : Nat → F} (hR : refK Λ ν) (hw : RW μ ν ρ) (hX : MXI μ ν Z) (hn : n ≤ 64) (hc : μ.1 ν 16 = (n : Int)) (hs : s < 154) (hI : Ind n (setC Z 64 (ρ s))) (hy : spt n y ∧ y 64 = -1) (hk0 : Ker (setC Z 64 (ρ s)) y) : Sp l G yX12_solves cX12_solves 8 none 1 [.ref ν, iv (s : Int)] Λ sz μ (pV (fun μ' => (∀ c : Nat, c < n → μ'.1 (ν + 8) (c : Int) = ((y c).val : Int)) ∧ (∃ X, MXI μ' ν X) ∧ FrN ν [ν + 7, ν + 8] [] μ μ')) := by
  refine Sp.intro (by decide) (Nat.le_of_ble_eq_true rfl) (fun x hx hBD => ?_)
  refine v_lv [(0, .ref ν), (1, iv (s : Int))] rfl ?_
  have L279 : ∀ (nf : Nat) (c : Int) (m : Mem), ((n : Int) - c < (nf : Int)) → (0 ≤ c ∧ c ≤ n) → (∀ q : Nat, q < n → m.1 (ν + 7) (65 * (q : Int) + 64) = ((y q).val : Int)) → (∀ q : Nat, (q : Int) < c → m.1 (ν + 8) (q : Int) = ((y q).val : Int)) → (∃ X, MXI m ν X) → (FrN ν [ν + 7, ν + 8] [] μ m) → V G x (0, 0) Λ sz m 279 [(2, iv c), (0, .ref ν), (1, iv (s : Int))] [] := by
    intro nf
    induction nf with
    | zero => intro c m hm hcr hv hd hXm hf; exact absurd hm (by omega)
    | succ nf ih =>
      intro c m hm hcr hv hd hXm hf
      have h16 := (hf.2.1 16 (by simp)).trans hc
      refine v_iload hx DX12_solves_279 0 rfl ?_
      refine v_aload hx DX12_solves_280 1 rfl ?_
      refine v_get hx DX12_solves_281 FLRX12_259 hR.o (fv_i rfl h16 : _ = iv (n : Int)) ?_
      refine v_icmp_ge hx DX12_solves_284 (by omega) (by omega) (fun c284 => ?_) (fun c284 => ?_)
      · skip
        exact v_rv hx hBD DX12_solves_311 (⟨fun q hq => hd q (by omega), hXm, hf⟩)
      · skip
        refine v_aload hx DX12_solves_287 1 rfl ?_
        refine v_get hx DX12_solves_288 FLRX12_87 hR.o (v := .ref (ν + 8)) rfl ?_
        refine v_iload hx DX12_solves_291 0 rfl ?_
        refine v_aload hx DX12_solves_292 1 rfl ?_
        refine v_get hx DX12_solves_293 FLRX12_84 hR.o (v := .ref (ν + 7)) rfl ?_
        refine v_push hx DX12_solves_296 ?_
        refine v_iload hx DX12_solves_298 0 rfl ?_
        refine v_imul hx DX12_solves_299 ?_
        refine v_push hx DX12_solves_300 ?_
        refine v_iadd hx DX12_solves_302 ?_
        refine v_iald hx DX12_solves_303 hR.cells (by omega) (by decide) (z := ((y c.toNat).val : Int)) (by have q := hv c.toNat (by omega); rwa [Int.toNat_of_nonneg (by omega)] at q) ?_
        refine v_iastm hx DX12_solves_304 hR.solution (by omega) (by decide) (fun μ1 eμ1 => ?_)
        refine v_iinc hx DX12_solves_305 0 rfl [(2, iv (c + 1)), (0, .ref ν), (1, iv (s : Int))] rfl (by decide) ?_
        refine v_goto hx DX12_solves_308 ?_
        exact v_sub [0, 1, 2] _ rfl (ih (c + 1) μ1 (by omega) (by omega) (fun q hq => by rw [eμ1, mI_ne (by omega)]; exact hv q hq) (fun q hq => by rw [eμ1, mI_at]; exact (Classical.em ((q : Int) = c)).elim (fun w => by rw [if_pos w, show c.toNat = q by omega]) (fun w => by rw [if_neg w]; exact hd q (by omega))) (hXm.elim (fun X h => ⟨X, h.fr (by rw [eμ1, mI_ne (by omega)])⟩)) (hf.trans (by rw [eμ1]; exact FrN.wI (by simp) (by omega))))
  have L202 : ∀ (nf : Nat) (c r o k : Int) (m : Mem) (Y : Mx), (65 - k < (nf : Int)) → (0 ≤ c ∧ c < n) → (0 ≤ r ∧ r < 96) → ((r = c ∧ o = 0) ∨ (r ≠ c ∧ o = ((Y r.toNat c.toNat).val : Int))) → (0 ≤ k ∧ k ≤ 65) → (MXI m ν (elK Y c.toNat r.toNat k.toNat)) → (FrN ν [ν + 7] [] μ m) → (∀ (m3 : Mem), (MXI m3 ν (elS Y c.toNat (r + 1).toNat)) → (FrN ν [ν + 7] [] μ m3) → V G x (0, 0) Λ sz m3 265 [(5, iv r), (2, iv c), (0, .ref ν), (1, iv (s : Int))] []) → V G x (0, 0) Λ sz m 202 [(7, iv k), (6, iv o), (5, iv r), (2, iv c), (0, .ref ν), (1, iv (s : Int))] [] := by
    intro nf
    induction nf with
    | zero => intro c r o k m Y hm hcr hr ho hk hm hf hC; exact absurd hm (by omega)
    | succ nf ih =>
      intro c r o k m Y hm hcr hr ho hk hm hf hC
      have v1 := vrng (Y r.toNat k.toNat)
      have v2 := vrng (Y c.toNat k.toNat)
      have v3 := vrng (Y r.toNat c.toNat)
      have mb := mulb (a := o) (b := ((Y c.toNat k.toNat).val : Int)) (B := 100) (A := 100) (by omega) (by omega) v2.1 v2.2
      refine v_iload hx DX12_solves_202 1 rfl ?_
      refine v_if_eq hx DX12_solves_204 (by omega) (fun c204 => ?_) (fun c204 => ?_)
      · skip
        exact v_sub [2, 3, 4, 5] _ rfl (hC m (by have q := ek_done hm (Or.inr (ho.elim (fun w => Or.inl (by omega)) (fun w => Or.inr (fz (by omega))))); rwa [show (r + 1).toNat = r.toNat + 1 by omega]) hf)
      · skip
        refine v_iload hx DX12_solves_207 0 rfl ?_
        refine v_push hx DX12_solves_209 ?_
        refine v_icmp_ge hx DX12_solves_211 (by omega) (by decide) (fun c211 => ?_) (fun c211 => ?_)
        · skip
          exact v_sub [2, 3, 4, 5] _ rfl (hC m (by have q := ek_done hm (Or.inl (by omega)); rwa [show (r + 1).toNat = r.toNat + 1 by omega]) hf)
        · skip
          refine v_aload hx DX12_solves_214 4 rfl ?_
          refine v_get hx DX12_solves_215 FLRX12_84 hR.o (v := .ref (ν + 7)) rfl ?_
          refine v_push hx DX12_solves_218 ?_
          refine v_iload hx DX12_solves_220 2 rfl ?_
          refine v_imul hx DX12_solves_222 ?_
          refine v_iload hx DX12_solves_223 0 rfl ?_
          refine v_iadd hx DX12_solves_225 ?_
          refine v_aload hx DX12_solves_226 4 rfl ?_
          refine v_get hx DX12_solves_227 FLRX12_84 hR.o (v := .ref (ν + 7)) rfl ?_
          refine v_push hx DX12_solves_230 ?_
          refine v_iload hx DX12_solves_232 2 rfl ?_
          refine v_imul hx DX12_solves_234 ?_
          refine v_iload hx DX12_solves_235 0 rfl ?_
          refine v_iadd hx DX12_solves_237 ?_
          refine v_iald hx DX12_solves_238 hR.cells (by omega) (by decide) (z := ((Y r.toNat k.toNat).val : Int)) (by rw [hm r k (by omega) (by omega) (by omega) (by omega)]; unfold elK; rw [if_neg (by omega)]; unfold elS; rw [if_neg (by omega)]) ?_
          refine v_iload hx DX12_solves_239 1 rfl ?_
          refine v_aload hx DX12_solves_241 4 rfl ?_
          refine v_get hx DX12_solves_242 FLRX12_84 hR.o (v := .ref (ν + 7)) rfl ?_
          refine v_push hx DX12_solves_245 ?_
          refine v_iload hx DX12_solves_247 3 rfl ?_
          refine v_imul hx DX12_solves_248 ?_
          refine v_iload hx DX12_solves_249 0 rfl ?_
          refine v_iadd hx DX12_solves_251 ?_
          refine v_iald hx DX12_solves_252 hR.cells (by omega) (by decide) (z := ((Y c.toNat k.toNat).val : Int)) (by rw [hm c k (by omega) (by omega) (by omega) (by omega)]; unfold elK; rw [if_neg (by omega)]; unfold elS; rw [if_neg (by omega)]) ?_
          refine v_imul hx DX12_solves_253 ?_
          refine v_isub hx DX12_solves_254 ?_
          refine v_cSp hx DX12_solves_255 CSRX12_11 [iv (((Y r.toNat k.toNat).val : Int) - (o * ((Y c.toNat k.toNat).val : Int)))] (r_mod l G Λ sz m (by omega)) rfl rfl (Nat.le_of_ble_eq_true rfl) (by decide) ⟨Nat.le_refl _, Nat.le_refl _⟩ ?_
          refine v_iastm hx DX12_solves_258 hR.cells (by omega) (by decide) (fun μ4 eμ4 => ?_)
          refine v_iinc hx DX12_solves_259 0 rfl [(7, iv (k + 1)), (6, iv o), (5, iv r), (2, iv c), (0, .ref ν), (1, iv (s : Int))] rfl (by decide) ?_
          refine v_goto hx DX12_solves_262 ?_
          exact v_sub [0, 1, 2, 3, 4, 5] _ rfl (ih c r o (k + 1) μ4 Y (by omega) hcr hr ho (by omega) (ek_step (z := (((Y r.toNat k.toNat).val : Int) - o * ((Y c.toNat k.toNat).val : Int)) % 101) hm (by omega) (by omega) (by omega) (by omega) (by rw [vsub, show o = ((Y r.toNat c.toNat).val : Int) by omega]) (by rw [eμ4]; congr 1; omega)) (hf.trans (by rw [eμ4]; exact FrN.wI (by simp) (by omega))) hC)
  have L168 : ∀ (nf : Nat) (c r : Int) (m : Mem) (Y : Mx), (96 - r < (nf : Int)) → (0 ≤ c ∧ c < n) → (0 ≤ r ∧ r ≤ 96) → (MXI m ν (elS Y c.toNat r.toNat)) → (FrN ν [ν + 7] [] μ m) → (∀ (m5 : Mem), (MXI m5 ν (elS Y c.toNat 96)) → (FrN ν [ν + 7] [] μ m5) → V G x (0, 0) Λ sz m5 271 [(2, iv c), (0, .ref ν), (1, iv (s : Int))] []) → V G x (0, 0) Λ sz m 168 [(5, iv r), (2, iv c), (0, .ref ν), (1, iv (s : Int))] [] := by
    intro nf
    induction nf with
    | zero => intro c r m Y hm hcr hr hm hf hC; exact absurd hm (by omega)
    | succ nf ih =>
      intro c r m Y hm hcr hr hm hf hC
      have vo := vrng (Y r.toNat c.toNat)
      refine v_iload hx DX12_solves_168 0 rfl ?_
      refine v_push hx DX12_solves_170 ?_
      refine v_icmp_ge hx DX12_solves_172 (by omega) (by decide) (fun c172 => ?_) (fun c172 => ?_)
      · skip
        exact v_sub [1, 2, 3] _ rfl (hC m (by have q := hm; rw [show r.toNat = 96 by omega] at q; exact q) hf)
      · skip
        refine v_iload hx DX12_solves_175 0 rfl ?_
        refine v_iload hx DX12_solves_177 1 rfl ?_
        refine v_icmp_ne hx DX12_solves_178 (by omega) (by omega) (fun c178 => ?_) (fun c178 => ?_)
        · skip
          refine v_aload hx DX12_solves_185 2 rfl ?_
          refine v_get hx DX12_solves_186 FLRX12_84 hR.o (v := .ref (ν + 7)) rfl ?_
          refine v_push hx DX12_solves_189 ?_
          refine v_iload hx DX12_solves_191 0 rfl ?_
          refine v_imul hx DX12_solves_193 ?_
          refine v_iload hx DX12_solves_194 1 rfl ?_
          refine v_iadd hx DX12_solves_195 ?_
          refine v_iald hx DX12_solves_196 hR.cells (by omega) (by decide) (z := ((Y r.toNat c.toNat).val : Int)) (by rw [hm r c (by omega) (by omega) (by omega) (by omega)]; unfold elS; rw [if_neg (by omega)]) ?_
          refine v_istore hx DX12_solves_197 [(6, iv ((Y r.toNat c.toNat).val : Int)), (5, iv r), (2, iv c), (0, .ref ν), (1, iv (s : Int))] rfl (by decide) ?_
          refine v_push hx DX12_solves_199 ?_
          refine v_istore hx DX12_solves_200 [(7, iv 0), (6, iv ((Y r.toNat c.toNat).val : Int)), (5, iv r), (2, iv c), (0, .ref ν), (1, iv (s : Int))] rfl (by decide) ?_
          refine v_sub [0, 1, 2, 3, 4, 5] _ rfl (L202 100 c r ((Y r.toNat c.toNat).val : Int) 0 m Y (by omega) hcr (by omega) (by omega) (by omega) (ek_start hm) hf (fun m3 hm3 hf3 => ?_))
          refine v_iinc hx DX12_solves_265 0 rfl [(5, iv (r + 1)), (2, iv c), (0, .ref ν), (1, iv (s : Int))] rfl (by decide) ?_
          refine v_goto hx DX12_solves_268 ?_
          exact v_sub [0, 1, 2, 3] _ rfl (ih c (r + 1) m3 Y (by omega) hcr (by omega) hm3 hf3 hC)
        · skip
          refine v_push hx DX12_solves_181 ?_
          refine v_goto hx DX12_solves_182 ?_
          refine v_istore hx DX12_solves_197 [(6, iv 0), (5, iv r), (2, iv c), (0, .ref ν), (1, iv (s : Int))] rfl (by decide) ?_
          refine v_push hx DX12_solves_199 ?_
          refine v_istore hx DX12_solves_200 [(7, iv 0), (6, iv 0), (5, iv r), (2, iv c), (0, .ref ν), (1, iv (s : Int))] rfl (by decide) ?_
          refine v_sub [0, 1, 2, 3, 4, 5] _ rfl (L202 100 c r 0 0 m Y (by omega) hcr (by omega) (by omega) (by omega) (ek_start hm) hf (fun m3 hm3 hf3 => ?_))
          refine v_iinc hx DX12_solves_265 0 rfl [(5, iv (r + 1)), (2, iv c), (0, .ref ν), (1, iv (s : Int))] rfl (by decide) ?_
          refine v_goto hx DX12_solves_268 ?_
          exact v_sub [0, 1, 2, 3] _ rfl (ih c (r + 1) m3 Y (by omega) hcr (by omega) hm3 hf3 hC)
  have L94 : ∀ (nf : Nat) (c row yv k : Int) (m : Mem) (X : Mx), (65 - k < (nf : Int)) → (0 ≤ c ∧ c < n) → (c ≤ row ∧ row ≤ 95) → (X row.toNat c.toNat ≠ 0) → (yv = ((finv (X row.toNat c.toNat)).val : Int)) → (0 ≤ k ∧ k ≤ 65) → (MXI m ν (swS X c.toNat row.toNat (finv (X row.toNat c.toNat)) k.toNat)) → (FrN ν [ν + 7] [] μ m) → (∀ (m2 : Mem), (MXI m2 ν (swS X c.toNat row.toNat (finv (X row.toNat c.toNat)) 65)) → (FrN ν [ν + 7] [] μ m2) → V G x (0, 0) Λ sz m2 165 [(2, iv c), (0, .ref ν), (1, iv (s : Int))] []) → V G x (0, 0) Λ sz m 94 [(5, iv k), (4, iv yv), (3, iv row), (2, iv c), (0, .ref ν), (1, iv (s : Int))] [] := by
    intro nf
    induction nf with
    | zero => intro c row yv k m X hm hcr hrr hP hyv hk hm hf hC; exact absurd hm (by omega)
    | succ nf ih =>
      intro c row yv k m X hm hcr hrr hP hyv hk hm hf hC
      have vr := vrng (X row.toNat k.toNat)
      have vy := vrng (finv (X row.toNat c.toNat))
      have mb := mulb (a := ((X row.toNat k.toNat).val : Int)) (b := yv) (B := 100) vr.1 vr.2 (by omega) (by omega)
      refine v_iload hx DX12_solves_94 0 rfl ?_
      refine v_push hx DX12_solves_96 ?_
      refine v_icmp_ge hx DX12_solves_98 (by omega) (by decide) (fun c98 => ?_) (fun c98 => ?_)
      · skip
        exact v_sub [3, 4, 5] _ rfl (hC m (by have q := hm; rw [show k.toNat = 65 by omega] at q; exact q) hf)
      · skip
        refine v_aload hx DX12_solves_101 4 rfl ?_
        refine v_get hx DX12_solves_102 FLRX12_84 hR.o (v := .ref (ν + 7)) rfl ?_
        refine v_push hx DX12_solves_105 ?_
        refine v_iload hx DX12_solves_107 2 rfl ?_
        refine v_imul hx DX12_solves_108 ?_
        refine v_iload hx DX12_solves_109 0 rfl ?_
        refine v_iadd hx DX12_solves_111 ?_
        refine v_iald hx DX12_solves_112 hR.cells (by omega) (by decide) (z := ((X row.toNat k.toNat).val : Int)) (by rw [hm row k (by omega) (by omega) (by omega) (by omega)]; unfold swS; rw [if_neg (by omega)]) ?_
        refine v_iload hx DX12_solves_113 1 rfl ?_
        refine v_imul hx DX12_solves_115 ?_
        refine v_push hx DX12_solves_116 ?_
        refine v_irem hx (by omega) (by decide) DX12_solves_118 ?_
        refine v_istore hx DX12_solves_119 [(6, iv ((((X row.toNat k.toNat).val : Int) * yv) % 101)), (5, iv k), (4, iv yv), (3, iv row), (2, iv c), (0, .ref ν), (1, iv (s : Int))] rfl (by decide) ?_
        refine v_aload hx DX12_solves_121 5 rfl ?_
        refine v_get hx DX12_solves_122 FLRX12_84 hR.o (v := .ref (ν + 7)) rfl ?_
        refine v_push hx DX12_solves_125 ?_
        refine v_iload hx DX12_solves_127 3 rfl ?_
        refine v_imul hx DX12_solves_128 ?_
        refine v_iload hx DX12_solves_129 1 rfl ?_
        refine v_iadd hx DX12_solves_131 ?_
        refine v_aload hx DX12_solves_132 5 rfl ?_
        refine v_get hx DX12_solves_133 FLRX12_84 hR.o (v := .ref (ν + 7)) rfl ?_
        refine v_push hx DX12_solves_136 ?_
        refine v_iload hx DX12_solves_138 4 rfl ?_
        refine v_imul hx DX12_solves_139 ?_
        refine v_iload hx DX12_solves_140 1 rfl ?_
        refine v_iadd hx DX12_solves_142 ?_
        refine v_iald hx DX12_solves_143 hR.cells (by omega) (by decide) (z := ((X c.toNat k.toNat).val : Int)) (by rw [hm c k (by omega) (by omega) (by omega) (by omega)]; unfold swS; rw [if_neg (by omega)]) ?_
        refine v_iastm hx DX12_solves_144 hR.cells (by omega) (by decide) (fun μ5 eμ5 => ?_)
        refine v_aload hx DX12_solves_145 5 rfl ?_
        refine v_get hx DX12_solves_146 FLRX12_84 hR.o (v := .ref (ν + 7)) rfl ?_
        refine v_push hx DX12_solves_149 ?_
        refine v_iload hx DX12_solves_151 4 rfl ?_
        refine v_imul hx DX12_solves_152 ?_
        refine v_iload hx DX12_solves_153 1 rfl ?_
        refine v_iadd hx DX12_solves_155 ?_
        refine v_iload hx DX12_solves_156 0 rfl ?_
        refine v_iastm hx DX12_solves_158 hR.cells (by omega) (by decide) (fun μ6 eμ6 => ?_)
        refine v_iinc hx DX12_solves_159 1 rfl [(5, iv (k + 1)), (6, iv ((((X row.toNat k.toNat).val : Int) * yv) % 101)), (4, iv yv), (3, iv row), (2, iv c), (0, .ref ν), (1, iv (s : Int))] rfl (by decide) ?_
        refine v_goto hx DX12_solves_162 ?_
        exact v_sub [0, 2, 3, 4, 5, 6] _ rfl (ih c row yv (k + 1) μ6 X (by omega) hcr hrr hP hyv (by omega) (sw_step (m1 := μ5) (z1 := ((X c.toNat k.toNat).val : Int)) (z2 := ((X row.toNat k.toNat).val : Int) * yv % 101) hm (by omega) (by omega) (by omega) rfl (by rw [vmul, hyv]) (by rw [eμ5]; congr 1; omega) (by rw [eμ6]; congr 1; omega)) (hf.trans (by rw [eμ6, eμ5]; exact (FrN.wI (by simp) (by omega)).trans (FrN.wI (by simp) (by omega)))) hC)
  have L49 : ∀ (nf : Nat) (c row : Int) (m : Mem) (X : Mx), (95 - row < (nf : Int)) → (0 ≤ c ∧ c < n) → (c ≤ row ∧ row ≤ 95) → (MXI m ν X) → (∀ q : Nat, c.toNat ≤ q → (q : Int) < row → X q c.toNat = 0) → (∃ q : Nat, c.toNat ≤ q ∧ q < 96 ∧ X q c.toNat ≠ 0) → (∀ (rq : Int), (c ≤ rq ∧ rq ≤ 95) → (X rq.toNat c.toNat ≠ 0) → V G x (0, 0) Λ sz m 75 [(3, iv rq), (2, iv c), (0, .ref ν), (1, iv (s : Int))] []) → V G x (0, 0) Λ sz m 49 [(3, iv row), (2, iv c), (0, .ref ν), (1, iv (s : Int))] [] := by
    intro nf
    induction nf with
    | zero => intro c row m X hm hcr hrr hm hz hx0 hC; exact absurd hm (by omega)
    | succ nf ih =>
      intro c row m X hm hcr hrr hm hz hx0 hC
      have vr := vrng (X row.toNat c.toNat)
      refine v_iload hx DX12_solves_49 0 rfl ?_
      refine v_push hx DX12_solves_50 ?_
      refine v_icmp_ge hx DX12_solves_52 (by omega) (by decide) (fun c52 => ?_) (fun c52 => ?_)
      · skip
        exact v_sub [0, 1, 2, 3] _ rfl (hC row hrr (hx0.elim (fun q w e => w.2.2 ((Classical.em ((q : Int) < row)).elim (fun u => hz q w.1 u) (fun u => by have : q = row.toNat := (by omega); rw [this]; exact e)))))
      · skip
        refine v_aload hx DX12_solves_55 2 rfl ?_
        refine v_get hx DX12_solves_56 FLRX12_84 hR.o (v := .ref (ν + 7)) rfl ?_
        refine v_push hx DX12_solves_59 ?_
        refine v_iload hx DX12_solves_61 0 rfl ?_
        refine v_imul hx DX12_solves_62 ?_
        refine v_iload hx DX12_solves_63 1 rfl ?_
        refine v_iadd hx DX12_solves_64 ?_
        refine v_iald hx DX12_solves_65 hR.cells (by omega) (by decide) (z := ((X row.toNat c.toNat).val : Int)) (hm row c (by omega) (by omega) (by omega) (by omega)) ?_
        refine v_if_ne hx DX12_solves_66 (by omega) (fun c66 => ?_) (fun c66 => ?_)
        · skip
          exact v_sub [0, 1, 2, 3] _ rfl (hC row hrr (fun e => c66 (by rw [e]; rfl)))
        · skip
          refine v_iinc hx DX12_solves_69 0 rfl [(3, iv (row + 1)), (2, iv c), (0, .ref ν), (1, iv (s : Int))] rfl (by decide) ?_
          refine v_goto hx DX12_solves_72 ?_
          exact v_sub [0, 1, 2, 3] _ rfl (ih c (row + 1) m X (by omega) hcr (by omega) hm (fun q h0 h1 => (Classical.em ((q : Int) = row)).elim (fun w => by have : q = row.toNat := (by omega); rw [this]; exact fz c66) (fun w => hz q h0 (by omega))) hx0 hC)
  have L39 : ∀ (nf : Nat) (c : Int) (m : Mem) (X : Mx), ((n : Int) - c < (nf : Int)) → (0 ≤ c ∧ c ≤ n) → (MXI m ν X) → (GIv (setC Z 64 (ρ s)) n c.toNat X) → (FrN ν [ν + 7] [] μ m) → V G x (0, 0) Λ sz m 39 [(2, iv c), (0, .ref ν), (1, iv (s : Int))] [] := by
    intro nf
    induction nf with
    | zero => intro c m X hm hcr hm hG hf; exact absurd hm (by omega)
    | succ nf ih =>
      intro c m X hm hcr hm hG hf
      have h16 := (hf.2.1 16 (by simp)).trans hc
      refine v_iload hx DX12_solves_39 0 rfl ?_
      refine v_aload hx DX12_solves_40 1 rfl ?_
      refine v_get hx DX12_solves_41 FLRX12_259 hR.o (fv_i rfl h16 : _ = iv (n : Int)) ?_
      refine v_icmp_ge hx DX12_solves_44 (by omega) (by omega) (fun c44 => ?_) (fun c44 => ?_)
      · skip
        refine v_push hx DX12_solves_277 ?_
        refine v_istore hx DX12_solves_278 [(2, iv 0), (0, .ref ν), (1, iv (s : Int))] rfl (by decide) ?_
        exact v_sub [0, 1, 2] _ rfl (L279 100 0 m (by omega) (by omega) (fun q hq => by have g := hm (q : Int) 64 (by omega) (by omega) (by omega) (by omega); rw [g]; have e := hG; rw [show c.toNat = n by omega] at e; have d := e.done hn hy.1 hy.2 hk0 q hq; show ((X q 64).val : Int) = _; rw [d]) (fun q hq => by omega) ⟨X, hm⟩ (hf.mono (by simp) (by simp)))
      · skip
        refine v_iload hx DX12_solves_47 0 rfl ?_
        refine v_istore hx DX12_solves_48 [(3, iv c), (2, iv c), (0, .ref ν), (1, iv (s : Int))] rfl (by decide) ?_
        refine v_sub [0, 1, 2, 3] _ rfl (L49 100 c c m X (by omega) (by omega) (by omega) hm (fun q h0 h1 => by omega) (hG.pivot hI (by omega) hn) (fun rq hrr hP => ?_))
        have vr := vrng (X rq.toNat c.toNat)
        refine v_aload hx DX12_solves_75 2 rfl ?_
        refine v_get hx DX12_solves_76 FLRX12_84 hR.o (v := .ref (ν + 7)) rfl ?_
        refine v_push hx DX12_solves_79 ?_
        refine v_iload hx DX12_solves_81 0 rfl ?_
        refine v_imul hx DX12_solves_82 ?_
        refine v_iload hx DX12_solves_83 1 rfl ?_
        refine v_iadd hx DX12_solves_84 ?_
        refine v_iald hx DX12_solves_85 hR.cells (by omega) (by decide) (z := ((X rq.toNat c.toNat).val : Int)) (hm rq c (by omega) (by omega) (by omega) (by omega)) ?_
        refine v_cSp hx DX12_solves_86 CSRX12_24 [iv ((X rq.toNat c.toNat).val : Int)] (r_over l G Λ sz m vr) rfl rfl (Nat.le_of_ble_eq_true rfl) (by decide) ⟨Nat.le_refl _, Nat.le_refl _⟩ ?_
        have vi := ivI_rng ((X rq.toNat c.toNat).val : Int)
        refine v_istore hx DX12_solves_89 [(4, iv (ivI ((X rq.toNat c.toNat).val : Int))), (3, iv rq), (2, iv c), (0, .ref ν), (1, iv (s : Int))] rfl (by decide) ?_
        refine v_push hx DX12_solves_91 ?_
        refine v_istore hx DX12_solves_92 [(5, iv 0), (4, iv (ivI ((X rq.toNat c.toNat).val : Int))), (3, iv rq), (2, iv c), (0, .ref ν), (1, iv (s : Int))] rfl (by decide) ?_
        refine v_sub [0, 1, 2, 3, 4, 5] _ rfl (L94 100 c rq (ivI ((X rq.toNat c.toNat).val : Int)) 0 m X (by omega) (by omega) hrr hP (ivI_fin _) (by omega) (sw_start hm) hf (fun m2 hm2 hf2 => ?_))
        refine v_push hx DX12_solves_165 ?_
        refine v_istore hx DX12_solves_166 [(5, iv 0), (2, iv c), (0, .ref ν), (1, iv (s : Int))] rfl (by decide) ?_
        refine v_sub [0, 1, 2, 3] _ rfl (L168 100 c 0 m2 (swS X c.toNat rq.toNat (finv (X rq.toNat c.toNat)) 65) (by omega) (by omega) (by omega) (el_start hm2) hf2 (fun m5 hE hf5 => ?_))
        refine v_iinc hx DX12_solves_271 0 rfl [(2, iv (c + 1)), (0, .ref ν), (1, iv (s : Int))] rfl (by decide) ?_
        refine v_goto hx DX12_solves_274 ?_
        exact v_sub [0, 1, 2] _ rfl (ih (c + 1) m5 (gstep X c.toNat rq.toNat) (by omega) (by omega) (el_done (by omega) (by omega) (by omega) hE) (by have g := hG.step (by omega) (by omega) (by omega) hP; rwa [show (c + 1).toNat = c.toNat + 1 by omega]) hf5)
  have L2 : ∀ (nf : Nat) (k : Int) (m : Mem), (96 - k < (nf : Int)) → (0 ≤ k ∧ k ≤ 96) → (MXI m ν (colS Z 64 (ρ s) k.toNat)) → (FrN ν [ν + 7] [] μ m) → V G x (0, 0) Λ sz m 2 [(2, iv k), (0, .ref ν), (1, iv (s : Int))] [] := by
    intro nf
    induction nf with
    | zero => intro k m hm hk hm hf; exact absurd hm (by omega)
    | succ nf ih =>
      intro k m hm hk hm hf
      refine v_iload hx DX12_solves_2 0 rfl ?_
      refine v_push hx DX12_solves_3 ?_
      refine v_icmp_ge hx DX12_solves_5 (by omega) (by decide) (fun c5 => ?_) (fun c5 => ?_)
      · skip
        refine v_push hx DX12_solves_37 ?_
        refine v_istore hx DX12_solves_38 [(2, iv 0), (0, .ref ν), (1, iv (s : Int))] rfl (by decide) ?_
        exact v_sub [0, 1, 2] _ rfl (L39 100 0 m (setC Z 64 (ρ s)) (by omega) (by omega) (col_done hm (by omega)) (GIv.start _ _) hf)
      · skip
        refine v_aload hx DX12_solves_8 1 rfl ?_
        refine v_get hx DX12_solves_9 FLRX12_84 hR.o (v := .ref (ν + 7)) rfl ?_
        refine v_push hx DX12_solves_12 ?_
        refine v_iload hx DX12_solves_14 0 rfl ?_
        refine v_imul hx DX12_solves_15 ?_
        refine v_push hx DX12_solves_16 ?_
        refine v_iadd hx DX12_solves_18 ?_
        refine v_aload hx DX12_solves_19 1 rfl ?_
        refine v_get hx DX12_solves_20 FLRX12_3 hR.o (v := .ref (ν + 1)) rfl ?_
        refine v_push hx DX12_solves_23 ?_
        refine v_iload hx DX12_solves_25 2 rfl ?_
        refine v_imul hx DX12_solves_26 ?_
        refine v_iload hx DX12_solves_27 0 rfl ?_
        refine v_iadd hx DX12_solves_28 ?_
        refine v_iald hx DX12_solves_29 hR.p (by omega) (by decide) (z := cf (ρ s) k) (by rw [hf.1 _ (by omega) (by simp)]; exact hw.at hs (by omega) (by omega) rfl) ?_
        refine v_iastm hx DX12_solves_30 hR.cells (by omega) (by decide) (fun μ9 eμ9 => ?_)
        refine v_iinc hx DX12_solves_31 0 rfl [(2, iv (k + 1)), (0, .ref ν), (1, iv (s : Int))] rfl (by decide) ?_
        refine v_goto hx DX12_solves_34 ?_
        exact v_sub [0, 1, 2] _ rfl (ih (k + 1) μ9 (by omega) (by omega) (col_step hm (by omega) (by omega) rfl eμ9) (hf.trans (by rw [eμ9]; exact FrN.wI (by simp) (by omega))))
  refine v_push hx DX12_solves_0 ?_
  refine v_istore hx DX12_solves_1 [(2, iv 0), (0, .ref ν), (1, iv (s : Int))] rfl (by decide) ?_
  exact v_sub [0, 1, 2] _ rfl (L2 100 0 μ (by omega) (by omega) (col_start hX) FrN.rf)
