/-! ===== the reference: drift ===== -/
def Bd.rn (b : Bd) : Bd := (b.1, b.2.1, b.2.2.1, rnx b.2.2.2)
def dN (w : Int) : PS := ((PS.zero.set 0 (fi (w % 101))).set 1 (fi (w / 101 % 101))).set 2 (fi (w / 10201))
def dF (z : Int) : PS := (PS.C (fi (z / 4 % 101))).set 1 1
theorem dN_lt (w : Int) : (dN w).lt 3 := PS.set_lt (PS.set_lt (PS.set_lt (PS.zero_lt 3) (by omega)) (by omega)) (by omega)
theorem dF_sz (z : Int) : (dF z).isz 2 := ⟨Or.inr (by unfold dF PS.set; rw [if_pos rfl]; decide), PS.set_lt (PS.lt_mono (PS.C_lt _) (by omega)) (by omega)⟩
theorem dF_ne (z : Int) : dF z ≠ PS.zero := PS.ne_of_size (by rw [PS.size_eq (dF_sz z)]; omega)
theorem dF_pw (z : Int) (n : Nat) (hn : n ≤ 3) : ((dF z).pw n).lt 4 ∧ (dF z).pw n ≠ PS.zero := ⟨PS.lt_mono (PS.pw_lt (dF_sz z).2 n) (by omega), PS.pw_ne ⟨_, (dF_sz z).2⟩ (dF_ne z) n⟩
/-- the places and numbers that three draws say -/
def drT (v : Int) : Int := 5 * (v % 3) + (v / 4 % 5 - 2) + 2
noncomputable def drX (w z : Int) : FP2 := frd (dN w) ((dF z).pw (z % 4).toNat)
noncomputable def drB (b : Bd) : Bd := b.rn.rn.rn.sto (drT (b.rn.2.2.2 / 65536)) (drX (b.rn.rn.2.2.2 / 65536) (b.rn.rn.rn.2.2.2 / 65536)).1 (drX (b.rn.rn.2.2.2 / 65536) (b.rn.rn.rn.2.2.2 / 65536)).2
theorem drX_ok {w z : Int} : FOK (drX w z) 3 4 := by
  have h := dF_pw z (z % 4).toNat (by omega)
  exact FOK.rd ⟨_, dN_lt w⟩ ⟨_, h.1⟩ h.2 (PS.size_le (dN_lt w)) (PS.size_le h.1) (by omega)
theorem Bd.rn_ok {b : Bd} (h : b.ok) : b.rn.ok := ⟨h.1, h.2.1, h.2.2.1, by have := rnx_rng b.2.2.2; show 0 ≤ rnx b.2.2.2 ∧ rnx b.2.2.2 ≤ 2147483647; omega⟩
theorem drB_good {b : Bd} (h : b.good) : (drB b).good := by
  have k := drX_ok (w := b.rn.rn.2.2.2 / 65536) (z := b.rn.rn.rn.2.2.2 / 65536)
  have r1 := (Bd.rn_ok h.1).2.2.2
  exact Bd.sto_good ⟨Bd.rn_ok (Bd.rn_ok (Bd.rn_ok h.1)), h.2.1, h.2.2.1, h.2.2.2⟩ (by unfold drT; omega) k.1 (PS.lt_mono (PS.flt k.1.1) (Nat.le_trans k.2.1 (by omega))) (PS.lt_mono (PS.flt k.1.2.1) (Nat.le_trans k.2.2 (by omega)))
/-- so many turns -/
noncomputable def drS (b : Bd) (h : Hs) : Nat → Bd × Hs
  | 0 => (b, h)
  | n + 1 => (drB (drS b h n).1, (drS b h n).2.push (drS b h n).1)
theorem drS_good {b : Bd} {h : Hs} (hb : b.good) (n : Nat) : (drS b h n).1.good := by
  induction n with
  | zero => exact hb
  | succ n ih => exact drB_good ih
noncomputable def driA (b : Bd) (h : Hs) (k : Int) : Int := if 1 ≤ k ∧ k ≤ 40 then (drS b h k.toNat).1.fit 0 + 2 * (drS b h k.toNat).1.fit 1 + 4 * (drS b h k.toNat).1.fit 2 else -1
noncomputable def driS (b : Bd) (h : Hs) (k : Int) : Bd × Hs := if 1 ≤ k ∧ k ≤ 40 then drS b h k.toNat else (b, h)
theorem RA.rn {μ m : Mem} {ν : Nat} {ρ : Nat → PS} {b : Bd} (h : RA μ ν ρ b) (e : m = mI μ ν 4 (rnx b.2.2.2)) : RA m ν ρ b.rn :=
  ⟨h.1.fr (by rw [e, mI_ne (by omega)]), Bd.rn_ok h.2.1, h.2.2.1, fun j g0 g1 => by rw [e, mI_ne (by omega)]; exact h.2.2.2.1 j g0 g1, by rw [e, mI_at, if_neg (by omega)]; exact h.2.2.2.2.1, by rw [e, mI_at, if_pos (by omega)]; rfl⟩
theorem bit_or3 {a b c : Int} (ha : 0 ≤ a ∧ a ≤ 1) (hb : 0 ≤ b ∧ b ≤ 1) (hc : 0 ≤ c ∧ c ≤ 1) : Int32.ofInt a ||| Int32.ofInt (2 * b) = Int32.ofInt (a + 2 * b) ∧ Int32.ofInt (a + 2 * b) ||| Int32.ofInt (4 * c) = Int32.ofInt (a + 2 * b + 4 * c) := by
  have h1 : a = 0 ∨ a = 1 := by omega
  have h2 : b = 0 ∨ b = 1 := by omega
  have h3 : c = 0 ∨ c = 1 := by omega
  rcases h1 with rfl | rfl <;> rcases h2 with rfl | rfl <;> rcases h3 with rfl | rfl <;> exact ⟨by decide, by decide⟩
theorem dr_done {μ m μ' : Mem} {ν : Nat} {ρ σ : Nat → PS} {b : Bd} {h : Hs} (hb : b.ok) (hr : ∀ t : Nat, t < 15 → ρ (2 * t) = b.num t ∧ ρ (2 * t + 1) = b.den t) (ht : 0 ≤ drT (b.rn.2.2.2 / 65536) ∧ drT (b.rn.2.2.2 / 65536) < 15) (hw : RW μ' ν σ) (e0 : σ (2 * (drT (b.rn.2.2.2 / 65536)).toNat) = (drX (b.rn.rn.2.2.2 / 65536) (b.rn.rn.rn.2.2.2 / 65536)).1) (e1 : σ (2 * (drT (b.rn.2.2.2 / 65536)).toNat + 1) = (drX (b.rn.rn.2.2.2 / 65536) (b.rn.rn.rn.2.2.2 / 65536)).2)
    (e3 : ∀ r : Nat, r < 30 → r ≠ 2 * (drT (b.rn.2.2.2 / 65536)).toNat → r ≠ 2 * (drT (b.rn.2.2.2 / 65536)).toNat + 1 → σ r = ρ r) (h3 : RH m ν (h.push b)) (hu : ∀ j : Int, 0 ≤ j → j < 4 → m.1 (ν + 3) j = b.2.1 j) (hq : m.1 ν 2 = b.2.2.1 ∧ m.1 ν 4 = b.rn.rn.rn.2.2.2) (hf : FrN ν [ν + 1, ν + 2, ν + 4] [4, 5, 6] μ m) (g5 : Fr [ν + 1] m μ') : StR μ' ν (drB b) (h.push b) ∧ FrN ν [ν + 1, ν + 2, ν + 4] [4, 5, 6] μ μ' := by
  have k := drX_ok (w := b.rn.rn.2.2.2 / 65536) (z := b.rn.rn.rn.2.2.2 / 65536)
  have l1 := PS.lt_mono (PS.flt k.1.1) (Nat.le_trans k.2.1 (show 3 ≤ 7 by omega))
  have l2 := PS.lt_mono (PS.flt k.1.2.1) (Nat.le_trans k.2.2 (show 4 ≤ 5 by omega))
  refine ⟨⟨⟨σ, hw, Bd.sto_ok (Bd.rn_ok (Bd.rn_ok (Bd.rn_ok hb))) _ _ _, fun t ht2 => ?_, fun j g0 g1 => by rw [g5.1 _ (by simp)]; exact hu j g0 g1, by rw [g5.1 _ (by simp)]; exact hq.1, by rw [g5.1 _ (by simp)]; exact hq.2⟩, h3.frN (S := [ν + 1]) (J := []) (FrN.of g5 (by simp)) (by simp) (by simp) (by simp)⟩, hf.trans (FrN.of (g5.mono (by simp)) (by simp))⟩
  unfold drB
  rw [Bd.sto_num ht (by omega) l1, Bd.sto_den ht (by omega) l2]
  by_cases c : (t : Int) = drT (b.rn.2.2.2 / 65536)
  · rw [if_pos c, if_pos c, ← e0, ← e1]
    have e : t = (drT (b.rn.2.2.2 / 65536)).toNat := by omega
    rw [← e]; exact ⟨rfl, rfl⟩
  · rw [if_neg c, if_neg c]
    have := hr t ht2
    exact ⟨(e3 _ (by omega) (by omega) (by omega)).trans this.1, (e3 _ (by omega) (by omega) (by omega)).trans this.2⟩
theorem r_goes (l : Launch) (G : Gl) (Λ : Lay) (sz : Nat) (μ : Mem) {ν : Nat} {ρ : Nat → PS} {b : Bd} (hR : refK Λ ν) (ha : RA μ ν ρ b) : Sp l G yX12_goes cX12_goes 1 (some FieldType.int) 0 [.ref ν] Λ sz μ (pI (fun z μ' => z = b.rn.2.2.2 / 65536 ∧ RA μ' ν ρ b.rn ∧ FrN ν [] [4] μ μ')) := by
  refine Sp.intro (by decide) (Nat.le_of_ble_eq_true rfl) (fun x hx hBD => ?_)
  refine v_lv [(0, .ref ν)] rfl ?_
  have ur := ha.2.1.2.2.2
  have ux := rnx_rng b.2.2.2
  refine v_aload hx DX12_goes_0 0 rfl ?_
  refine v_aload hx DX12_goes_1 0 rfl ?_
  refine v_get hx DX12_goes_2 FLRX12_71 hR.o (fv_i rfl ha.2.2.2.2.2 : _ = iv b.2.2.2) ?_
  refine v_i2l hx DX12_goes_5 (w := (Int32.ofInt b.2.2.2).toInt64) rfl ?_
  refine v_ldc2 hx DX12_goes_6 cnRX12_245 ?_
  refine v_lmul hx DX12_goes_9 ?_
  refine v_ldc2 hx DX12_goes_10 cnRX12_247 ?_
  refine v_ladd hx DX12_goes_13 ?_
  refine v_ldc2 hx DX12_goes_14 cnRX12_249 ?_
  refine v_land hx DX12_goes_17 ?_
  refine v_l2i hx DX12_goes_18 (a := rnx b.2.2.2) (rnx_l ur) ?_
  refine v_pI hx DX12_goes_19 FPRX12_71 hR.o rfl (ki := 4) rfl (fun μ1 eμ1 => ?_)
  refine v_aload hx DX12_goes_22 0 rfl ?_
  refine v_get hx DX12_goes_23 FLRX12_71 hR.o (fv_i rfl (by rw [eμ1, mI_at]; rfl) : _ = iv (rnx b.2.2.2)) ?_
  refine v_ldc hx DX12_goes_26 cnRX12_251 (z := 65536) rfl ?_
  refine v_idiv hx (by omega) (by decide) DX12_goes_28 ?_
  exact v_ri hx hBD DX12_goes_29 (⟨rfl, ha.rn eμ1, by rw [eμ1]; exact FrN.wJ (by simp)⟩)
theorem r_drifts (l : Launch) (G : Gl) (Λ : Lay) (sz : Nat) (μ : Mem) {ν : Nat} {ρ : Nat → PS} {b : Bd} {h : Hs} (hR : refK Λ ν) (ha : RA μ ν ρ b) (hh : RH μ ν h) : Sp l G yX12_drifts cX12_drifts 6 none 5 [.ref ν] Λ sz μ (pV (fun μ' => StR μ' ν (drB b) (h.push b) ∧ FrN ν [ν + 1, ν + 2, ν + 4] [4, 5, 6] μ μ')) := by
  refine Sp.intro (by decide) (Nat.le_of_ble_eq_true rfl) (fun x hx hBD => ?_)
  refine v_lv [(0, .ref ν)] rfl ?_
  have r1 := (Bd.rn_ok ha.2.1).2.2.2
  have r2 := (Bd.rn_ok (Bd.rn_ok ha.2.1)).2.2.2
  have r3 := (Bd.rn_ok (Bd.rn_ok (Bd.rn_ok ha.2.1))).2.2.2
  have L137 : ∀ (nf : Nat) (k : Int) (m : Mem) (σ : Nat → PS), ((b.rn.rn.rn.2.2.2 / 65536) % 4 - k < (nf : Int)) → (0 ≤ k ∧ k ≤ (b.rn.rn.rn.2.2.2 / 65536) % 4) → (RW m ν σ) → (σ (2 * (5 * ((b.rn.2.2.2 / 65536) % 3) + (((b.rn.2.2.2 / 65536) / 4) % 5 - 2) + 2).toNat) = dN (b.rn.rn.2.2.2 / 65536)) → (σ (2 * (5 * ((b.rn.2.2.2 / 65536) % 3) + (((b.rn.2.2.2 / 65536) / 4) % 5 - 2) + 2).toNat + 1) = (dF (b.rn.rn.rn.2.2.2 / 65536)).pw k.toNat) → (σ 145 = dF (b.rn.rn.rn.2.2.2 / 65536)) → (∀ r : Nat, r < 30 → r ≠ 2 * (5 * ((b.rn.2.2.2 / 65536) % 3) + (((b.rn.2.2.2 / 65536) / 4) % 5 - 2) + 2).toNat → r ≠ 2 * (5 * ((b.rn.2.2.2 / 65536) % 3) + (((b.rn.2.2.2 / 65536) / 4) % 5 - 2) + 2).toNat + 1 → σ r = ρ r) → (RH m ν (h.push b)) → (∀ j : Int, 0 ≤ j → j < 4 → m.1 (ν + 3) j = b.2.1 j) → (m.1 ν 2 = b.2.2.1 ∧ m.1 ν 4 = b.rn.rn.rn.2.2.2) → (FrN ν [ν + 1, ν + 2, ν + 4] [4, 5, 6] μ m) → V G x (0, 0) Λ sz m 137 [(5, iv k), (4, iv ((5 * ((b.rn.2.2.2 / 65536) % 3) + (((b.rn.2.2.2 / 65536) / 4) % 5 - 2) + 2).toNat : Int)), (0, .ref ν), (1, iv (b.rn.2.2.2 / 65536)), (2, iv (b.rn.rn.2.2.2 / 65536)), (3, iv (b.rn.rn.rn.2.2.2 / 65536))] [] := by
    intro nf
    induction nf with
    | zero => intro k m σ hm hk h1 e0 e1 e2 e3 hs3 hu hq hf; exact absurd hm (by omega)
    | succ nf ih =>
      intro k m σ hm hk h1 e0 e1 e2 e3 hs3 hu hq hf
      refine v_iload hx DX12_drifts_137 0 rfl ?_
      refine v_iload hx DX12_drifts_139 5 rfl ?_
      refine v_push hx DX12_drifts_140 ?_
      refine v_irem hx (by omega) (by decide) DX12_drifts_141 ?_
      refine v_icmp_ge hx DX12_drifts_142 (by omega) (by omega) (fun c142 => ?_) (fun c142 => ?_)
      · skip
        refine v_aload hx DX12_drifts_168 2 rfl ?_
        refine v_iload hx DX12_drifts_169 1 rfl ?_
        refine v_cVv hx DX12_drifts_171 CVRX12_56 [iv ((5 * ((b.rn.2.2.2 / 65536) % 3) + (((b.rn.2.2.2 / 65536) / 4) % 5 - 2) + 2).toNat : Int)] (r_shortens (f := (5 * ((b.rn.2.2.2 / 65536) % 3) + (((b.rn.2.2.2 / 65536) / 4) % 5 - 2) + 2).toNat) l G Λ sz m hR h1 (by omega) (by rw [e1]; exact (dF_pw _ _ (by omega)).2)) hR.o rfl rfl (Nat.le_of_ble_eq_true rfl) (by decide) ⟨Nat.le_refl _, Nat.le_refl _⟩ (fun μ1 hμ1 => ?_)
        exact v_rv hx hBD DX12_drifts_174 (by obtain ⟨σ2, g1, g2, g3, g4, g5⟩ := hμ1; exact dr_done ha.2.1 ha.2.2.1 (by unfold drT; omega) g1 (g2.trans (by rw [e0, e1, show k = (b.rn.rn.rn.2.2.2 / 65536) % 4 by omega]; rfl)) (g3.trans (by rw [e0, e1, show k = (b.rn.rn.rn.2.2.2 / 65536) % 4 by omega]; rfl)) (fun r q0 q1 q2 => (g4 r (by omega) q1 q2).trans (e3 r q0 q1 q2)) hs3 hu hq hf g5)
      · skip
        refine v_aload hx DX12_drifts_145 2 rfl ?_
        refine v_iload hx DX12_drifts_146 1 rfl ?_
        refine v_cSp hx DX12_drifts_148 CSRX12_41 [iv ((5 * ((b.rn.2.2.2 / 65536) % 3) + (((b.rn.2.2.2 / 65536) / 4) % 5 - 2) + 2).toNat : Int)] (r_below (f := (5 * ((b.rn.2.2.2 / 65536) % 3) + (((b.rn.2.2.2 / 65536) / 4) % 5 - 2) + 2).toNat) l G Λ sz m) rfl rfl (Nat.le_of_ble_eq_true rfl) (by decide) ⟨Nat.le_refl _, Nat.le_refl _⟩ ?_
        refine v_iload hx DX12_drifts_151 1 rfl ?_
        refine v_cSp hx DX12_drifts_153 CSRX12_41 [iv ((5 * ((b.rn.2.2.2 / 65536) % 3) + (((b.rn.2.2.2 / 65536) / 4) % 5 - 2) + 2).toNat : Int)] (r_below (f := (5 * ((b.rn.2.2.2 / 65536) % 3) + (((b.rn.2.2.2 / 65536) / 4) % 5 - 2) + 2).toNat) l G Λ sz m) rfl rfl (Nat.le_of_ble_eq_true rfl) (by decide) ⟨Nat.le_refl _, Nat.le_refl _⟩ ?_
        refine v_push hx DX12_drifts_156 ?_
        refine v_cVv hx DX12_drifts_159 CVRX12_50 [iv ((2 * ((5 * ((b.rn.2.2.2 / 65536) % 3) + (((b.rn.2.2.2 / 65536) / 4) % 5 - 2) + 2).toNat) + 1 : Nat) : Int), iv ((2 * ((5 * ((b.rn.2.2.2 / 65536) % 3) + (((b.rn.2.2.2 / 65536) / 4) % 5 - 2) + 2).toNat) + 1 : Nat) : Int), iv 145] (r_times (s := 2 * (5 * ((b.rn.2.2.2 / 65536) % 3) + (((b.rn.2.2.2 / 65536) / 4) % 5 - 2) + 2).toNat + 1) (a := 2 * (5 * ((b.rn.2.2.2 / 65536) % 3) + (((b.rn.2.2.2 / 65536) / 4) % 5 - 2) + 2).toNat + 1) (b := 145) l G Λ sz m hR h1 (by omega) (by omega) (by decide)) hR.o rfl rfl (Nat.le_of_ble_eq_true rfl) (by decide) ⟨Nat.le_refl _, Nat.le_refl _⟩ (fun μ7 hμ7 => ?_)
        refine v_iinc hx DX12_drifts_162 0 rfl [(5, iv (k + 1)), (4, iv ((5 * ((b.rn.2.2.2 / 65536) % 3) + (((b.rn.2.2.2 / 65536) / 4) % 5 - 2) + 2).toNat : Int)), (0, .ref ν), (1, iv (b.rn.2.2.2 / 65536)), (2, iv (b.rn.rn.2.2.2 / 65536)), (3, iv (b.rn.rn.rn.2.2.2 / 65536))] rfl (by decide) ?_
        refine v_goto hx DX12_drifts_165 ?_
        exact v_sub [0, 1, 2, 3, 4, 5] _ rfl (ih (k + 1) μ7 _ (by omega) (by omega) hμ7.1 (by rw [up_ne (by omega)]; exact e0) (by rw [up_at, e1, e2, show (k + 1).toNat = k.toNat + 1 by omega]; exact PS.tr_end (PS.lt_mono (dF_pw _ (k.toNat + 1) (by omega)).1 (by omega))) (by rw [up_ne (by omega)]; exact e2) (fun r g0 g1 g2 => by rw [up_ne g2]; exact e3 r g0 g1 g2) (hs3.frN (S := [ν + 1, ν + 2]) (J := []) (FrN.of hμ7.2 (by simp)) (by simp) (by simp) (by simp)) (fun j g0 g1 => by rw [hμ7.2.1 _ (by simp)]; exact hu j g0 g1) (by rw [hμ7.2.1 ν (by simp)]; exact hq) (hf.trans (FrN.of (hμ7.2.mono (by simp)) (by simp))))
  refine v_aload hx DX12_drifts_0 0 rfl ?_
  refine v_cVv hx DX12_drifts_1 CVRX12_211 [] (r_remembers l G Λ sz μ hR ha hh) hR.o rfl rfl (Nat.le_of_ble_eq_true rfl) (by decide) ⟨Nat.le_refl _, Nat.le_refl _⟩ (fun μ9 hμ9 => ?_)
  have h1 := hμ9
  have a1 := ha.frN h1.2 (by simp) (by simp) (by simp) (by simp)
  refine v_aload hx DX12_drifts_4 0 rfl ?_
  refine v_cVi hx DX12_drifts_5 CVRX12_252 [] (r_goes l G Λ sz μ9 hR a1) hR.o rfl rfl (Nat.le_of_ble_eq_true rfl) (by decide) ⟨Nat.le_refl _, Nat.le_refl _⟩ (fun z12 μ11 hμ11 => ?_)
  obtain ⟨z5, a5, f5⟩ := hμ11
  subst z5
  refine v_istore hx DX12_drifts_8 [(1, iv (b.rn.2.2.2 / 65536)), (0, .ref ν)] rfl (by decide) ?_
  refine v_aload hx DX12_drifts_9 1 rfl ?_
  refine v_cVi hx DX12_drifts_10 CVRX12_252 [] (r_goes l G Λ sz μ11 hR a5) hR.o rfl rfl (Nat.le_of_ble_eq_true rfl) (by decide) ⟨Nat.le_refl _, Nat.le_refl _⟩ (fun z14 μ13 hμ13 => ?_)
  obtain ⟨z10, a10, f10⟩ := hμ13
  subst z10
  refine v_istore hx DX12_drifts_13 [(2, iv (b.rn.rn.2.2.2 / 65536)), (1, iv (b.rn.2.2.2 / 65536)), (0, .ref ν)] rfl (by decide) ?_
  refine v_aload hx DX12_drifts_14 2 rfl ?_
  refine v_cVi hx DX12_drifts_15 CVRX12_252 [] (r_goes l G Λ sz μ13 hR a10) hR.o rfl rfl (Nat.le_of_ble_eq_true rfl) (by decide) ⟨Nat.le_refl _, Nat.le_refl _⟩ (fun z16 μ15 hμ15 => ?_)
  obtain ⟨z15, a15, f15⟩ := hμ15
  subst z15
  refine v_istore hx DX12_drifts_18 [(3, iv (b.rn.rn.rn.2.2.2 / 65536)), (2, iv (b.rn.rn.2.2.2 / 65536)), (1, iv (b.rn.2.2.2 / 65536)), (0, .ref ν)] rfl (by decide) ?_
  refine v_iload hx DX12_drifts_19 2 rfl ?_
  refine v_push hx DX12_drifts_20 ?_
  refine v_irem hx (by omega) (by decide) DX12_drifts_21 ?_
  refine v_iload hx DX12_drifts_22 2 rfl ?_
  refine v_push hx DX12_drifts_23 ?_
  refine v_idiv hx (by omega) (by decide) DX12_drifts_24 ?_
  refine v_push hx DX12_drifts_25 ?_
  refine v_irem hx (by omega) (by decide) DX12_drifts_26 ?_
  refine v_push hx DX12_drifts_27 ?_
  refine v_isub hx DX12_drifts_28 ?_
  refine v_cSp hx DX12_drifts_29 CSRX12_155 [iv ((b.rn.2.2.2 / 65536) % 3), iv ((((b.rn.2.2.2 / 65536) / 4) % 5) - 2)] (r_term l G Λ sz μ15 (by omega)) rfl rfl (Nat.le_of_ble_eq_true rfl) (by decide) ⟨Nat.le_refl _, Nat.le_refl _⟩ ?_
  refine v_istore hx DX12_drifts_32 [(4, iv ((5 * ((b.rn.2.2.2 / 65536) % 3) + ((((b.rn.2.2.2 / 65536) / 4) % 5) - 2) + 2).toNat : Int)), (3, iv (b.rn.rn.rn.2.2.2 / 65536)), (2, iv (b.rn.rn.2.2.2 / 65536)), (1, iv (b.rn.2.2.2 / 65536)), (0, .ref ν)] rfl (by decide) ?_
  refine v_aload hx DX12_drifts_34 4 rfl ?_
  refine v_iload hx DX12_drifts_35 0 rfl ?_
  refine v_cSp hx DX12_drifts_37 CSRX12_38 [iv ((5 * ((b.rn.2.2.2 / 65536) % 3) + ((((b.rn.2.2.2 / 65536) / 4) % 5) - 2) + 2).toNat : Int)] (r_above (f := (5 * ((b.rn.2.2.2 / 65536) % 3) + ((((b.rn.2.2.2 / 65536) / 4) % 5) - 2) + 2).toNat) l G Λ sz μ15) rfl rfl (Nat.le_of_ble_eq_true rfl) (by decide) ⟨Nat.le_refl _, Nat.le_refl _⟩ ?_
  refine v_cVv hx DX12_drifts_40 CVRX12_7 [iv ((2 * ((5 * ((b.rn.2.2.2 / 65536) % 3) + ((((b.rn.2.2.2 / 65536) / 4) % 5) - 2) + 2).toNat) : Nat) : Int)] (r_zero (s := 2 * (5 * ((b.rn.2.2.2 / 65536) % 3) + (((b.rn.2.2.2 / 65536) / 4) % 5 - 2) + 2).toNat) l G Λ sz μ15 hR a15.1 (by omega)) hR.o rfl rfl (Nat.le_of_ble_eq_true rfl) (by decide) ⟨Nat.le_refl _, Nat.le_refl _⟩ (fun μ21 hμ21 => ?_)
  have h40 := hμ21
  refine v_aload hx DX12_drifts_43 4 rfl ?_
  refine v_get hx DX12_drifts_44 FLRX12_3 hR.o (v := .ref (ν + 1)) rfl ?_
  refine v_push hx DX12_drifts_47 ?_
  refine v_iload hx DX12_drifts_49 0 rfl ?_
  refine v_cSp hx DX12_drifts_51 CSRX12_38 [iv ((5 * ((b.rn.2.2.2 / 65536) % 3) + ((((b.rn.2.2.2 / 65536) / 4) % 5) - 2) + 2).toNat : Int)] (r_above (f := (5 * ((b.rn.2.2.2 / 65536) % 3) + ((((b.rn.2.2.2 / 65536) / 4) % 5) - 2) + 2).toNat) l G Λ sz μ21) rfl rfl (Nat.le_of_ble_eq_true rfl) (by decide) ⟨Nat.le_refl _, Nat.le_refl _⟩ ?_
  refine v_imul hx DX12_drifts_54 ?_
  refine v_iload hx DX12_drifts_55 2 rfl ?_
  refine v_push hx DX12_drifts_56 ?_
  refine v_irem hx (by omega) (by decide) DX12_drifts_58 ?_
  refine v_iastm hx DX12_drifts_59 hR.p (by omega) (by decide) (fun μ25 eμ25 => ?_)
  have w59 : RW μ25 ν (up ρ (2 * (5 * ((b.rn.2.2.2 / 65536) % 3) + (((b.rn.2.2.2 / 65536) / 4) % 5 - 2) + 2).toNat) (PS.zero.set 0 (fi ((b.rn.rn.2.2.2 / 65536) % 101)))) := by
    rw [eμ25]
    have q := h40.1.put (k := 0) (z := (b.rn.rn.2.2.2 / 65536) % 101) (c := fi ((b.rn.rn.2.2.2 / 65536) % 101)) (by omega) (by omega) (by rw [fi_val]; omega) (by omega)
    rwa [Int.add_zero] at q
  refine v_aload hx DX12_drifts_60 4 rfl ?_
  refine v_get hx DX12_drifts_61 FLRX12_3 hR.o (v := .ref (ν + 1)) rfl ?_
  refine v_push hx DX12_drifts_64 ?_
  refine v_iload hx DX12_drifts_66 0 rfl ?_
  refine v_cSp hx DX12_drifts_68 CSRX12_38 [iv ((5 * ((b.rn.2.2.2 / 65536) % 3) + ((((b.rn.2.2.2 / 65536) / 4) % 5) - 2) + 2).toNat : Int)] (r_above (f := (5 * ((b.rn.2.2.2 / 65536) % 3) + ((((b.rn.2.2.2 / 65536) / 4) % 5) - 2) + 2).toNat) l G Λ sz μ25) rfl rfl (Nat.le_of_ble_eq_true rfl) (by decide) ⟨Nat.le_refl _, Nat.le_refl _⟩ ?_
  refine v_imul hx DX12_drifts_71 ?_
  refine v_push hx DX12_drifts_72 ?_
  refine v_iadd hx DX12_drifts_73 ?_
  refine v_iload hx DX12_drifts_74 2 rfl ?_
  refine v_push hx DX12_drifts_75 ?_
  refine v_idiv hx (by omega) (by decide) DX12_drifts_77 ?_
  refine v_push hx DX12_drifts_78 ?_
  refine v_irem hx (by omega) (by decide) DX12_drifts_80 ?_
  refine v_iastm hx DX12_drifts_81 hR.p (by omega) (by decide) (fun μ28 eμ28 => ?_)
  have w81 : RW μ28 ν (up ρ (2 * (5 * ((b.rn.2.2.2 / 65536) % 3) + (((b.rn.2.2.2 / 65536) / 4) % 5 - 2) + 2).toNat) ((PS.zero.set 0 (fi ((b.rn.rn.2.2.2 / 65536) % 101))).set 1 (fi ((b.rn.rn.2.2.2 / 65536) / 101 % 101)))) := by
    rw [eμ28]
    exact w59.put (k := 1) (z := (b.rn.rn.2.2.2 / 65536) / 101 % 101) (c := fi ((b.rn.rn.2.2.2 / 65536) / 101 % 101)) (by omega) (by omega) (by rw [fi_val]; omega) (by omega)
  refine v_aload hx DX12_drifts_82 4 rfl ?_
  refine v_get hx DX12_drifts_83 FLRX12_3 hR.o (v := .ref (ν + 1)) rfl ?_
  refine v_push hx DX12_drifts_86 ?_
  refine v_iload hx DX12_drifts_88 0 rfl ?_
  refine v_cSp hx DX12_drifts_90 CSRX12_38 [iv ((5 * ((b.rn.2.2.2 / 65536) % 3) + ((((b.rn.2.2.2 / 65536) / 4) % 5) - 2) + 2).toNat : Int)] (r_above (f := (5 * ((b.rn.2.2.2 / 65536) % 3) + ((((b.rn.2.2.2 / 65536) / 4) % 5) - 2) + 2).toNat) l G Λ sz μ28) rfl rfl (Nat.le_of_ble_eq_true rfl) (by decide) ⟨Nat.le_refl _, Nat.le_refl _⟩ ?_
  refine v_imul hx DX12_drifts_93 ?_
  refine v_push hx DX12_drifts_94 ?_
  refine v_iadd hx DX12_drifts_95 ?_
  refine v_iload hx DX12_drifts_96 2 rfl ?_
  refine v_push hx DX12_drifts_97 ?_
  refine v_idiv hx (by omega) (by decide) DX12_drifts_100 ?_
  refine v_iastm hx DX12_drifts_101 hR.p (by omega) (by decide) (fun μ31 eμ31 => ?_)
  have w101 : RW μ31 ν (up ρ (2 * (5 * ((b.rn.2.2.2 / 65536) % 3) + (((b.rn.2.2.2 / 65536) / 4) % 5 - 2) + 2).toNat) (dN (b.rn.rn.2.2.2 / 65536))) := by
    rw [eμ31]
    exact w81.put (k := 2) (z := (b.rn.rn.2.2.2 / 65536) / 10201) (c := fi ((b.rn.rn.2.2.2 / 65536) / 10201)) (by omega) (by omega) (by rw [fi_val]; omega) (by omega)
  refine v_aload hx DX12_drifts_102 4 rfl ?_
  refine v_iload hx DX12_drifts_103 0 rfl ?_
  refine v_cSp hx DX12_drifts_105 CSRX12_41 [iv ((5 * ((b.rn.2.2.2 / 65536) % 3) + ((((b.rn.2.2.2 / 65536) / 4) % 5) - 2) + 2).toNat : Int)] (r_below (f := (5 * ((b.rn.2.2.2 / 65536) % 3) + ((((b.rn.2.2.2 / 65536) / 4) % 5) - 2) + 2).toNat) l G Λ sz μ31) rfl rfl (Nat.le_of_ble_eq_true rfl) (by decide) ⟨Nat.le_refl _, Nat.le_refl _⟩ ?_
  refine v_push hx DX12_drifts_108 ?_
  refine v_cVv hx DX12_drifts_109 CVRX12_47 [iv ((2 * ((5 * ((b.rn.2.2.2 / 65536) % 3) + ((((b.rn.2.2.2 / 65536) / 4) % 5) - 2) + 2).toNat) + 1 : Nat) : Int), iv 1] (r_number (s := 2 * (5 * ((b.rn.2.2.2 / 65536) % 3) + (((b.rn.2.2.2 / 65536) / 4) % 5 - 2) + 2).toNat + 1) l G Λ sz μ31 hR w101 (by omega) (by decide)) hR.o rfl rfl (Nat.le_of_ble_eq_true rfl) (by decide) ⟨Nat.le_refl _, Nat.le_refl _⟩ (fun μ34 hμ34 => ?_)
  have h109 := hμ34
  refine v_aload hx DX12_drifts_112 4 rfl ?_
  refine v_push hx DX12_drifts_113 ?_
  refine v_iload hx DX12_drifts_116 1 rfl ?_
  refine v_push hx DX12_drifts_117 ?_
  refine v_idiv hx (by omega) (by decide) DX12_drifts_118 ?_
  refine v_push hx DX12_drifts_119 ?_
  refine v_irem hx (by omega) (by decide) DX12_drifts_121 ?_
  refine v_cVv hx DX12_drifts_122 CVRX12_47 [iv 145, iv (((b.rn.rn.rn.2.2.2 / 65536) / 4) % 101)] (r_number (s := 145) l G Λ sz μ34 hR h109.1 (by decide) (by omega)) hR.o rfl rfl (Nat.le_of_ble_eq_true rfl) (by decide) ⟨Nat.le_refl _, Nat.le_refl _⟩ (fun μ36 hμ36 => ?_)
  have h122 := hμ36
  refine v_aload hx DX12_drifts_125 4 rfl ?_
  refine v_get hx DX12_drifts_126 FLRX12_3 hR.o (v := .ref (ν + 1)) rfl ?_
  refine v_push hx DX12_drifts_129 ?_
  refine v_push hx DX12_drifts_132 ?_
  refine v_iastm hx DX12_drifts_133 hR.p (by omega) (by decide) (fun μ38 eμ38 => ?_)
  have w133 : RW μ38 ν (up (up (up ρ (2 * (5 * ((b.rn.2.2.2 / 65536) % 3) + (((b.rn.2.2.2 / 65536) / 4) % 5 - 2) + 2).toNat) (dN (b.rn.rn.2.2.2 / 65536))) (2 * (5 * ((b.rn.2.2.2 / 65536) % 3) + (((b.rn.2.2.2 / 65536) / 4) % 5 - 2) + 2).toNat + 1) (PS.C (fi 1))) 145 (dF (b.rn.rn.rn.2.2.2 / 65536))) := by
    rw [eμ38, show (13921 : Int) = 96 * ((145 : Nat) : Int) + 1 by omega]
    exact h122.1.put (k := 1) (z := 1) (c := 1) (by omega) (by omega) (by decide) (by decide)
  have fa : Fr [ν + 1] μ15 μ38 := by
    rw [eμ38]
    refine ((Fr.trans ?_ h109.2).trans h122.2).trans (Fr.mI (by simp))
    rw [eμ31, eμ28, eμ25]
    exact ((h40.2.trans (Fr.mI (by simp))).trans (Fr.mI (by simp))).trans (Fr.mI (by simp))
  have f3 : FrN ν [ν + 1] [4] μ9 μ38 := (((f5.trans f10).trans f15).mono (by simp) (by simp)).trans (FrN.of fa (by simp))
  have f2 : FrN ν [ν + 1, ν + 2, ν + 4] [4, 5, 6] μ μ38 := (h1.2.mono (by simp) (by simp)).trans (f3.mono (by simp) (by simp))
  have rh2 := h1.1.frN f3 (by simp) (by simp) (by simp)
  have u2 : ∀ j : Int, 0 ≤ j → j < 4 → (μ38).1 (ν + 3) j = b.2.1 j := fun j g0 g1 => by rw [fa.1 _ (by simp)]; exact a15.2.2.2.1 j g0 g1
  have q2 : (μ38).1 ν 2 = b.2.2.1 ∧ (μ38).1 ν 4 = b.rn.rn.rn.2.2.2 := by rw [fa.1 _ (by simp)]; exact ⟨a15.2.2.2.2.1, a15.2.2.2.2.2⟩
  refine v_push hx DX12_drifts_134 ?_
  refine v_istore hx DX12_drifts_135 [(5, iv 0), (4, iv ((5 * ((b.rn.2.2.2 / 65536) % 3) + ((((b.rn.2.2.2 / 65536) / 4) % 5) - 2) + 2).toNat : Int)), (3, iv (b.rn.rn.rn.2.2.2 / 65536)), (2, iv (b.rn.rn.2.2.2 / 65536)), (1, iv (b.rn.2.2.2 / 65536)), (0, .ref ν)] rfl (by decide) ?_
  exact v_sub [0, 1, 5, 4, 3, 2] _ rfl (L137 100 0 μ38 _ (by omega) (by omega) w133 (by simp only [up, show ¬ 2 * (5 * ((b.rn.2.2.2 / 65536) % 3) + (((b.rn.2.2.2 / 65536) / 4) % 5 - 2) + 2).toNat = 145 by omega, show ¬ 2 * (5 * ((b.rn.2.2.2 / 65536) % 3) + (((b.rn.2.2.2 / 65536) / 4) % 5 - 2) + 2).toNat = 2 * (5 * ((b.rn.2.2.2 / 65536) % 3) + (((b.rn.2.2.2 / 65536) / 4) % 5 - 2) + 2).toNat + 1 by omega, if_false, if_true]) (by simp only [up, show ¬ 2 * (5 * ((b.rn.2.2.2 / 65536) % 3) + (((b.rn.2.2.2 / 65536) / 4) % 5 - 2) + 2).toNat + 1 = 145 by omega, if_false, if_true]; exact PS.C1) up_at (fun r g0 g1 g2 => by rw [up_ne (by omega), up_ne g2, up_ne g1]) rh2 u2 q2 f2)
theorem r_drift (l : Launch) (G : Gl) (Λ : Lay) (sz : Nat) (μ : Mem) {ν : Nat} {ρ : Nat → PS} {b : Bd} {h : Hs} {k : Int} (hR : refK Λ ν) (ha : RA μ ν ρ b) (hh : RH μ ν h) (hgd : b.good) (hk : inR k) : Sp l G yX12_drift cX12_drift 3 (some FieldType.int) 6 [.ref ν, iv k] Λ sz μ (pI (fun z μ' => z = driA b h k ∧ StR μ' ν (driS b h k).1 (driS b h k).2 ∧ FrN ν [ν + 1, ν + 2, ν + 4] [4, 5, 6] μ μ')) := by
  refine Sp.intro (by decide) (Nat.le_of_ble_eq_true rfl) (fun x hx hBD => ?_)
  refine v_lv [(0, .ref ν), (1, iv k)] rfl ?_
  have L14 : ∀ (nf : Nat) (j : Int) (m : Mem), (k - j < (nf : Int)) → (1 ≤ k ∧ k ≤ 40) → (0 ≤ j ∧ j ≤ k) → (StR m ν (drS b h j.toNat).1 (drS b h j.toNat).2) → (FrN ν [ν + 1, ν + 2, ν + 4] [4, 5, 6] μ m) → V G x (0, 0) Λ sz m 14 [(2, iv j), (0, .ref ν), (1, iv k)] [] := by
    intro nf
    induction nf with
    | zero => intro j m hm ok hj hm hf; exact absurd hm (by omega)
    | succ nf ih =>
      intro j m hm ok hj hm hf
      obtain ⟨⟨σ, h1⟩, h2⟩ := hm
      refine v_iload hx DX12_drift_14 0 rfl ?_
      refine v_iload hx DX12_drift_15 2 rfl ?_
      refine v_icmp_ge hx DX12_drift_16 (by omega) (by omega) (fun c16 => ?_) (fun c16 => ?_)
      · skip
        refine v_aload hx DX12_drift_29 1 rfl ?_
        refine v_push hx DX12_drift_30 ?_
        refine v_cVp hx DX12_drift_31 CVRX12_205 [iv 0] (r_fits l G Λ sz m hR h1 (by omega)) hR.o rfl rfl (Nat.le_of_ble_eq_true rfl) (by decide) ⟨Nat.le_refl _, Nat.le_refl _⟩ ?_
        have t0 := (drS b h j.toNat).1.fit_rng 0
        refine v_if_eq hx DX12_drift_34 (by omega) (fun c34 => ?_) (fun c34 => ?_)
        · skip
          refine v_push hx DX12_drift_41 ?_
          refine v_aload hx DX12_drift_42 1 rfl ?_
          refine v_push hx DX12_drift_43 ?_
          refine v_cVp hx DX12_drift_44 CVRX12_205 [iv 1] (r_fits l G Λ sz m hR h1 (by omega)) hR.o rfl rfl (Nat.le_of_ble_eq_true rfl) (by decide) ⟨Nat.le_refl _, Nat.le_refl _⟩ ?_
          have t1 := (drS b h j.toNat).1.fit_rng 1
          refine v_if_eq hx DX12_drift_47 (by omega) (fun c47 => ?_) (fun c47 => ?_)
          · skip
            refine v_push hx DX12_drift_54 ?_
            refine v_ior hx DX12_drift_55 (z := 0) (by decide +kernel) ?_
            refine v_aload hx DX12_drift_56 1 rfl ?_
            refine v_push hx DX12_drift_57 ?_
            refine v_cVp hx DX12_drift_58 CVRX12_205 [iv 2] (r_fits l G Λ sz m hR h1 (by omega)) hR.o rfl rfl (Nat.le_of_ble_eq_true rfl) (by decide) ⟨Nat.le_refl _, Nat.le_refl _⟩ ?_
            have t2 := (drS b h j.toNat).1.fit_rng 2
            refine v_if_eq hx DX12_drift_61 (by omega) (fun c61 => ?_) (fun c61 => ?_)
            · skip
              refine v_push hx DX12_drift_68 ?_
              refine v_ior hx DX12_drift_69 (z := 0) (by decide +kernel) ?_
              exact v_ri hx hBD DX12_drift_70 (by have ej : j = k := (by omega); subst ej; exact ⟨by unfold driA; rw [if_pos ok]; omega, by unfold driS; rw [if_pos ok]; exact ⟨⟨⟨σ, h1⟩, h2⟩, hf⟩⟩)
            · skip
              refine v_push hx DX12_drift_64 ?_
              refine v_goto hx DX12_drift_65 ?_
              refine v_ior hx DX12_drift_69 (z := 4) (by decide +kernel) ?_
              exact v_ri hx hBD DX12_drift_70 (by have ej : j = k := (by omega); subst ej; exact ⟨by unfold driA; rw [if_pos ok]; omega, by unfold driS; rw [if_pos ok]; exact ⟨⟨⟨σ, h1⟩, h2⟩, hf⟩⟩)
          · skip
            refine v_push hx DX12_drift_50 ?_
            refine v_goto hx DX12_drift_51 ?_
            refine v_ior hx DX12_drift_55 (z := 2) (by decide +kernel) ?_
            refine v_aload hx DX12_drift_56 1 rfl ?_
            refine v_push hx DX12_drift_57 ?_
            refine v_cVp hx DX12_drift_58 CVRX12_205 [iv 2] (r_fits l G Λ sz m hR h1 (by omega)) hR.o rfl rfl (Nat.le_of_ble_eq_true rfl) (by decide) ⟨Nat.le_refl _, Nat.le_refl _⟩ ?_
            have t2 := (drS b h j.toNat).1.fit_rng 2
            refine v_if_eq hx DX12_drift_61 (by omega) (fun c61 => ?_) (fun c61 => ?_)
            · skip
              refine v_push hx DX12_drift_68 ?_
              refine v_ior hx DX12_drift_69 (z := 2) (by decide +kernel) ?_
              exact v_ri hx hBD DX12_drift_70 (by have ej : j = k := (by omega); subst ej; exact ⟨by unfold driA; rw [if_pos ok]; omega, by unfold driS; rw [if_pos ok]; exact ⟨⟨⟨σ, h1⟩, h2⟩, hf⟩⟩)
            · skip
              refine v_push hx DX12_drift_64 ?_
              refine v_goto hx DX12_drift_65 ?_
              refine v_ior hx DX12_drift_69 (z := 6) (by decide +kernel) ?_
              exact v_ri hx hBD DX12_drift_70 (by have ej : j = k := (by omega); subst ej; exact ⟨by unfold driA; rw [if_pos ok]; omega, by unfold driS; rw [if_pos ok]; exact ⟨⟨⟨σ, h1⟩, h2⟩, hf⟩⟩)
        · skip
          refine v_push hx DX12_drift_37 ?_
          refine v_goto hx DX12_drift_38 ?_
          refine v_aload hx DX12_drift_42 1 rfl ?_
          refine v_push hx DX12_drift_43 ?_
          refine v_cVp hx DX12_drift_44 CVRX12_205 [iv 1] (r_fits l G Λ sz m hR h1 (by omega)) hR.o rfl rfl (Nat.le_of_ble_eq_true rfl) (by decide) ⟨Nat.le_refl _, Nat.le_refl _⟩ ?_
          have t1 := (drS b h j.toNat).1.fit_rng 1
          refine v_if_eq hx DX12_drift_47 (by omega) (fun c47 => ?_) (fun c47 => ?_)
          · skip
            refine v_push hx DX12_drift_54 ?_
            refine v_ior hx DX12_drift_55 (z := 1) (by decide +kernel) ?_
            refine v_aload hx DX12_drift_56 1 rfl ?_
            refine v_push hx DX12_drift_57 ?_
            refine v_cVp hx DX12_drift_58 CVRX12_205 [iv 2] (r_fits l G Λ sz m hR h1 (by omega)) hR.o rfl rfl (Nat.le_of_ble_eq_true rfl) (by decide) ⟨Nat.le_refl _, Nat.le_refl _⟩ ?_
            have t2 := (drS b h j.toNat).1.fit_rng 2
            refine v_if_eq hx DX12_drift_61 (by omega) (fun c61 => ?_) (fun c61 => ?_)
            · skip
              refine v_push hx DX12_drift_68 ?_
              refine v_ior hx DX12_drift_69 (z := 1) (by decide +kernel) ?_
              exact v_ri hx hBD DX12_drift_70 (by have ej : j = k := (by omega); subst ej; exact ⟨by unfold driA; rw [if_pos ok]; omega, by unfold driS; rw [if_pos ok]; exact ⟨⟨⟨σ, h1⟩, h2⟩, hf⟩⟩)
            · skip
              refine v_push hx DX12_drift_64 ?_
              refine v_goto hx DX12_drift_65 ?_
              refine v_ior hx DX12_drift_69 (z := 5) (by decide +kernel) ?_
              exact v_ri hx hBD DX12_drift_70 (by have ej : j = k := (by omega); subst ej; exact ⟨by unfold driA; rw [if_pos ok]; omega, by unfold driS; rw [if_pos ok]; exact ⟨⟨⟨σ, h1⟩, h2⟩, hf⟩⟩)
          · skip
            refine v_push hx DX12_drift_50 ?_
            refine v_goto hx DX12_drift_51 ?_
            refine v_ior hx DX12_drift_55 (z := 3) (by decide +kernel) ?_
            refine v_aload hx DX12_drift_56 1 rfl ?_
            refine v_push hx DX12_drift_57 ?_
            refine v_cVp hx DX12_drift_58 CVRX12_205 [iv 2] (r_fits l G Λ sz m hR h1 (by omega)) hR.o rfl rfl (Nat.le_of_ble_eq_true rfl) (by decide) ⟨Nat.le_refl _, Nat.le_refl _⟩ ?_
            have t2 := (drS b h j.toNat).1.fit_rng 2
            refine v_if_eq hx DX12_drift_61 (by omega) (fun c61 => ?_) (fun c61 => ?_)
            · skip
              refine v_push hx DX12_drift_68 ?_
              refine v_ior hx DX12_drift_69 (z := 3) (by decide +kernel) ?_
              exact v_ri hx hBD DX12_drift_70 (by have ej : j = k := (by omega); subst ej; exact ⟨by unfold driA; rw [if_pos ok]; omega, by unfold driS; rw [if_pos ok]; exact ⟨⟨⟨σ, h1⟩, h2⟩, hf⟩⟩)
            · skip
              refine v_push hx DX12_drift_64 ?_
              refine v_goto hx DX12_drift_65 ?_
              refine v_ior hx DX12_drift_69 (z := 7) (by decide +kernel) ?_
              exact v_ri hx hBD DX12_drift_70 (by have ej : j = k := (by omega); subst ej; exact ⟨by unfold driA; rw [if_pos ok]; omega, by unfold driS; rw [if_pos ok]; exact ⟨⟨⟨σ, h1⟩, h2⟩, hf⟩⟩)
      · skip
        refine v_aload hx DX12_drift_19 1 rfl ?_
        refine v_cVv hx DX12_drift_20 CVRX12_256 [] (r_drifts l G Λ sz m hR h1 h2) hR.o rfl rfl (Nat.le_of_ble_eq_true rfl) (by decide) ⟨Nat.le_refl _, Nat.le_refl _⟩ (fun μ15 hμ15 => ?_)
        refine v_iinc hx DX12_drift_23 0 rfl [(2, iv (j + 1)), (0, .ref ν), (1, iv k)] rfl (by decide) ?_
        refine v_goto hx DX12_drift_26 ?_
        exact v_sub [0, 1, 2] _ rfl (ih (j + 1) μ15 (by omega) ok (by omega) (by rw [show (j + 1).toNat = j.toNat + 1 by omega]; exact hμ15.1) (hf.trans hμ15.2))
  refine v_iload hx DX12_drift_0 1 rfl ?_
  refine v_push hx DX12_drift_1 ?_
  refine v_push hx DX12_drift_2 ?_
  refine v_cSp hx DX12_drift_4 CSRX12_121 [iv k, iv 1, iv 40] (r_in l G Λ sz μ (by omega) (by omega) (by omega)) rfl rfl (Nat.le_of_ble_eq_true rfl) (by decide) ⟨Nat.le_refl _, Nat.le_refl _⟩ ?_
  have br4 := bz_rng (1 ≤ k ∧ k ≤ 40)
  refine v_if_ne hx DX12_drift_7 (by omega) (fun c7 => ?_) (fun c7 => ?_)
  · skip
    have d7 := bzt c7
    refine v_push hx DX12_drift_12 ?_
    refine v_istore hx DX12_drift_13 [(2, iv 0), (0, .ref ν), (1, iv k)] rfl (by decide) ?_
    exact v_sub [0, 1, 2] _ rfl (L14 100 0 μ (by omega) d7 (by omega) ⟨⟨ρ, ha⟩, hh⟩ FrN.rf)
  · skip
    have d7 := bzf c7
    refine v_push hx DX12_drift_10 ?_
    exact v_ri hx hBD DX12_drift_11 (⟨by unfold driA; rw [if_neg (by omega)], by unfold driS; rw [if_neg (by omega)]; exact ⟨⟨⟨ρ, ha⟩, hh⟩, FrN.rf⟩⟩)
