/-! ===== the reference: film ===== -/
def flm (s : Sht) (b : Bd) (t a c : Int) : Sht := (s.1, s.2.1, fun j => if a ≤ j ∧ j < a + c then Int64.ofInt (b.cell t (j - a)) else s.2.2 j)
theorem flm_put {s : Sht} {b : Bd} {t a c : Int} (hc : 0 ≤ c) : (flm s b t a c).put (a + c) (Int64.ofInt (b.cell t c)) = flm s b t a (c + 1) := by
  unfold flm Sht.put
  refine congrArg (fun f => (s.1, s.2.1, f)) (funext fun j => ?_)
  show (if j = a + c then _ else if a ≤ j ∧ j < a + c then _ else _) = _
  by_cases e : j = a + c
  · rw [if_pos e, if_pos (by omega), show j - a = c by omega]
  · rw [if_neg e]
    by_cases d : a ≤ j ∧ j < a + c
    · rw [if_pos d, if_pos (by omega)]
    · rw [if_neg d, if_neg (by omega)]
theorem flm_zero {s : Sht} {b : Bd} {t a : Int} : flm s b t a 0 = s := by
  unfold flm
  have : (fun j => if a ≤ j ∧ j < a + 0 then Int64.ofInt (b.cell t (j - a)) else s.2.2 j) = s.2.2 := funext fun j => if_neg (by omega)
  rw [this]
noncomputable def flmA (S : Int → Sht) (f i k lane a : Int) : Int := if bz (layV f i k lane) = 1 then (if (S k).ref lane a 12 ≠ 0 then (S k).ref lane a 12 else 12) else -1
noncomputable def flmS (b : Bd) (S : Int → Sht) (f i k lane a : Int) : Int → Sht := @ite (Int → Sht) (layV f i k lane ∧ (S k).ref lane a 12 = 0) (Classical.propDecidable _) (upS S k (flm (S k) b (5 * f + i + 2) a 12)) S
theorem RA.sh {μ m : Mem} {ν : Nat} {ρ : Nat → PS} {b : Bd} (h : RA μ ν ρ b) (f : FrSh ν μ m) : RA m ν ρ b :=
  ⟨h.1.fr (f.1 _ (by omega) (by omega)), h.2.1, h.2.2.1, fun j g0 g1 => by rw [f.1 _ (by omega) (by omega)]; exact h.2.2.2.1 j g0 g1, by rw [f.1 _ (by omega) (by omega)]; exact h.2.2.2.2.1, by rw [f.1 _ (by omega) (by omega)]; exact h.2.2.2.2.2⟩
theorem RSh.fput {μ m : Mem} {ν : Nat} {S : Int → Sht} {b : Bd} {t k a c z : Int} (h : RSh μ ν (upS S k (flm (S k) b t a c))) (hk : 0 ≤ k ∧ k < 4) (hi : 0 ≤ a ∧ 0 ≤ c ∧ a + c < 24) (hz : z = b.cell t c) (hr : inR z) (e : m = mL μ (ν + 17) (24 * k + a + c) (Int32.ofInt z).toInt64) : RSh m ν (upS S k (flm (S k) b t a (c + 1))) := by
  have q := h.put (m := m) (i := a + c) (w := Int64.ofInt z) hk (by omega) (by rw [e, i2l_of hr, show 24 * k + a + c = 24 * k + (a + c) by omega])
  rw [upS_at, upS_up, hz, flm_put hi.2.1] at q
  exact q
theorem r_film (l : Launch) (G : Gl) (Λ : Lay) (sz : Nat) (μ : Mem) {ν : Nat} {ρ : Nat → PS} {b : Bd} {S : Int → Sht} {f i k lane a : Int} (hR : refK Λ ν) (ha : RA μ ν ρ b) (hS : RSh μ ν S) (rf : inR f) (ri : inR i) (rk : inR k) (rlane : inR lane) (ra : inR a) : Sp l G yX12_film cX12_film 8 (some FieldType.int) 2 [.ref ν, iv f, iv i, iv k, iv lane, iv a] Λ sz μ (pI (fun z μ' => z = flmA S f i k lane a ∧ RSh μ' ν (flmS b S f i k lane a) ∧ FrSh ν μ μ')) := by
  refine Sp.intro (by decide) (Nat.le_of_ble_eq_true rfl) (fun x hx hBD => ?_)
  refine v_lv [(0, .ref ν), (1, iv f), (2, iv i), (3, iv k), (4, iv lane), (5, iv a)] rfl ?_
  have L51 : ∀ (nf : Nat) (j : Int) (m : Mem), (12 - j < (nf : Int)) → (layV f i k lane ∧ (S k).ref lane a 12 = 0) → (0 ≤ j ∧ j ≤ 12) → (RSh m ν (upS S k (flm (S k) b (5 * f + i + 2) a j))) → (FrSh ν μ m) → V G x (0, 0) Λ sz m 51 [(7, iv j), (0, .ref ν), (1, iv f), (2, iv i), (3, iv k), (4, iv lane), (5, iv a)] [] := by
    intro nf
    induction nf with
    | zero => intro j m hm hk hj h1 hf; exact absurd hm (by omega)
    | succ nf ih =>
      intro j m hm hk hj h1 hf
      obtain ⟨⟨v0, v1, v2, v3⟩, k1⟩ := hk
      have hk : layV f i k lane ∧ (S k).ref lane a 12 = 0 := ⟨⟨v0, v1, v2, v3⟩, k1⟩
      have v0n := v0.n
      have v1n := v1
      unfold isSh at v1n
      have hhs := hS.has (by omega) k1
      have am := ha.sh hf
      have cr := b.cell_rng ha.2.1 (5 * f + i + 2) j
      refine v_iload hx DX12_film_51 0 rfl ?_
      refine v_push hx DX12_film_53 ?_
      refine v_icmp_ge hx DX12_film_55 (by omega) (by decide) (fun c55 => ?_) (fun c55 => ?_)
      · skip
        refine v_push hx DX12_film_122 ?_
        exact v_ri hx hBD DX12_film_124 (⟨by unfold flmA; rw [if1 hk.1, if_neg (by omega)], by unfold flmS; rw [if_pos hk]; rw [show j = 12 by omega] at h1; exact h1, hf⟩)
      · skip
        refine v_aload hx DX12_film_58 1 rfl ?_
        refine v_get hx DX12_film_59 FLRX12_114 hR.o (v := .ref (ν + 17)) rfl ?_
        refine v_push hx DX12_film_62 ?_
        refine v_iload hx DX12_film_64 4 rfl ?_
        refine v_imul hx DX12_film_65 ?_
        refine v_iload hx DX12_film_66 6 rfl ?_
        refine v_iadd hx DX12_film_68 ?_
        refine v_iload hx DX12_film_69 0 rfl ?_
        refine v_iadd hx DX12_film_71 ?_
        refine v_iload hx DX12_film_72 0 rfl ?_
        refine v_push hx DX12_film_74 ?_
        refine v_icmp_ge hx DX12_film_76 (by omega) (by decide) (fun c76 => ?_) (fun c76 => ?_)
        · skip
          refine v_aload hx DX12_film_97 1 rfl ?_
          refine v_iload hx DX12_film_98 2 rfl ?_
          refine v_iload hx DX12_film_99 3 rfl ?_
          refine v_cSp hx DX12_film_100 CSRX12_155 [iv f, iv i] (r_term l G Λ sz m (by omega)) rfl rfl (Nat.le_of_ble_eq_true rfl) (by decide) ⟨Nat.le_refl _, Nat.le_refl _⟩ ?_
          refine v_cSp hx DX12_film_103 CSRX12_41 [iv ((5 * f + i + 2).toNat : Int)] (r_below (f := (5 * f + i + 2).toNat) l G Λ sz m) rfl rfl (Nat.le_of_ble_eq_true rfl) (by decide) ⟨Nat.le_refl _, Nat.le_refl _⟩ ?_
          refine v_iload hx DX12_film_106 0 rfl ?_
          refine v_push hx DX12_film_108 ?_
          refine v_isub hx DX12_film_110 ?_
          refine v_cVp hx DX12_film_111 CVRX12_159 [iv ((2 * ((5 * f + i + 2).toNat) + 1 : Nat) : Int), iv (j - 7)] (r_at (s := 2 * (5 * f + i + 2).toNat + 1) l G Λ sz m hR am.1 (by omega) (by omega)) hR.o rfl rfl (Nat.le_of_ble_eq_true rfl) (by decide) ⟨Nat.le_refl _, Nat.le_refl _⟩ ?_
          have hq : ca (ρ (2 * (5 * f + i + 2).toNat + 1)) (j - 7) = b.cell (5 * f + i + 2) j := by rw [ha.den (by omega), ca_of (by omega), Bd.den_cf ha.2.1 (by omega) (by omega) (by omega), show 7 + (j - 7) = j by omega]
          refine v_i2l hx DX12_film_114 (w := (Int32.ofInt (ca (ρ (2 * (5 * f + i + 2).toNat + 1)) (j - 7))).toInt64) rfl ?_
          refine v_last hx DX12_film_115 hR.items (by omega) (by decide) (v_mem (fun μ7 eμ7 => ?_))
          refine v_iinc hx DX12_film_116 0 rfl [(7, iv (j + 1)), (0, .ref ν), (1, iv f), (2, iv i), (3, iv k), (4, iv lane), (5, iv a)] rfl (by decide) ?_
          refine v_goto hx DX12_film_119 ?_
          exact v_sub [0, 1, 2, 3, 4, 5, 6] _ rfl (ih (j + 1) μ7 (by omega) hk (by omega) (h1.fput (by omega) (by omega) hq (by omega) eμ7) (hf.trans (by rw [eμ7]; exact FrSh.wL)))
        · skip
          refine v_aload hx DX12_film_79 1 rfl ?_
          refine v_iload hx DX12_film_80 2 rfl ?_
          refine v_iload hx DX12_film_81 3 rfl ?_
          refine v_cSp hx DX12_film_82 CSRX12_155 [iv f, iv i] (r_term l G Λ sz m (by omega)) rfl rfl (Nat.le_of_ble_eq_true rfl) (by decide) ⟨Nat.le_refl _, Nat.le_refl _⟩ ?_
          refine v_cSp hx DX12_film_85 CSRX12_38 [iv ((5 * f + i + 2).toNat : Int)] (r_above (f := (5 * f + i + 2).toNat) l G Λ sz m) rfl rfl (Nat.le_of_ble_eq_true rfl) (by decide) ⟨Nat.le_refl _, Nat.le_refl _⟩ ?_
          refine v_iload hx DX12_film_88 0 rfl ?_
          refine v_cVp hx DX12_film_90 CVRX12_159 [iv ((2 * ((5 * f + i + 2).toNat) : Nat) : Int), iv j] (r_at (s := 2 * (5 * f + i + 2).toNat) l G Λ sz m hR am.1 (by omega) (by omega)) hR.o rfl rfl (Nat.le_of_ble_eq_true rfl) (by decide) ⟨Nat.le_refl _, Nat.le_refl _⟩ ?_
          have hq : ca (ρ (2 * (5 * f + i + 2).toNat)) j = b.cell (5 * f + i + 2) j := by rw [ha.num (by omega), ca_of (by omega), Bd.num_cf ha.2.1 (by omega) (by omega)]
          refine v_i2l hx DX12_film_93 (w := (Int32.ofInt (ca (ρ (2 * (5 * f + i + 2).toNat)) j)).toInt64) rfl ?_
          refine v_goto hx DX12_film_94 ?_
          refine v_last hx DX12_film_115 hR.items (by omega) (by decide) (v_mem (fun μ14 eμ14 => ?_))
          refine v_iinc hx DX12_film_116 0 rfl [(7, iv (j + 1)), (0, .ref ν), (1, iv f), (2, iv i), (3, iv k), (4, iv lane), (5, iv a)] rfl (by decide) ?_
          refine v_goto hx DX12_film_119 ?_
          exact v_sub [0, 1, 2, 3, 4, 5, 6] _ rfl (ih (j + 1) μ14 (by omega) hk (by omega) (h1.fput (by omega) (by omega) hq (by omega) eμ14) (hf.trans (by rw [eμ14]; exact FrSh.wL)))
  refine v_iload hx DX12_film_0 1 rfl ?_
  refine v_iload hx DX12_film_1 2 rfl ?_
  refine v_cSp hx DX12_film_2 CSRX12_151 [iv f, iv i] (r_isTermOf l G Λ sz μ (by omega) (by omega)) rfl rfl (Nat.le_of_ble_eq_true rfl) (by decide) ⟨Nat.le_refl _, Nat.le_refl _⟩ ?_
  have br2 := bz_rng (isTO f i)
  refine v_if_eq hx DX12_film_5 (by omega) (fun c5 => ?_) (fun c5 => ?_)
  · skip
    have d5 := bzf c5
    have nv : ¬ layV f i k lane := fun q => d5 q.1
    refine v_push hx DX12_film_25 ?_
    exact v_ri hx hBD DX12_film_26 (⟨by unfold flmA; rw [if0 nv], by unfold flmS; rw [if_neg (fun q => nv q.1)]; exact hS, FrSh.rf⟩)
  · skip
    have d5 := bzt c5
    have d5n := d5.n
    refine v_iload hx DX12_film_8 3 rfl ?_
    refine v_cSp hx DX12_film_9 CSRX12_344 [iv k] (r_isSheet l G Λ sz μ (by omega)) rfl rfl (Nat.le_of_ble_eq_true rfl) (by decide) ⟨Nat.le_refl _, Nat.le_refl _⟩ ?_
    have br9 := bz_rng (isSh k)
    refine v_if_eq hx DX12_film_12 (by omega) (fun c12 => ?_) (fun c12 => ?_)
    · skip
      have d12 := bzf c12
      have nv : ¬ layV f i k lane := fun q => d12 q.2.1
      refine v_push hx DX12_film_25 ?_
      exact v_ri hx hBD DX12_film_26 (⟨by unfold flmA; rw [if0 nv], by unfold flmS; rw [if_neg (fun q => nv q.1)]; exact hS, FrSh.rf⟩)
    · skip
      have d12 := bzt c12
      have d12n := d12
      unfold isSh at d12n
      refine v_iload hx DX12_film_15 4 rfl ?_
      refine v_push hx DX12_film_17 ?_
      refine v_push hx DX12_film_18 ?_
      refine v_cSp hx DX12_film_19 CSRX12_121 [iv lane, iv 0, iv 3] (r_in l G Λ sz μ (by omega) (by omega) (by omega)) rfl rfl (Nat.le_of_ble_eq_true rfl) (by decide) ⟨Nat.le_refl _, Nat.le_refl _⟩ ?_
      have br19 := bz_rng (0 ≤ lane ∧ lane ≤ 3)
      refine v_if_ne hx DX12_film_22 (by omega) (fun c22 => ?_) (fun c22 => ?_)
      · skip
        have d22 := bzt c22
        refine v_aload hx DX12_film_27 0 rfl ?_
        refine v_iload hx DX12_film_28 3 rfl ?_
        refine v_iload hx DX12_film_29 4 rfl ?_
        refine v_iload hx DX12_film_31 5 rfl ?_
        refine v_push hx DX12_film_33 ?_
        refine v_cVp hx DX12_film_35 CVRX12_347 [iv k, iv lane, iv a, iv 12] (r_why l G Λ sz μ hR hS (by omega) (by omega) (by omega) (by omega)) hR.o rfl rfl (Nat.le_of_ble_eq_true rfl) (by decide) ⟨Nat.le_refl _, Nat.le_refl _⟩ ?_
        have rr := (S k).ref_rng lane a 12
        refine v_istore hx DX12_film_38 [(6, iv ((S k).ref lane a 12)), (0, .ref ν), (1, iv f), (2, iv i), (3, iv k), (4, iv lane), (5, iv a)] rfl (by decide) ?_
        refine v_iload hx DX12_film_40 0 rfl ?_
        refine v_if_eq hx DX12_film_42 (by omega) (fun c42 => ?_) (fun c42 => ?_)
        · skip
          refine v_push hx DX12_film_48 ?_
          refine v_istore hx DX12_film_49 [(7, iv 0), (6, iv ((S k).ref lane a 12)), (0, .ref ν), (1, iv f), (2, iv i), (3, iv k), (4, iv lane), (5, iv a)] rfl (by decide) ?_
          exact v_sub [0, 2, 3, 4, 5, 6, 7] _ rfl (L51 100 0 μ (by omega) ⟨⟨d5, d12, d22⟩, c42⟩ (by omega) (by rw [flm_zero, upS_self]; exact hS) FrSh.rf)
        · skip
          refine v_iload hx DX12_film_45 0 rfl ?_
          exact v_ri hx hBD DX12_film_47 (⟨by unfold flmA; rw [if1 ⟨d5, d12, d22⟩, if_pos c42], by unfold flmS; rw [if_neg (fun q => c42 q.2)]; exact hS, FrSh.rf⟩)
      · skip
        have d22 := bzf c22
        have nv : ¬ layV f i k lane := fun q => d22 q.2.2
        refine v_push hx DX12_film_25 ?_
        exact v_ri hx hBD DX12_film_26 (⟨by unfold flmA; rw [if0 nv], by unfold flmS; rw [if_neg (fun q => nv q.1)]; exact hS, FrSh.rf⟩)
