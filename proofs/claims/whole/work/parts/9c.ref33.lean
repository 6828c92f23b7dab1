/-! ===== the reference: part ===== -/
noncomputable def prt (D : PS) (m : Nat) : PS := (((D.thk (m - 1)).mul (D.thk (m + 1))).dv (D.thk m)).dv (D.thk m)
theorem alg_prt {α : Type} [Lean.Grind.CommRing α] (z y b c : α) (h : b = y * c) : z * y * b * c = z * b * b := by
  have : z * y * b * c = z * b * (y * c) := by grind
  rw [this, ← h]
theorem prt_eq {D : PS} (hD : D.fin) (hD0 : D ≠ PS.zero) (hs : D.size ≤ 90) {m : Nat} (hm : 1 ≤ m) : ((D.thk (m - 1)).dv (D.thk m)).dv ((D.thk m).dv (D.thk (m + 1))) = prt D m := by
  unfold prt
  have ha := PS.thk_spec hD hD0 (by omega) (m - 1)
  have hb := PS.thk_spec hD hD0 (by omega) m
  have hc := PS.thk_spec hD hD0 (by omega) (m + 1)
  have eb : D.thk m = (D.thk (m - 1)).thn := by
    have : D.thk (m - 1 + 1) = (D.thk (m - 1)).thn := rfl
    rwa [show m - 1 + 1 = m by omega] at this
  have ec : D.thk (m + 1) = (D.thk m).thn := rfl
  have d1 := PS.thn_spec ha.1 ha.2.1 (by have := ha.2.2.1; omega)
  rw [← eb] at d1
  have d2 := PS.thn_spec hb.1 hb.2.1 (by have := hb.2.2.1; omega)
  rw [← ec] at d2
  obtain ⟨e1, fx⟩ := PS.dvd_dv hb.1 hb.2.1 d1.2.2.1
  obtain ⟨e2, fy⟩ := PS.dvd_dv hc.1 hc.2.1 d2.2.2.1
  have hx0 : (D.thk (m - 1)).dv (D.thk m) ≠ PS.zero := fun q => ha.2.1 (by rw [e1, q, PS.zero_mul])
  have hy0 : (D.thk m).dv (D.thk (m + 1)) ≠ PS.zero := fun q => hb.2.1 (by rw [e2, q, PS.zero_mul])
  have hd : ((D.thk m).dv (D.thk (m + 1))).dvd ((D.thk (m - 1)).dv (D.thk m)) := by
    refine PS.dvd_mlt' _ _ _ fy fx hy0 hx0 (Nat.le_refl _) (fun P hP i j hi hj => ?_)
    obtain ⟨k, hk, -⟩ := PS.mlt_ex hP D.size D hD hD0 (Nat.le_refl _)
    have a4 := ha.2.2.2 P k hP hk
    have b4 := hb.2.2.2 P k hP hk
    have c4 := hc.2.2.2 P k hP hk
    have q1 := PS.mlt_mul' hP hj b4
    rw [← e1] at q1
    have q2 := PS.mlt_mul' hP hi c4
    rw [← e2] at q2
    have r1 := PS.mlt_un hP a4 q1
    have r2 := PS.mlt_un hP b4 q2
    omega
  obtain ⟨z, hz, ez⟩ := hd
  have l1 := (PS.dv_exact fy hz hy0 ez).1
  rw [l1]
  have e3 : (D.thk (m - 1)).mul (D.thk (m + 1)) = (z.mul (D.thk m)).mul (D.thk m) := by
    rw [e1, ez]
    exact @alg_prt PS psRing z _ (D.thk m) (D.thk (m + 1)) e2
  have l2 := (PS.dv_exact hb.1 (PS.fin_mul hz hb.1) hb.2.1 e3).1
  rw [l2]
  exact ((PS.dv_exact hb.1 hz hb.2.1 rfl).1).symm
def prtV (f i p k : Int) : Prop := isTO f i ∧ (1 ≤ p ∧ p ≤ 4) ∧ 0 ≤ k
noncomputable def prtA (b : Bd) (f i p k : Int) : Int := if bz (prtV f i p k) = 1 then ca (prt (b.den (5 * f + i + 2)) p.toNat) k else -1
theorem r_part (l : Launch) (G : Gl) (Λ : Lay) (sz : Nat) (μ : Mem) {ν : Nat} {ρ : Nat → PS} {b : Bd} {f i p k : Int} (hR : refK Λ ν) (ha : RA μ ν ρ b) (hgd : b.good) (hX : ∃ X, MXI μ ν X) (rf : inR f) (ri : inR i) (rp : inR p) (rk : inR k) : Sp l G yX12_part cX12_part 6 (some FieldType.int) 4 [.ref ν, iv f, iv i, iv p, iv k] Λ sz μ (pI (fun z μ' => z = prtA b f i p k ∧ RQ μ μ' ν b)) := by
  refine Sp.intro (by decide) (Nat.le_of_ble_eq_true rfl) (fun x hx hBD => ?_)
  refine v_lv [(0, .ref ν), (1, iv f), (2, iv i), (3, iv p), (4, iv k)] rfl ?_
  have L42 : ∀ (nf : Nat) (t : Int) (m : Mem) (σ : Nat → PS), (p - t < (nf : Int)) → (prtV f i p k) → (1 ≤ t ∧ t ≤ p) → (RW m ν σ) → (σ 141 = (b.den (5 * f + i + 2)).thk (t - 1).toNat) → (∀ r : Nat, r < 140 → σ r = ρ r) → (Fr [ν + 1] μ m) → V G x (0, 0) Λ sz m 42 [(5, iv t), (0, .ref ν), (1, iv f), (2, iv i), (3, iv p), (4, iv k)] [] := by
    intro nf
    induction nf with
    | zero => intro t m σ hm hV ht h1 e1 hk3 hf; exact absurd hm (by omega)
    | succ nf ih =>
      intro t m σ hm hV ht h1 e1 hk3 hf
      obtain ⟨v1, v2, v3⟩ := hV
      have hV : prtV f i p k := ⟨v1, v2, v3⟩
      have v1n := v1.n
      have og := hgd.tm (t := (5 * f + i + 2)) (by omega)
      have gD : (b.den (5 * f + i + 2)).fin := og.1.2.1
      have gD0 : (b.den (5 * f + i + 2)) ≠ PS.zero := og.1.2.2.1
      have gs : (b.den (5 * f + i + 2)).size ≤ 5 := og.2.2
      refine v_iload hx DX12_part_42 0 rfl ?_
      refine v_iload hx DX12_part_44 4 rfl ?_
      refine v_icmp_ge hx DX12_part_45 (by omega) (by omega) (fun c45 => ?_) (fun c45 => ?_)
      · skip
        refine v_aload hx DX12_part_77 1 rfl ?_
        refine v_push hx DX12_part_78 ?_
        refine v_push hx DX12_part_81 ?_
        refine v_cVv hx DX12_part_84 CVRX12_59 [iv 140, iv 141] (r_derives (s := 140) (t := 141) l G Λ sz m hR h1 (by decide) (by decide)) hR.o rfl rfl (Nat.le_of_ble_eq_true rfl) (by decide) ⟨Nat.le_refl _, Nat.le_refl _⟩ (fun μ1 hμ1 => ?_)
        obtain ⟨σ2, w2, a2, k2⟩ := RW.abs hμ1.1
        have f2 := hμ1.2
        have t2 : σ2 141 = ((b.den (5 * f + i + 2)).thk (p.toNat - 1)) := by rw [k2 141 (by omega), e1, show (t - 1).toNat = p.toNat - 1 by omega]
        refine v_aload hx DX12_part_87 1 rfl ?_
        refine v_push hx DX12_part_88 ?_
        refine v_push hx DX12_part_91 ?_
        refine v_push hx DX12_part_94 ?_
        refine v_cVv hx DX12_part_97 CVRX12_44 [iv 140, iv 141, iv 140] (r_common (o := 140) (a := 141) (b := 140) l G Λ sz μ1 hR w2 (by decide) (by decide) (by decide)) hR.o rfl rfl (Nat.le_of_ble_eq_true rfl) (by decide) ⟨Nat.le_refl _, Nat.le_refl _⟩ (fun μ3 hμ3 => ?_)
        obtain ⟨σ3, w3, a3, k3, f3⟩ := hμ3
        have t3 : σ3 140 = ((b.den (5 * f + i + 2)).thk p.toNat) := by
          have e : (b.den (5 * f + i + 2)).thk (p.toNat - 1 + 1) = ((b.den (5 * f + i + 2)).thk (p.toNat - 1)).thn := rfl
          rw [show p.toNat - 1 + 1 = p.toNat by omega] at e
          rw [e, a3, t2, a2, e1, show (t - 1).toNat = p.toNat - 1 by omega]; rfl
        have sb := PS.thk_spec gD gD0 (by omega) p.toNat
        have sa := PS.thk_spec gD gD0 (by omega) (p.toNat - 1)
        have sc := PS.thk_spec gD gD0 (by omega) (p.toNat + 1)
        refine v_aload hx DX12_part_100 1 rfl ?_
        refine v_push hx DX12_part_101 ?_
        refine v_push hx DX12_part_104 ?_
        refine v_cVv hx DX12_part_107 CVRX12_27 [iv 143, iv 141] (r_lays (s := 143) (t := 141) l G Λ sz μ3 hR w3 (by decide) (by decide)) hR.o rfl rfl (Nat.le_of_ble_eq_true rfl) (by decide) ⟨Nat.le_refl _, Nat.le_refl _⟩ (fun μ5 hμ5 => ?_)
        obtain ⟨σ4, w4, a4, k4⟩ := RW.abs hμ5.1
        have f4 := hμ5.2
        have t4 : σ4 143 = ((b.den (5 * f + i + 2)).thk (p.toNat - 1)) := by rw [a4, k3 141 (by omega) (by omega), t2]
        have u4 : σ4 140 = ((b.den (5 * f + i + 2)).thk p.toNat) := (k4 140 (by omega)).trans t3
        refine v_aload hx DX12_part_110 1 rfl ?_
        refine v_push hx DX12_part_111 ?_
        refine v_push hx DX12_part_114 ?_
        refine v_push hx DX12_part_117 ?_
        refine v_cVv hx DX12_part_120 CVRX12_31 [iv 142, iv 143, iv 140] (r_divides (o := 142) (s := 143) (y := 140) l G Λ sz μ5 hR w4 (by decide) (by decide) (by decide) (by decide) (by decide) (by decide) (by rw [u4]; exact sb.2.1)) hR.o rfl rfl (Nat.le_of_ble_eq_true rfl) (by decide) ⟨Nat.le_refl _, Nat.le_refl _⟩ (fun μ7 hμ7 => ?_)
        have h5 := hμ7
        obtain ⟨σ5, w5, a5, k5⟩ : ∃ τ, RW μ7 ν τ ∧ τ 142 = (σ4 143).dv (σ4 140) ∧ (∀ r, r ≠ 142 → r ≠ 143 → τ r = σ4 r) := ⟨_, h5.1, by rw [up_ne (by omega), up_at], fun r g1 g2 => by rw [up_ne g2, up_ne g1]⟩
        have f5 := h5.2
        have u5 : σ5 140 = ((b.den (5 * f + i + 2)).thk p.toNat) := (k5 140 (by omega) (by omega)).trans u4
        have t5 : σ5 142 = ((b.den (5 * f + i + 2)).thk (p.toNat - 1)).dv ((b.den (5 * f + i + 2)).thk p.toNat) := by rw [a5, t4, u4]
        refine v_aload hx DX12_part_123 1 rfl ?_
        refine v_push hx DX12_part_124 ?_
        refine v_push hx DX12_part_127 ?_
        refine v_cVv hx DX12_part_130 CVRX12_59 [iv 143, iv 140] (r_derives (s := 143) (t := 140) l G Λ sz μ7 hR w5 (by decide) (by decide)) hR.o rfl rfl (Nat.le_of_ble_eq_true rfl) (by decide) ⟨Nat.le_refl _, Nat.le_refl _⟩ (fun μ9 hμ9 => ?_)
        obtain ⟨σ6, w6, a6, k6⟩ := RW.abs hμ9.1
        have f6 := hμ9.2
        refine v_aload hx DX12_part_133 1 rfl ?_
        refine v_push hx DX12_part_134 ?_
        refine v_push hx DX12_part_137 ?_
        refine v_push hx DX12_part_140 ?_
        refine v_cVv hx DX12_part_143 CVRX12_44 [iv 143, iv 140, iv 143] (r_common (o := 143) (a := 140) (b := 143) l G Λ sz μ9 hR w6 (by decide) (by decide) (by decide)) hR.o rfl rfl (Nat.le_of_ble_eq_true rfl) (by decide) ⟨Nat.le_refl _, Nat.le_refl _⟩ (fun μ11 hμ11 => ?_)
        obtain ⟨σ7, w7, a7, k7, f7⟩ := hμ11
        have t7 : σ7 143 = ((b.den (5 * f + i + 2)).thk (p.toNat + 1)) := by rw [a7, a6, k6 140 (by omega), u5]; rfl
        have u7 : σ7 140 = ((b.den (5 * f + i + 2)).thk p.toNat) := (k7 140 (by omega) (by omega)).trans ((k6 140 (by omega)).trans u5)
        have v7 : σ7 142 = ((b.den (5 * f + i + 2)).thk (p.toNat - 1)).dv ((b.den (5 * f + i + 2)).thk p.toNat) := (k7 142 (by omega) (by omega)).trans ((k6 142 (by omega)).trans t5)
        refine v_aload hx DX12_part_146 1 rfl ?_
        refine v_push hx DX12_part_147 ?_
        refine v_push hx DX12_part_150 ?_
        refine v_cVv hx DX12_part_153 CVRX12_27 [iv 144, iv 140] (r_lays (s := 144) (t := 140) l G Λ sz μ11 hR w7 (by decide) (by decide)) hR.o rfl rfl (Nat.le_of_ble_eq_true rfl) (by decide) ⟨Nat.le_refl _, Nat.le_refl _⟩ (fun μ13 hμ13 => ?_)
        obtain ⟨σ8, w8, a8, k8⟩ := RW.abs hμ13.1
        have f8 := hμ13.2
        have t8 : σ8 144 = ((b.den (5 * f + i + 2)).thk p.toNat) := a8.trans u7
        have u8 : σ8 143 = ((b.den (5 * f + i + 2)).thk (p.toNat + 1)) := (k8 143 (by omega)).trans t7
        have v8 := (k8 142 (by omega)).trans v7
        refine v_aload hx DX12_part_156 1 rfl ?_
        refine v_push hx DX12_part_157 ?_
        refine v_push hx DX12_part_160 ?_
        refine v_push hx DX12_part_163 ?_
        refine v_cVv hx DX12_part_166 CVRX12_31 [iv 145, iv 144, iv 143] (r_divides (o := 145) (s := 144) (y := 143) l G Λ sz μ13 hR w8 (by decide) (by decide) (by decide) (by decide) (by decide) (by decide) (by rw [u8]; exact sc.2.1)) hR.o rfl rfl (Nat.le_of_ble_eq_true rfl) (by decide) ⟨Nat.le_refl _, Nat.le_refl _⟩ (fun μ15 hμ15 => ?_)
        have h9 := hμ15
        obtain ⟨σ9, w9, a9, k9⟩ : ∃ τ, RW μ15 ν τ ∧ τ 145 = (σ8 144).dv (σ8 143) ∧ (∀ r, r ≠ 145 → r ≠ 144 → τ r = σ8 r) := ⟨_, h9.1, by rw [up_ne (by omega), up_at], fun r g1 g2 => by rw [up_ne g2, up_ne g1]⟩
        have f9 := h9.2
        have t9 : σ9 145 = ((b.den (5 * f + i + 2)).thk p.toNat).dv ((b.den (5 * f + i + 2)).thk (p.toNat + 1)) := by rw [a9, t8, u8]
        have v9 := (k9 142 (by omega) (by omega)).trans v8
        have y9 : ((b.den (5 * f + i + 2)).thk p.toNat).dv ((b.den (5 * f + i + 2)).thk (p.toNat + 1)) ≠ PS.zero := by
          have d2 := PS.thn_spec sb.1 sb.2.1 (by have := sb.2.2.1; omega)
          obtain ⟨e2, fy⟩ := PS.dvd_dv sc.1 sc.2.1 d2.2.2.1
          exact fun q => sb.2.1 (by rw [e2, q, PS.zero_mul])
        refine v_aload hx DX12_part_169 1 rfl ?_
        refine v_push hx DX12_part_170 ?_
        refine v_push hx DX12_part_173 ?_
        refine v_push hx DX12_part_176 ?_
        refine v_cVv hx DX12_part_179 CVRX12_31 [iv 144, iv 142, iv 145] (r_divides (o := 144) (s := 142) (y := 145) l G Λ sz μ15 hR w9 (by decide) (by decide) (by decide) (by decide) (by decide) (by decide) (by rw [t9]; exact y9)) hR.o rfl rfl (Nat.le_of_ble_eq_true rfl) (by decide) ⟨Nat.le_refl _, Nat.le_refl _⟩ (fun μ17 hμ17 => ?_)
        have h10 := hμ17
        obtain ⟨σ10, w10, a10, k10⟩ : ∃ τ, RW μ17 ν τ ∧ τ 144 = (σ9 142).dv (σ9 145) ∧ (∀ r, r ≠ 144 → r ≠ 142 → τ r = σ9 r) := ⟨_, h10.1, by rw [up_ne (by omega), up_at], fun r g1 g2 => by rw [up_ne g2, up_ne g1]⟩
        have f10 := h10.2
        have tx : σ10 144 = prt (b.den (5 * f + i + 2)) p.toNat := by rw [a10, v9, t9]; exact prt_eq gD gD0 (by omega) (by omega)
        have fx : Fr [ν + 1] μ μ17 := (((((((((hf.trans f2).trans f3).trans f4).trans f5).trans f6).trans f7).trans f8).trans f9).trans f10)
        have kx : ∀ r : Nat, r < 140 → σ10 r = ρ r := fun r hr => (k10 r (by omega) (by omega)).trans ((k9 r (by omega) (by omega)).trans ((k8 r (by omega)).trans ((k7 r (by omega) (by omega)).trans ((k6 r (by omega)).trans ((k5 r (by omega) (by omega)).trans ((k4 r (by omega)).trans ((k3 r (by omega) (by omega)).trans ((k2 r (by omega)).trans (hk3 r hr)))))))))
        have rq : RQ μ μ17 ν b := ⟨⟨σ10, ha.rows w10 (fun r hr => kx r (by omega)) fx⟩, hX.elim (fun X h => ⟨X, h.fr (fx.1 _ (by simp))⟩), FrN.of (fx.mono (by simp)) (by simp)⟩
        refine v_aload hx DX12_part_182 1 rfl ?_
        refine v_push hx DX12_part_183 ?_
        refine v_iload hx DX12_part_186 5 rfl ?_
        refine v_cVp hx DX12_part_188 CVRX12_159 [iv 144, iv k] (r_at (s := 144) l G Λ sz μ17 hR w10 (by decide) (by omega)) hR.o rfl rfl (Nat.le_of_ble_eq_true rfl) (by decide) ⟨Nat.le_refl _, Nat.le_refl _⟩ ?_
        exact v_ri hx hBD DX12_part_191 (⟨by unfold prtA; rw [if1 hV, tx], rq⟩)
      · skip
        refine v_aload hx DX12_part_48 1 rfl ?_
        refine v_push hx DX12_part_49 ?_
        refine v_push hx DX12_part_52 ?_
        refine v_cVv hx DX12_part_55 CVRX12_59 [iv 140, iv 141] (r_derives (s := 140) (t := 141) l G Λ sz m hR h1 (by decide) (by decide)) hR.o rfl rfl (Nat.le_of_ble_eq_true rfl) (by decide) ⟨Nat.le_refl _, Nat.le_refl _⟩ (fun μ21 hμ21 => ?_)
        obtain ⟨σ2, w2, a2, k2⟩ := RW.abs hμ21.1
        have f2 := hμ21.2
        refine v_aload hx DX12_part_58 1 rfl ?_
        refine v_push hx DX12_part_59 ?_
        refine v_push hx DX12_part_62 ?_
        refine v_push hx DX12_part_65 ?_
        refine v_cVv hx DX12_part_68 CVRX12_44 [iv 141, iv 141, iv 140] (r_common (o := 141) (a := 141) (b := 140) l G Λ sz μ21 hR w2 (by decide) (by decide) (by decide)) hR.o rfl rfl (Nat.le_of_ble_eq_true rfl) (by decide) ⟨Nat.le_refl _, Nat.le_refl _⟩ (fun μ23 hμ23 => ?_)
        obtain ⟨σ3, w3, a3, k3, f3⟩ := hμ23
        refine v_iinc hx DX12_part_71 0 rfl [(5, iv (t + 1)), (0, .ref ν), (1, iv f), (2, iv i), (3, iv p), (4, iv k)] rfl (by decide) ?_
        refine v_goto hx DX12_part_74 ?_
        exact v_sub [0, 1, 2, 3, 4, 5] _ rfl (ih (t + 1) μ23 σ3 (by omega) hV (by omega) w3 (by rw [a3, a2, k2 141 (by omega), e1, show (t + 1 - 1).toNat = (t - 1).toNat + 1 by omega]; rfl) (fun r hr => (k3 r (by omega) (by omega)).trans ((k2 r (by omega)).trans (hk3 r hr))) ((hf.trans f2).trans f3))
  refine v_iload hx DX12_part_0 1 rfl ?_
  refine v_iload hx DX12_part_1 2 rfl ?_
  refine v_cSp hx DX12_part_2 CSRX12_151 [iv f, iv i] (r_isTermOf l G Λ sz μ (by omega) (by omega)) rfl rfl (Nat.le_of_ble_eq_true rfl) (by decide) ⟨Nat.le_refl _, Nat.le_refl _⟩ ?_
  have br2 := bz_rng (isTO f i)
  refine v_if_eq hx DX12_part_5 (by omega) (fun c5 => ?_) (fun c5 => ?_)
  · skip
    have d5 := bzf c5
    have nv : ¬ prtV f i p k := fun q => d5 q.1
    refine v_push hx DX12_part_22 ?_
    exact v_ri hx hBD DX12_part_23 (⟨by unfold prtA; rw [if0 nv], RQ.rf ha hX⟩)
  · skip
    have d5 := bzt c5
    have d5n := d5.n
    refine v_iload hx DX12_part_8 3 rfl ?_
    refine v_push hx DX12_part_9 ?_
    refine v_push hx DX12_part_10 ?_
    refine v_cSp hx DX12_part_11 CSRX12_121 [iv p, iv 1, iv 4] (r_in l G Λ sz μ (by omega) (by omega) (by omega)) rfl rfl (Nat.le_of_ble_eq_true rfl) (by decide) ⟨Nat.le_refl _, Nat.le_refl _⟩ ?_
    have br11 := bz_rng (1 ≤ p ∧ p ≤ 4)
    refine v_if_eq hx DX12_part_14 (by omega) (fun c14 => ?_) (fun c14 => ?_)
    · skip
      have d14 := bzf c14
      have nv : ¬ prtV f i p k := fun q => d14 q.2.1
      refine v_push hx DX12_part_22 ?_
      exact v_ri hx hBD DX12_part_23 (⟨by unfold prtA; rw [if0 nv], RQ.rf ha hX⟩)
    · skip
      have d14 := bzt c14
      refine v_iload hx DX12_part_17 4 rfl ?_
      refine v_if_ge hx DX12_part_19 (by omega) (fun c19 => ?_) (fun c19 => ?_)
      · skip
        refine v_aload hx DX12_part_24 0 rfl ?_
        refine v_push hx DX12_part_25 ?_
        refine v_iload hx DX12_part_28 1 rfl ?_
        refine v_iload hx DX12_part_29 2 rfl ?_
        refine v_cSp hx DX12_part_30 CSRX12_155 [iv f, iv i] (r_term l G Λ sz μ (by omega)) rfl rfl (Nat.le_of_ble_eq_true rfl) (by decide) ⟨Nat.le_refl _, Nat.le_refl _⟩ ?_
        refine v_cSp hx DX12_part_33 CSRX12_41 [iv ((5 * f + i + 2).toNat : Int)] (r_below (f := (5 * f + i + 2).toNat) l G Λ sz μ) rfl rfl (Nat.le_of_ble_eq_true rfl) (by decide) ⟨Nat.le_refl _, Nat.le_refl _⟩ ?_
        refine v_cVv hx DX12_part_36 CVRX12_27 [iv 141, iv ((2 * ((5 * f + i + 2).toNat) + 1 : Nat) : Int)] (r_lays (s := 141) (t := 2 * (5 * f + i + 2).toNat + 1) l G Λ sz μ hR ha.1 (by decide) (by omega)) hR.o rfl rfl (Nat.le_of_ble_eq_true rfl) (by decide) ⟨Nat.le_refl _, Nat.le_refl _⟩ (fun μ33 hμ33 => ?_)
        obtain ⟨σ1, w1, a1, k1⟩ := RW.abs hμ33.1
        have f1 := hμ33.2
        refine v_push hx DX12_part_39 ?_
        refine v_istore hx DX12_part_40 [(5, iv 1), (0, .ref ν), (1, iv f), (2, iv i), (3, iv p), (4, iv k)] rfl (by decide) ?_
        exact v_sub [0, 1, 2, 3, 4, 5] _ rfl (L42 100 1 μ33 σ1 (by omega) ⟨d5, d14, by omega⟩ (by omega) w1 (a1.trans (ha.den (by omega))) (fun r hr => k1 r (by omega)) f1)
      · skip
        have nv : ¬ prtV f i p k := fun q => by have := q.2.2; omega
        refine v_push hx DX12_part_22 ?_
        exact v_ri hx hBD DX12_part_23 (⟨by unfold prtA; rw [if0 nv], RQ.rf ha hX⟩)
