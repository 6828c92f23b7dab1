/-! ===== the constructor of the reference ===== -/
theorem bd0_cell {t k : Int} (ht : 0 ≤ t ∧ t < 15) (hk : 0 ≤ k ∧ k < 12) : bd0.cell t k = if k = 7 then 1 else 0 := by
  unfold Bd.cell
  rw [if_pos ⟨ht.1, ht.2, hk.1, hk.2⟩]
  show (if (t * 12 + k) % 12 = 7 ∧ 0 ≤ t * 12 + k ∧ t * 12 + k < 180 then (1 : Int) else 0) = _
  by_cases c : k = 7
  · rw [if_pos c, if_pos (by omega)]
  · rw [if_neg c, if_neg (by omega)]
theorem bd0_num {t : Int} (ht : 0 ≤ t ∧ t < 15) : bd0.num t = PS.zero := PS.ext fun k => by
  unfold Bd.num
  by_cases c : k < 7
  · rw [if_pos c, bd0_cell ht (by omega), if_neg (by omega)]; rfl
  · rw [if_neg c]; rfl
theorem bd0_den {t : Int} (ht : 0 ≤ t ∧ t < 15) : bd0.den t = PS.one := PS.ext fun k => by
  unfold Bd.den
  rw [if_pos ht]
  show _ = (if k = 0 then (1 : F) else 0)
  by_cases c : k < 5
  · rw [if_pos c, bd0_cell ht (by omega)]
    by_cases q : k = 0
    · subst q; rfl
    · rw [if_neg (by omega), if_neg q]; rfl
  · rw [if_neg c, if_neg (by omega)]
def bdz : Bd := (z0, z0, 0, 0)
theorem bdz_ok : bdz.ok := ⟨fun _ => by show 0 ≤ (0 : Int) ∧ (0 : Int) ≤ 100; omega, fun _ => by show 0 ≤ (0 : Int) ∧ (0 : Int) ≤ 100; omega, by decide, by decide⟩
def OR (ν : Nat) (Λ : Lay) (μ : Mem) : Prop := refK Λ ν ∧ Rg ν (ν + 18) Λ μ ∧ (∃ ρ, RA μ ν ρ bd0) ∧ RH μ ν hs0 ∧ RI μ ν none ∧ RT μ ν [] ∧ RSh μ ν (fun _ => sh0) ∧ ∃ X, MXI μ ν X
theorem OR.mk {ν : Nat} {Λ : Lay} {μ m : Mem} {ρ : Nat → PS} (hK : refK Λ ν) (hg : Rg ν (ν + 18) Λ μ) (hr : RW m ν ρ) (hp : ∀ r, r < 124 → ρ r = if r % 2 = 0 then PS.zero else PS.one) (f : Fr [ν + 1] μ m) (h2 : μ.1 ν 2 = 0 ∧ μ.1 ν 4 = 1 ∧ μ.1 ν 5 = 0 ∧ μ.1 ν 6 = 0 ∧ μ.1 ν 8 = 0 ∧ μ.1 ν 25 = 0) (h3 : μ.1 (ν + 3) = z0) (h4 : μ.1 (ν + 4) = z0) (h7 : μ.1 (ν + 7) = z0) (h16 : ∀ k : Int, 0 ≤ k → k < 4 → μ.1 (ν + 16) k = -1) : OR ν Λ m := by
  have e : ∀ a, a ≠ ν + 1 → m.1 a = μ.1 a := fun a ha => f.1 a (by simp; omega)
  refine ⟨hK, ?_, ⟨ρ, hr, bd0_ok, fun t ht => ⟨?_, ?_⟩, fun j g0 g1 => by rw [e _ (by omega), h3]; rfl, by rw [e _ (by omega)]; exact h2.1, by rw [e _ (by omega)]; exact h2.2.1⟩, ⟨fun _ => bdz, 0, by decide, by decide, by rw [e _ (by omega)]; exact h2.2.2.1, by rw [e _ (by omega)]; exact h2.2.2.2.1, fun k hk => ⟨bdz_ok, fun j _ _ => by rw [e _ (by omega), h4]; rfl, by rw [e _ (by omega), h4]; rfl, fun j _ _ => by rw [e _ (by omega), h4]; rfl, by rw [e _ (by omega), h4]; rfl⟩, fun i hi => absurd hi (by simp [hs0])⟩, ?_, ⟨by decide, by rw [e _ (by omega)]; exact h2.2.2.2.2.2, fun i hi => absurd hi (by simp), fun c hc => absurd hc (by simp)⟩, fun k g0 g1 => Or.inl ⟨rfl, by rw [e _ (by omega)]; exact h16 k g0 g1⟩, fun _ _ => 0, fun r c _ _ _ _ => by rw [e _ (by omega), h7]; rfl⟩
  · intro a g0 g1 g2
    have q := hg a g0 g1 g2
    have : Λ a = some (.inl (5, [some (.ref (a + 1)), none])) := q.2.1.1
    have k := hK
    unfold refK at k
    exfalso
    have hb : a = ν ∨ a = ν + 1 ∨ a = ν + 2 ∨ a = ν + 3 ∨ a = ν + 4 ∨ a = ν + 5 ∨ a = ν + 6 ∨ a = ν + 7 ∨ a = ν + 8 ∨ a = ν + 9 ∨ a = ν + 10 ∨ a = ν + 11 ∨ a = ν + 12 ∨ a = ν + 13 ∨ a = ν + 14 ∨ a = ν + 15 ∨ a = ν + 16 ∨ a = ν + 17 := by omega
    obtain ⟨k0, k1, k2, k3, k4, k5, k6, k7, k8, k9, k10, k11, k12, k13, k14, k15, k16, k17⟩ := k
    rcases hb with rfl | rfl | rfl | rfl | rfl | rfl | rfl | rfl | rfl | rfl | rfl | rfl | rfl | rfl | rfl | rfl | rfl | rfl <;> simp_all
  · rw [hp _ (by omega), if_pos (by omega), bd0_num (by omega)]
  · rw [hp _ (by omega), if_neg (by omega), bd0_den (by omega)]
  · show m.1 ν 8 = 0
    rw [e _ (by omega)]; exact h2.2.2.2.2.1
theorem k_X12 (l : Launch) (G : Gl) {Λ : Lay} {μ : Mem} {ν : Nat} (hT : Λ ν = some (.inl (12, [some .null, some .null, none, some .null, none, none, none, some .null, none, none, none, some .null, some .null, none, some .null, some .null, none, none, none, some .null, some .null, some .null, none, none, some .null, none, some .null, some .null, some .null, some .null, some .null]))) (hZ : Zr Λ μ (ν + 1)) (hw : μ.1 ν = z0) : SpN l G yX12_init cX12_init 2 none 4 17 24436 [.ref ν] Λ (ν + 1) μ (CT ν (ν + 18) Λ μ (OR ν)) := by
  refine SpN.intro (by decide) (Nat.le_of_ble_eq_true rfl) (fun x hx hBD hin => ?_)
  refine v_lv [(0, .ref ν)] rfl ?_
  refine v_gB hT (fun hg => ?_)
  refine v_aload hx DX12_init_0 0 rfl ?_
  refine v_objI hx DX12_init_1 mlRX12_62 (by decide) (Nat.le_of_ble_eq_true rfl) ?_
  refine v_aload hx DX12_init_4 0 rfl ?_
  refine v_push hx DX12_init_5 ?_
  refine v_newa (t := 0) (n := 14784) (cs' := (1, 14784)) hx DX12_init_8 (by decide) rfl (lwc1 (List.mem_of_getElem? (i := 48) rfl)) (by decide) (by omega) hZ rfl ⟨Nat.le_of_ble_eq_true rfl, Nat.le_of_ble_eq_true rfl⟩ (fun L1 hA1 sx1 Z1 => ?_)
  have hz1 : μ.1 (ν + 1) = z0 ∧ μ.2 (ν + 1) = z1 := (hZ (ν + 1) (by omega)).2
  have s1 : ∀ a, a ≠ ν + 1 → SmA Λ μ L1 μ a := fun a ha => ⟨sx1 a ha, rfl, rfl⟩
  have hT_1 : L1 (ν) = some (.inl (12, [some .null, some .null, none, some .null, none, none, none, some .null, none, none, none, some .null, some .null, none, some .null, some .null, none, none, none, some .null, some .null, some .null, none, none, some .null, none, some .null, some .null, some .null, some .null, some .null])) := (s1 (ν) (by omega)).1.trans hT
  have wT_1 : μ.1 (ν) = z0 := (s1 (ν) (by omega)).2.1.trans hw
  refine v_putRo (fs' := [some (.ref (ν + 1)), some .null, none, some .null, none, none, none, some .null, none, none, none, some .null, some .null, none, some .null, some .null, none, none, none, some .null, some .null, some .null, none, none, some .null, none, some .null, some .null, some .null, some .null, some .null]) hx hin DX12_init_10 FPRX12_3 hT_1 (Nat.le_of_ble_eq_true rfl) rfl rfl rfl Z1 (by omega) (fun L2 hP2 s2 Z2 => ?_)
  refine v_aload hx DX12_init_13 0 rfl ?_
  refine v_push hx DX12_init_14 ?_
  refine v_newa (t := 0) (n := 192) (cs' := (2, 14976)) hx DX12_init_17 (by decide) rfl (lwc1 (List.mem_of_getElem? (i := 48) rfl)) (by decide) (by omega) Z2 rfl ⟨Nat.le_of_ble_eq_true rfl, Nat.le_of_ble_eq_true rfl⟩ (fun L3 hA3 sx3 Z3 => ?_)
  have hz2 : μ.1 (ν + 2) = z0 ∧ μ.2 (ν + 2) = z1 := (Z2 (ν + 2) (by omega)).2
  have s3 : ∀ a, a ≠ ν + 2 → SmA L2 μ L3 μ a := fun a ha => ⟨sx3 a ha, rfl, rfl⟩
  have hT_3 : L3 (ν) = some (.inl (12, [some (.ref (ν + 1)), some .null, none, some .null, none, none, none, some .null, none, none, none, some .null, some .null, none, some .null, some .null, none, none, none, some .null, some .null, some .null, none, none, some .null, none, some .null, some .null, some .null, some .null, some .null])) := (s3 (ν) (by omega)).1.trans hP2
  have wT_3 : μ.1 (ν) = z0 := (s3 (ν) (by omega)).2.1.trans wT_1
  refine v_putRo (fs' := [some (.ref (ν + 1)), some (.ref (ν + 2)), none, some .null, none, none, none, some .null, none, none, none, some .null, some .null, none, some .null, some .null, none, none, none, some .null, some .null, some .null, none, none, some .null, none, some .null, some .null, some .null, some .null, some .null]) hx hin DX12_init_19 FPRX12_18 hT_3 (Nat.le_of_ble_eq_true rfl) rfl rfl rfl Z3 (by omega) (fun L4 hP4 s4 Z4 => ?_)
  refine v_aload hx DX12_init_22 0 rfl ?_
  refine v_push hx DX12_init_23 ?_
  refine v_newa (t := 0) (n := 4) (cs' := (3, 14980)) hx DX12_init_24 (by decide) rfl (lwc1 (List.mem_of_getElem? (i := 48) rfl)) (by decide) (by omega) Z4 rfl ⟨Nat.le_of_ble_eq_true rfl, Nat.le_of_ble_eq_true rfl⟩ (fun L5 hA5 sx5 Z5 => ?_)
  have hz3 : μ.1 (ν + 3) = z0 ∧ μ.2 (ν + 3) = z1 := (Z4 (ν + 3) (by omega)).2
  have s5 : ∀ a, a ≠ ν + 3 → SmA L4 μ L5 μ a := fun a ha => ⟨sx5 a ha, rfl, rfl⟩
  have hT_5 : L5 (ν) = some (.inl (12, [some (.ref (ν + 1)), some (.ref (ν + 2)), none, some .null, none, none, none, some .null, none, none, none, some .null, some .null, none, some .null, some .null, none, none, none, some .null, some .null, some .null, none, none, some .null, none, some .null, some .null, some .null, some .null, some .null])) := (s5 (ν) (by omega)).1.trans hP4
  have wT_5 : μ.1 (ν) = z0 := (s5 (ν) (by omega)).2.1.trans wT_3
  refine v_putRo (fs' := [some (.ref (ν + 1)), some (.ref (ν + 2)), none, some (.ref (ν + 3)), none, none, none, some .null, none, none, none, some .null, some .null, none, some .null, some .null, none, none, none, some .null, some .null, some .null, none, none, some .null, none, some .null, some .null, some .null, some .null, some .null]) hx hin DX12_init_26 FPRX12_68 hT_5 (Nat.le_of_ble_eq_true rfl) rfl rfl rfl Z5 (by omega) (fun L6 hP6 s6 Z6 => ?_)
  refine v_aload hx DX12_init_29 0 rfl ?_
  refine v_push hx DX12_init_30 ?_
  refine v_putIo hx DX12_init_31 FPRX12_71 hP6 rfl wT_5 rfl Z6 (by omega) (fun m7 wT7 s7 Z7 => ?_)
  have wP7 : m7.1 ν = rw1 (z0) 4 1 := wT7
  refine v_aload hx DX12_init_34 0 rfl ?_
  refine v_push hx DX12_init_35 ?_
  refine v_newa (t := 0) (n := 1152) (cs' := (4, 16132)) hx DX12_init_38 (by decide) rfl (lwc1 (List.mem_of_getElem? (i := 48) rfl)) (by decide) (by omega) Z7 rfl ⟨Nat.le_of_ble_eq_true rfl, Nat.le_of_ble_eq_true rfl⟩ (fun L8 hA8 sx8 Z8 => ?_)
  have hz4 : m7.1 (ν + 4) = z0 ∧ m7.2 (ν + 4) = z1 := (Z7 (ν + 4) (by omega)).2
  have s8 : ∀ a, a ≠ ν + 4 → SmA L6 m7 L8 m7 a := fun a ha => ⟨sx8 a ha, rfl, rfl⟩
  have hT_8 : L8 (ν) = some (.inl (12, [some (.ref (ν + 1)), some (.ref (ν + 2)), none, some (.ref (ν + 3)), none, none, none, some .null, none, none, none, some .null, some .null, none, some .null, some .null, none, none, none, some .null, some .null, some .null, none, none, some .null, none, some .null, some .null, some .null, some .null, some .null])) := (s8 (ν) (by omega)).1.trans hP6
  have wT_8 : m7.1 (ν) = rw1 (z0) 4 1 := (s8 (ν) (by omega)).2.1.trans wP7
  refine v_putRo (fs' := [some (.ref (ν + 1)), some (.ref (ν + 2)), none, some (.ref (ν + 3)), none, none, none, some (.ref (ν + 4)), none, none, none, some .null, some .null, none, some .null, some .null, none, none, none, some .null, some .null, some .null, none, none, some .null, none, some .null, some .null, some .null, some .null, some .null]) hx hin DX12_init_40 FPRX12_75 hT_8 (Nat.le_of_ble_eq_true rfl) rfl rfl rfl Z8 (by omega) (fun L9 hP9 s9 Z9 => ?_)
  refine v_aload hx DX12_init_43 0 rfl ?_
  refine v_push hx DX12_init_44 ?_
  refine v_newa (t := 0) (n := 1344) (cs' := (5, 17476)) hx DX12_init_47 (by decide) rfl (lwc1 (List.mem_of_getElem? (i := 48) rfl)) (by decide) (by omega) Z9 rfl ⟨Nat.le_of_ble_eq_true rfl, Nat.le_of_ble_eq_true rfl⟩ (fun L10 hA10 sx10 Z10 => ?_)
  have hz5 : m7.1 (ν + 5) = z0 ∧ m7.2 (ν + 5) = z1 := (Z9 (ν + 5) (by omega)).2
  have s10 : ∀ a, a ≠ ν + 5 → SmA L9 m7 L10 m7 a := fun a ha => ⟨sx10 a ha, rfl, rfl⟩
  have hT_10 : L10 (ν) = some (.inl (12, [some (.ref (ν + 1)), some (.ref (ν + 2)), none, some (.ref (ν + 3)), none, none, none, some (.ref (ν + 4)), none, none, none, some .null, some .null, none, some .null, some .null, none, none, none, some .null, some .null, some .null, none, none, some .null, none, some .null, some .null, some .null, some .null, some .null])) := (s10 (ν) (by omega)).1.trans hP9
  have wT_10 : m7.1 (ν) = rw1 (z0) 4 1 := (s10 (ν) (by omega)).2.1.trans wT_8
  refine v_putRo (fs' := [some (.ref (ν + 1)), some (.ref (ν + 2)), none, some (.ref (ν + 3)), none, none, none, some (.ref (ν + 4)), none, none, none, some (.ref (ν + 5)), some .null, none, some .null, some .null, none, none, none, some .null, some .null, some .null, none, none, some .null, none, some .null, some .null, some .null, some .null, some .null]) hx hin DX12_init_49 FPRX12_78 hT_10 (Nat.le_of_ble_eq_true rfl) rfl rfl rfl Z10 (by omega) (fun L11 hP11 s11 Z11 => ?_)
  refine v_aload hx DX12_init_52 0 rfl ?_
  refine v_push hx DX12_init_53 ?_
  refine v_newa (t := 0) (n := 256) (cs' := (6, 17732)) hx DX12_init_56 (by decide) rfl (lwc1 (List.mem_of_getElem? (i := 48) rfl)) (by decide) (by omega) Z11 rfl ⟨Nat.le_of_ble_eq_true rfl, Nat.le_of_ble_eq_true rfl⟩ (fun L12 hA12 sx12 Z12 => ?_)
  have hz6 : m7.1 (ν + 6) = z0 ∧ m7.2 (ν + 6) = z1 := (Z11 (ν + 6) (by omega)).2
  have s12 : ∀ a, a ≠ ν + 6 → SmA L11 m7 L12 m7 a := fun a ha => ⟨sx12 a ha, rfl, rfl⟩
  have hT_12 : L12 (ν) = some (.inl (12, [some (.ref (ν + 1)), some (.ref (ν + 2)), none, some (.ref (ν + 3)), none, none, none, some (.ref (ν + 4)), none, none, none, some (.ref (ν + 5)), some .null, none, some .null, some .null, none, none, none, some .null, some .null, some .null, none, none, some .null, none, some .null, some .null, some .null, some .null, some .null])) := (s12 (ν) (by omega)).1.trans hP11
  have wT_12 : m7.1 (ν) = rw1 (z0) 4 1 := (s12 (ν) (by omega)).2.1.trans wT_10
  refine v_putRo (fs' := [some (.ref (ν + 1)), some (.ref (ν + 2)), none, some (.ref (ν + 3)), none, none, none, some (.ref (ν + 4)), none, none, none, some (.ref (ν + 5)), some (.ref (ν + 6)), none, some .null, some .null, none, none, none, some .null, some .null, some .null, none, none, some .null, none, some .null, some .null, some .null, some .null, some .null]) hx hin DX12_init_58 FPRX12_81 hT_12 (Nat.le_of_ble_eq_true rfl) rfl rfl rfl Z12 (by omega) (fun L13 hP13 s13 Z13 => ?_)
  refine v_aload hx DX12_init_61 0 rfl ?_
  refine v_push hx DX12_init_62 ?_
  refine v_newa (t := 0) (n := 6240) (cs' := (7, 23972)) hx DX12_init_65 (by decide) rfl (lwc1 (List.mem_of_getElem? (i := 48) rfl)) (by decide) (by omega) Z13 rfl ⟨Nat.le_of_ble_eq_true rfl, Nat.le_of_ble_eq_true rfl⟩ (fun L14 hA14 sx14 Z14 => ?_)
  have hz7 : m7.1 (ν + 7) = z0 ∧ m7.2 (ν + 7) = z1 := (Z13 (ν + 7) (by omega)).2
  have s14 : ∀ a, a ≠ ν + 7 → SmA L13 m7 L14 m7 a := fun a ha => ⟨sx14 a ha, rfl, rfl⟩
  have hT_14 : L14 (ν) = some (.inl (12, [some (.ref (ν + 1)), some (.ref (ν + 2)), none, some (.ref (ν + 3)), none, none, none, some (.ref (ν + 4)), none, none, none, some (.ref (ν + 5)), some (.ref (ν + 6)), none, some .null, some .null, none, none, none, some .null, some .null, some .null, none, none, some .null, none, some .null, some .null, some .null, some .null, some .null])) := (s14 (ν) (by omega)).1.trans hP13
  have wT_14 : m7.1 (ν) = rw1 (z0) 4 1 := (s14 (ν) (by omega)).2.1.trans wT_12
  refine v_putRo (fs' := [some (.ref (ν + 1)), some (.ref (ν + 2)), none, some (.ref (ν + 3)), none, none, none, some (.ref (ν + 4)), none, none, none, some (.ref (ν + 5)), some (.ref (ν + 6)), none, some (.ref (ν + 7)), some .null, none, none, none, some .null, some .null, some .null, none, none, some .null, none, some .null, some .null, some .null, some .null, some .null]) hx hin DX12_init_67 FPRX12_84 hT_14 (Nat.le_of_ble_eq_true rfl) rfl rfl rfl Z14 (by omega) (fun L15 hP15 s15 Z15 => ?_)
  refine v_aload hx DX12_init_70 0 rfl ?_
  refine v_push hx DX12_init_71 ?_
  refine v_newa (t := 0) (n := 64) (cs' := (8, 24036)) hx DX12_init_73 (by decide) rfl (lwc1 (List.mem_of_getElem? (i := 48) rfl)) (by decide) (by omega) Z15 rfl ⟨Nat.le_of_ble_eq_true rfl, Nat.le_of_ble_eq_true rfl⟩ (fun L16 hA16 sx16 Z16 => ?_)
  have hz8 : m7.1 (ν + 8) = z0 ∧ m7.2 (ν + 8) = z1 := (Z15 (ν + 8) (by omega)).2
  have s16 : ∀ a, a ≠ ν + 8 → SmA L15 m7 L16 m7 a := fun a ha => ⟨sx16 a ha, rfl, rfl⟩
  have hT_16 : L16 (ν) = some (.inl (12, [some (.ref (ν + 1)), some (.ref (ν + 2)), none, some (.ref (ν + 3)), none, none, none, some (.ref (ν + 4)), none, none, none, some (.ref (ν + 5)), some (.ref (ν + 6)), none, some (.ref (ν + 7)), some .null, none, none, none, some .null, some .null, some .null, none, none, some .null, none, some .null, some .null, some .null, some .null, some .null])) := (s16 (ν) (by omega)).1.trans hP15
  have wT_16 : m7.1 (ν) = rw1 (z0) 4 1 := (s16 (ν) (by omega)).2.1.trans wT_14
  refine v_putRo (fs' := [some (.ref (ν + 1)), some (.ref (ν + 2)), none, some (.ref (ν + 3)), none, none, none, some (.ref (ν + 4)), none, none, none, some (.ref (ν + 5)), some (.ref (ν + 6)), none, some (.ref (ν + 7)), some (.ref (ν + 8)), none, none, none, some .null, some .null, some .null, none, none, some .null, none, some .null, some .null, some .null, some .null, some .null]) hx hin DX12_init_75 FPRX12_87 hT_16 (Nat.le_of_ble_eq_true rfl) rfl rfl rfl Z16 (by omega) (fun L17 hP17 s17 Z17 => ?_)
  refine v_aload hx DX12_init_78 0 rfl ?_
  refine v_push hx DX12_init_79 ?_
  refine v_newa (t := 0) (n := 64) (cs' := (9, 24100)) hx DX12_init_81 (by decide) rfl (lwc1 (List.mem_of_getElem? (i := 48) rfl)) (by decide) (by omega) Z17 rfl ⟨Nat.le_of_ble_eq_true rfl, Nat.le_of_ble_eq_true rfl⟩ (fun L18 hA18 sx18 Z18 => ?_)
  have hz9 : m7.1 (ν + 9) = z0 ∧ m7.2 (ν + 9) = z1 := (Z17 (ν + 9) (by omega)).2
  have s18 : ∀ a, a ≠ ν + 9 → SmA L17 m7 L18 m7 a := fun a ha => ⟨sx18 a ha, rfl, rfl⟩
  have hT_18 : L18 (ν) = some (.inl (12, [some (.ref (ν + 1)), some (.ref (ν + 2)), none, some (.ref (ν + 3)), none, none, none, some (.ref (ν + 4)), none, none, none, some (.ref (ν + 5)), some (.ref (ν + 6)), none, some (.ref (ν + 7)), some (.ref (ν + 8)), none, none, none, some .null, some .null, some .null, none, none, some .null, none, some .null, some .null, some .null, some .null, some .null])) := (s18 (ν) (by omega)).1.trans hP17
  have wT_18 : m7.1 (ν) = rw1 (z0) 4 1 := (s18 (ν) (by omega)).2.1.trans wT_16
  refine v_putRo (fs' := [some (.ref (ν + 1)), some (.ref (ν + 2)), none, some (.ref (ν + 3)), none, none, none, some (.ref (ν + 4)), none, none, none, some (.ref (ν + 5)), some (.ref (ν + 6)), none, some (.ref (ν + 7)), some (.ref (ν + 8)), none, none, none, some (.ref (ν + 9)), some .null, some .null, none, none, some .null, none, some .null, some .null, some .null, some .null, some .null]) hx hin DX12_init_83 FPRX12_90 hT_18 (Nat.le_of_ble_eq_true rfl) rfl rfl rfl Z18 (by omega) (fun L19 hP19 s19 Z19 => ?_)
  refine v_aload hx DX12_init_86 0 rfl ?_
  refine v_push hx DX12_init_87 ?_
  refine v_newa (t := 0) (n := 64) (cs' := (10, 24164)) hx DX12_init_89 (by decide) rfl (lwc1 (List.mem_of_getElem? (i := 48) rfl)) (by decide) (by omega) Z19 rfl ⟨Nat.le_of_ble_eq_true rfl, Nat.le_of_ble_eq_true rfl⟩ (fun L20 hA20 sx20 Z20 => ?_)
  have hz10 : m7.1 (ν + 10) = z0 ∧ m7.2 (ν + 10) = z1 := (Z19 (ν + 10) (by omega)).2
  have s20 : ∀ a, a ≠ ν + 10 → SmA L19 m7 L20 m7 a := fun a ha => ⟨sx20 a ha, rfl, rfl⟩
  have hT_20 : L20 (ν) = some (.inl (12, [some (.ref (ν + 1)), some (.ref (ν + 2)), none, some (.ref (ν + 3)), none, none, none, some (.ref (ν + 4)), none, none, none, some (.ref (ν + 5)), some (.ref (ν + 6)), none, some (.ref (ν + 7)), some (.ref (ν + 8)), none, none, none, some (.ref (ν + 9)), some .null, some .null, none, none, some .null, none, some .null, some .null, some .null, some .null, some .null])) := (s20 (ν) (by omega)).1.trans hP19
  have wT_20 : m7.1 (ν) = rw1 (z0) 4 1 := (s20 (ν) (by omega)).2.1.trans wT_18
  refine v_putRo (fs' := [some (.ref (ν + 1)), some (.ref (ν + 2)), none, some (.ref (ν + 3)), none, none, none, some (.ref (ν + 4)), none, none, none, some (.ref (ν + 5)), some (.ref (ν + 6)), none, some (.ref (ν + 7)), some (.ref (ν + 8)), none, none, none, some (.ref (ν + 9)), some (.ref (ν + 10)), some .null, none, none, some .null, none, some .null, some .null, some .null, some .null, some .null]) hx hin DX12_init_91 FPRX12_93 hT_20 (Nat.le_of_ble_eq_true rfl) rfl rfl rfl Z20 (by omega) (fun L21 hP21 s21 Z21 => ?_)
  refine v_aload hx DX12_init_94 0 rfl ?_
  refine v_push hx DX12_init_95 ?_
  refine v_newa (t := 0) (n := 64) (cs' := (11, 24228)) hx DX12_init_97 (by decide) rfl (lwc1 (List.mem_of_getElem? (i := 48) rfl)) (by decide) (by omega) Z21 rfl ⟨Nat.le_of_ble_eq_true rfl, Nat.le_of_ble_eq_true rfl⟩ (fun L22 hA22 sx22 Z22 => ?_)
  have hz11 : m7.1 (ν + 11) = z0 ∧ m7.2 (ν + 11) = z1 := (Z21 (ν + 11) (by omega)).2
  have s22 : ∀ a, a ≠ ν + 11 → SmA L21 m7 L22 m7 a := fun a ha => ⟨sx22 a ha, rfl, rfl⟩
  have hT_22 : L22 (ν) = some (.inl (12, [some (.ref (ν + 1)), some (.ref (ν + 2)), none, some (.ref (ν + 3)), none, none, none, some (.ref (ν + 4)), none, none, none, some (.ref (ν + 5)), some (.ref (ν + 6)), none, some (.ref (ν + 7)), some (.ref (ν + 8)), none, none, none, some (.ref (ν + 9)), some (.ref (ν + 10)), some .null, none, none, some .null, none, some .null, some .null, some .null, some .null, some .null])) := (s22 (ν) (by omega)).1.trans hP21
  have wT_22 : m7.1 (ν) = rw1 (z0) 4 1 := (s22 (ν) (by omega)).2.1.trans wT_20
  refine v_putRo (fs' := [some (.ref (ν + 1)), some (.ref (ν + 2)), none, some (.ref (ν + 3)), none, none, none, some (.ref (ν + 4)), none, none, none, some (.ref (ν + 5)), some (.ref (ν + 6)), none, some (.ref (ν + 7)), some (.ref (ν + 8)), none, none, none, some (.ref (ν + 9)), some (.ref (ν + 10)), some (.ref (ν + 11)), none, none, some .null, none, some .null, some .null, some .null, some .null, some .null]) hx hin DX12_init_99 FPRX12_96 hT_22 (Nat.le_of_ble_eq_true rfl) rfl rfl rfl Z22 (by omega) (fun L23 hP23 s23 Z23 => ?_)
  refine v_aload hx DX12_init_102 0 rfl ?_
  refine v_push hx DX12_init_103 ?_
  refine v_newa (t := 0) (n := 90) (cs' := (12, 24318)) hx DX12_init_105 (by decide) rfl (lwc1 (List.mem_of_getElem? (i := 48) rfl)) (by decide) (by omega) Z23 rfl ⟨Nat.le_of_ble_eq_true rfl, Nat.le_of_ble_eq_true rfl⟩ (fun L24 hA24 sx24 Z24 => ?_)
  have hz12 : m7.1 (ν + 12) = z0 ∧ m7.2 (ν + 12) = z1 := (Z23 (ν + 12) (by omega)).2
  have s24 : ∀ a, a ≠ ν + 12 → SmA L23 m7 L24 m7 a := fun a ha => ⟨sx24 a ha, rfl, rfl⟩
  have hT_24 : L24 (ν) = some (.inl (12, [some (.ref (ν + 1)), some (.ref (ν + 2)), none, some (.ref (ν + 3)), none, none, none, some (.ref (ν + 4)), none, none, none, some (.ref (ν + 5)), some (.ref (ν + 6)), none, some (.ref (ν + 7)), some (.ref (ν + 8)), none, none, none, some (.ref (ν + 9)), some (.ref (ν + 10)), some (.ref (ν + 11)), none, none, some .null, none, some .null, some .null, some .null, some .null, some .null])) := (s24 (ν) (by omega)).1.trans hP23
  have wT_24 : m7.1 (ν) = rw1 (z0) 4 1 := (s24 (ν) (by omega)).2.1.trans wT_22
  refine v_putRo (fs' := [some (.ref (ν + 1)), some (.ref (ν + 2)), none, some (.ref (ν + 3)), none, none, none, some (.ref (ν + 4)), none, none, none, some (.ref (ν + 5)), some (.ref (ν + 6)), none, some (.ref (ν + 7)), some (.ref (ν + 8)), none, none, none, some (.ref (ν + 9)), some (.ref (ν + 10)), some (.ref (ν + 11)), none, none, some (.ref (ν + 12)), none, some .null, some .null, some .null, some .null, some .null]) hx hin DX12_init_107 FPRX12_99 hT_24 (Nat.le_of_ble_eq_true rfl) rfl rfl rfl Z24 (by omega) (fun L25 hP25 s25 Z25 => ?_)
  refine v_aload hx DX12_init_110 0 rfl ?_
  refine v_push hx DX12_init_111 ?_
  refine v_newa (t := 0) (n := 7) (cs' := (13, 24325)) hx DX12_init_113 (by decide) rfl (lwc1 (List.mem_of_getElem? (i := 48) rfl)) (by decide) (by omega) Z25 rfl ⟨Nat.le_of_ble_eq_true rfl, Nat.le_of_ble_eq_true rfl⟩ (fun L26 hA26 sx26 Z26 => ?_)
  have hz13 : m7.1 (ν + 13) = z0 ∧ m7.2 (ν + 13) = z1 := (Z25 (ν + 13) (by omega)).2
  have s26 : ∀ a, a ≠ ν + 13 → SmA L25 m7 L26 m7 a := fun a ha => ⟨sx26 a ha, rfl, rfl⟩
  have hT_26 : L26 (ν) = some (.inl (12, [some (.ref (ν + 1)), some (.ref (ν + 2)), none, some (.ref (ν + 3)), none, none, none, some (.ref (ν + 4)), none, none, none, some (.ref (ν + 5)), some (.ref (ν + 6)), none, some (.ref (ν + 7)), some (.ref (ν + 8)), none, none, none, some (.ref (ν + 9)), some (.ref (ν + 10)), some (.ref (ν + 11)), none, none, some (.ref (ν + 12)), none, some .null, some .null, some .null, some .null, some .null])) := (s26 (ν) (by omega)).1.trans hP25
  have wT_26 : m7.1 (ν) = rw1 (z0) 4 1 := (s26 (ν) (by omega)).2.1.trans wT_24
  refine v_putRo (fs' := [some (.ref (ν + 1)), some (.ref (ν + 2)), none, some (.ref (ν + 3)), none, none, none, some (.ref (ν + 4)), none, none, none, some (.ref (ν + 5)), some (.ref (ν + 6)), none, some (.ref (ν + 7)), some (.ref (ν + 8)), none, none, none, some (.ref (ν + 9)), some (.ref (ν + 10)), some (.ref (ν + 11)), none, none, some (.ref (ν + 12)), none, some (.ref (ν + 13)), some .null, some .null, some .null, some .null]) hx hin DX12_init_115 FPRX12_102 hT_26 (Nat.le_of_ble_eq_true rfl) rfl rfl rfl Z26 (by omega) (fun L27 hP27 s27 Z27 => ?_)
  refine v_aload hx DX12_init_118 0 rfl ?_
  refine v_push hx DX12_init_119 ?_
  refine v_newa (t := 0) (n := 7) (cs' := (14, 24332)) hx DX12_init_121 (by decide) rfl (lwc1 (List.mem_of_getElem? (i := 48) rfl)) (by decide) (by omega) Z27 rfl ⟨Nat.le_of_ble_eq_true rfl, Nat.le_of_ble_eq_true rfl⟩ (fun L28 hA28 sx28 Z28 => ?_)
  have hz14 : m7.1 (ν + 14) = z0 ∧ m7.2 (ν + 14) = z1 := (Z27 (ν + 14) (by omega)).2
  have s28 : ∀ a, a ≠ ν + 14 → SmA L27 m7 L28 m7 a := fun a ha => ⟨sx28 a ha, rfl, rfl⟩
  have hT_28 : L28 (ν) = some (.inl (12, [some (.ref (ν + 1)), some (.ref (ν + 2)), none, some (.ref (ν + 3)), none, none, none, some (.ref (ν + 4)), none, none, none, some (.ref (ν + 5)), some (.ref (ν + 6)), none, some (.ref (ν + 7)), some (.ref (ν + 8)), none, none, none, some (.ref (ν + 9)), some (.ref (ν + 10)), some (.ref (ν + 11)), none, none, some (.ref (ν + 12)), none, some (.ref (ν + 13)), some .null, some .null, some .null, some .null])) := (s28 (ν) (by omega)).1.trans hP27
  have wT_28 : m7.1 (ν) = rw1 (z0) 4 1 := (s28 (ν) (by omega)).2.1.trans wT_26
  refine v_putRo (fs' := [some (.ref (ν + 1)), some (.ref (ν + 2)), none, some (.ref (ν + 3)), none, none, none, some (.ref (ν + 4)), none, none, none, some (.ref (ν + 5)), some (.ref (ν + 6)), none, some (.ref (ν + 7)), some (.ref (ν + 8)), none, none, none, some (.ref (ν + 9)), some (.ref (ν + 10)), some (.ref (ν + 11)), none, none, some (.ref (ν + 12)), none, some (.ref (ν + 13)), some (.ref (ν + 14)), some .null, some .null, some .null]) hx hin DX12_init_123 FPRX12_105 hT_28 (Nat.le_of_ble_eq_true rfl) rfl rfl rfl Z28 (by omega) (fun L29 hP29 s29 Z29 => ?_)
  refine v_aload hx DX12_init_126 0 rfl ?_
  refine v_push hx DX12_init_127 ?_
  refine v_newa (t := 0) (n := 4) (cs' := (15, 24336)) hx DX12_init_128 (by decide) rfl (lwc1 (List.mem_of_getElem? (i := 48) rfl)) (by decide) (by omega) Z29 rfl ⟨Nat.le_of_ble_eq_true rfl, Nat.le_of_ble_eq_true rfl⟩ (fun L30 hA30 sx30 Z30 => ?_)
  have hz15 : m7.1 (ν + 15) = z0 ∧ m7.2 (ν + 15) = z1 := (Z29 (ν + 15) (by omega)).2
  have s30 : ∀ a, a ≠ ν + 15 → SmA L29 m7 L30 m7 a := fun a ha => ⟨sx30 a ha, rfl, rfl⟩
  have hT_30 : L30 (ν) = some (.inl (12, [some (.ref (ν + 1)), some (.ref (ν + 2)), none, some (.ref (ν + 3)), none, none, none, some (.ref (ν + 4)), none, none, none, some (.ref (ν + 5)), some (.ref (ν + 6)), none, some (.ref (ν + 7)), some (.ref (ν + 8)), none, none, none, some (.ref (ν + 9)), some (.ref (ν + 10)), some (.ref (ν + 11)), none, none, some (.ref (ν + 12)), none, some (.ref (ν + 13)), some (.ref (ν + 14)), some .null, some .null, some .null])) := (s30 (ν) (by omega)).1.trans hP29
  have wT_30 : m7.1 (ν) = rw1 (z0) 4 1 := (s30 (ν) (by omega)).2.1.trans wT_28
  refine v_putRo (fs' := [some (.ref (ν + 1)), some (.ref (ν + 2)), none, some (.ref (ν + 3)), none, none, none, some (.ref (ν + 4)), none, none, none, some (.ref (ν + 5)), some (.ref (ν + 6)), none, some (.ref (ν + 7)), some (.ref (ν + 8)), none, none, none, some (.ref (ν + 9)), some (.ref (ν + 10)), some (.ref (ν + 11)), none, none, some (.ref (ν + 12)), none, some (.ref (ν + 13)), some (.ref (ν + 14)), some (.ref (ν + 15)), some .null, some .null]) hx hin DX12_init_130 FPRX12_108 hT_30 (Nat.le_of_ble_eq_true rfl) rfl rfl rfl Z30 (by omega) (fun L31 hP31 s31 Z31 => ?_)
  refine v_aload hx DX12_init_133 0 rfl ?_
  refine v_push hx DX12_init_134 ?_
  refine v_newa (t := 0) (n := 4) (cs' := (16, 24340)) hx DX12_init_135 (by decide) rfl (lwc1 (List.mem_of_getElem? (i := 48) rfl)) (by decide) (by omega) Z31 rfl ⟨Nat.le_of_ble_eq_true rfl, Nat.le_of_ble_eq_true rfl⟩ (fun L32 hA32 sx32 Z32 => ?_)
  have hz16 : m7.1 (ν + 16) = z0 ∧ m7.2 (ν + 16) = z1 := (Z31 (ν + 16) (by omega)).2
  have s32 : ∀ a, a ≠ ν + 16 → SmA L31 m7 L32 m7 a := fun a ha => ⟨sx32 a ha, rfl, rfl⟩
  have hT_32 : L32 (ν) = some (.inl (12, [some (.ref (ν + 1)), some (.ref (ν + 2)), none, some (.ref (ν + 3)), none, none, none, some (.ref (ν + 4)), none, none, none, some (.ref (ν + 5)), some (.ref (ν + 6)), none, some (.ref (ν + 7)), some (.ref (ν + 8)), none, none, none, some (.ref (ν + 9)), some (.ref (ν + 10)), some (.ref (ν + 11)), none, none, some (.ref (ν + 12)), none, some (.ref (ν + 13)), some (.ref (ν + 14)), some (.ref (ν + 15)), some .null, some .null])) := (s32 (ν) (by omega)).1.trans hP31
  have wT_32 : m7.1 (ν) = rw1 (z0) 4 1 := (s32 (ν) (by omega)).2.1.trans wT_30
  refine v_dup hx DX12_init_137 rfl ?_
  refine v_push hx DX12_init_138 ?_
  refine v_push hx DX12_init_139 ?_
  refine v_iasto hx DX12_init_140 hA32 (by decide) (by decide) hz16.1 rfl Z32 (by omega) (fun m33 wT33 s33 Z33 => ?_)
  have wP33 : m33.1 (ν + 16) = rw1 (z0) 0 (-1) := wT33
  have hT_33 : L32 (ν) = some (.inl (12, [some (.ref (ν + 1)), some (.ref (ν + 2)), none, some (.ref (ν + 3)), none, none, none, some (.ref (ν + 4)), none, none, none, some (.ref (ν + 5)), some (.ref (ν + 6)), none, some (.ref (ν + 7)), some (.ref (ν + 8)), none, none, none, some (.ref (ν + 9)), some (.ref (ν + 10)), some (.ref (ν + 11)), none, none, some (.ref (ν + 12)), none, some (.ref (ν + 13)), some (.ref (ν + 14)), some (.ref (ν + 15)), some .null, some .null])) := (s33 (ν) (by omega)).1.trans hT_32
  have wT_33 : m33.1 (ν) = rw1 (z0) 4 1 := (s33 (ν) (by omega)).2.1.trans wT_32
  refine v_dup hx DX12_init_141 rfl ?_
  refine v_push hx DX12_init_142 ?_
  refine v_push hx DX12_init_143 ?_
  refine v_iasto hx DX12_init_144 hA32 (by decide) (by decide) wP33 rfl Z33 (by omega) (fun m34 wT34 s34 Z34 => ?_)
  have wP34 : m34.1 (ν + 16) = rw1 (rw1 (z0) 0 (-1)) 1 (-1) := wT34
  have hT_34 : L32 (ν) = some (.inl (12, [some (.ref (ν + 1)), some (.ref (ν + 2)), none, some (.ref (ν + 3)), none, none, none, some (.ref (ν + 4)), none, none, none, some (.ref (ν + 5)), some (.ref (ν + 6)), none, some (.ref (ν + 7)), some (.ref (ν + 8)), none, none, none, some (.ref (ν + 9)), some (.ref (ν + 10)), some (.ref (ν + 11)), none, none, some (.ref (ν + 12)), none, some (.ref (ν + 13)), some (.ref (ν + 14)), some (.ref (ν + 15)), some .null, some .null])) := (s34 (ν) (by omega)).1.trans hT_33
  have wT_34 : m34.1 (ν) = rw1 (z0) 4 1 := (s34 (ν) (by omega)).2.1.trans wT_33
  refine v_dup hx DX12_init_145 rfl ?_
  refine v_push hx DX12_init_146 ?_
  refine v_push hx DX12_init_147 ?_
  refine v_iasto hx DX12_init_148 hA32 (by decide) (by decide) wP34 rfl Z34 (by omega) (fun m35 wT35 s35 Z35 => ?_)
  have wP35 : m35.1 (ν + 16) = rw1 (rw1 (rw1 (z0) 0 (-1)) 1 (-1)) 2 (-1) := wT35
  have hT_35 : L32 (ν) = some (.inl (12, [some (.ref (ν + 1)), some (.ref (ν + 2)), none, some (.ref (ν + 3)), none, none, none, some (.ref (ν + 4)), none, none, none, some (.ref (ν + 5)), some (.ref (ν + 6)), none, some (.ref (ν + 7)), some (.ref (ν + 8)), none, none, none, some (.ref (ν + 9)), some (.ref (ν + 10)), some (.ref (ν + 11)), none, none, some (.ref (ν + 12)), none, some (.ref (ν + 13)), some (.ref (ν + 14)), some (.ref (ν + 15)), some .null, some .null])) := (s35 (ν) (by omega)).1.trans hT_34
  have wT_35 : m35.1 (ν) = rw1 (z0) 4 1 := (s35 (ν) (by omega)).2.1.trans wT_34
  refine v_dup hx DX12_init_149 rfl ?_
  refine v_push hx DX12_init_150 ?_
  refine v_push hx DX12_init_151 ?_
  refine v_iasto hx DX12_init_152 hA32 (by decide) (by decide) wP35 rfl Z35 (by omega) (fun m36 wT36 s36 Z36 => ?_)
  have wP36 : m36.1 (ν + 16) = rw1 (rw1 (rw1 (rw1 (z0) 0 (-1)) 1 (-1)) 2 (-1)) 3 (-1) := wT36
  have hT_36 : L32 (ν) = some (.inl (12, [some (.ref (ν + 1)), some (.ref (ν + 2)), none, some (.ref (ν + 3)), none, none, none, some (.ref (ν + 4)), none, none, none, some (.ref (ν + 5)), some (.ref (ν + 6)), none, some (.ref (ν + 7)), some (.ref (ν + 8)), none, none, none, some (.ref (ν + 9)), some (.ref (ν + 10)), some (.ref (ν + 11)), none, none, some (.ref (ν + 12)), none, some (.ref (ν + 13)), some (.ref (ν + 14)), some (.ref (ν + 15)), some .null, some .null])) := (s36 (ν) (by omega)).1.trans hT_35
  have wT_36 : m36.1 (ν) = rw1 (z0) 4 1 := (s36 (ν) (by omega)).2.1.trans wT_35
  refine v_putRo (fs' := [some (.ref (ν + 1)), some (.ref (ν + 2)), none, some (.ref (ν + 3)), none, none, none, some (.ref (ν + 4)), none, none, none, some (.ref (ν + 5)), some (.ref (ν + 6)), none, some (.ref (ν + 7)), some (.ref (ν + 8)), none, none, none, some (.ref (ν + 9)), some (.ref (ν + 10)), some (.ref (ν + 11)), none, none, some (.ref (ν + 12)), none, some (.ref (ν + 13)), some (.ref (ν + 14)), some (.ref (ν + 15)), some (.ref (ν + 16)), some .null]) hx hin DX12_init_153 FPRX12_111 hT_36 (Nat.le_of_ble_eq_true rfl) rfl rfl rfl Z36 (by omega) (fun L37 hP37 s37 Z37 => ?_)
  have hR16_37 : L37 (ν + 16) = some (.inr (0, 4, [])) := (s37 (ν + 16) (by omega)).1.trans hA32
  have wR16_37 : m36.1 (ν + 16) = rw1 (rw1 (rw1 (rw1 (z0) 0 (-1)) 1 (-1)) 2 (-1)) 3 (-1) := (s37 (ν + 16) (by omega)).2.1.trans wP36
  refine v_aload hx DX12_init_156 0 rfl ?_
  refine v_push hx DX12_init_157 ?_
  refine v_newa (t := 2) (n := 96) (cs' := (17, 24436)) hx DX12_init_159 (by decide) rfl (lwc2 (List.mem_of_getElem? (i := 132) rfl)) (by decide) (by omega) Z37 rfl ⟨Nat.le_of_ble_eq_true rfl, Nat.le_of_ble_eq_true rfl⟩ (fun L38 hA38 sx38 Z38 => ?_)
  have hz17 : m36.1 (ν + 17) = z0 ∧ m36.2 (ν + 17) = z1 := (Z37 (ν + 17) (by omega)).2
  have s38 : ∀ a, a ≠ ν + 17 → SmA L37 m36 L38 m36 a := fun a ha => ⟨sx38 a ha, rfl, rfl⟩
  have hT_38 : L38 (ν) = some (.inl (12, [some (.ref (ν + 1)), some (.ref (ν + 2)), none, some (.ref (ν + 3)), none, none, none, some (.ref (ν + 4)), none, none, none, some (.ref (ν + 5)), some (.ref (ν + 6)), none, some (.ref (ν + 7)), some (.ref (ν + 8)), none, none, none, some (.ref (ν + 9)), some (.ref (ν + 10)), some (.ref (ν + 11)), none, none, some (.ref (ν + 12)), none, some (.ref (ν + 13)), some (.ref (ν + 14)), some (.ref (ν + 15)), some (.ref (ν + 16)), some .null])) := (s38 (ν) (by omega)).1.trans hP37
  have wT_38 : m36.1 (ν) = rw1 (z0) 4 1 := (s38 (ν) (by omega)).2.1.trans wT_36
  have hR16_38 : L38 (ν + 16) = some (.inr (0, 4, [])) := (s38 (ν + 16) (by omega)).1.trans hR16_37
  have wR16_38 : m36.1 (ν + 16) = rw1 (rw1 (rw1 (rw1 (z0) 0 (-1)) 1 (-1)) 2 (-1)) 3 (-1) := (s38 (ν + 16) (by omega)).2.1.trans wR16_37
  refine v_putRo (fs' := [some (.ref (ν + 1)), some (.ref (ν + 2)), none, some (.ref (ν + 3)), none, none, none, some (.ref (ν + 4)), none, none, none, some (.ref (ν + 5)), some (.ref (ν + 6)), none, some (.ref (ν + 7)), some (.ref (ν + 8)), none, none, none, some (.ref (ν + 9)), some (.ref (ν + 10)), some (.ref (ν + 11)), none, none, some (.ref (ν + 12)), none, some (.ref (ν + 13)), some (.ref (ν + 14)), some (.ref (ν + 15)), some (.ref (ν + 16)), some (.ref (ν + 17))]) hx hin DX12_init_161 FPRX12_114 hT_38 (Nat.le_of_ble_eq_true rfl) rfl rfl rfl Z38 (by omega) (fun L39 hP39 s39 Z39 => ?_)
  have hR16_39 : L39 (ν + 16) = some (.inr (0, 4, [])) := (s39 (ν + 16) (by omega)).1.trans hR16_38
  have wR16_39 : m36.1 (ν + 16) = rw1 (rw1 (rw1 (rw1 (z0) 0 (-1)) 1 (-1)) 2 (-1)) 3 (-1) := (s39 (ν + 16) (by omega)).2.1.trans wR16_38
  refine v_push hx DX12_init_164 ?_
  refine v_istore hx DX12_init_165 [(1, iv 0), (0, .ref ν)] rfl (by decide) ?_
  have S39 : ∀ a, a < ν + 18 → a ≠ ν → a ≠ ν + 16 → SmA L39 m36 L39 m36 a := fun a _ _ _ => SmA.rf
  have S38 : ∀ a, a < ν + 18 → a ≠ ν → a ≠ ν + 16 → SmA L38 m36 L39 m36 a := fun a h0 q0 q16 => (s39 a (by omega)).trans (S39 a (by omega) q0 q16)
  have S37 : ∀ a, a < ν + 17 → a ≠ ν → a ≠ ν + 16 → SmA L37 m36 L39 m36 a := fun a h0 q0 q16 => (s38 a (by omega)).trans (S38 a (by omega) q0 q16)
  have S36 : ∀ a, a < ν + 17 → a ≠ ν → a ≠ ν + 16 → SmA L32 m36 L39 m36 a := fun a h0 q0 q16 => (s37 a (by omega)).trans (S37 a (by omega) q0 q16)
  have S35 : ∀ a, a < ν + 17 → a ≠ ν → a ≠ ν + 16 → SmA L32 m35 L39 m36 a := fun a h0 q0 q16 => (s36 a (by omega)).trans (S36 a (by omega) q0 q16)
  have S34 : ∀ a, a < ν + 17 → a ≠ ν → a ≠ ν + 16 → SmA L32 m34 L39 m36 a := fun a h0 q0 q16 => (s35 a (by omega)).trans (S35 a (by omega) q0 q16)
  have S33 : ∀ a, a < ν + 17 → a ≠ ν → a ≠ ν + 16 → SmA L32 m33 L39 m36 a := fun a h0 q0 q16 => (s34 a (by omega)).trans (S34 a (by omega) q0 q16)
  have S32 : ∀ a, a < ν + 17 → a ≠ ν → a ≠ ν + 16 → SmA L32 m7 L39 m36 a := fun a h0 q0 q16 => (s33 a (by omega)).trans (S33 a (by omega) q0 q16)
  have S31 : ∀ a, a < ν + 16 → a ≠ ν → a ≠ ν + 16 → SmA L31 m7 L39 m36 a := fun a h0 q0 q16 => (s32 a (by omega)).trans (S32 a (by omega) q0 q16)
  have S30 : ∀ a, a < ν + 16 → a ≠ ν → a ≠ ν + 16 → SmA L30 m7 L39 m36 a := fun a h0 q0 q16 => (s31 a (by omega)).trans (S31 a (by omega) q0 q16)
  have S29 : ∀ a, a < ν + 15 → a ≠ ν → a ≠ ν + 16 → SmA L29 m7 L39 m36 a := fun a h0 q0 q16 => (s30 a (by omega)).trans (S30 a (by omega) q0 q16)
  have S28 : ∀ a, a < ν + 15 → a ≠ ν → a ≠ ν + 16 → SmA L28 m7 L39 m36 a := fun a h0 q0 q16 => (s29 a (by omega)).trans (S29 a (by omega) q0 q16)
  have S27 : ∀ a, a < ν + 14 → a ≠ ν → a ≠ ν + 16 → SmA L27 m7 L39 m36 a := fun a h0 q0 q16 => (s28 a (by omega)).trans (S28 a (by omega) q0 q16)
  have S26 : ∀ a, a < ν + 14 → a ≠ ν → a ≠ ν + 16 → SmA L26 m7 L39 m36 a := fun a h0 q0 q16 => (s27 a (by omega)).trans (S27 a (by omega) q0 q16)
  have S25 : ∀ a, a < ν + 13 → a ≠ ν → a ≠ ν + 16 → SmA L25 m7 L39 m36 a := fun a h0 q0 q16 => (s26 a (by omega)).trans (S26 a (by omega) q0 q16)
  have S24 : ∀ a, a < ν + 13 → a ≠ ν → a ≠ ν + 16 → SmA L24 m7 L39 m36 a := fun a h0 q0 q16 => (s25 a (by omega)).trans (S25 a (by omega) q0 q16)
  have S23 : ∀ a, a < ν + 12 → a ≠ ν → a ≠ ν + 16 → SmA L23 m7 L39 m36 a := fun a h0 q0 q16 => (s24 a (by omega)).trans (S24 a (by omega) q0 q16)
  have S22 : ∀ a, a < ν + 12 → a ≠ ν → a ≠ ν + 16 → SmA L22 m7 L39 m36 a := fun a h0 q0 q16 => (s23 a (by omega)).trans (S23 a (by omega) q0 q16)
  have S21 : ∀ a, a < ν + 11 → a ≠ ν → a ≠ ν + 16 → SmA L21 m7 L39 m36 a := fun a h0 q0 q16 => (s22 a (by omega)).trans (S22 a (by omega) q0 q16)
  have S20 : ∀ a, a < ν + 11 → a ≠ ν → a ≠ ν + 16 → SmA L20 m7 L39 m36 a := fun a h0 q0 q16 => (s21 a (by omega)).trans (S21 a (by omega) q0 q16)
  have S19 : ∀ a, a < ν + 10 → a ≠ ν → a ≠ ν + 16 → SmA L19 m7 L39 m36 a := fun a h0 q0 q16 => (s20 a (by omega)).trans (S20 a (by omega) q0 q16)
  have S18 : ∀ a, a < ν + 10 → a ≠ ν → a ≠ ν + 16 → SmA L18 m7 L39 m36 a := fun a h0 q0 q16 => (s19 a (by omega)).trans (S19 a (by omega) q0 q16)
  have S17 : ∀ a, a < ν + 9 → a ≠ ν → a ≠ ν + 16 → SmA L17 m7 L39 m36 a := fun a h0 q0 q16 => (s18 a (by omega)).trans (S18 a (by omega) q0 q16)
  have S16 : ∀ a, a < ν + 9 → a ≠ ν → a ≠ ν + 16 → SmA L16 m7 L39 m36 a := fun a h0 q0 q16 => (s17 a (by omega)).trans (S17 a (by omega) q0 q16)
  have S15 : ∀ a, a < ν + 8 → a ≠ ν → a ≠ ν + 16 → SmA L15 m7 L39 m36 a := fun a h0 q0 q16 => (s16 a (by omega)).trans (S16 a (by omega) q0 q16)
  have S14 : ∀ a, a < ν + 8 → a ≠ ν → a ≠ ν + 16 → SmA L14 m7 L39 m36 a := fun a h0 q0 q16 => (s15 a (by omega)).trans (S15 a (by omega) q0 q16)
  have S13 : ∀ a, a < ν + 7 → a ≠ ν → a ≠ ν + 16 → SmA L13 m7 L39 m36 a := fun a h0 q0 q16 => (s14 a (by omega)).trans (S14 a (by omega) q0 q16)
  have S12 : ∀ a, a < ν + 7 → a ≠ ν → a ≠ ν + 16 → SmA L12 m7 L39 m36 a := fun a h0 q0 q16 => (s13 a (by omega)).trans (S13 a (by omega) q0 q16)
  have S11 : ∀ a, a < ν + 6 → a ≠ ν → a ≠ ν + 16 → SmA L11 m7 L39 m36 a := fun a h0 q0 q16 => (s12 a (by omega)).trans (S12 a (by omega) q0 q16)
  have S10 : ∀ a, a < ν + 6 → a ≠ ν → a ≠ ν + 16 → SmA L10 m7 L39 m36 a := fun a h0 q0 q16 => (s11 a (by omega)).trans (S11 a (by omega) q0 q16)
  have S9 : ∀ a, a < ν + 5 → a ≠ ν → a ≠ ν + 16 → SmA L9 m7 L39 m36 a := fun a h0 q0 q16 => (s10 a (by omega)).trans (S10 a (by omega) q0 q16)
  have S8 : ∀ a, a < ν + 5 → a ≠ ν → a ≠ ν + 16 → SmA L8 m7 L39 m36 a := fun a h0 q0 q16 => (s9 a (by omega)).trans (S9 a (by omega) q0 q16)
  have S7 : ∀ a, a < ν + 4 → a ≠ ν → a ≠ ν + 16 → SmA L6 m7 L39 m36 a := fun a h0 q0 q16 => (s8 a (by omega)).trans (S8 a (by omega) q0 q16)
  have S6 : ∀ a, a < ν + 4 → a ≠ ν → a ≠ ν + 16 → SmA L6 μ L39 m36 a := fun a h0 q0 q16 => (s7 a (by omega)).trans (S7 a (by omega) q0 q16)
  have S5 : ∀ a, a < ν + 4 → a ≠ ν → a ≠ ν + 16 → SmA L5 μ L39 m36 a := fun a h0 q0 q16 => (s6 a (by omega)).trans (S6 a (by omega) q0 q16)
  have S4 : ∀ a, a < ν + 3 → a ≠ ν → a ≠ ν + 16 → SmA L4 μ L39 m36 a := fun a h0 q0 q16 => (s5 a (by omega)).trans (S5 a (by omega) q0 q16)
  have S3 : ∀ a, a < ν + 3 → a ≠ ν → a ≠ ν + 16 → SmA L3 μ L39 m36 a := fun a h0 q0 q16 => (s4 a (by omega)).trans (S4 a (by omega) q0 q16)
  have S2 : ∀ a, a < ν + 2 → a ≠ ν → a ≠ ν + 16 → SmA L2 μ L39 m36 a := fun a h0 q0 q16 => (s3 a (by omega)).trans (S3 a (by omega) q0 q16)
  have S1 : ∀ a, a < ν + 2 → a ≠ ν → a ≠ ν + 16 → SmA L1 μ L39 m36 a := fun a h0 q0 q16 => (s2 a (by omega)).trans (S2 a (by omega) q0 q16)
  have S0 : ∀ a, a < ν + 1 → a ≠ ν → a ≠ ν + 16 → SmA Λ μ L39 m36 a := fun a h0 q0 q16 => (s1 a (by omega)).trans (S1 a (by omega) q0 q16)
  have A1 : L39 (ν + 1) = some (.inr (0, 14784, [])) := (S1 (ν + 1) (by omega) (by omega) (by omega)).1.trans hA1
  have C1 : m36.1 (ν + 1) = z0 ∧ m36.2 (ν + 1) = z1 := ⟨(S1 (ν + 1) (by omega) (by omega) (by omega)).2.1.trans (hz1).1, (S1 (ν + 1) (by omega) (by omega) (by omega)).2.2.trans (hz1).2⟩
  have A2 : L39 (ν + 2) = some (.inr (0, 192, [])) := (S3 (ν + 2) (by omega) (by omega) (by omega)).1.trans hA3
  have C2 : m36.1 (ν + 2) = z0 ∧ m36.2 (ν + 2) = z1 := ⟨(S3 (ν + 2) (by omega) (by omega) (by omega)).2.1.trans (hz2).1, (S3 (ν + 2) (by omega) (by omega) (by omega)).2.2.trans (hz2).2⟩
  have A3 : L39 (ν + 3) = some (.inr (0, 4, [])) := (S5 (ν + 3) (by omega) (by omega) (by omega)).1.trans hA5
  have C3 : m36.1 (ν + 3) = z0 ∧ m36.2 (ν + 3) = z1 := ⟨(S5 (ν + 3) (by omega) (by omega) (by omega)).2.1.trans (hz3).1, (S5 (ν + 3) (by omega) (by omega) (by omega)).2.2.trans (hz3).2⟩
  have A4 : L39 (ν + 4) = some (.inr (0, 1152, [])) := (S8 (ν + 4) (by omega) (by omega) (by omega)).1.trans hA8
  have C4 : m36.1 (ν + 4) = z0 ∧ m36.2 (ν + 4) = z1 := ⟨(S8 (ν + 4) (by omega) (by omega) (by omega)).2.1.trans (hz4).1, (S8 (ν + 4) (by omega) (by omega) (by omega)).2.2.trans (hz4).2⟩
  have A5 : L39 (ν + 5) = some (.inr (0, 1344, [])) := (S10 (ν + 5) (by omega) (by omega) (by omega)).1.trans hA10
  have C5 : m36.1 (ν + 5) = z0 ∧ m36.2 (ν + 5) = z1 := ⟨(S10 (ν + 5) (by omega) (by omega) (by omega)).2.1.trans (hz5).1, (S10 (ν + 5) (by omega) (by omega) (by omega)).2.2.trans (hz5).2⟩
  have A6 : L39 (ν + 6) = some (.inr (0, 256, [])) := (S12 (ν + 6) (by omega) (by omega) (by omega)).1.trans hA12
  have C6 : m36.1 (ν + 6) = z0 ∧ m36.2 (ν + 6) = z1 := ⟨(S12 (ν + 6) (by omega) (by omega) (by omega)).2.1.trans (hz6).1, (S12 (ν + 6) (by omega) (by omega) (by omega)).2.2.trans (hz6).2⟩
  have A7 : L39 (ν + 7) = some (.inr (0, 6240, [])) := (S14 (ν + 7) (by omega) (by omega) (by omega)).1.trans hA14
  have C7 : m36.1 (ν + 7) = z0 ∧ m36.2 (ν + 7) = z1 := ⟨(S14 (ν + 7) (by omega) (by omega) (by omega)).2.1.trans (hz7).1, (S14 (ν + 7) (by omega) (by omega) (by omega)).2.2.trans (hz7).2⟩
  have A8 : L39 (ν + 8) = some (.inr (0, 64, [])) := (S16 (ν + 8) (by omega) (by omega) (by omega)).1.trans hA16
  have C8 : m36.1 (ν + 8) = z0 ∧ m36.2 (ν + 8) = z1 := ⟨(S16 (ν + 8) (by omega) (by omega) (by omega)).2.1.trans (hz8).1, (S16 (ν + 8) (by omega) (by omega) (by omega)).2.2.trans (hz8).2⟩
  have A9 : L39 (ν + 9) = some (.inr (0, 64, [])) := (S18 (ν + 9) (by omega) (by omega) (by omega)).1.trans hA18
  have C9 : m36.1 (ν + 9) = z0 ∧ m36.2 (ν + 9) = z1 := ⟨(S18 (ν + 9) (by omega) (by omega) (by omega)).2.1.trans (hz9).1, (S18 (ν + 9) (by omega) (by omega) (by omega)).2.2.trans (hz9).2⟩
  have A10 : L39 (ν + 10) = some (.inr (0, 64, [])) := (S20 (ν + 10) (by omega) (by omega) (by omega)).1.trans hA20
  have C10 : m36.1 (ν + 10) = z0 ∧ m36.2 (ν + 10) = z1 := ⟨(S20 (ν + 10) (by omega) (by omega) (by omega)).2.1.trans (hz10).1, (S20 (ν + 10) (by omega) (by omega) (by omega)).2.2.trans (hz10).2⟩
  have A11 : L39 (ν + 11) = some (.inr (0, 64, [])) := (S22 (ν + 11) (by omega) (by omega) (by omega)).1.trans hA22
  have C11 : m36.1 (ν + 11) = z0 ∧ m36.2 (ν + 11) = z1 := ⟨(S22 (ν + 11) (by omega) (by omega) (by omega)).2.1.trans (hz11).1, (S22 (ν + 11) (by omega) (by omega) (by omega)).2.2.trans (hz11).2⟩
  have A12 : L39 (ν + 12) = some (.inr (0, 90, [])) := (S24 (ν + 12) (by omega) (by omega) (by omega)).1.trans hA24
  have C12 : m36.1 (ν + 12) = z0 ∧ m36.2 (ν + 12) = z1 := ⟨(S24 (ν + 12) (by omega) (by omega) (by omega)).2.1.trans (hz12).1, (S24 (ν + 12) (by omega) (by omega) (by omega)).2.2.trans (hz12).2⟩
  have A13 : L39 (ν + 13) = some (.inr (0, 7, [])) := (S26 (ν + 13) (by omega) (by omega) (by omega)).1.trans hA26
  have C13 : m36.1 (ν + 13) = z0 ∧ m36.2 (ν + 13) = z1 := ⟨(S26 (ν + 13) (by omega) (by omega) (by omega)).2.1.trans (hz13).1, (S26 (ν + 13) (by omega) (by omega) (by omega)).2.2.trans (hz13).2⟩
  have A14 : L39 (ν + 14) = some (.inr (0, 7, [])) := (S28 (ν + 14) (by omega) (by omega) (by omega)).1.trans hA28
  have C14 : m36.1 (ν + 14) = z0 ∧ m36.2 (ν + 14) = z1 := ⟨(S28 (ν + 14) (by omega) (by omega) (by omega)).2.1.trans (hz14).1, (S28 (ν + 14) (by omega) (by omega) (by omega)).2.2.trans (hz14).2⟩
  have A15 : L39 (ν + 15) = some (.inr (0, 4, [])) := (S30 (ν + 15) (by omega) (by omega) (by omega)).1.trans hA30
  have C15 : m36.1 (ν + 15) = z0 ∧ m36.2 (ν + 15) = z1 := ⟨(S30 (ν + 15) (by omega) (by omega) (by omega)).2.1.trans (hz15).1, (S30 (ν + 15) (by omega) (by omega) (by omega)).2.2.trans (hz15).2⟩
  have A17 : L39 (ν + 17) = some (.inr (2, 96, [])) := (S38 (ν + 17) (by omega) (by omega) (by omega)).1.trans hA38
  have C17 : m36.1 (ν + 17) = z0 ∧ m36.2 (ν + 17) = z1 := ⟨(S38 (ν + 17) (by omega) (by omega) (by omega)).2.1.trans (hz17).1, (S38 (ν + 17) (by omega) (by omega) (by omega)).2.2.trans (hz17).2⟩
  have RGA : Rg ν (ν + 18) L39 m36 := ((((((((((((((((((Rg.one (μ := m36) hP39 (by decide)).app (Rg.arr (μ := m36) A1) (by omega)).app (Rg.arr (μ := m36) A2) (by omega)).app (Rg.arr (μ := m36) A3) (by omega)).app (Rg.arr (μ := m36) A4) (by omega)).app (Rg.arr (μ := m36) A5) (by omega)).app (Rg.arr (μ := m36) A6) (by omega)).app (Rg.arr (μ := m36) A7) (by omega)).app (Rg.arr (μ := m36) A8) (by omega)).app (Rg.arr (μ := m36) A9) (by omega)).app (Rg.arr (μ := m36) A10) (by omega)).app (Rg.arr (μ := m36) A11) (by omega)).app (Rg.arr (μ := m36) A12) (by omega)).app (Rg.arr (μ := m36) A13) (by omega)).app (Rg.arr (μ := m36) A14) (by omega)).app (Rg.arr (μ := m36) A15) (by omega)).app (Rg.arr (μ := m36) hR16_39) (by omega)).app (Rg.arr (μ := m36) A17) (by omega))
  have hK : refK L39 ν := ⟨hP39, A1, A2, A3, A4, A5, A6, A7, A8, A9, A10, A11, A12, A13, A14, A15, hR16_39, A17⟩
  have L166 : ∀ (nf : Nat) (i : Int) (m : Mem) (ρ : Nat → PS), (62 - i < (nf : Int)) → (0 ≤ i ∧ i ≤ 62) → RW m ν ρ → (∀ r, r < 2 * i.toNat → ρ r = if r % 2 = 0 then PS.zero else PS.one) → Fr [ν + 1] m36 m → V G x (17, 24436) L39 (ν + 18) m 166 [(1, iv i), (0, .ref ν)] [] := by
    intro nf
    induction nf with
    | zero => intro i m ρ hm hi h1 h2 hf; exact absurd hm (by omega)
    | succ nf ih =>
      intro i m ρ hm hi h1 h2 hf
      refine v_iload hx DX12_init_166 0 rfl ?_
      refine v_push hx DX12_init_167 ?_
      refine v_icmp_ge hx DX12_init_169 (by omega) (by decide) (fun c169 => ?_) (fun c169 => ?_)
      · have ei : i = 62 := by omega
        subst ei
        exact v_ret hx hBD DX12_init_183 ⟨rfl, rfl, fun a ha => (S0 a (by omega) (by omega) (by omega)).trans ⟨rfl, hf.1 a (by simp; omega), by rw [hf.2]⟩, fun a ha => ⟨(Z39 a ha).1, by rw [hf.1 a (by simp; omega)]; exact (Z39 a ha).2.1, by rw [hf.2]; exact (Z39 a ha).2.2⟩, OR.mk hK RGA h1 h2 hf (by rw [wT_38]; decide) C3.1 C4.1 C7.1 (fun k g0 g1 => by rw [wR16_39]; rcases (by omega : k = 0 ∨ k = 1 ∨ k = 2 ∨ k = 3) with rfl | rfl | rfl | rfl <;> rfl)⟩
      · refine v_aload hx DX12_init_172 1 rfl ?_
        refine v_iload hx DX12_init_173 0 rfl ?_
        refine v_cVv hx DX12_init_174 CVRX12_118 [iv i] (r_noughtI l G L39 _ m hK h1 (by omega)) hK.o rfl rfl (Nat.le_of_ble_eq_true rfl) (by decide) ⟨Nat.le_refl _, Nat.le_refl _⟩ (fun m1 hm1 => ?_)
        refine v_iinc hx DX12_init_177 0 rfl [(1, iv (i + 1)), (0, .ref ν)] rfl (by decide) ?_
        refine v_goto hx DX12_init_180 ?_
        exact ih (i + 1) m1 _ (by omega) (by omega) hm1.1 (fun r hr => by
          by_cases c1 : r = 2 * i.toNat + 1
          · subst c1; rw [up_at, if_neg (by omega)]
          · rw [up_ne c1]
            by_cases c2 : r = 2 * i.toNat
            · subst c2; rw [up_at, if_pos (by omega)]
            · rw [up_ne c2]; exact h2 r (by omega)) (hf.trans hm1.2)
  exact L166 100 0 m36 (fun _ => PS.zero) (by omega) (by omega) (fun q hq => ⟨PS.zero_lt 96, fun j g0 g1 => by rw [C1.1]; rfl⟩) (fun r hr => absurd hr (by omega)) Fr.rf
