/-! ===== constructors of Poly, Frac, Board, Kit, Splitter, Writer, Sheet, Residues ===== -/
theorem NWRL_7 : NW RL 7 11 18 [some .null, some .null, some .null, some .null, none, some .null, some .null, some .null, some .null, some .null, some .null, some .null, some .null, some .null, some .null, some .null, some .null, some .null] := ⟨RX11, TX11, tyX11, rfl, inX11, tyX11_ok, clRL_7, nwX11, inRX11, by decide, rfl⟩
theorem NWRX11_9 : NW RX11 9 0 4 [some .null, some .null, none, none] := ⟨RX0, TX0, tyX0, rfl, inX0, tyX0_ok, clRX11_9, nwX0, inRX0, by decide, rfl⟩
theorem NWRX11_16 : NW RX11 16 2 3 [some .null, none, none] := ⟨RX2, TX2, tyX2, rfl, inX2, tyX2_ok, clRX11_16, nwX2, inRX2, by decide, rfl⟩
theorem NWRX2_9 : NW RX2 9 0 4 [some .null, some .null, none, none] := ⟨RX0, TX0, tyX0, rfl, inX0, tyX0_ok, clRX2_9, nwX0, inRX0, by decide, rfl⟩
theorem NWRX11_33 : NW RX11 33 8 3 [some .null, none, none] := ⟨RX8, TX8, tyX8, rfl, inX8, tyX8_ok, clRX11_33, nwX8, inRX8, by decide, rfl⟩
theorem NWRX11_39 : NW RX11 39 3 8 [some .null, some .null, some .null, some .null, some .null, some .null, some .null, some .null] := ⟨RX3, TX3, tyX3, rfl, inX3, tyX3_ok, clRX11_39, nwX3, inRX3, by decide, rfl⟩
theorem NWRX3_9 : NW RX3 9 5 2 [some .null, none] := ⟨RX5, TX5, tyX5, rfl, inX5, tyX5_ok, clRX3_9, nwX5, inRX5, by decide, rfl⟩
theorem NWRX11_46 : NW RX11 46 9 9 [some .null, some .null, some .null, some .null, some .null, some .null, some .null, some .null, some .null] := ⟨RX9, TX9, tyX9, rfl, inX9, tyX9_ok, clRX11_46, nwX9, inRX9, by decide, rfl⟩
theorem NWRX9_9 : NW RX9 9 5 2 [some .null, none] := ⟨RX5, TX5, tyX5, rfl, inX5, tyX5_ok, clRX9_9, nwX5, inRX5, by decide, rfl⟩
theorem NWRX11_55 : NW RX11 55 4 16 [some .null, some .null, some .null, some .null, some .null, some .null, some .null, some .null, some .null, some .null, some .null, some .null, some .null, none, none, none] := ⟨RX4, TX4, tyX4, rfl, inX4, tyX4_ok, clRX11_55, nwX4, inRX4, by decide, rfl⟩
theorem NWRX4_9 : NW RX4 9 1 2 [some .null, some .null] := ⟨RX1, TX1, tyX1, rfl, inX1, tyX1_ok, clRX4_9, nwX1, inRX1, by decide, rfl⟩
theorem NWRX1_9 : NW RX1 9 5 2 [some .null, none] := ⟨RX5, TX5, tyX5, rfl, inX5, tyX5_ok, clRX1_9, nwX5, inRX5, by decide, rfl⟩
theorem NWRX4_28 : NW RX4 28 5 2 [some .null, none] := ⟨RX5, TX5, tyX5, rfl, inX5, tyX5_ok, clRX4_28, nwX5, inRX5, by decide, rfl⟩
theorem NWRX11_67 : NW RX11 67 7 10 [some .null, some .null, some .null, some .null, some .null, some .null, some .null, some .null, some .null, some .null] := ⟨RX7, TX7, tyX7, rfl, inX7, tyX7_ok, clRX11_67, nwX7, inRX7, by decide, rfl⟩
theorem NWRX7_9 : NW RX7 9 5 2 [some .null, none] := ⟨RX5, TX5, tyX5, rfl, inX5, tyX5_ok, clRX7_9, nwX5, inRX5, by decide, rfl⟩
theorem NWRX11_74 : NW RX11 74 6 12 [some .null, some .null, none, some .null, none, some .null, none, none, none, some .null, none, some .null] := ⟨RX6, TX6, tyX6, rfl, inX6, tyX6_ok, clRX11_74, nwX6, inRX6, by decide, rfl⟩
theorem NWRX6_37 : NW RX6 37 1 2 [some .null, some .null] := ⟨RX1, TX1, tyX1, rfl, inX1, tyX1_ok, clRX6_37, nwX1, inRX1, by decide, rfl⟩
theorem NWRX11_81 : NW RX11 81 10 2 [some .null, none] := ⟨RX10, TX10, tyX10, rfl, inX10, tyX10_ok, clRX11_81, nwX10, inRX10, by decide, rfl⟩
theorem NWRX11_88 : NW RX11 88 1 2 [some .null, some .null] := ⟨RX1, TX1, tyX1, rfl, inX1, tyX1_ok, clRX11_88, nwX1, inRX1, by decide, rfl⟩
theorem NWRX11_105 : NW RX11 105 5 2 [some .null, none] := ⟨RX5, TX5, tyX5, rfl, inX5, tyX5_ok, clRX11_105, nwX5, inRX5, by decide, rfl⟩
theorem NWRL_10 : NW RL 10 12 31 [some .null, some .null, none, some .null, none, none, none, some .null, none, none, none, some .null, some .null, none, some .null, some .null, none, none, none, some .null, some .null, some .null, none, none, some .null, none, some .null, some .null, some .null, some .null, some .null] := ⟨RX12, TX12, tyX12, rfl, inX12, tyX12_ok, clRL_10, nwX12, inRX12, by decide, rfl⟩
theorem k_X5 (l : Launch) (G : Gl) {Λ : Lay} {μ : Mem} {t : Nat} (hT : Λ t = some (.inl (5, [some .null, none]))) (hZ : Zr Λ μ (t + 1)) (hw : μ.1 t = z0) : SpN l G yX5_init cX5_init 1 none 1 1 48 [.ref t] Λ (t + 1) μ (CT t (t + 2) Λ μ (OP t)) := by
  refine SpN.intro (by decide) (Nat.le_of_ble_eq_true rfl) (fun x hx hBD hin => ?_)
  refine v_lv [(0, .ref t)] rfl ?_
  refine v_gB hT (fun hg => ?_)
  refine v_aload hx DX5_init_0 0 rfl ?_
  refine v_objI hx DX5_init_1 mlRX5_3 (by decide) (Nat.le_of_ble_eq_true rfl) ?_
  refine v_aload hx DX5_init_4 0 rfl ?_
  refine v_push hx DX5_init_5 ?_
  refine v_newa (t := 0) (n := 48) (cs' := (1, 48)) hx DX5_init_7 (by decide) rfl (lwc1 (List.mem_of_getElem? (i := 48) rfl)) (by decide) (by omega) hZ rfl ⟨Nat.le_of_ble_eq_true rfl, Nat.le_of_ble_eq_true rfl⟩ (fun L1 hA1 sx1 Z1 => ?_)
  have hz1 : μ.1 (t + 1) = z0 ∧ μ.2 (t + 1) = z1 := (hZ (t + 1) (by omega)).2
  have s1 : ∀ a, a ≠ t + 1 → SmA Λ μ L1 μ a := fun a ha => ⟨sx1 a ha, rfl, rfl⟩
  have hT_1 : L1 (t) = some (.inl (5, [some .null, none])) := (s1 (t) (by omega)).1.trans hT
  have wT_1 : μ.1 (t) = z0 := (s1 (t) (by omega)).2.1.trans hw
  refine v_putRo (fs' := [some (.ref (t + 1)), none]) hx hin DX5_init_9 FPRX5_9 hT_1 (Nat.le_of_ble_eq_true rfl) rfl rfl rfl Z1 (by omega) (fun L2 hP2 s2 Z2 => ?_)
  refine v_aload hx DX5_init_12 0 rfl ?_
  refine v_push hx DX5_init_13 ?_
  refine v_putIo hx DX5_init_14 FPRX5_15 hP2 rfl wT_1 rfl Z2 (by omega) (fun m3 wT3 s3 Z3 => ?_)
  have wP3 : m3.1 t = rw1 (z0) 1 (-1) := wT3
  have S3 : ∀ a, a < t + 2 → a ≠ t → SmA L2 m3 L2 m3 a := fun a _ _ => SmA.rf
  have S2 : ∀ a, a < t + 2 → a ≠ t → SmA L2 μ L2 m3 a := fun a h0 q0 => (s3 a (by omega)).trans (S3 a (by omega) q0)
  have S1 : ∀ a, a < t + 2 → a ≠ t → SmA L1 μ L2 m3 a := fun a h0 q0 => (s2 a (by omega)).trans (S2 a (by omega) q0)
  have S0 : ∀ a, a < t + 1 → a ≠ t → SmA Λ μ L2 m3 a := fun a h0 q0 => (s1 a (by omega)).trans (S1 a (by omega) q0)
  have A1 : L2 (t + 1) = some (.inr (0, 48, [])) := (S1 (t + 1) (by omega) (by omega)).1.trans hA1
  have C1 : m3.1 (t + 1) = z0 ∧ m3.2 (t + 1) = z1 := ⟨(S1 (t + 1) (by omega) (by omega)).2.1.trans (hz1).1, (S1 (t + 1) (by omega) (by omega)).2.2.trans (hz1).2⟩
  exact v_ret hx hBD DX5_init_17 ⟨rfl, rfl, fun a ha => S0 a (by omega) (by omega), Z3, ⟨⟨hP2, A1⟩, PA.z0 C1.1 (by rw [wP3]; rfl)⟩⟩
theorem k_X1 (l : Launch) (G : Gl) {Λ : Lay} {μ : Mem} {t : Nat} (hT : Λ t = some (.inl (1, [some .null, some .null]))) (hZ : Zr Λ μ (t + 1)) (hw : μ.1 t = z0) : SpN l G yX1_init cX1_init 1 none 2 4 100 [.ref t] Λ (t + 1) μ (CT t (t + 5) Λ μ (OF t)) := by
  refine SpN.intro (by decide) (Nat.le_of_ble_eq_true rfl) (fun x hx hBD hin => ?_)
  refine v_lv [(0, .ref t)] rfl ?_
  refine v_gB hT (fun hg => ?_)
  refine v_aload hx DX1_init_0 0 rfl ?_
  refine v_objI hx DX1_init_1 mlRX1_3 (by decide) (Nat.le_of_ble_eq_true rfl) ?_
  refine v_aload hx DX1_init_4 0 rfl ?_
  refine v_nw (e' := t + 3) (cs' := (2, 50)) hx DX1_init_5 DX1_init_8 DX1_init_9 NWRX1_9 CIRX1_11 (by omega) hZ (fun _ h1 h2 h3 => k_X5 l G h1 h2 h3) (Nat.le_of_ble_eq_true rfl) (by decide) rfl ⟨Nat.le_of_ble_eq_true rfl, Nat.le_of_ble_eq_true rfl⟩ (fun L1 m1 s1 Z1 r1 => ?_)
  have hT_1 : L1 (t) = some (.inl (1, [some .null, some .null])) := (s1 (t) (by omega)).1.trans hT
  have wT_1 : m1.1 (t) = z0 := (s1 (t) (by omega)).2.1.trans hw
  refine v_putRo (fs' := [some (.ref (t + 1)), some .null]) hx hin DX1_init_12 FPRX1_12 hT_1 (Nat.le_of_ble_eq_true rfl) rfl rfl rfl Z1 (by omega) (fun L2 hP2 s2 Z2 => ?_)
  refine v_aload hx DX1_init_15 0 rfl ?_
  refine v_nw (e' := t + 5) (cs' := (4, 100)) hx DX1_init_16 DX1_init_19 DX1_init_20 NWRX1_9 CIRX1_11 (by omega) Z2 (fun _ h1 h2 h3 => k_X5 l G h1 h2 h3) (Nat.le_of_ble_eq_true rfl) (by decide) rfl ⟨Nat.le_of_ble_eq_true rfl, Nat.le_of_ble_eq_true rfl⟩ (fun L3 m3 s3 Z3 r3 => ?_)
  have hT_3 : L3 (t) = some (.inl (1, [some (.ref (t + 1)), some .null])) := (s3 (t) (by omega)).1.trans hP2
  have wT_3 : m3.1 (t) = z0 := (s3 (t) (by omega)).2.1.trans wT_1
  refine v_putRo (fs' := [some (.ref (t + 1)), some (.ref (t + 3))]) hx hin DX1_init_23 FPRX1_18 hT_3 (Nat.le_of_ble_eq_true rfl) rfl rfl rfl Z3 (by omega) (fun L4 hP4 s4 Z4 => ?_)
  have S4 : ∀ a, a < t + 5 → a ≠ t → SmA L4 m3 L4 m3 a := fun a _ _ => SmA.rf
  have S3 : ∀ a, a < t + 5 → a ≠ t → SmA L3 m3 L4 m3 a := fun a h0 q0 => (s4 a (by omega)).trans (S4 a (by omega) q0)
  have S2 : ∀ a, a < t + 3 → a ≠ t → SmA L2 m1 L4 m3 a := fun a h0 q0 => (s3 a (by omega)).trans (S3 a (by omega) q0)
  have S1 : ∀ a, a < t + 3 → a ≠ t → SmA L1 m1 L4 m3 a := fun a h0 q0 => (s2 a (by omega)).trans (S2 a (by omega) q0)
  have S0 : ∀ a, a < t + 1 → a ≠ t → SmA Λ μ L4 m3 a := fun a h0 q0 => (s1 a (by omega)).trans (S1 a (by omega) q0)
  have F1 : OP (t + 1) L4 m3 := OP.lc _ _ _ _ (fun a h0 h1 => S1 a (by omega) (by omega)) r1
  have F3 : OP (t + 3) L4 m3 := OP.lc _ _ _ _ (fun a h0 h1 => S3 a (by omega) (by omega)) r3
  refine v_aload hx DX1_init_26 0 rfl ?_
  refine v_get hx DX1_init_27 FLRX1_18 hP4 (v := .ref (t + 3)) rfl ?_
  refine v_get hx DX1_init_30 FLRX1_21 F3.1.1 (v := .ref (t + 3 + 1)) rfl ?_
  refine v_push hx DX1_init_33 ?_
  refine v_push hx DX1_init_34 ?_
  refine v_iastm hx DX1_init_35 F3.1.2 (by decide) (by decide) (fun ma ea => ?_)
  refine v_aload hx DX1_init_36 0 rfl ?_
  refine v_get hx DX1_init_37 FLRX1_18 hP4 (v := .ref (t + 3)) rfl ?_
  refine v_push hx DX1_init_40 ?_
  refine v_putI hx DX1_init_41 FPRX1_25 F3.1.1 rfl (fun mb eb => ?_)
  have sm : ∀ q, q ≠ t + 3 → q ≠ t + 4 → SmA L4 m3 L4 mb q := fun q h1 h2 => by rw [eb, ea]; exact (SmA.mI (by omega)).trans (SmA.mI (by omega))
  have p1 := F1.2.sm (sm (t + 1) (by omega) (by omega)) (sm (t + 1 + 1) (by omega) (by omega))
  have p3 : PA mb (t + 3) PS.one := by rw [eb, ea]; exact F3.2.one1
  exact v_ret hx hBD DX1_init_44 ⟨rfl, rfl, fun a ha => (S0 a (by omega) (by omega)).trans (sm a (by omega) (by omega)), by rw [eb, ea]; exact (Z4.mI (by omega)).mI (by omega), ⟨hP4, F1.1, F3.1⟩, ((Rg.one hP4 (by decide)).app (Rg.poly F1.1 p1) (by omega)).app (Rg.poly F3.1 p3) (by omega)⟩
theorem k_X0 (l : Launch) (G : Gl) {Λ : Lay} {μ : Mem} {t : Nat} (hT : Λ t = some (.inl (0, [some .null, some .null, none, none]))) (hZ : Zr Λ μ (t + 1)) (hw : μ.1 t = z0) : SpN l G yX0_init cX0_init 2 none 1 2 184 [.ref t] Λ (t + 1) μ (CT t (t + 3) Λ μ (OB t)) := by
  refine SpN.intro (by decide) (Nat.le_of_ble_eq_true rfl) (fun x hx hBD hin => ?_)
  refine v_lv [(0, .ref t)] rfl ?_
  refine v_gB hT (fun hg => ?_)
  refine v_aload hx DX0_init_0 0 rfl ?_
  refine v_objI hx DX0_init_1 mlRX0_3 (by decide) (Nat.le_of_ble_eq_true rfl) ?_
  refine v_aload hx DX0_init_4 0 rfl ?_
  refine v_push hx DX0_init_5 ?_
  refine v_newa (t := 0) (n := 180) (cs' := (1, 180)) hx DX0_init_8 (by decide) rfl (lwc1 (List.mem_of_getElem? (i := 48) rfl)) (by decide) (by omega) hZ rfl ⟨Nat.le_of_ble_eq_true rfl, Nat.le_of_ble_eq_true rfl⟩ (fun L1 hA1 sx1 Z1 => ?_)
  have hz1 : μ.1 (t + 1) = z0 ∧ μ.2 (t + 1) = z1 := (hZ (t + 1) (by omega)).2
  have s1 : ∀ a, a ≠ t + 1 → SmA Λ μ L1 μ a := fun a ha => ⟨sx1 a ha, rfl, rfl⟩
  have hT_1 : L1 (t) = some (.inl (0, [some .null, some .null, none, none])) := (s1 (t) (by omega)).1.trans hT
  have wT_1 : μ.1 (t) = z0 := (s1 (t) (by omega)).2.1.trans hw
  refine v_putRo (fs' := [some (.ref (t + 1)), some .null, none, none]) hx hin DX0_init_10 FPRX0_9 hT_1 (Nat.le_of_ble_eq_true rfl) rfl rfl rfl Z1 (by omega) (fun L2 hP2 s2 Z2 => ?_)
  have hR1_2 : L2 (t + 1) = some (.inr (0, 180, [])) := (s2 (t + 1) (by omega)).1.trans hA1
  have wR1_2 : μ.1 (t + 1) = z0 := (s2 (t + 1) (by omega)).2.1.trans hz1.1
  refine v_aload hx DX0_init_13 0 rfl ?_
  refine v_push hx DX0_init_14 ?_
  refine v_newa (t := 0) (n := 4) (cs' := (2, 184)) hx DX0_init_15 (by decide) rfl (lwc1 (List.mem_of_getElem? (i := 48) rfl)) (by decide) (by omega) Z2 rfl ⟨Nat.le_of_ble_eq_true rfl, Nat.le_of_ble_eq_true rfl⟩ (fun L3 hA3 sx3 Z3 => ?_)
  have hz2 : μ.1 (t + 2) = z0 ∧ μ.2 (t + 2) = z1 := (Z2 (t + 2) (by omega)).2
  have s3 : ∀ a, a ≠ t + 2 → SmA L2 μ L3 μ a := fun a ha => ⟨sx3 a ha, rfl, rfl⟩
  have hT_3 : L3 (t) = some (.inl (0, [some (.ref (t + 1)), some .null, none, none])) := (s3 (t) (by omega)).1.trans hP2
  have wT_3 : μ.1 (t) = z0 := (s3 (t) (by omega)).2.1.trans wT_1
  have hR1_3 : L3 (t + 1) = some (.inr (0, 180, [])) := (s3 (t + 1) (by omega)).1.trans hR1_2
  have wR1_3 : μ.1 (t + 1) = z0 := (s3 (t + 1) (by omega)).2.1.trans wR1_2
  refine v_putRo (fs' := [some (.ref (t + 1)), some (.ref (t + 2)), none, none]) hx hin DX0_init_17 FPRX0_15 hT_3 (Nat.le_of_ble_eq_true rfl) rfl rfl rfl Z3 (by omega) (fun L4 hP4 s4 Z4 => ?_)
  have hR1_4 : L4 (t + 1) = some (.inr (0, 180, [])) := (s4 (t + 1) (by omega)).1.trans hR1_3
  have wR1_4 : μ.1 (t + 1) = z0 := (s4 (t + 1) (by omega)).2.1.trans wR1_3
  refine v_aload hx DX0_init_20 0 rfl ?_
  refine v_push hx DX0_init_21 ?_
  refine v_putIo hx DX0_init_22 FPRX0_18 hP4 rfl wT_3 rfl Z4 (by omega) (fun m5 wT5 s5 Z5 => ?_)
  have wP5 : m5.1 t = rw1 (z0) 2 0 := wT5
  have hR1_5 : L4 (t + 1) = some (.inr (0, 180, [])) := (s5 (t + 1) (by omega)).1.trans hR1_4
  have wR1_5 : m5.1 (t + 1) = z0 := (s5 (t + 1) (by omega)).2.1.trans wR1_4
  refine v_aload hx DX0_init_25 0 rfl ?_
  refine v_push hx DX0_init_26 ?_
  refine v_putIo hx DX0_init_27 FPRX0_22 hP4 rfl wP5 rfl Z5 (by omega) (fun m6 wT6 s6 Z6 => ?_)
  have wP6 : m6.1 t = rw1 (rw1 (z0) 2 0) 3 1 := wT6
  have hR1_6 : L4 (t + 1) = some (.inr (0, 180, [])) := (s6 (t + 1) (by omega)).1.trans hR1_5
  have wR1_6 : m6.1 (t + 1) = z0 := (s6 (t + 1) (by omega)).2.1.trans wR1_5
  refine v_push hx DX0_init_30 ?_
  refine v_istore hx DX0_init_32 [(1, iv 7), (0, .ref t)] rfl (by decide) ?_
  refine v_iload hx DX0_init_33 0 rfl ?_
  refine v_aload hx DX0_init_34 1 rfl ?_
  refine v_get hx DX0_init_35 FLRX0_9 hP4 (v := .ref (t + 1)) rfl ?_
  refine v_alenI hx DX0_init_38 hR1_6 (by decide) (z := 180) rfl ?_
  refine v_icmp_ge hx DX0_init_39 (by decide) (by decide) (fun c39 => ?_) (fun c39 => ?_)
  · exact absurd c39 (by decide)
  refine v_aload hx DX0_init_42 1 rfl ?_
  refine v_get hx DX0_init_43 FLRX0_9 hP4 (v := .ref (t + 1)) rfl ?_
  refine v_iload hx DX0_init_46 0 rfl ?_
  refine v_push hx DX0_init_47 ?_
  refine v_iasto hx DX0_init_48 hR1_6 (by decide) (by decide) wR1_6 rfl Z6 (by omega) (fun m7 wT7 s7 Z7 => ?_)
  have wP7 : m7.1 (t + 1) = rw1 (z0) 7 1 := wT7
  have hT_7 : L4 (t) = some (.inl (0, [some (.ref (t + 1)), some (.ref (t + 2)), none, none])) := (s7 (t) (by omega)).1.trans hP4
  have wT_7 : m7.1 (t) = rw1 (rw1 (z0) 2 0) 3 1 := (s7 (t) (by omega)).2.1.trans wP6
  refine v_iinc hx DX0_init_49 0 rfl [(1, iv 19), (0, .ref t)] rfl (by decide) ?_
  refine v_goto hx DX0_init_52 ?_
  refine v_iload hx DX0_init_33 0 rfl ?_
  refine v_aload hx DX0_init_34 1 rfl ?_
  refine v_get hx DX0_init_35 FLRX0_9 hT_7 (v := .ref (t + 1)) rfl ?_
  refine v_alenI hx DX0_init_38 hR1_6 (by decide) (z := 180) rfl ?_
  refine v_icmp_ge hx DX0_init_39 (by decide) (by decide) (fun c39 => ?_) (fun c39 => ?_)
  · exact absurd c39 (by decide)
  refine v_aload hx DX0_init_42 1 rfl ?_
  refine v_get hx DX0_init_43 FLRX0_9 hT_7 (v := .ref (t + 1)) rfl ?_
  refine v_iload hx DX0_init_46 0 rfl ?_
  refine v_push hx DX0_init_47 ?_
  refine v_iasto hx DX0_init_48 hR1_6 (by decide) (by decide) wP7 rfl Z7 (by omega) (fun m8 wT8 s8 Z8 => ?_)
  have wP8 : m8.1 (t + 1) = rw1 (rw1 (z0) 7 1) 19 1 := wT8
  have hT_8 : L4 (t) = some (.inl (0, [some (.ref (t + 1)), some (.ref (t + 2)), none, none])) := (s8 (t) (by omega)).1.trans hT_7
  have wT_8 : m8.1 (t) = rw1 (rw1 (z0) 2 0) 3 1 := (s8 (t) (by omega)).2.1.trans wT_7
  refine v_iinc hx DX0_init_49 0 rfl [(1, iv 31), (0, .ref t)] rfl (by decide) ?_
  refine v_goto hx DX0_init_52 ?_
  refine v_iload hx DX0_init_33 0 rfl ?_
  refine v_aload hx DX0_init_34 1 rfl ?_
  refine v_get hx DX0_init_35 FLRX0_9 hT_8 (v := .ref (t + 1)) rfl ?_
  refine v_alenI hx DX0_init_38 hR1_6 (by decide) (z := 180) rfl ?_
  refine v_icmp_ge hx DX0_init_39 (by decide) (by decide) (fun c39 => ?_) (fun c39 => ?_)
  · exact absurd c39 (by decide)
  refine v_aload hx DX0_init_42 1 rfl ?_
  refine v_get hx DX0_init_43 FLRX0_9 hT_8 (v := .ref (t + 1)) rfl ?_
  refine v_iload hx DX0_init_46 0 rfl ?_
  refine v_push hx DX0_init_47 ?_
  refine v_iasto hx DX0_init_48 hR1_6 (by decide) (by decide) wP8 rfl Z8 (by omega) (fun m9 wT9 s9 Z9 => ?_)
  have wP9 : m9.1 (t + 1) = rw1 (rw1 (rw1 (z0) 7 1) 19 1) 31 1 := wT9
  have hT_9 : L4 (t) = some (.inl (0, [some (.ref (t + 1)), some (.ref (t + 2)), none, none])) := (s9 (t) (by omega)).1.trans hT_8
  have wT_9 : m9.1 (t) = rw1 (rw1 (z0) 2 0) 3 1 := (s9 (t) (by omega)).2.1.trans wT_8
  refine v_iinc hx DX0_init_49 0 rfl [(1, iv 43), (0, .ref t)] rfl (by decide) ?_
  refine v_goto hx DX0_init_52 ?_
  refine v_iload hx DX0_init_33 0 rfl ?_
  refine v_aload hx DX0_init_34 1 rfl ?_
  refine v_get hx DX0_init_35 FLRX0_9 hT_9 (v := .ref (t + 1)) rfl ?_
  refine v_alenI hx DX0_init_38 hR1_6 (by decide) (z := 180) rfl ?_
  refine v_icmp_ge hx DX0_init_39 (by decide) (by decide) (fun c39 => ?_) (fun c39 => ?_)
  · exact absurd c39 (by decide)
  refine v_aload hx DX0_init_42 1 rfl ?_
  refine v_get hx DX0_init_43 FLRX0_9 hT_9 (v := .ref (t + 1)) rfl ?_
  refine v_iload hx DX0_init_46 0 rfl ?_
  refine v_push hx DX0_init_47 ?_
  refine v_iasto hx DX0_init_48 hR1_6 (by decide) (by decide) wP9 rfl Z9 (by omega) (fun m10 wT10 s10 Z10 => ?_)
  have wP10 : m10.1 (t + 1) = rw1 (rw1 (rw1 (rw1 (z0) 7 1) 19 1) 31 1) 43 1 := wT10
  have hT_10 : L4 (t) = some (.inl (0, [some (.ref (t + 1)), some (.ref (t + 2)), none, none])) := (s10 (t) (by omega)).1.trans hT_9
  have wT_10 : m10.1 (t) = rw1 (rw1 (z0) 2 0) 3 1 := (s10 (t) (by omega)).2.1.trans wT_9
  refine v_iinc hx DX0_init_49 0 rfl [(1, iv 55), (0, .ref t)] rfl (by decide) ?_
  refine v_goto hx DX0_init_52 ?_
  refine v_iload hx DX0_init_33 0 rfl ?_
  refine v_aload hx DX0_init_34 1 rfl ?_
  refine v_get hx DX0_init_35 FLRX0_9 hT_10 (v := .ref (t + 1)) rfl ?_
  refine v_alenI hx DX0_init_38 hR1_6 (by decide) (z := 180) rfl ?_
  refine v_icmp_ge hx DX0_init_39 (by decide) (by decide) (fun c39 => ?_) (fun c39 => ?_)
  · exact absurd c39 (by decide)
  refine v_aload hx DX0_init_42 1 rfl ?_
  refine v_get hx DX0_init_43 FLRX0_9 hT_10 (v := .ref (t + 1)) rfl ?_
  refine v_iload hx DX0_init_46 0 rfl ?_
  refine v_push hx DX0_init_47 ?_
  refine v_iasto hx DX0_init_48 hR1_6 (by decide) (by decide) wP10 rfl Z10 (by omega) (fun m11 wT11 s11 Z11 => ?_)
  have wP11 : m11.1 (t + 1) = rw1 (rw1 (rw1 (rw1 (rw1 (z0) 7 1) 19 1) 31 1) 43 1) 55 1 := wT11
  have hT_11 : L4 (t) = some (.inl (0, [some (.ref (t + 1)), some (.ref (t + 2)), none, none])) := (s11 (t) (by omega)).1.trans hT_10
  have wT_11 : m11.1 (t) = rw1 (rw1 (z0) 2 0) 3 1 := (s11 (t) (by omega)).2.1.trans wT_10
  refine v_iinc hx DX0_init_49 0 rfl [(1, iv 67), (0, .ref t)] rfl (by decide) ?_
  refine v_goto hx DX0_init_52 ?_
  refine v_iload hx DX0_init_33 0 rfl ?_
  refine v_aload hx DX0_init_34 1 rfl ?_
  refine v_get hx DX0_init_35 FLRX0_9 hT_11 (v := .ref (t + 1)) rfl ?_
  refine v_alenI hx DX0_init_38 hR1_6 (by decide) (z := 180) rfl ?_
  refine v_icmp_ge hx DX0_init_39 (by decide) (by decide) (fun c39 => ?_) (fun c39 => ?_)
  · exact absurd c39 (by decide)
  refine v_aload hx DX0_init_42 1 rfl ?_
  refine v_get hx DX0_init_43 FLRX0_9 hT_11 (v := .ref (t + 1)) rfl ?_
  refine v_iload hx DX0_init_46 0 rfl ?_
  refine v_push hx DX0_init_47 ?_
  refine v_iasto hx DX0_init_48 hR1_6 (by decide) (by decide) wP11 rfl Z11 (by omega) (fun m12 wT12 s12 Z12 => ?_)
  have wP12 : m12.1 (t + 1) = rw1 (rw1 (rw1 (rw1 (rw1 (rw1 (z0) 7 1) 19 1) 31 1) 43 1) 55 1) 67 1 := wT12
  have hT_12 : L4 (t) = some (.inl (0, [some (.ref (t + 1)), some (.ref (t + 2)), none, none])) := (s12 (t) (by omega)).1.trans hT_11
  have wT_12 : m12.1 (t) = rw1 (rw1 (z0) 2 0) 3 1 := (s12 (t) (by omega)).2.1.trans wT_11
  refine v_iinc hx DX0_init_49 0 rfl [(1, iv 79), (0, .ref t)] rfl (by decide) ?_
  refine v_goto hx DX0_init_52 ?_
  refine v_iload hx DX0_init_33 0 rfl ?_
  refine v_aload hx DX0_init_34 1 rfl ?_
  refine v_get hx DX0_init_35 FLRX0_9 hT_12 (v := .ref (t + 1)) rfl ?_
  refine v_alenI hx DX0_init_38 hR1_6 (by decide) (z := 180) rfl ?_
  refine v_icmp_ge hx DX0_init_39 (by decide) (by decide) (fun c39 => ?_) (fun c39 => ?_)
  · exact absurd c39 (by decide)
  refine v_aload hx DX0_init_42 1 rfl ?_
  refine v_get hx DX0_init_43 FLRX0_9 hT_12 (v := .ref (t + 1)) rfl ?_
  refine v_iload hx DX0_init_46 0 rfl ?_
  refine v_push hx DX0_init_47 ?_
  refine v_iasto hx DX0_init_48 hR1_6 (by decide) (by decide) wP12 rfl Z12 (by omega) (fun m13 wT13 s13 Z13 => ?_)
  have wP13 : m13.1 (t + 1) = rw1 (rw1 (rw1 (rw1 (rw1 (rw1 (rw1 (z0) 7 1) 19 1) 31 1) 43 1) 55 1) 67 1) 79 1 := wT13
  have hT_13 : L4 (t) = some (.inl (0, [some (.ref (t + 1)), some (.ref (t + 2)), none, none])) := (s13 (t) (by omega)).1.trans hT_12
  have wT_13 : m13.1 (t) = rw1 (rw1 (z0) 2 0) 3 1 := (s13 (t) (by omega)).2.1.trans wT_12
  refine v_iinc hx DX0_init_49 0 rfl [(1, iv 91), (0, .ref t)] rfl (by decide) ?_
  refine v_goto hx DX0_init_52 ?_
  refine v_iload hx DX0_init_33 0 rfl ?_
  refine v_aload hx DX0_init_34 1 rfl ?_
  refine v_get hx DX0_init_35 FLRX0_9 hT_13 (v := .ref (t + 1)) rfl ?_
  refine v_alenI hx DX0_init_38 hR1_6 (by decide) (z := 180) rfl ?_
  refine v_icmp_ge hx DX0_init_39 (by decide) (by decide) (fun c39 => ?_) (fun c39 => ?_)
  · exact absurd c39 (by decide)
  refine v_aload hx DX0_init_42 1 rfl ?_
  refine v_get hx DX0_init_43 FLRX0_9 hT_13 (v := .ref (t + 1)) rfl ?_
  refine v_iload hx DX0_init_46 0 rfl ?_
  refine v_push hx DX0_init_47 ?_
  refine v_iasto hx DX0_init_48 hR1_6 (by decide) (by decide) wP13 rfl Z13 (by omega) (fun m14 wT14 s14 Z14 => ?_)
  have wP14 : m14.1 (t + 1) = rw1 (rw1 (rw1 (rw1 (rw1 (rw1 (rw1 (rw1 (z0) 7 1) 19 1) 31 1) 43 1) 55 1) 67 1) 79 1) 91 1 := wT14
  have hT_14 : L4 (t) = some (.inl (0, [some (.ref (t + 1)), some (.ref (t + 2)), none, none])) := (s14 (t) (by omega)).1.trans hT_13
  have wT_14 : m14.1 (t) = rw1 (rw1 (z0) 2 0) 3 1 := (s14 (t) (by omega)).2.1.trans wT_13
  refine v_iinc hx DX0_init_49 0 rfl [(1, iv 103), (0, .ref t)] rfl (by decide) ?_
  refine v_goto hx DX0_init_52 ?_
  refine v_iload hx DX0_init_33 0 rfl ?_
  refine v_aload hx DX0_init_34 1 rfl ?_
  refine v_get hx DX0_init_35 FLRX0_9 hT_14 (v := .ref (t + 1)) rfl ?_
  refine v_alenI hx DX0_init_38 hR1_6 (by decide) (z := 180) rfl ?_
  refine v_icmp_ge hx DX0_init_39 (by decide) (by decide) (fun c39 => ?_) (fun c39 => ?_)
  · exact absurd c39 (by decide)
  refine v_aload hx DX0_init_42 1 rfl ?_
  refine v_get hx DX0_init_43 FLRX0_9 hT_14 (v := .ref (t + 1)) rfl ?_
  refine v_iload hx DX0_init_46 0 rfl ?_
  refine v_push hx DX0_init_47 ?_
  refine v_iasto hx DX0_init_48 hR1_6 (by decide) (by decide) wP14 rfl Z14 (by omega) (fun m15 wT15 s15 Z15 => ?_)
  have wP15 : m15.1 (t + 1) = rw1 (rw1 (rw1 (rw1 (rw1 (rw1 (rw1 (rw1 (rw1 (z0) 7 1) 19 1) 31 1) 43 1) 55 1) 67 1) 79 1) 91 1) 103 1 := wT15
  have hT_15 : L4 (t) = some (.inl (0, [some (.ref (t + 1)), some (.ref (t + 2)), none, none])) := (s15 (t) (by omega)).1.trans hT_14
  have wT_15 : m15.1 (t) = rw1 (rw1 (z0) 2 0) 3 1 := (s15 (t) (by omega)).2.1.trans wT_14
  refine v_iinc hx DX0_init_49 0 rfl [(1, iv 115), (0, .ref t)] rfl (by decide) ?_
  refine v_goto hx DX0_init_52 ?_
  refine v_iload hx DX0_init_33 0 rfl ?_
  refine v_aload hx DX0_init_34 1 rfl ?_
  refine v_get hx DX0_init_35 FLRX0_9 hT_15 (v := .ref (t + 1)) rfl ?_
  refine v_alenI hx DX0_init_38 hR1_6 (by decide) (z := 180) rfl ?_
  refine v_icmp_ge hx DX0_init_39 (by decide) (by decide) (fun c39 => ?_) (fun c39 => ?_)
  · exact absurd c39 (by decide)
  refine v_aload hx DX0_init_42 1 rfl ?_
  refine v_get hx DX0_init_43 FLRX0_9 hT_15 (v := .ref (t + 1)) rfl ?_
  refine v_iload hx DX0_init_46 0 rfl ?_
  refine v_push hx DX0_init_47 ?_
  refine v_iasto hx DX0_init_48 hR1_6 (by decide) (by decide) wP15 rfl Z15 (by omega) (fun m16 wT16 s16 Z16 => ?_)
  have wP16 : m16.1 (t + 1) = rw1 (rw1 (rw1 (rw1 (rw1 (rw1 (rw1 (rw1 (rw1 (rw1 (z0) 7 1) 19 1) 31 1) 43 1) 55 1) 67 1) 79 1) 91 1) 103 1) 115 1 := wT16
  have hT_16 : L4 (t) = some (.inl (0, [some (.ref (t + 1)), some (.ref (t + 2)), none, none])) := (s16 (t) (by omega)).1.trans hT_15
  have wT_16 : m16.1 (t) = rw1 (rw1 (z0) 2 0) 3 1 := (s16 (t) (by omega)).2.1.trans wT_15
  refine v_iinc hx DX0_init_49 0 rfl [(1, iv 127), (0, .ref t)] rfl (by decide) ?_
  refine v_goto hx DX0_init_52 ?_
  refine v_iload hx DX0_init_33 0 rfl ?_
  refine v_aload hx DX0_init_34 1 rfl ?_
  refine v_get hx DX0_init_35 FLRX0_9 hT_16 (v := .ref (t + 1)) rfl ?_
  refine v_alenI hx DX0_init_38 hR1_6 (by decide) (z := 180) rfl ?_
  refine v_icmp_ge hx DX0_init_39 (by decide) (by decide) (fun c39 => ?_) (fun c39 => ?_)
  · exact absurd c39 (by decide)
  refine v_aload hx DX0_init_42 1 rfl ?_
  refine v_get hx DX0_init_43 FLRX0_9 hT_16 (v := .ref (t + 1)) rfl ?_
  refine v_iload hx DX0_init_46 0 rfl ?_
  refine v_push hx DX0_init_47 ?_
  refine v_iasto hx DX0_init_48 hR1_6 (by decide) (by decide) wP16 rfl Z16 (by omega) (fun m17 wT17 s17 Z17 => ?_)
  have wP17 : m17.1 (t + 1) = rw1 (rw1 (rw1 (rw1 (rw1 (rw1 (rw1 (rw1 (rw1 (rw1 (rw1 (z0) 7 1) 19 1) 31 1) 43 1) 55 1) 67 1) 79 1) 91 1) 103 1) 115 1) 127 1 := wT17
  have hT_17 : L4 (t) = some (.inl (0, [some (.ref (t + 1)), some (.ref (t + 2)), none, none])) := (s17 (t) (by omega)).1.trans hT_16
  have wT_17 : m17.1 (t) = rw1 (rw1 (z0) 2 0) 3 1 := (s17 (t) (by omega)).2.1.trans wT_16
  refine v_iinc hx DX0_init_49 0 rfl [(1, iv 139), (0, .ref t)] rfl (by decide) ?_
  refine v_goto hx DX0_init_52 ?_
  refine v_iload hx DX0_init_33 0 rfl ?_
  refine v_aload hx DX0_init_34 1 rfl ?_
  refine v_get hx DX0_init_35 FLRX0_9 hT_17 (v := .ref (t + 1)) rfl ?_
  refine v_alenI hx DX0_init_38 hR1_6 (by decide) (z := 180) rfl ?_
  refine v_icmp_ge hx DX0_init_39 (by decide) (by decide) (fun c39 => ?_) (fun c39 => ?_)
  · exact absurd c39 (by decide)
  refine v_aload hx DX0_init_42 1 rfl ?_
  refine v_get hx DX0_init_43 FLRX0_9 hT_17 (v := .ref (t + 1)) rfl ?_
  refine v_iload hx DX0_init_46 0 rfl ?_
  refine v_push hx DX0_init_47 ?_
  refine v_iasto hx DX0_init_48 hR1_6 (by decide) (by decide) wP17 rfl Z17 (by omega) (fun m18 wT18 s18 Z18 => ?_)
  have wP18 : m18.1 (t + 1) = rw1 (rw1 (rw1 (rw1 (rw1 (rw1 (rw1 (rw1 (rw1 (rw1 (rw1 (rw1 (z0) 7 1) 19 1) 31 1) 43 1) 55 1) 67 1) 79 1) 91 1) 103 1) 115 1) 127 1) 139 1 := wT18
  have hT_18 : L4 (t) = some (.inl (0, [some (.ref (t + 1)), some (.ref (t + 2)), none, none])) := (s18 (t) (by omega)).1.trans hT_17
  have wT_18 : m18.1 (t) = rw1 (rw1 (z0) 2 0) 3 1 := (s18 (t) (by omega)).2.1.trans wT_17
  refine v_iinc hx DX0_init_49 0 rfl [(1, iv 151), (0, .ref t)] rfl (by decide) ?_
  refine v_goto hx DX0_init_52 ?_
  refine v_iload hx DX0_init_33 0 rfl ?_
  refine v_aload hx DX0_init_34 1 rfl ?_
  refine v_get hx DX0_init_35 FLRX0_9 hT_18 (v := .ref (t + 1)) rfl ?_
  refine v_alenI hx DX0_init_38 hR1_6 (by decide) (z := 180) rfl ?_
  refine v_icmp_ge hx DX0_init_39 (by decide) (by decide) (fun c39 => ?_) (fun c39 => ?_)
  · exact absurd c39 (by decide)
  refine v_aload hx DX0_init_42 1 rfl ?_
  refine v_get hx DX0_init_43 FLRX0_9 hT_18 (v := .ref (t + 1)) rfl ?_
  refine v_iload hx DX0_init_46 0 rfl ?_
  refine v_push hx DX0_init_47 ?_
  refine v_iasto hx DX0_init_48 hR1_6 (by decide) (by decide) wP18 rfl Z18 (by omega) (fun m19 wT19 s19 Z19 => ?_)
  have wP19 : m19.1 (t + 1) = rw1 (rw1 (rw1 (rw1 (rw1 (rw1 (rw1 (rw1 (rw1 (rw1 (rw1 (rw1 (rw1 (z0) 7 1) 19 1) 31 1) 43 1) 55 1) 67 1) 79 1) 91 1) 103 1) 115 1) 127 1) 139 1) 151 1 := wT19
  have hT_19 : L4 (t) = some (.inl (0, [some (.ref (t + 1)), some (.ref (t + 2)), none, none])) := (s19 (t) (by omega)).1.trans hT_18
  have wT_19 : m19.1 (t) = rw1 (rw1 (z0) 2 0) 3 1 := (s19 (t) (by omega)).2.1.trans wT_18
  refine v_iinc hx DX0_init_49 0 rfl [(1, iv 163), (0, .ref t)] rfl (by decide) ?_
  refine v_goto hx DX0_init_52 ?_
  refine v_iload hx DX0_init_33 0 rfl ?_
  refine v_aload hx DX0_init_34 1 rfl ?_
  refine v_get hx DX0_init_35 FLRX0_9 hT_19 (v := .ref (t + 1)) rfl ?_
  refine v_alenI hx DX0_init_38 hR1_6 (by decide) (z := 180) rfl ?_
  refine v_icmp_ge hx DX0_init_39 (by decide) (by decide) (fun c39 => ?_) (fun c39 => ?_)
  · exact absurd c39 (by decide)
  refine v_aload hx DX0_init_42 1 rfl ?_
  refine v_get hx DX0_init_43 FLRX0_9 hT_19 (v := .ref (t + 1)) rfl ?_
  refine v_iload hx DX0_init_46 0 rfl ?_
  refine v_push hx DX0_init_47 ?_
  refine v_iasto hx DX0_init_48 hR1_6 (by decide) (by decide) wP19 rfl Z19 (by omega) (fun m20 wT20 s20 Z20 => ?_)
  have wP20 : m20.1 (t + 1) = rw1 (rw1 (rw1 (rw1 (rw1 (rw1 (rw1 (rw1 (rw1 (rw1 (rw1 (rw1 (rw1 (rw1 (z0) 7 1) 19 1) 31 1) 43 1) 55 1) 67 1) 79 1) 91 1) 103 1) 115 1) 127 1) 139 1) 151 1) 163 1 := wT20
  have hT_20 : L4 (t) = some (.inl (0, [some (.ref (t + 1)), some (.ref (t + 2)), none, none])) := (s20 (t) (by omega)).1.trans hT_19
  have wT_20 : m20.1 (t) = rw1 (rw1 (z0) 2 0) 3 1 := (s20 (t) (by omega)).2.1.trans wT_19
  refine v_iinc hx DX0_init_49 0 rfl [(1, iv 175), (0, .ref t)] rfl (by decide) ?_
  refine v_goto hx DX0_init_52 ?_
  refine v_iload hx DX0_init_33 0 rfl ?_
  refine v_aload hx DX0_init_34 1 rfl ?_
  refine v_get hx DX0_init_35 FLRX0_9 hT_20 (v := .ref (t + 1)) rfl ?_
  refine v_alenI hx DX0_init_38 hR1_6 (by decide) (z := 180) rfl ?_
  refine v_icmp_ge hx DX0_init_39 (by decide) (by decide) (fun c39 => ?_) (fun c39 => ?_)
  · exact absurd c39 (by decide)
  refine v_aload hx DX0_init_42 1 rfl ?_
  refine v_get hx DX0_init_43 FLRX0_9 hT_20 (v := .ref (t + 1)) rfl ?_
  refine v_iload hx DX0_init_46 0 rfl ?_
  refine v_push hx DX0_init_47 ?_
  refine v_iasto hx DX0_init_48 hR1_6 (by decide) (by decide) wP20 rfl Z20 (by omega) (fun m21 wT21 s21 Z21 => ?_)
  have wP21 : m21.1 (t + 1) = rw1 (rw1 (rw1 (rw1 (rw1 (rw1 (rw1 (rw1 (rw1 (rw1 (rw1 (rw1 (rw1 (rw1 (rw1 (z0) 7 1) 19 1) 31 1) 43 1) 55 1) 67 1) 79 1) 91 1) 103 1) 115 1) 127 1) 139 1) 151 1) 163 1) 175 1 := wT21
  have hT_21 : L4 (t) = some (.inl (0, [some (.ref (t + 1)), some (.ref (t + 2)), none, none])) := (s21 (t) (by omega)).1.trans hT_20
  have wT_21 : m21.1 (t) = rw1 (rw1 (z0) 2 0) 3 1 := (s21 (t) (by omega)).2.1.trans wT_20
  refine v_iinc hx DX0_init_49 0 rfl [(1, iv 187), (0, .ref t)] rfl (by decide) ?_
  refine v_goto hx DX0_init_52 ?_
  refine v_iload hx DX0_init_33 0 rfl ?_
  refine v_aload hx DX0_init_34 1 rfl ?_
  refine v_get hx DX0_init_35 FLRX0_9 hT_21 (v := .ref (t + 1)) rfl ?_
  refine v_alenI hx DX0_init_38 hR1_6 (by decide) (z := 180) rfl ?_
  refine v_icmp_ge hx DX0_init_39 (by decide) (by decide) (fun c39 => ?_) (fun c39 => ?_)
  rotate_left
  · exact absurd c39 (by decide)
  have S21 : ∀ a, a < t + 3 → a ≠ t → a ≠ t + 1 → SmA L4 m21 L4 m21 a := fun a _ _ _ => SmA.rf
  have S20 : ∀ a, a < t + 3 → a ≠ t → a ≠ t + 1 → SmA L4 m20 L4 m21 a := fun a h0 q0 q1 => (s21 a (by omega)).trans (S21 a (by omega) q0 q1)
  have S19 : ∀ a, a < t + 3 → a ≠ t → a ≠ t + 1 → SmA L4 m19 L4 m21 a := fun a h0 q0 q1 => (s20 a (by omega)).trans (S20 a (by omega) q0 q1)
  have S18 : ∀ a, a < t + 3 → a ≠ t → a ≠ t + 1 → SmA L4 m18 L4 m21 a := fun a h0 q0 q1 => (s19 a (by omega)).trans (S19 a (by omega) q0 q1)
  have S17 : ∀ a, a < t + 3 → a ≠ t → a ≠ t + 1 → SmA L4 m17 L4 m21 a := fun a h0 q0 q1 => (s18 a (by omega)).trans (S18 a (by omega) q0 q1)
  have S16 : ∀ a, a < t + 3 → a ≠ t → a ≠ t + 1 → SmA L4 m16 L4 m21 a := fun a h0 q0 q1 => (s17 a (by omega)).trans (S17 a (by omega) q0 q1)
  have S15 : ∀ a, a < t + 3 → a ≠ t → a ≠ t + 1 → SmA L4 m15 L4 m21 a := fun a h0 q0 q1 => (s16 a (by omega)).trans (S16 a (by omega) q0 q1)
  have S14 : ∀ a, a < t + 3 → a ≠ t → a ≠ t + 1 → SmA L4 m14 L4 m21 a := fun a h0 q0 q1 => (s15 a (by omega)).trans (S15 a (by omega) q0 q1)
  have S13 : ∀ a, a < t + 3 → a ≠ t → a ≠ t + 1 → SmA L4 m13 L4 m21 a := fun a h0 q0 q1 => (s14 a (by omega)).trans (S14 a (by omega) q0 q1)
  have S12 : ∀ a, a < t + 3 → a ≠ t → a ≠ t + 1 → SmA L4 m12 L4 m21 a := fun a h0 q0 q1 => (s13 a (by omega)).trans (S13 a (by omega) q0 q1)
  have S11 : ∀ a, a < t + 3 → a ≠ t → a ≠ t + 1 → SmA L4 m11 L4 m21 a := fun a h0 q0 q1 => (s12 a (by omega)).trans (S12 a (by omega) q0 q1)
  have S10 : ∀ a, a < t + 3 → a ≠ t → a ≠ t + 1 → SmA L4 m10 L4 m21 a := fun a h0 q0 q1 => (s11 a (by omega)).trans (S11 a (by omega) q0 q1)
  have S9 : ∀ a, a < t + 3 → a ≠ t → a ≠ t + 1 → SmA L4 m9 L4 m21 a := fun a h0 q0 q1 => (s10 a (by omega)).trans (S10 a (by omega) q0 q1)
  have S8 : ∀ a, a < t + 3 → a ≠ t → a ≠ t + 1 → SmA L4 m8 L4 m21 a := fun a h0 q0 q1 => (s9 a (by omega)).trans (S9 a (by omega) q0 q1)
  have S7 : ∀ a, a < t + 3 → a ≠ t → a ≠ t + 1 → SmA L4 m7 L4 m21 a := fun a h0 q0 q1 => (s8 a (by omega)).trans (S8 a (by omega) q0 q1)
  have S6 : ∀ a, a < t + 3 → a ≠ t → a ≠ t + 1 → SmA L4 m6 L4 m21 a := fun a h0 q0 q1 => (s7 a (by omega)).trans (S7 a (by omega) q0 q1)
  have S5 : ∀ a, a < t + 3 → a ≠ t → a ≠ t + 1 → SmA L4 m5 L4 m21 a := fun a h0 q0 q1 => (s6 a (by omega)).trans (S6 a (by omega) q0 q1)
  have S4 : ∀ a, a < t + 3 → a ≠ t → a ≠ t + 1 → SmA L4 μ L4 m21 a := fun a h0 q0 q1 => (s5 a (by omega)).trans (S5 a (by omega) q0 q1)
  have S3 : ∀ a, a < t + 3 → a ≠ t → a ≠ t + 1 → SmA L3 μ L4 m21 a := fun a h0 q0 q1 => (s4 a (by omega)).trans (S4 a (by omega) q0 q1)
  have S2 : ∀ a, a < t + 2 → a ≠ t → a ≠ t + 1 → SmA L2 μ L4 m21 a := fun a h0 q0 q1 => (s3 a (by omega)).trans (S3 a (by omega) q0 q1)
  have S1 : ∀ a, a < t + 2 → a ≠ t → a ≠ t + 1 → SmA L1 μ L4 m21 a := fun a h0 q0 q1 => (s2 a (by omega)).trans (S2 a (by omega) q0 q1)
  have S0 : ∀ a, a < t + 1 → a ≠ t → a ≠ t + 1 → SmA Λ μ L4 m21 a := fun a h0 q0 q1 => (s1 a (by omega)).trans (S1 a (by omega) q0 q1)
  have A2 : L4 (t + 2) = some (.inr (0, 4, [])) := (S3 (t + 2) (by omega) (by omega) (by omega)).1.trans hA3
  have C2 : m21.1 (t + 2) = z0 ∧ m21.2 (t + 2) = z1 := ⟨(S3 (t + 2) (by omega) (by omega) (by omega)).2.1.trans (hz2).1, (S3 (t + 2) (by omega) (by omega) (by omega)).2.2.trans (hz2).2⟩
  have RGA : Rg t (t + 3) L4 m21 := (((Rg.one (μ := m21) hT_21 (by decide)).app (Rg.arr (μ := m21) hR1_6) (by omega)).app (Rg.arr (μ := m21) A2) (by omega))
  exact v_ret hx hBD DX0_init_55 ⟨rfl, rfl, fun a ha => S0 a (by omega) (by omega) (by omega), Z21, ⟨⟨hT_21, hR1_6, A2⟩, RGA, bd0_ok, fun j h0 h1 => by rw [wP21]; exact bd0_row h0 h1, fun j h0 h1 => by rw [C2.1]; rfl, by rw [wT_21]; rfl, by rw [wT_21]; rfl⟩⟩
theorem k_X3 (l : Launch) (G : Gl) {Λ : Lay} {μ : Mem} {t : Nat} (hT : Λ t = some (.inl (3, [some .null, some .null, some .null, some .null, some .null, some .null, some .null, some .null]))) (hZ : Zr Λ μ (t + 1)) (hw : μ.1 t = z0) : SpN l G yX3_init cX3_init 1 none 2 16 400 [.ref t] Λ (t + 1) μ (CT t (t + 17) Λ μ (OK t)) := by
  refine SpN.intro (by decide) (Nat.le_of_ble_eq_true rfl) (fun x hx hBD hin => ?_)
  refine v_lv [(0, .ref t)] rfl ?_
  refine v_gB hT (fun hg => ?_)
  refine v_aload hx DX3_init_0 0 rfl ?_
  refine v_objI hx DX3_init_1 mlRX3_3 (by decide) (Nat.le_of_ble_eq_true rfl) ?_
  refine v_aload hx DX3_init_4 0 rfl ?_
  refine v_nw (e' := t + 3) (cs' := (2, 50)) hx DX3_init_5 DX3_init_8 DX3_init_9 NWRX3_9 CIRX3_11 (by omega) hZ (fun _ h1 h2 h3 => k_X5 l G h1 h2 h3) (Nat.le_of_ble_eq_true rfl) (by decide) rfl ⟨Nat.le_of_ble_eq_true rfl, Nat.le_of_ble_eq_true rfl⟩ (fun L1 m1 s1 Z1 r1 => ?_)
  have hT_1 : L1 (t) = some (.inl (3, [some .null, some .null, some .null, some .null, some .null, some .null, some .null, some .null])) := (s1 (t) (by omega)).1.trans hT
  have wT_1 : m1.1 (t) = z0 := (s1 (t) (by omega)).2.1.trans hw
  refine v_putRo (fs' := [some (.ref (t + 1)), some .null, some .null, some .null, some .null, some .null, some .null, some .null]) hx hin DX3_init_12 FPRX3_12 hT_1 (Nat.le_of_ble_eq_true rfl) rfl rfl rfl Z1 (by omega) (fun L2 hP2 s2 Z2 => ?_)
  refine v_aload hx DX3_init_15 0 rfl ?_
  refine v_nw (e' := t + 5) (cs' := (4, 100)) hx DX3_init_16 DX3_init_19 DX3_init_20 NWRX3_9 CIRX3_11 (by omega) Z2 (fun _ h1 h2 h3 => k_X5 l G h1 h2 h3) (Nat.le_of_ble_eq_true rfl) (by decide) rfl ⟨Nat.le_of_ble_eq_true rfl, Nat.le_of_ble_eq_true rfl⟩ (fun L3 m3 s3 Z3 r3 => ?_)
  have hT_3 : L3 (t) = some (.inl (3, [some (.ref (t + 1)), some .null, some .null, some .null, some .null, some .null, some .null, some .null])) := (s3 (t) (by omega)).1.trans hP2
  have wT_3 : m3.1 (t) = z0 := (s3 (t) (by omega)).2.1.trans wT_1
  refine v_putRo (fs' := [some (.ref (t + 1)), some (.ref (t + 3)), some .null, some .null, some .null, some .null, some .null, some .null]) hx hin DX3_init_23 FPRX3_18 hT_3 (Nat.le_of_ble_eq_true rfl) rfl rfl rfl Z3 (by omega) (fun L4 hP4 s4 Z4 => ?_)
  refine v_aload hx DX3_init_26 0 rfl ?_
  refine v_nw (e' := t + 7) (cs' := (6, 150)) hx DX3_init_27 DX3_init_30 DX3_init_31 NWRX3_9 CIRX3_11 (by omega) Z4 (fun _ h1 h2 h3 => k_X5 l G h1 h2 h3) (Nat.le_of_ble_eq_true rfl) (by decide) rfl ⟨Nat.le_of_ble_eq_true rfl, Nat.le_of_ble_eq_true rfl⟩ (fun L5 m5 s5 Z5 r5 => ?_)
  have hT_5 : L5 (t) = some (.inl (3, [some (.ref (t + 1)), some (.ref (t + 3)), some .null, some .null, some .null, some .null, some .null, some .null])) := (s5 (t) (by omega)).1.trans hP4
  have wT_5 : m5.1 (t) = z0 := (s5 (t) (by omega)).2.1.trans wT_3
  refine v_putRo (fs' := [some (.ref (t + 1)), some (.ref (t + 3)), some (.ref (t + 5)), some .null, some .null, some .null, some .null, some .null]) hx hin DX3_init_34 FPRX3_21 hT_5 (Nat.le_of_ble_eq_true rfl) rfl rfl rfl Z5 (by omega) (fun L6 hP6 s6 Z6 => ?_)
  refine v_aload hx DX3_init_37 0 rfl ?_
  refine v_nw (e' := t + 9) (cs' := (8, 200)) hx DX3_init_38 DX3_init_41 DX3_init_42 NWRX3_9 CIRX3_11 (by omega) Z6 (fun _ h1 h2 h3 => k_X5 l G h1 h2 h3) (Nat.le_of_ble_eq_true rfl) (by decide) rfl ⟨Nat.le_of_ble_eq_true rfl, Nat.le_of_ble_eq_true rfl⟩ (fun L7 m7 s7 Z7 r7 => ?_)
  have hT_7 : L7 (t) = some (.inl (3, [some (.ref (t + 1)), some (.ref (t + 3)), some (.ref (t + 5)), some .null, some .null, some .null, some .null, some .null])) := (s7 (t) (by omega)).1.trans hP6
  have wT_7 : m7.1 (t) = z0 := (s7 (t) (by omega)).2.1.trans wT_5
  refine v_putRo (fs' := [some (.ref (t + 1)), some (.ref (t + 3)), some (.ref (t + 5)), some (.ref (t + 7)), some .null, some .null, some .null, some .null]) hx hin DX3_init_45 FPRX3_24 hT_7 (Nat.le_of_ble_eq_true rfl) rfl rfl rfl Z7 (by omega) (fun L8 hP8 s8 Z8 => ?_)
  refine v_aload hx DX3_init_48 0 rfl ?_
  refine v_nw (e' := t + 11) (cs' := (10, 250)) hx DX3_init_49 DX3_init_52 DX3_init_53 NWRX3_9 CIRX3_11 (by omega) Z8 (fun _ h1 h2 h3 => k_X5 l G h1 h2 h3) (Nat.le_of_ble_eq_true rfl) (by decide) rfl ⟨Nat.le_of_ble_eq_true rfl, Nat.le_of_ble_eq_true rfl⟩ (fun L9 m9 s9 Z9 r9 => ?_)
  have hT_9 : L9 (t) = some (.inl (3, [some (.ref (t + 1)), some (.ref (t + 3)), some (.ref (t + 5)), some (.ref (t + 7)), some .null, some .null, some .null, some .null])) := (s9 (t) (by omega)).1.trans hP8
  have wT_9 : m9.1 (t) = z0 := (s9 (t) (by omega)).2.1.trans wT_7
  refine v_putRo (fs' := [some (.ref (t + 1)), some (.ref (t + 3)), some (.ref (t + 5)), some (.ref (t + 7)), some (.ref (t + 9)), some .null, some .null, some .null]) hx hin DX3_init_56 FPRX3_27 hT_9 (Nat.le_of_ble_eq_true rfl) rfl rfl rfl Z9 (by omega) (fun L10 hP10 s10 Z10 => ?_)
  refine v_aload hx DX3_init_59 0 rfl ?_
  refine v_nw (e' := t + 13) (cs' := (12, 300)) hx DX3_init_60 DX3_init_63 DX3_init_64 NWRX3_9 CIRX3_11 (by omega) Z10 (fun _ h1 h2 h3 => k_X5 l G h1 h2 h3) (Nat.le_of_ble_eq_true rfl) (by decide) rfl ⟨Nat.le_of_ble_eq_true rfl, Nat.le_of_ble_eq_true rfl⟩ (fun L11 m11 s11 Z11 r11 => ?_)
  have hT_11 : L11 (t) = some (.inl (3, [some (.ref (t + 1)), some (.ref (t + 3)), some (.ref (t + 5)), some (.ref (t + 7)), some (.ref (t + 9)), some .null, some .null, some .null])) := (s11 (t) (by omega)).1.trans hP10
  have wT_11 : m11.1 (t) = z0 := (s11 (t) (by omega)).2.1.trans wT_9
  refine v_putRo (fs' := [some (.ref (t + 1)), some (.ref (t + 3)), some (.ref (t + 5)), some (.ref (t + 7)), some (.ref (t + 9)), some (.ref (t + 11)), some .null, some .null]) hx hin DX3_init_67 FPRX3_30 hT_11 (Nat.le_of_ble_eq_true rfl) rfl rfl rfl Z11 (by omega) (fun L12 hP12 s12 Z12 => ?_)
  refine v_aload hx DX3_init_70 0 rfl ?_
  refine v_nw (e' := t + 15) (cs' := (14, 350)) hx DX3_init_71 DX3_init_74 DX3_init_75 NWRX3_9 CIRX3_11 (by omega) Z12 (fun _ h1 h2 h3 => k_X5 l G h1 h2 h3) (Nat.le_of_ble_eq_true rfl) (by decide) rfl ⟨Nat.le_of_ble_eq_true rfl, Nat.le_of_ble_eq_true rfl⟩ (fun L13 m13 s13 Z13 r13 => ?_)
  have hT_13 : L13 (t) = some (.inl (3, [some (.ref (t + 1)), some (.ref (t + 3)), some (.ref (t + 5)), some (.ref (t + 7)), some (.ref (t + 9)), some (.ref (t + 11)), some .null, some .null])) := (s13 (t) (by omega)).1.trans hP12
  have wT_13 : m13.1 (t) = z0 := (s13 (t) (by omega)).2.1.trans wT_11
  refine v_putRo (fs' := [some (.ref (t + 1)), some (.ref (t + 3)), some (.ref (t + 5)), some (.ref (t + 7)), some (.ref (t + 9)), some (.ref (t + 11)), some (.ref (t + 13)), some .null]) hx hin DX3_init_78 FPRX3_33 hT_13 (Nat.le_of_ble_eq_true rfl) rfl rfl rfl Z13 (by omega) (fun L14 hP14 s14 Z14 => ?_)
  refine v_aload hx DX3_init_81 0 rfl ?_
  refine v_nw (e' := t + 17) (cs' := (16, 400)) hx DX3_init_82 DX3_init_85 DX3_init_86 NWRX3_9 CIRX3_11 (by omega) Z14 (fun _ h1 h2 h3 => k_X5 l G h1 h2 h3) (Nat.le_of_ble_eq_true rfl) (by decide) rfl ⟨Nat.le_of_ble_eq_true rfl, Nat.le_of_ble_eq_true rfl⟩ (fun L15 m15 s15 Z15 r15 => ?_)
  have hT_15 : L15 (t) = some (.inl (3, [some (.ref (t + 1)), some (.ref (t + 3)), some (.ref (t + 5)), some (.ref (t + 7)), some (.ref (t + 9)), some (.ref (t + 11)), some (.ref (t + 13)), some .null])) := (s15 (t) (by omega)).1.trans hP14
  have wT_15 : m15.1 (t) = z0 := (s15 (t) (by omega)).2.1.trans wT_13
  refine v_putRo (fs' := [some (.ref (t + 1)), some (.ref (t + 3)), some (.ref (t + 5)), some (.ref (t + 7)), some (.ref (t + 9)), some (.ref (t + 11)), some (.ref (t + 13)), some (.ref (t + 15))]) hx hin DX3_init_89 FPRX3_36 hT_15 (Nat.le_of_ble_eq_true rfl) rfl rfl rfl Z15 (by omega) (fun L16 hP16 s16 Z16 => ?_)
  have S16 : ∀ a, a < t + 17 → a ≠ t → SmA L16 m15 L16 m15 a := fun a _ _ => SmA.rf
  have S15 : ∀ a, a < t + 17 → a ≠ t → SmA L15 m15 L16 m15 a := fun a h0 q0 => (s16 a (by omega)).trans (S16 a (by omega) q0)
  have S14 : ∀ a, a < t + 15 → a ≠ t → SmA L14 m13 L16 m15 a := fun a h0 q0 => (s15 a (by omega)).trans (S15 a (by omega) q0)
  have S13 : ∀ a, a < t + 15 → a ≠ t → SmA L13 m13 L16 m15 a := fun a h0 q0 => (s14 a (by omega)).trans (S14 a (by omega) q0)
  have S12 : ∀ a, a < t + 13 → a ≠ t → SmA L12 m11 L16 m15 a := fun a h0 q0 => (s13 a (by omega)).trans (S13 a (by omega) q0)
  have S11 : ∀ a, a < t + 13 → a ≠ t → SmA L11 m11 L16 m15 a := fun a h0 q0 => (s12 a (by omega)).trans (S12 a (by omega) q0)
  have S10 : ∀ a, a < t + 11 → a ≠ t → SmA L10 m9 L16 m15 a := fun a h0 q0 => (s11 a (by omega)).trans (S11 a (by omega) q0)
  have S9 : ∀ a, a < t + 11 → a ≠ t → SmA L9 m9 L16 m15 a := fun a h0 q0 => (s10 a (by omega)).trans (S10 a (by omega) q0)
  have S8 : ∀ a, a < t + 9 → a ≠ t → SmA L8 m7 L16 m15 a := fun a h0 q0 => (s9 a (by omega)).trans (S9 a (by omega) q0)
  have S7 : ∀ a, a < t + 9 → a ≠ t → SmA L7 m7 L16 m15 a := fun a h0 q0 => (s8 a (by omega)).trans (S8 a (by omega) q0)
  have S6 : ∀ a, a < t + 7 → a ≠ t → SmA L6 m5 L16 m15 a := fun a h0 q0 => (s7 a (by omega)).trans (S7 a (by omega) q0)
  have S5 : ∀ a, a < t + 7 → a ≠ t → SmA L5 m5 L16 m15 a := fun a h0 q0 => (s6 a (by omega)).trans (S6 a (by omega) q0)
  have S4 : ∀ a, a < t + 5 → a ≠ t → SmA L4 m3 L16 m15 a := fun a h0 q0 => (s5 a (by omega)).trans (S5 a (by omega) q0)
  have S3 : ∀ a, a < t + 5 → a ≠ t → SmA L3 m3 L16 m15 a := fun a h0 q0 => (s4 a (by omega)).trans (S4 a (by omega) q0)
  have S2 : ∀ a, a < t + 3 → a ≠ t → SmA L2 m1 L16 m15 a := fun a h0 q0 => (s3 a (by omega)).trans (S3 a (by omega) q0)
  have S1 : ∀ a, a < t + 3 → a ≠ t → SmA L1 m1 L16 m15 a := fun a h0 q0 => (s2 a (by omega)).trans (S2 a (by omega) q0)
  have S0 : ∀ a, a < t + 1 → a ≠ t → SmA Λ μ L16 m15 a := fun a h0 q0 => (s1 a (by omega)).trans (S1 a (by omega) q0)
  have F1 : OP (t + 1) L16 m15 := OP.lc _ _ _ _ (fun a h0 h1 => S1 a (by omega) (by omega)) r1
  have F3 : OP (t + 3) L16 m15 := OP.lc _ _ _ _ (fun a h0 h1 => S3 a (by omega) (by omega)) r3
  have F5 : OP (t + 5) L16 m15 := OP.lc _ _ _ _ (fun a h0 h1 => S5 a (by omega) (by omega)) r5
  have F7 : OP (t + 7) L16 m15 := OP.lc _ _ _ _ (fun a h0 h1 => S7 a (by omega) (by omega)) r7
  have F9 : OP (t + 9) L16 m15 := OP.lc _ _ _ _ (fun a h0 h1 => S9 a (by omega) (by omega)) r9
  have F11 : OP (t + 11) L16 m15 := OP.lc _ _ _ _ (fun a h0 h1 => S11 a (by omega) (by omega)) r11
  have F13 : OP (t + 13) L16 m15 := OP.lc _ _ _ _ (fun a h0 h1 => S13 a (by omega) (by omega)) r13
  have F15 : OP (t + 15) L16 m15 := OP.lc _ _ _ _ (fun a h0 h1 => S15 a (by omega) (by omega)) r15
  have RGA : Rg t (t + 17) L16 m15 := (((((((((Rg.one (μ := m15) hP16 (by decide)).app F1.rg (by omega)).app F3.rg (by omega)).app F5.rg (by omega)).app F7.rg (by omega)).app F9.rg (by omega)).app F11.rg (by omega)).app F13.rg (by omega)).app F15.rg (by omega))
  exact v_ret hx hBD DX3_init_92 ⟨rfl, rfl, fun a ha => S0 a (by omega) (by omega), Z16, ⟨⟨hP16, ⟨F1.1, F3.1, F5.1, F7.1⟩, ⟨F9.1, F11.1, F13.1, F15.1⟩⟩, RGA⟩⟩
theorem k_X9 (l : Launch) (G : Gl) {Λ : Lay} {μ : Mem} {t κ : Nat} (hT : Λ t = some (.inl (9, [some .null, some .null, some .null, some .null, some .null, some .null, some .null, some .null, some .null]))) (hZ : Zr Λ μ (t + 1)) (hw : μ.1 t = z0) : SpN l G yX9_init cX9_init 2 none 2 16 400 [.ref t, .ref κ] Λ (t + 1) μ (CT t (t + 17) Λ μ (OS κ t)) := by
  refine SpN.intro (by decide) (Nat.le_of_ble_eq_true rfl) (fun x hx hBD hin => ?_)
  refine v_lv [(0, .ref t), (1, .ref κ)] rfl ?_
  refine v_gB hT (fun hg => ?_)
  refine v_aload hx DX9_init_0 0 rfl ?_
  refine v_objI hx DX9_init_1 mlRX9_3 (by decide) (Nat.le_of_ble_eq_true rfl) ?_
  refine v_aload hx DX9_init_4 0 rfl ?_
  refine v_nw (e' := t + 3) (cs' := (2, 50)) hx DX9_init_5 DX9_init_8 DX9_init_9 NWRX9_9 CIRX9_11 (by omega) hZ (fun _ h1 h2 h3 => k_X5 l G h1 h2 h3) (Nat.le_of_ble_eq_true rfl) (by decide) rfl ⟨Nat.le_of_ble_eq_true rfl, Nat.le_of_ble_eq_true rfl⟩ (fun L1 m1 s1 Z1 r1 => ?_)
  have hT_1 : L1 (t) = some (.inl (9, [some .null, some .null, some .null, some .null, some .null, some .null, some .null, some .null, some .null])) := (s1 (t) (by omega)).1.trans hT
  have wT_1 : m1.1 (t) = z0 := (s1 (t) (by omega)).2.1.trans hw
  refine v_putRo (fs' := [some .null, some (.ref (t + 1)), some .null, some .null, some .null, some .null, some .null, some .null, some .null]) hx hin DX9_init_12 FPRX9_12 hT_1 (Nat.le_of_ble_eq_true rfl) rfl rfl rfl Z1 (by omega) (fun L2 hP2 s2 Z2 => ?_)
  refine v_aload hx DX9_init_15 0 rfl ?_
  refine v_nw (e' := t + 5) (cs' := (4, 100)) hx DX9_init_16 DX9_init_19 DX9_init_20 NWRX9_9 CIRX9_11 (by omega) Z2 (fun _ h1 h2 h3 => k_X5 l G h1 h2 h3) (Nat.le_of_ble_eq_true rfl) (by decide) rfl ⟨Nat.le_of_ble_eq_true rfl, Nat.le_of_ble_eq_true rfl⟩ (fun L3 m3 s3 Z3 r3 => ?_)
  have hT_3 : L3 (t) = some (.inl (9, [some .null, some (.ref (t + 1)), some .null, some .null, some .null, some .null, some .null, some .null, some .null])) := (s3 (t) (by omega)).1.trans hP2
  have wT_3 : m3.1 (t) = z0 := (s3 (t) (by omega)).2.1.trans wT_1
  refine v_putRo (fs' := [some .null, some (.ref (t + 1)), some (.ref (t + 3)), some .null, some .null, some .null, some .null, some .null, some .null]) hx hin DX9_init_23 FPRX9_18 hT_3 (Nat.le_of_ble_eq_true rfl) rfl rfl rfl Z3 (by omega) (fun L4 hP4 s4 Z4 => ?_)
  refine v_aload hx DX9_init_26 0 rfl ?_
  refine v_nw (e' := t + 7) (cs' := (6, 150)) hx DX9_init_27 DX9_init_30 DX9_init_31 NWRX9_9 CIRX9_11 (by omega) Z4 (fun _ h1 h2 h3 => k_X5 l G h1 h2 h3) (Nat.le_of_ble_eq_true rfl) (by decide) rfl ⟨Nat.le_of_ble_eq_true rfl, Nat.le_of_ble_eq_true rfl⟩ (fun L5 m5 s5 Z5 r5 => ?_)
  have hT_5 : L5 (t) = some (.inl (9, [some .null, some (.ref (t + 1)), some (.ref (t + 3)), some .null, some .null, some .null, some .null, some .null, some .null])) := (s5 (t) (by omega)).1.trans hP4
  have wT_5 : m5.1 (t) = z0 := (s5 (t) (by omega)).2.1.trans wT_3
  refine v_putRo (fs' := [some .null, some (.ref (t + 1)), some (.ref (t + 3)), some (.ref (t + 5)), some .null, some .null, some .null, some .null, some .null]) hx hin DX9_init_34 FPRX9_21 hT_5 (Nat.le_of_ble_eq_true rfl) rfl rfl rfl Z5 (by omega) (fun L6 hP6 s6 Z6 => ?_)
  refine v_aload hx DX9_init_37 0 rfl ?_
  refine v_nw (e' := t + 9) (cs' := (8, 200)) hx DX9_init_38 DX9_init_41 DX9_init_42 NWRX9_9 CIRX9_11 (by omega) Z6 (fun _ h1 h2 h3 => k_X5 l G h1 h2 h3) (Nat.le_of_ble_eq_true rfl) (by decide) rfl ⟨Nat.le_of_ble_eq_true rfl, Nat.le_of_ble_eq_true rfl⟩ (fun L7 m7 s7 Z7 r7 => ?_)
  have hT_7 : L7 (t) = some (.inl (9, [some .null, some (.ref (t + 1)), some (.ref (t + 3)), some (.ref (t + 5)), some .null, some .null, some .null, some .null, some .null])) := (s7 (t) (by omega)).1.trans hP6
  have wT_7 : m7.1 (t) = z0 := (s7 (t) (by omega)).2.1.trans wT_5
  refine v_putRo (fs' := [some .null, some (.ref (t + 1)), some (.ref (t + 3)), some (.ref (t + 5)), some (.ref (t + 7)), some .null, some .null, some .null, some .null]) hx hin DX9_init_45 FPRX9_24 hT_7 (Nat.le_of_ble_eq_true rfl) rfl rfl rfl Z7 (by omega) (fun L8 hP8 s8 Z8 => ?_)
  refine v_aload hx DX9_init_48 0 rfl ?_
  refine v_nw (e' := t + 11) (cs' := (10, 250)) hx DX9_init_49 DX9_init_52 DX9_init_53 NWRX9_9 CIRX9_11 (by omega) Z8 (fun _ h1 h2 h3 => k_X5 l G h1 h2 h3) (Nat.le_of_ble_eq_true rfl) (by decide) rfl ⟨Nat.le_of_ble_eq_true rfl, Nat.le_of_ble_eq_true rfl⟩ (fun L9 m9 s9 Z9 r9 => ?_)
  have hT_9 : L9 (t) = some (.inl (9, [some .null, some (.ref (t + 1)), some (.ref (t + 3)), some (.ref (t + 5)), some (.ref (t + 7)), some .null, some .null, some .null, some .null])) := (s9 (t) (by omega)).1.trans hP8
  have wT_9 : m9.1 (t) = z0 := (s9 (t) (by omega)).2.1.trans wT_7
  refine v_putRo (fs' := [some .null, some (.ref (t + 1)), some (.ref (t + 3)), some (.ref (t + 5)), some (.ref (t + 7)), some (.ref (t + 9)), some .null, some .null, some .null]) hx hin DX9_init_56 FPRX9_27 hT_9 (Nat.le_of_ble_eq_true rfl) rfl rfl rfl Z9 (by omega) (fun L10 hP10 s10 Z10 => ?_)
  refine v_aload hx DX9_init_59 0 rfl ?_
  refine v_nw (e' := t + 13) (cs' := (12, 300)) hx DX9_init_60 DX9_init_63 DX9_init_64 NWRX9_9 CIRX9_11 (by omega) Z10 (fun _ h1 h2 h3 => k_X5 l G h1 h2 h3) (Nat.le_of_ble_eq_true rfl) (by decide) rfl ⟨Nat.le_of_ble_eq_true rfl, Nat.le_of_ble_eq_true rfl⟩ (fun L11 m11 s11 Z11 r11 => ?_)
  have hT_11 : L11 (t) = some (.inl (9, [some .null, some (.ref (t + 1)), some (.ref (t + 3)), some (.ref (t + 5)), some (.ref (t + 7)), some (.ref (t + 9)), some .null, some .null, some .null])) := (s11 (t) (by omega)).1.trans hP10
  have wT_11 : m11.1 (t) = z0 := (s11 (t) (by omega)).2.1.trans wT_9
  refine v_putRo (fs' := [some .null, some (.ref (t + 1)), some (.ref (t + 3)), some (.ref (t + 5)), some (.ref (t + 7)), some (.ref (t + 9)), some (.ref (t + 11)), some .null, some .null]) hx hin DX9_init_67 FPRX9_30 hT_11 (Nat.le_of_ble_eq_true rfl) rfl rfl rfl Z11 (by omega) (fun L12 hP12 s12 Z12 => ?_)
  refine v_aload hx DX9_init_70 0 rfl ?_
  refine v_nw (e' := t + 15) (cs' := (14, 350)) hx DX9_init_71 DX9_init_74 DX9_init_75 NWRX9_9 CIRX9_11 (by omega) Z12 (fun _ h1 h2 h3 => k_X5 l G h1 h2 h3) (Nat.le_of_ble_eq_true rfl) (by decide) rfl ⟨Nat.le_of_ble_eq_true rfl, Nat.le_of_ble_eq_true rfl⟩ (fun L13 m13 s13 Z13 r13 => ?_)
  have hT_13 : L13 (t) = some (.inl (9, [some .null, some (.ref (t + 1)), some (.ref (t + 3)), some (.ref (t + 5)), some (.ref (t + 7)), some (.ref (t + 9)), some (.ref (t + 11)), some .null, some .null])) := (s13 (t) (by omega)).1.trans hP12
  have wT_13 : m13.1 (t) = z0 := (s13 (t) (by omega)).2.1.trans wT_11
  refine v_putRo (fs' := [some .null, some (.ref (t + 1)), some (.ref (t + 3)), some (.ref (t + 5)), some (.ref (t + 7)), some (.ref (t + 9)), some (.ref (t + 11)), some (.ref (t + 13)), some .null]) hx hin DX9_init_78 FPRX9_33 hT_13 (Nat.le_of_ble_eq_true rfl) rfl rfl rfl Z13 (by omega) (fun L14 hP14 s14 Z14 => ?_)
  refine v_aload hx DX9_init_81 0 rfl ?_
  refine v_nw (e' := t + 17) (cs' := (16, 400)) hx DX9_init_82 DX9_init_85 DX9_init_86 NWRX9_9 CIRX9_11 (by omega) Z14 (fun _ h1 h2 h3 => k_X5 l G h1 h2 h3) (Nat.le_of_ble_eq_true rfl) (by decide) rfl ⟨Nat.le_of_ble_eq_true rfl, Nat.le_of_ble_eq_true rfl⟩ (fun L15 m15 s15 Z15 r15 => ?_)
  have hT_15 : L15 (t) = some (.inl (9, [some .null, some (.ref (t + 1)), some (.ref (t + 3)), some (.ref (t + 5)), some (.ref (t + 7)), some (.ref (t + 9)), some (.ref (t + 11)), some (.ref (t + 13)), some .null])) := (s15 (t) (by omega)).1.trans hP14
  have wT_15 : m15.1 (t) = z0 := (s15 (t) (by omega)).2.1.trans wT_13
  refine v_putRo (fs' := [some .null, some (.ref (t + 1)), some (.ref (t + 3)), some (.ref (t + 5)), some (.ref (t + 7)), some (.ref (t + 9)), some (.ref (t + 11)), some (.ref (t + 13)), some (.ref (t + 15))]) hx hin DX9_init_89 FPRX9_36 hT_15 (Nat.le_of_ble_eq_true rfl) rfl rfl rfl Z15 (by omega) (fun L16 hP16 s16 Z16 => ?_)
  refine v_aload hx DX9_init_92 0 rfl ?_
  refine v_aload hx DX9_init_93 1 rfl ?_
  refine v_putRo (fs' := [some (.ref κ), some (.ref (t + 1)), some (.ref (t + 3)), some (.ref (t + 5)), some (.ref (t + 7)), some (.ref (t + 9)), some (.ref (t + 11)), some (.ref (t + 13)), some (.ref (t + 15))]) hx hin DX9_init_94 FPRX9_39 hP16 (Nat.le_of_ble_eq_true rfl) rfl rfl rfl Z16 (by omega) (fun L17 hP17 s17 Z17 => ?_)
  have S17 : ∀ a, a < t + 17 → a ≠ t → SmA L17 m15 L17 m15 a := fun a _ _ => SmA.rf
  have S16 : ∀ a, a < t + 17 → a ≠ t → SmA L16 m15 L17 m15 a := fun a h0 q0 => (s17 a (by omega)).trans (S17 a (by omega) q0)
  have S15 : ∀ a, a < t + 17 → a ≠ t → SmA L15 m15 L17 m15 a := fun a h0 q0 => (s16 a (by omega)).trans (S16 a (by omega) q0)
  have S14 : ∀ a, a < t + 15 → a ≠ t → SmA L14 m13 L17 m15 a := fun a h0 q0 => (s15 a (by omega)).trans (S15 a (by omega) q0)
  have S13 : ∀ a, a < t + 15 → a ≠ t → SmA L13 m13 L17 m15 a := fun a h0 q0 => (s14 a (by omega)).trans (S14 a (by omega) q0)
  have S12 : ∀ a, a < t + 13 → a ≠ t → SmA L12 m11 L17 m15 a := fun a h0 q0 => (s13 a (by omega)).trans (S13 a (by omega) q0)
  have S11 : ∀ a, a < t + 13 → a ≠ t → SmA L11 m11 L17 m15 a := fun a h0 q0 => (s12 a (by omega)).trans (S12 a (by omega) q0)
  have S10 : ∀ a, a < t + 11 → a ≠ t → SmA L10 m9 L17 m15 a := fun a h0 q0 => (s11 a (by omega)).trans (S11 a (by omega) q0)
  have S9 : ∀ a, a < t + 11 → a ≠ t → SmA L9 m9 L17 m15 a := fun a h0 q0 => (s10 a (by omega)).trans (S10 a (by omega) q0)
  have S8 : ∀ a, a < t + 9 → a ≠ t → SmA L8 m7 L17 m15 a := fun a h0 q0 => (s9 a (by omega)).trans (S9 a (by omega) q0)
  have S7 : ∀ a, a < t + 9 → a ≠ t → SmA L7 m7 L17 m15 a := fun a h0 q0 => (s8 a (by omega)).trans (S8 a (by omega) q0)
  have S6 : ∀ a, a < t + 7 → a ≠ t → SmA L6 m5 L17 m15 a := fun a h0 q0 => (s7 a (by omega)).trans (S7 a (by omega) q0)
  have S5 : ∀ a, a < t + 7 → a ≠ t → SmA L5 m5 L17 m15 a := fun a h0 q0 => (s6 a (by omega)).trans (S6 a (by omega) q0)
  have S4 : ∀ a, a < t + 5 → a ≠ t → SmA L4 m3 L17 m15 a := fun a h0 q0 => (s5 a (by omega)).trans (S5 a (by omega) q0)
  have S3 : ∀ a, a < t + 5 → a ≠ t → SmA L3 m3 L17 m15 a := fun a h0 q0 => (s4 a (by omega)).trans (S4 a (by omega) q0)
  have S2 : ∀ a, a < t + 3 → a ≠ t → SmA L2 m1 L17 m15 a := fun a h0 q0 => (s3 a (by omega)).trans (S3 a (by omega) q0)
  have S1 : ∀ a, a < t + 3 → a ≠ t → SmA L1 m1 L17 m15 a := fun a h0 q0 => (s2 a (by omega)).trans (S2 a (by omega) q0)
  have S0 : ∀ a, a < t + 1 → a ≠ t → SmA Λ μ L17 m15 a := fun a h0 q0 => (s1 a (by omega)).trans (S1 a (by omega) q0)
  have F1 : OP (t + 1) L17 m15 := OP.lc _ _ _ _ (fun a h0 h1 => S1 a (by omega) (by omega)) r1
  have F3 : OP (t + 3) L17 m15 := OP.lc _ _ _ _ (fun a h0 h1 => S3 a (by omega) (by omega)) r3
  have F5 : OP (t + 5) L17 m15 := OP.lc _ _ _ _ (fun a h0 h1 => S5 a (by omega) (by omega)) r5
  have F7 : OP (t + 7) L17 m15 := OP.lc _ _ _ _ (fun a h0 h1 => S7 a (by omega) (by omega)) r7
  have F9 : OP (t + 9) L17 m15 := OP.lc _ _ _ _ (fun a h0 h1 => S9 a (by omega) (by omega)) r9
  have F11 : OP (t + 11) L17 m15 := OP.lc _ _ _ _ (fun a h0 h1 => S11 a (by omega) (by omega)) r11
  have F13 : OP (t + 13) L17 m15 := OP.lc _ _ _ _ (fun a h0 h1 => S13 a (by omega) (by omega)) r13
  have F15 : OP (t + 15) L17 m15 := OP.lc _ _ _ _ (fun a h0 h1 => S15 a (by omega) (by omega)) r15
  have RGA : Rg t (t + 17) L17 m15 := (((((((((Rg.one (μ := m15) hP17 (by decide)).app F1.rg (by omega)).app F3.rg (by omega)).app F5.rg (by omega)).app F7.rg (by omega)).app F9.rg (by omega)).app F11.rg (by omega)).app F13.rg (by omega)).app F15.rg (by omega))
  exact v_ret hx hBD DX9_init_97 ⟨rfl, rfl, fun a ha => S0 a (by omega) (by omega), Z17, ⟨⟨hP17, ⟨F1.1, F3.1, F5.1, F7.1⟩, ⟨F9.1, F11.1, F13.1, F15.1⟩⟩, RGA⟩⟩
theorem k_X10 (l : Launch) (G : Gl) {Λ : Lay} {μ : Mem} {t : Nat} (hT : Λ t = some (.inl (10, [some .null, none]))) (hZ : Zr Λ μ (t + 1)) (hw : μ.1 t = z0) : SpN l G yX10_init cX10_init 1 none 1 1 96 [.ref t] Λ (t + 1) μ (CT t (t + 2) Λ μ (OW t)) := by
  refine SpN.intro (by decide) (Nat.le_of_ble_eq_true rfl) (fun x hx hBD hin => ?_)
  refine v_lv [(0, .ref t)] rfl ?_
  refine v_gB hT (fun hg => ?_)
  refine v_aload hx DX10_init_0 0 rfl ?_
  refine v_objI hx DX10_init_1 mlRX10_3 (by decide) (Nat.le_of_ble_eq_true rfl) ?_
  refine v_aload hx DX10_init_4 0 rfl ?_
  refine v_push hx DX10_init_5 ?_
  refine v_newa (t := 0) (n := 96) (cs' := (1, 96)) hx DX10_init_7 (by decide) rfl (lwc1 (List.mem_of_getElem? (i := 48) rfl)) (by decide) (by omega) hZ rfl ⟨Nat.le_of_ble_eq_true rfl, Nat.le_of_ble_eq_true rfl⟩ (fun L1 hA1 sx1 Z1 => ?_)
  have hz1 : μ.1 (t + 1) = z0 ∧ μ.2 (t + 1) = z1 := (hZ (t + 1) (by omega)).2
  have s1 : ∀ a, a ≠ t + 1 → SmA Λ μ L1 μ a := fun a ha => ⟨sx1 a ha, rfl, rfl⟩
  have hT_1 : L1 (t) = some (.inl (10, [some .null, none])) := (s1 (t) (by omega)).1.trans hT
  have wT_1 : μ.1 (t) = z0 := (s1 (t) (by omega)).2.1.trans hw
  refine v_putRo (fs' := [some (.ref (t + 1)), none]) hx hin DX10_init_9 FPRX10_9 hT_1 (Nat.le_of_ble_eq_true rfl) rfl rfl rfl Z1 (by omega) (fun L2 hP2 s2 Z2 => ?_)
  refine v_aload hx DX10_init_12 0 rfl ?_
  refine v_push hx DX10_init_13 ?_
  refine v_putIo hx DX10_init_14 FPRX10_15 hP2 rfl wT_1 rfl Z2 (by omega) (fun m3 wT3 s3 Z3 => ?_)
  have wP3 : m3.1 t = rw1 (z0) 1 0 := wT3
  have S3 : ∀ a, a < t + 2 → a ≠ t → SmA L2 m3 L2 m3 a := fun a _ _ => SmA.rf
  have S2 : ∀ a, a < t + 2 → a ≠ t → SmA L2 μ L2 m3 a := fun a h0 q0 => (s3 a (by omega)).trans (S3 a (by omega) q0)
  have S1 : ∀ a, a < t + 2 → a ≠ t → SmA L1 μ L2 m3 a := fun a h0 q0 => (s2 a (by omega)).trans (S2 a (by omega) q0)
  have S0 : ∀ a, a < t + 1 → a ≠ t → SmA Λ μ L2 m3 a := fun a h0 q0 => (s1 a (by omega)).trans (S1 a (by omega) q0)
  have A1 : L2 (t + 1) = some (.inr (0, 96, [])) := (S1 (t + 1) (by omega) (by omega)).1.trans hA1
  have C1 : m3.1 (t + 1) = z0 ∧ m3.2 (t + 1) = z1 := ⟨(S1 (t + 1) (by omega) (by omega)).2.1.trans (hz1).1, (S1 (t + 1) (by omega) (by omega)).2.2.trans (hz1).2⟩
  have RGA : Rg t (t + 2) L2 m3 := ((Rg.one (μ := m3) hP2 (by decide)).app (Rg.arr (μ := m3) A1) (by omega))
  exact v_ret hx hBD DX10_init_17 ⟨rfl, rfl, fun a ha => S0 a (by omega) (by omega), Z3, ⟨⟨hP2, A1⟩, RGA, by decide, by rw [wP3]; rfl, fun i hi => absurd hi (by simp)⟩⟩
theorem k_X8 (l : Launch) (G : Gl) {Λ : Lay} {μ : Mem} {t : Nat} (hT : Λ t = some (.inl (8, [some .null, none, none]))) (hZ : Zr Λ μ (t + 1)) (hw : μ.1 t = z0) : SpN l G yX8_init cX8_init 1 none 1 1 24 [.ref t] Λ (t + 1) μ (CT t (t + 2) Λ μ (OSh t)) := by
  refine SpN.intro (by decide) (Nat.le_of_ble_eq_true rfl) (fun x hx hBD hin => ?_)
  refine v_lv [(0, .ref t)] rfl ?_
  refine v_gB hT (fun hg => ?_)
  refine v_aload hx DX8_init_0 0 rfl ?_
  refine v_objI hx DX8_init_1 mlRX8_3 (by decide) (Nat.le_of_ble_eq_true rfl) ?_
  refine v_aload hx DX8_init_4 0 rfl ?_
  refine v_push hx DX8_init_5 ?_
  refine v_newa (t := 2) (n := 24) (cs' := (1, 24)) hx DX8_init_7 (by decide) rfl (lwc2 (List.mem_of_getElem? (i := 132) rfl)) (by decide) (by omega) hZ rfl ⟨Nat.le_of_ble_eq_true rfl, Nat.le_of_ble_eq_true rfl⟩ (fun L1 hA1 sx1 Z1 => ?_)
  have hz1 : μ.1 (t + 1) = z0 ∧ μ.2 (t + 1) = z1 := (hZ (t + 1) (by omega)).2
  have s1 : ∀ a, a ≠ t + 1 → SmA Λ μ L1 μ a := fun a ha => ⟨sx1 a ha, rfl, rfl⟩
  have hT_1 : L1 (t) = some (.inl (8, [some .null, none, none])) := (s1 (t) (by omega)).1.trans hT
  have wT_1 : μ.1 (t) = z0 := (s1 (t) (by omega)).2.1.trans hw
  refine v_putRo (fs' := [some (.ref (t + 1)), none, none]) hx hin DX8_init_9 FPRX8_9 hT_1 (Nat.le_of_ble_eq_true rfl) rfl rfl rfl Z1 (by omega) (fun L2 hP2 s2 Z2 => ?_)
  refine v_aload hx DX8_init_12 0 rfl ?_
  refine v_push hx DX8_init_13 ?_
  refine v_putIo hx DX8_init_14 FPRX8_15 hP2 rfl wT_1 rfl Z2 (by omega) (fun m3 wT3 s3 Z3 => ?_)
  have wP3 : m3.1 t = rw1 (z0) 1 (-1) := wT3
  refine v_aload hx DX8_init_17 0 rfl ?_
  refine v_push hx DX8_init_18 ?_
  refine v_putIo hx DX8_init_19 FPRX8_19 hP2 rfl wP3 rfl Z3 (by omega) (fun m4 wT4 s4 Z4 => ?_)
  have wP4 : m4.1 t = rw1 (rw1 (z0) 1 (-1)) 2 0 := wT4
  have S4 : ∀ a, a < t + 2 → a ≠ t → SmA L2 m4 L2 m4 a := fun a _ _ => SmA.rf
  have S3 : ∀ a, a < t + 2 → a ≠ t → SmA L2 m3 L2 m4 a := fun a h0 q0 => (s4 a (by omega)).trans (S4 a (by omega) q0)
  have S2 : ∀ a, a < t + 2 → a ≠ t → SmA L2 μ L2 m4 a := fun a h0 q0 => (s3 a (by omega)).trans (S3 a (by omega) q0)
  have S1 : ∀ a, a < t + 2 → a ≠ t → SmA L1 μ L2 m4 a := fun a h0 q0 => (s2 a (by omega)).trans (S2 a (by omega) q0)
  have S0 : ∀ a, a < t + 1 → a ≠ t → SmA Λ μ L2 m4 a := fun a h0 q0 => (s1 a (by omega)).trans (S1 a (by omega) q0)
  have A1 : L2 (t + 1) = some (.inr (2, 24, [])) := (S1 (t + 1) (by omega) (by omega)).1.trans hA1
  have C1 : m4.1 (t + 1) = z0 ∧ m4.2 (t + 1) = z1 := ⟨(S1 (t + 1) (by omega) (by omega)).2.1.trans (hz1).1, (S1 (t + 1) (by omega) (by omega)).2.2.trans (hz1).2⟩
  have RGA : Rg t (t + 2) L2 m4 := ((Rg.one (μ := m4) hP2 (by decide)).app (Rg.arr (μ := m4) A1) (by omega))
  exact v_ret hx hBD DX8_init_22 ⟨rfl, rfl, fun a ha => S0 a (by omega) (by omega), Z4, ⟨⟨hP2, A1⟩, RGA, by decide, by decide, by rw [wP4]; rfl, by rw [wP4]; rfl, fun j h0 h1 => by rw [C1.2]; rfl⟩⟩
theorem k_X7 (l : Launch) (G : Gl) {Λ : Lay} {μ : Mem} {t κ : Nat} (hT : Λ t = some (.inl (7, [some .null, some .null, some .null, some .null, some .null, some .null, some .null, some .null, some .null, some .null]))) (hZ : Zr Λ μ (t + 1)) (hw : μ.1 t = z0) : SpN l G yX7_init cX7_init 2 none 2 18 450 [.ref t, .ref κ] Λ (t + 1) μ (CT t (t + 19) Λ μ (ORes κ t)) := by
  refine SpN.intro (by decide) (Nat.le_of_ble_eq_true rfl) (fun x hx hBD hin => ?_)
  refine v_lv [(0, .ref t), (1, .ref κ)] rfl ?_
  refine v_gB hT (fun hg => ?_)
  refine v_aload hx DX7_init_0 0 rfl ?_
  refine v_objI hx DX7_init_1 mlRX7_3 (by decide) (Nat.le_of_ble_eq_true rfl) ?_
  refine v_aload hx DX7_init_4 0 rfl ?_
  refine v_nw (e' := t + 3) (cs' := (2, 50)) hx DX7_init_5 DX7_init_8 DX7_init_9 NWRX7_9 CIRX7_11 (by omega) hZ (fun _ h1 h2 h3 => k_X5 l G h1 h2 h3) (Nat.le_of_ble_eq_true rfl) (by decide) rfl ⟨Nat.le_of_ble_eq_true rfl, Nat.le_of_ble_eq_true rfl⟩ (fun L1 m1 s1 Z1 r1 => ?_)
  have hT_1 : L1 (t) = some (.inl (7, [some .null, some .null, some .null, some .null, some .null, some .null, some .null, some .null, some .null, some .null])) := (s1 (t) (by omega)).1.trans hT
  have wT_1 : m1.1 (t) = z0 := (s1 (t) (by omega)).2.1.trans hw
  refine v_putRo (fs' := [some .null, some (.ref (t + 1)), some .null, some .null, some .null, some .null, some .null, some .null, some .null, some .null]) hx hin DX7_init_12 FPRX7_12 hT_1 (Nat.le_of_ble_eq_true rfl) rfl rfl rfl Z1 (by omega) (fun L2 hP2 s2 Z2 => ?_)
  refine v_aload hx DX7_init_15 0 rfl ?_
  refine v_nw (e' := t + 5) (cs' := (4, 100)) hx DX7_init_16 DX7_init_19 DX7_init_20 NWRX7_9 CIRX7_11 (by omega) Z2 (fun _ h1 h2 h3 => k_X5 l G h1 h2 h3) (Nat.le_of_ble_eq_true rfl) (by decide) rfl ⟨Nat.le_of_ble_eq_true rfl, Nat.le_of_ble_eq_true rfl⟩ (fun L3 m3 s3 Z3 r3 => ?_)
  have hT_3 : L3 (t) = some (.inl (7, [some .null, some (.ref (t + 1)), some .null, some .null, some .null, some .null, some .null, some .null, some .null, some .null])) := (s3 (t) (by omega)).1.trans hP2
  have wT_3 : m3.1 (t) = z0 := (s3 (t) (by omega)).2.1.trans wT_1
  refine v_putRo (fs' := [some .null, some (.ref (t + 1)), some (.ref (t + 3)), some .null, some .null, some .null, some .null, some .null, some .null, some .null]) hx hin DX7_init_23 FPRX7_18 hT_3 (Nat.le_of_ble_eq_true rfl) rfl rfl rfl Z3 (by omega) (fun L4 hP4 s4 Z4 => ?_)
  refine v_aload hx DX7_init_26 0 rfl ?_
  refine v_nw (e' := t + 7) (cs' := (6, 150)) hx DX7_init_27 DX7_init_30 DX7_init_31 NWRX7_9 CIRX7_11 (by omega) Z4 (fun _ h1 h2 h3 => k_X5 l G h1 h2 h3) (Nat.le_of_ble_eq_true rfl) (by decide) rfl ⟨Nat.le_of_ble_eq_true rfl, Nat.le_of_ble_eq_true rfl⟩ (fun L5 m5 s5 Z5 r5 => ?_)
  have hT_5 : L5 (t) = some (.inl (7, [some .null, some (.ref (t + 1)), some (.ref (t + 3)), some .null, some .null, some .null, some .null, some .null, some .null, some .null])) := (s5 (t) (by omega)).1.trans hP4
  have wT_5 : m5.1 (t) = z0 := (s5 (t) (by omega)).2.1.trans wT_3
  refine v_putRo (fs' := [some .null, some (.ref (t + 1)), some (.ref (t + 3)), some (.ref (t + 5)), some .null, some .null, some .null, some .null, some .null, some .null]) hx hin DX7_init_34 FPRX7_21 hT_5 (Nat.le_of_ble_eq_true rfl) rfl rfl rfl Z5 (by omega) (fun L6 hP6 s6 Z6 => ?_)
  refine v_aload hx DX7_init_37 0 rfl ?_
  refine v_nw (e' := t + 9) (cs' := (8, 200)) hx DX7_init_38 DX7_init_41 DX7_init_42 NWRX7_9 CIRX7_11 (by omega) Z6 (fun _ h1 h2 h3 => k_X5 l G h1 h2 h3) (Nat.le_of_ble_eq_true rfl) (by decide) rfl ⟨Nat.le_of_ble_eq_true rfl, Nat.le_of_ble_eq_true rfl⟩ (fun L7 m7 s7 Z7 r7 => ?_)
  have hT_7 : L7 (t) = some (.inl (7, [some .null, some (.ref (t + 1)), some (.ref (t + 3)), some (.ref (t + 5)), some .null, some .null, some .null, some .null, some .null, some .null])) := (s7 (t) (by omega)).1.trans hP6
  have wT_7 : m7.1 (t) = z0 := (s7 (t) (by omega)).2.1.trans wT_5
  refine v_putRo (fs' := [some .null, some (.ref (t + 1)), some (.ref (t + 3)), some (.ref (t + 5)), some (.ref (t + 7)), some .null, some .null, some .null, some .null, some .null]) hx hin DX7_init_45 FPRX7_24 hT_7 (Nat.le_of_ble_eq_true rfl) rfl rfl rfl Z7 (by omega) (fun L8 hP8 s8 Z8 => ?_)
  refine v_aload hx DX7_init_48 0 rfl ?_
  refine v_nw (e' := t + 11) (cs' := (10, 250)) hx DX7_init_49 DX7_init_52 DX7_init_53 NWRX7_9 CIRX7_11 (by omega) Z8 (fun _ h1 h2 h3 => k_X5 l G h1 h2 h3) (Nat.le_of_ble_eq_true rfl) (by decide) rfl ⟨Nat.le_of_ble_eq_true rfl, Nat.le_of_ble_eq_true rfl⟩ (fun L9 m9 s9 Z9 r9 => ?_)
  have hT_9 : L9 (t) = some (.inl (7, [some .null, some (.ref (t + 1)), some (.ref (t + 3)), some (.ref (t + 5)), some (.ref (t + 7)), some .null, some .null, some .null, some .null, some .null])) := (s9 (t) (by omega)).1.trans hP8
  have wT_9 : m9.1 (t) = z0 := (s9 (t) (by omega)).2.1.trans wT_7
  refine v_putRo (fs' := [some .null, some (.ref (t + 1)), some (.ref (t + 3)), some (.ref (t + 5)), some (.ref (t + 7)), some (.ref (t + 9)), some .null, some .null, some .null, some .null]) hx hin DX7_init_56 FPRX7_27 hT_9 (Nat.le_of_ble_eq_true rfl) rfl rfl rfl Z9 (by omega) (fun L10 hP10 s10 Z10 => ?_)
  refine v_aload hx DX7_init_59 0 rfl ?_
  refine v_nw (e' := t + 13) (cs' := (12, 300)) hx DX7_init_60 DX7_init_63 DX7_init_64 NWRX7_9 CIRX7_11 (by omega) Z10 (fun _ h1 h2 h3 => k_X5 l G h1 h2 h3) (Nat.le_of_ble_eq_true rfl) (by decide) rfl ⟨Nat.le_of_ble_eq_true rfl, Nat.le_of_ble_eq_true rfl⟩ (fun L11 m11 s11 Z11 r11 => ?_)
  have hT_11 : L11 (t) = some (.inl (7, [some .null, some (.ref (t + 1)), some (.ref (t + 3)), some (.ref (t + 5)), some (.ref (t + 7)), some (.ref (t + 9)), some .null, some .null, some .null, some .null])) := (s11 (t) (by omega)).1.trans hP10
  have wT_11 : m11.1 (t) = z0 := (s11 (t) (by omega)).2.1.trans wT_9
  refine v_putRo (fs' := [some .null, some (.ref (t + 1)), some (.ref (t + 3)), some (.ref (t + 5)), some (.ref (t + 7)), some (.ref (t + 9)), some (.ref (t + 11)), some .null, some .null, some .null]) hx hin DX7_init_67 FPRX7_30 hT_11 (Nat.le_of_ble_eq_true rfl) rfl rfl rfl Z11 (by omega) (fun L12 hP12 s12 Z12 => ?_)
  refine v_aload hx DX7_init_70 0 rfl ?_
  refine v_nw (e' := t + 15) (cs' := (14, 350)) hx DX7_init_71 DX7_init_74 DX7_init_75 NWRX7_9 CIRX7_11 (by omega) Z12 (fun _ h1 h2 h3 => k_X5 l G h1 h2 h3) (Nat.le_of_ble_eq_true rfl) (by decide) rfl ⟨Nat.le_of_ble_eq_true rfl, Nat.le_of_ble_eq_true rfl⟩ (fun L13 m13 s13 Z13 r13 => ?_)
  have hT_13 : L13 (t) = some (.inl (7, [some .null, some (.ref (t + 1)), some (.ref (t + 3)), some (.ref (t + 5)), some (.ref (t + 7)), some (.ref (t + 9)), some (.ref (t + 11)), some .null, some .null, some .null])) := (s13 (t) (by omega)).1.trans hP12
  have wT_13 : m13.1 (t) = z0 := (s13 (t) (by omega)).2.1.trans wT_11
  refine v_putRo (fs' := [some .null, some (.ref (t + 1)), some (.ref (t + 3)), some (.ref (t + 5)), some (.ref (t + 7)), some (.ref (t + 9)), some (.ref (t + 11)), some (.ref (t + 13)), some .null, some .null]) hx hin DX7_init_78 FPRX7_33 hT_13 (Nat.le_of_ble_eq_true rfl) rfl rfl rfl Z13 (by omega) (fun L14 hP14 s14 Z14 => ?_)
  refine v_aload hx DX7_init_81 0 rfl ?_
  refine v_nw (e' := t + 17) (cs' := (16, 400)) hx DX7_init_82 DX7_init_85 DX7_init_86 NWRX7_9 CIRX7_11 (by omega) Z14 (fun _ h1 h2 h3 => k_X5 l G h1 h2 h3) (Nat.le_of_ble_eq_true rfl) (by decide) rfl ⟨Nat.le_of_ble_eq_true rfl, Nat.le_of_ble_eq_true rfl⟩ (fun L15 m15 s15 Z15 r15 => ?_)
  have hT_15 : L15 (t) = some (.inl (7, [some .null, some (.ref (t + 1)), some (.ref (t + 3)), some (.ref (t + 5)), some (.ref (t + 7)), some (.ref (t + 9)), some (.ref (t + 11)), some (.ref (t + 13)), some .null, some .null])) := (s15 (t) (by omega)).1.trans hP14
  have wT_15 : m15.1 (t) = z0 := (s15 (t) (by omega)).2.1.trans wT_13
  refine v_putRo (fs' := [some .null, some (.ref (t + 1)), some (.ref (t + 3)), some (.ref (t + 5)), some (.ref (t + 7)), some (.ref (t + 9)), some (.ref (t + 11)), some (.ref (t + 13)), some (.ref (t + 15)), some .null]) hx hin DX7_init_89 FPRX7_36 hT_15 (Nat.le_of_ble_eq_true rfl) rfl rfl rfl Z15 (by omega) (fun L16 hP16 s16 Z16 => ?_)
  refine v_aload hx DX7_init_92 0 rfl ?_
  refine v_nw (e' := t + 19) (cs' := (18, 450)) hx DX7_init_93 DX7_init_96 DX7_init_97 NWRX7_9 CIRX7_11 (by omega) Z16 (fun _ h1 h2 h3 => k_X5 l G h1 h2 h3) (Nat.le_of_ble_eq_true rfl) (by decide) rfl ⟨Nat.le_of_ble_eq_true rfl, Nat.le_of_ble_eq_true rfl⟩ (fun L17 m17 s17 Z17 r17 => ?_)
  have hT_17 : L17 (t) = some (.inl (7, [some .null, some (.ref (t + 1)), some (.ref (t + 3)), some (.ref (t + 5)), some (.ref (t + 7)), some (.ref (t + 9)), some (.ref (t + 11)), some (.ref (t + 13)), some (.ref (t + 15)), some .null])) := (s17 (t) (by omega)).1.trans hP16
  have wT_17 : m17.1 (t) = z0 := (s17 (t) (by omega)).2.1.trans wT_15
  refine v_putRo (fs' := [some .null, some (.ref (t + 1)), some (.ref (t + 3)), some (.ref (t + 5)), some (.ref (t + 7)), some (.ref (t + 9)), some (.ref (t + 11)), some (.ref (t + 13)), some (.ref (t + 15)), some (.ref (t + 17))]) hx hin DX7_init_100 FPRX7_39 hT_17 (Nat.le_of_ble_eq_true rfl) rfl rfl rfl Z17 (by omega) (fun L18 hP18 s18 Z18 => ?_)
  refine v_aload hx DX7_init_103 0 rfl ?_
  refine v_aload hx DX7_init_104 1 rfl ?_
  refine v_putRo (fs' := [some (.ref κ), some (.ref (t + 1)), some (.ref (t + 3)), some (.ref (t + 5)), some (.ref (t + 7)), some (.ref (t + 9)), some (.ref (t + 11)), some (.ref (t + 13)), some (.ref (t + 15)), some (.ref (t + 17))]) hx hin DX7_init_105 FPRX7_42 hP18 (Nat.le_of_ble_eq_true rfl) rfl rfl rfl Z18 (by omega) (fun L19 hP19 s19 Z19 => ?_)
  have S19 : ∀ a, a < t + 19 → a ≠ t → SmA L19 m17 L19 m17 a := fun a _ _ => SmA.rf
  have S18 : ∀ a, a < t + 19 → a ≠ t → SmA L18 m17 L19 m17 a := fun a h0 q0 => (s19 a (by omega)).trans (S19 a (by omega) q0)
  have S17 : ∀ a, a < t + 19 → a ≠ t → SmA L17 m17 L19 m17 a := fun a h0 q0 => (s18 a (by omega)).trans (S18 a (by omega) q0)
  have S16 : ∀ a, a < t + 17 → a ≠ t → SmA L16 m15 L19 m17 a := fun a h0 q0 => (s17 a (by omega)).trans (S17 a (by omega) q0)
  have S15 : ∀ a, a < t + 17 → a ≠ t → SmA L15 m15 L19 m17 a := fun a h0 q0 => (s16 a (by omega)).trans (S16 a (by omega) q0)
  have S14 : ∀ a, a < t + 15 → a ≠ t → SmA L14 m13 L19 m17 a := fun a h0 q0 => (s15 a (by omega)).trans (S15 a (by omega) q0)
  have S13 : ∀ a, a < t + 15 → a ≠ t → SmA L13 m13 L19 m17 a := fun a h0 q0 => (s14 a (by omega)).trans (S14 a (by omega) q0)
  have S12 : ∀ a, a < t + 13 → a ≠ t → SmA L12 m11 L19 m17 a := fun a h0 q0 => (s13 a (by omega)).trans (S13 a (by omega) q0)
  have S11 : ∀ a, a < t + 13 → a ≠ t → SmA L11 m11 L19 m17 a := fun a h0 q0 => (s12 a (by omega)).trans (S12 a (by omega) q0)
  have S10 : ∀ a, a < t + 11 → a ≠ t → SmA L10 m9 L19 m17 a := fun a h0 q0 => (s11 a (by omega)).trans (S11 a (by omega) q0)
  have S9 : ∀ a, a < t + 11 → a ≠ t → SmA L9 m9 L19 m17 a := fun a h0 q0 => (s10 a (by omega)).trans (S10 a (by omega) q0)
  have S8 : ∀ a, a < t + 9 → a ≠ t → SmA L8 m7 L19 m17 a := fun a h0 q0 => (s9 a (by omega)).trans (S9 a (by omega) q0)
  have S7 : ∀ a, a < t + 9 → a ≠ t → SmA L7 m7 L19 m17 a := fun a h0 q0 => (s8 a (by omega)).trans (S8 a (by omega) q0)
  have S6 : ∀ a, a < t + 7 → a ≠ t → SmA L6 m5 L19 m17 a := fun a h0 q0 => (s7 a (by omega)).trans (S7 a (by omega) q0)
  have S5 : ∀ a, a < t + 7 → a ≠ t → SmA L5 m5 L19 m17 a := fun a h0 q0 => (s6 a (by omega)).trans (S6 a (by omega) q0)
  have S4 : ∀ a, a < t + 5 → a ≠ t → SmA L4 m3 L19 m17 a := fun a h0 q0 => (s5 a (by omega)).trans (S5 a (by omega) q0)
  have S3 : ∀ a, a < t + 5 → a ≠ t → SmA L3 m3 L19 m17 a := fun a h0 q0 => (s4 a (by omega)).trans (S4 a (by omega) q0)
  have S2 : ∀ a, a < t + 3 → a ≠ t → SmA L2 m1 L19 m17 a := fun a h0 q0 => (s3 a (by omega)).trans (S3 a (by omega) q0)
  have S1 : ∀ a, a < t + 3 → a ≠ t → SmA L1 m1 L19 m17 a := fun a h0 q0 => (s2 a (by omega)).trans (S2 a (by omega) q0)
  have S0 : ∀ a, a < t + 1 → a ≠ t → SmA Λ μ L19 m17 a := fun a h0 q0 => (s1 a (by omega)).trans (S1 a (by omega) q0)
  have F1 : OP (t + 1) L19 m17 := OP.lc _ _ _ _ (fun a h0 h1 => S1 a (by omega) (by omega)) r1
  have F3 : OP (t + 3) L19 m17 := OP.lc _ _ _ _ (fun a h0 h1 => S3 a (by omega) (by omega)) r3
  have F5 : OP (t + 5) L19 m17 := OP.lc _ _ _ _ (fun a h0 h1 => S5 a (by omega) (by omega)) r5
  have F7 : OP (t + 7) L19 m17 := OP.lc _ _ _ _ (fun a h0 h1 => S7 a (by omega) (by omega)) r7
  have F9 : OP (t + 9) L19 m17 := OP.lc _ _ _ _ (fun a h0 h1 => S9 a (by omega) (by omega)) r9
  have F11 : OP (t + 11) L19 m17 := OP.lc _ _ _ _ (fun a h0 h1 => S11 a (by omega) (by omega)) r11
  have F13 : OP (t + 13) L19 m17 := OP.lc _ _ _ _ (fun a h0 h1 => S13 a (by omega) (by omega)) r13
  have F15 : OP (t + 15) L19 m17 := OP.lc _ _ _ _ (fun a h0 h1 => S15 a (by omega) (by omega)) r15
  have F17 : OP (t + 17) L19 m17 := OP.lc _ _ _ _ (fun a h0 h1 => S17 a (by omega) (by omega)) r17
  have RGA : Rg t (t + 19) L19 m17 := ((((((((((Rg.one (μ := m17) hP19 (by decide)).app F1.rg (by omega)).app F3.rg (by omega)).app F5.rg (by omega)).app F7.rg (by omega)).app F9.rg (by omega)).app F11.rg (by omega)).app F13.rg (by omega)).app F15.rg (by omega)).app F17.rg (by omega))
  exact v_ret hx hBD DX7_init_108 ⟨rfl, rfl, fun a ha => S0 a (by omega) (by omega), Z19, ⟨⟨hP19, F1.1, F3.1, F5.1, F7.1, F9.1, F11.1, F13.1, F15.1, F17.1⟩, RGA⟩⟩
