/-! ===== the constructor of the class ===== -/
def OG (g : Nat) (Λ : Lay) (μ : Mem) : Prop := (Λ g = some (.inl (11, [some (.ref (g + 1)), some (.ref (g + 4)), some (.ref (g + 24)), some (.ref (g + 27)), none, some (.ref (g + 47)), some (.ref (g + 48)), some (.ref (g + 65)), some (.ref (g + 82)), some (.ref (g + 163)), some (.ref (g + 244)), some (.ref (g + 263)), some (.ref (g + 348)), some (.ref (g + 350)), some (.ref (g + 351)), some (.ref (g + 356)), some (.ref (g + 361)), some (.ref (g + 366))])) ∧ Λ (g + 47) = some (.inr (5, 4, sh4 g)) ∧ Λ (g + 350) = some (.inr (4, 5, rs5 g))) ∧
  (OB (g + 1) Λ μ ∧ OH (g + 4) Λ μ ∧ OB (g + 24) Λ μ ∧ OH (g + 27) Λ μ) ∧ (OK (g + 48) Λ μ ∧ OS (g + 48) (g + 65) Λ μ ∧ OPt (g + 48) (g + 65) (g + 82) Λ μ ∧ OPt (g + 48) (g + 65) (g + 163) Λ μ ∧ ORes (g + 48) (g + 244) Λ μ ∧ ORd (g + 48) (g + 263) Λ μ ∧ OW (g + 348) Λ μ) ∧ (OF (g + 351) Λ μ ∧ OF (g + 356) Λ μ ∧ OF (g + 361) Λ μ ∧ OP (g + 366) Λ μ) ∧
  (∀ k : Nat, k < 4 → OSh (g + 368 + 2 * k) Λ μ) ∧ (∀ k : Nat, k < 5 → OF (g + 376 + 5 * k) Λ μ) ∧ Rg g (g + 401) Λ μ ∧ μ.1 g 4 = 0
theorem k_X11 (l : Launch) (G : Gl) {Λ : Lay} {μ : Mem} {g : Nat} (hT : Λ g = some (.inl (11, [some .null, some .null, some .null, some .null, none, some .null, some .null, some .null, some .null, some .null, some .null, some .null, some .null, some .null, some .null, some .null, some .null, some .null]))) (hZ : Zr Λ μ (g + 1)) (hw : μ.1 g = z0) : SpN l G yX11_init cX11_init 2 none 4 400 10445 [.ref g] Λ (g + 1) μ (CT g (g + 401) Λ μ (OG g)) := by
  refine SpN.intro (by decide) (Nat.le_of_ble_eq_true rfl) (fun x hx hBD hin => ?_)
  refine v_lv [(0, .ref g)] rfl ?_
  refine v_gB hT (fun hg => ?_)
  refine v_aload hx DX11_init_0 0 rfl ?_
  refine v_objI hx DX11_init_1 mlRX11_3 (by decide) (Nat.le_of_ble_eq_true rfl) ?_
  refine v_aload hx DX11_init_4 0 rfl ?_
  refine v_nw (e' := g + 4) (cs' := (3, 188)) hx DX11_init_5 DX11_init_8 DX11_init_9 NWRX11_9 CIRX11_11 (by omega) hZ (fun _ h1 h2 h3 => k_X0 l G h1 h2 h3) (Nat.le_of_ble_eq_true rfl) (by decide) rfl ⟨Nat.le_of_ble_eq_true rfl, Nat.le_of_ble_eq_true rfl⟩ (fun L1 m1 s1 Z1 r1 => ?_)
  have hT_1 : L1 (g) = some (.inl (11, [some .null, some .null, some .null, some .null, none, some .null, some .null, some .null, some .null, some .null, some .null, some .null, some .null, some .null, some .null, some .null, some .null, some .null])) := (s1 (g) (by omega)).1.trans hT
  have wT_1 : m1.1 (g) = z0 := (s1 (g) (by omega)).2.1.trans hw
  refine v_putRo (fs' := [some (.ref (g + 1)), some .null, some .null, some .null, none, some .null, some .null, some .null, some .null, some .null, some .null, some .null, some .null, some .null, some .null, some .null, some .null, some .null]) hx hin DX11_init_12 FPRX11_12 hT_1 (Nat.le_of_ble_eq_true rfl) rfl rfl rfl Z1 (by omega) (fun L2 hP2 s2 Z2 => ?_)
  refine v_aload hx DX11_init_15 0 rfl ?_
  refine v_nw (e' := g + 24) (cs' := (23, 1325)) hx DX11_init_16 DX11_init_19 DX11_init_20 NWRX11_16 CIRX11_18 (by omega) Z2 (fun _ h1 h2 h3 => k_X2 l G h1 h2 h3) (Nat.le_of_ble_eq_true rfl) (by decide) rfl ⟨Nat.le_of_ble_eq_true rfl, Nat.le_of_ble_eq_true rfl⟩ (fun L3 m3 s3 Z3 r3 => ?_)
  have hT_3 : L3 (g) = some (.inl (11, [some (.ref (g + 1)), some .null, some .null, some .null, none, some .null, some .null, some .null, some .null, some .null, some .null, some .null, some .null, some .null, some .null, some .null, some .null, some .null])) := (s3 (g) (by omega)).1.trans hP2
  have wT_3 : m3.1 (g) = z0 := (s3 (g) (by omega)).2.1.trans wT_1
  refine v_putRo (fs' := [some (.ref (g + 1)), some (.ref (g + 4)), some .null, some .null, none, some .null, some .null, some .null, some .null, some .null, some .null, some .null, some .null, some .null, some .null, some .null, some .null, some .null]) hx hin DX11_init_23 FPRX11_19 hT_3 (Nat.le_of_ble_eq_true rfl) rfl rfl rfl Z3 (by omega) (fun L4 hP4 s4 Z4 => ?_)
  refine v_aload hx DX11_init_26 0 rfl ?_
  refine v_nw (e' := g + 27) (cs' := (26, 1513)) hx DX11_init_27 DX11_init_30 DX11_init_31 NWRX11_9 CIRX11_11 (by omega) Z4 (fun _ h1 h2 h3 => k_X0 l G h1 h2 h3) (Nat.le_of_ble_eq_true rfl) (by decide) rfl ⟨Nat.le_of_ble_eq_true rfl, Nat.le_of_ble_eq_true rfl⟩ (fun L5 m5 s5 Z5 r5 => ?_)
  have hT_5 : L5 (g) = some (.inl (11, [some (.ref (g + 1)), some (.ref (g + 4)), some .null, some .null, none, some .null, some .null, some .null, some .null, some .null, some .null, some .null, some .null, some .null, some .null, some .null, some .null, some .null])) := (s5 (g) (by omega)).1.trans hP4
  have wT_5 : m5.1 (g) = z0 := (s5 (g) (by omega)).2.1.trans wT_3
  refine v_putRo (fs' := [some (.ref (g + 1)), some (.ref (g + 4)), some (.ref (g + 24)), some .null, none, some .null, some .null, some .null, some .null, some .null, some .null, some .null, some .null, some .null, some .null, some .null, some .null, some .null]) hx hin DX11_init_34 FPRX11_23 hT_5 (Nat.le_of_ble_eq_true rfl) rfl rfl rfl Z5 (by omega) (fun L6 hP6 s6 Z6 => ?_)
  refine v_aload hx DX11_init_37 0 rfl ?_
  refine v_nw (e' := g + 47) (cs' := (46, 2650)) hx DX11_init_38 DX11_init_41 DX11_init_42 NWRX11_16 CIRX11_18 (by omega) Z6 (fun _ h1 h2 h3 => k_X2 l G h1 h2 h3) (Nat.le_of_ble_eq_true rfl) (by decide) rfl ⟨Nat.le_of_ble_eq_true rfl, Nat.le_of_ble_eq_true rfl⟩ (fun L7 m7 s7 Z7 r7 => ?_)
  have hT_7 : L7 (g) = some (.inl (11, [some (.ref (g + 1)), some (.ref (g + 4)), some (.ref (g + 24)), some .null, none, some .null, some .null, some .null, some .null, some .null, some .null, some .null, some .null, some .null, some .null, some .null, some .null, some .null])) := (s7 (g) (by omega)).1.trans hP6
  have wT_7 : m7.1 (g) = z0 := (s7 (g) (by omega)).2.1.trans wT_5
  refine v_putRo (fs' := [some (.ref (g + 1)), some (.ref (g + 4)), some (.ref (g + 24)), some (.ref (g + 27)), none, some .null, some .null, some .null, some .null, some .null, some .null, some .null, some .null, some .null, some .null, some .null, some .null, some .null]) hx hin DX11_init_45 FPRX11_26 hT_7 (Nat.le_of_ble_eq_true rfl) rfl rfl rfl Z7 (by omega) (fun L8 hP8 s8 Z8 => ?_)
  refine v_aload hx DX11_init_48 0 rfl ?_
  refine v_push hx DX11_init_49 ?_
  refine v_putZo hx DX11_init_50 FPRX11_29 hP8 rfl (Or.inl rfl) wT_7 rfl Z8 (by omega) (fun m9 wT9 s9 Z9 => ?_)
  have wP9 : m9.1 g = rw1 (z0) 4 0 := wT9
  refine v_aload hx DX11_init_53 0 rfl ?_
  refine v_push hx DX11_init_54 ?_
  refine v_newq (t := 5) (n := 4) (rs := [none, none, none, none]) (cs' := (47, 2654)) hx DX11_init_55 (by decide) rfl clRX11_33 (fun U h => (KK.ao h).2.2) (by decide) rfl (by omega) Z9 rfl ⟨Nat.le_of_ble_eq_true rfl, Nat.le_of_ble_eq_true rfl⟩ (fun L10 hA10 s10 Z10 => ?_)
  have hT_10 : L10 (g) = some (.inl (11, [some (.ref (g + 1)), some (.ref (g + 4)), some (.ref (g + 24)), some (.ref (g + 27)), none, some .null, some .null, some .null, some .null, some .null, some .null, some .null, some .null, some .null, some .null, some .null, some .null, some .null])) := (s10 (g) (by omega)).1.trans hP8
  have wT_10 : m9.1 (g) = rw1 (z0) 4 0 := (s10 (g) (by omega)).2.1.trans wP9
  refine v_putRo (fs' := [some (.ref (g + 1)), some (.ref (g + 4)), some (.ref (g + 24)), some (.ref (g + 27)), none, some (.ref (g + 47)), some .null, some .null, some .null, some .null, some .null, some .null, some .null, some .null, some .null, some .null, some .null, some .null]) hx hin DX11_init_58 FPRX11_35 hT_10 (Nat.le_of_ble_eq_true rfl) rfl rfl rfl Z10 (by omega) (fun L11 hP11 s11 Z11 => ?_)
  have hR47_11 : L11 (g + 47) = some (.inr (5, 4, [none, none, none, none])) := (s11 (g + 47) (by omega)).1.trans hA10
  refine v_aload hx DX11_init_61 0 rfl ?_
  refine v_nw (e' := g + 65) (cs' := (64, 3062)) hx DX11_init_62 DX11_init_65 DX11_init_66 NWRX11_39 CIRX11_41 (by omega) Z11 (fun _ h1 h2 h3 => k_X3 l G h1 h2 h3) (Nat.le_of_ble_eq_true rfl) (by decide) rfl ⟨Nat.le_of_ble_eq_true rfl, Nat.le_of_ble_eq_true rfl⟩ (fun L12 m12 s12 Z12 r12 => ?_)
  have hT_12 : L12 (g) = some (.inl (11, [some (.ref (g + 1)), some (.ref (g + 4)), some (.ref (g + 24)), some (.ref (g + 27)), none, some (.ref (g + 47)), some .null, some .null, some .null, some .null, some .null, some .null, some .null, some .null, some .null, some .null, some .null, some .null])) := (s12 (g) (by omega)).1.trans hP11
  have wT_12 : m12.1 (g) = rw1 (z0) 4 0 := (s12 (g) (by omega)).2.1.trans wT_10
  have hR47_12 : L12 (g + 47) = some (.inr (5, 4, [none, none, none, none])) := (s12 (g + 47) (by omega)).1.trans hR47_11
  refine v_putRo (fs' := [some (.ref (g + 1)), some (.ref (g + 4)), some (.ref (g + 24)), some (.ref (g + 27)), none, some (.ref (g + 47)), some (.ref (g + 48)), some .null, some .null, some .null, some .null, some .null, some .null, some .null, some .null, some .null, some .null, some .null]) hx hin DX11_init_69 FPRX11_42 hT_12 (Nat.le_of_ble_eq_true rfl) rfl rfl rfl Z12 (by omega) (fun L13 hP13 s13 Z13 => ?_)
  have hR47_13 : L13 (g + 47) = some (.inr (5, 4, [none, none, none, none])) := (s13 (g + 47) (by omega)).1.trans hR47_12
  refine v_aload hx DX11_init_72 0 rfl ?_
  refine v_new (cs' := (65, 3071)) hx DX11_init_73 NWRX11_46 (by omega) Z13 rfl ⟨Nat.le_of_ble_eq_true rfl, Nat.le_of_ble_eq_true rfl⟩ (fun Lx14 hN14 sx14 Zx14 => ?_)
  have hTx14 : Lx14 g = some (.inl (11, [some (.ref (g + 1)), some (.ref (g + 4)), some (.ref (g + 24)), some (.ref (g + 27)), none, some (.ref (g + 47)), some (.ref (g + 48)), some .null, some .null, some .null, some .null, some .null, some .null, some .null, some .null, some .null, some .null, some .null])) := (sx14 g (by omega)).trans hP13
  refine v_dup hx DX11_init_76 rfl ?_
  refine v_aload hx DX11_init_77 0 rfl ?_
  refine v_get hx DX11_init_78 FLRX11_42 hTx14 (v := .ref (g + 48)) rfl ?_
  refine v_cI (cs' := (81, 3471)) hx [.ref (g + 48)] DX11_init_81 CIRX11_48 (k_X9 l G hN14 Zx14 (Z13 (g + 65) (by omega)).2.1) rfl rfl (Nat.le_of_ble_eq_true rfl) (by decide) rfl ⟨Nat.le_of_ble_eq_true rfl, Nat.le_of_ble_eq_true rfl⟩ (fun vx14 L14 e14 m14 hP14 => ?_)
  obtain ⟨rfl, rfl, sy14, Z14, r14⟩ := hP14
  have s14 : ∀ a, a < g + 65 → SmA L13 m12 L14 m14 a := fun a ha => SmA.trans ⟨sx14 a (by omega), rfl, rfl⟩ (sy14 a ha)
  have hT_14 : L14 (g) = some (.inl (11, [some (.ref (g + 1)), some (.ref (g + 4)), some (.ref (g + 24)), some (.ref (g + 27)), none, some (.ref (g + 47)), some (.ref (g + 48)), some .null, some .null, some .null, some .null, some .null, some .null, some .null, some .null, some .null, some .null, some .null])) := (s14 (g) (by omega)).1.trans hP13
  have wT_14 : m14.1 (g) = rw1 (z0) 4 0 := (s14 (g) (by omega)).2.1.trans wT_12
  have hR47_14 : L14 (g + 47) = some (.inr (5, 4, [none, none, none, none])) := (s14 (g + 47) (by omega)).1.trans hR47_13
  refine v_putRo (fs' := [some (.ref (g + 1)), some (.ref (g + 4)), some (.ref (g + 24)), some (.ref (g + 27)), none, some (.ref (g + 47)), some (.ref (g + 48)), some (.ref (g + 65)), some .null, some .null, some .null, some .null, some .null, some .null, some .null, some .null, some .null, some .null]) hx hin DX11_init_84 FPRX11_51 hT_14 (Nat.le_of_ble_eq_true rfl) rfl rfl rfl Z14 (by omega) (fun L15 hP15 s15 Z15 => ?_)
  have hR47_15 : L15 (g + 47) = some (.inr (5, 4, [none, none, none, none])) := (s15 (g + 47) (by omega)).1.trans hR47_14
  refine v_aload hx DX11_init_87 0 rfl ?_
  refine v_new (cs' := (82, 3487)) hx DX11_init_88 NWRX11_55 (by omega) Z15 rfl ⟨Nat.le_of_ble_eq_true rfl, Nat.le_of_ble_eq_true rfl⟩ (fun Lx16 hN16 sx16 Zx16 => ?_)
  have hTx16 : Lx16 g = some (.inl (11, [some (.ref (g + 1)), some (.ref (g + 4)), some (.ref (g + 24)), some (.ref (g + 27)), none, some (.ref (g + 47)), some (.ref (g + 48)), some (.ref (g + 65)), some .null, some .null, some .null, some .null, some .null, some .null, some .null, some .null, some .null, some .null])) := (sx16 g (by omega)).trans hP15
  refine v_dup hx DX11_init_91 rfl ?_
  refine v_aload hx DX11_init_92 0 rfl ?_
  refine v_get hx DX11_init_93 FLRX11_42 hTx16 (v := .ref (g + 48)) rfl ?_
  refine v_aload hx DX11_init_96 0 rfl ?_
  refine v_get hx DX11_init_97 FLRX11_51 hTx16 (v := .ref (g + 65)) rfl ?_
  refine v_cI (cs' := (162, 5225)) hx [.ref (g + 48), .ref (g + 65)] DX11_init_100 CIRX11_57 (k_X4 l G hN16 Zx16 (Z15 (g + 82) (by omega)).2.1) rfl rfl (Nat.le_of_ble_eq_true rfl) (by decide) rfl ⟨Nat.le_of_ble_eq_true rfl, Nat.le_of_ble_eq_true rfl⟩ (fun vx16 L16 e16 m16 hP16 => ?_)
  obtain ⟨rfl, rfl, sy16, Z16, r16⟩ := hP16
  have s16 : ∀ a, a < g + 82 → SmA L15 m14 L16 m16 a := fun a ha => SmA.trans ⟨sx16 a (by omega), rfl, rfl⟩ (sy16 a ha)
  have hT_16 : L16 (g) = some (.inl (11, [some (.ref (g + 1)), some (.ref (g + 4)), some (.ref (g + 24)), some (.ref (g + 27)), none, some (.ref (g + 47)), some (.ref (g + 48)), some (.ref (g + 65)), some .null, some .null, some .null, some .null, some .null, some .null, some .null, some .null, some .null, some .null])) := (s16 (g) (by omega)).1.trans hP15
  have wT_16 : m16.1 (g) = rw1 (z0) 4 0 := (s16 (g) (by omega)).2.1.trans wT_14
  have hR47_16 : L16 (g + 47) = some (.inr (5, 4, [none, none, none, none])) := (s16 (g + 47) (by omega)).1.trans hR47_15
  refine v_putRo (fs' := [some (.ref (g + 1)), some (.ref (g + 4)), some (.ref (g + 24)), some (.ref (g + 27)), none, some (.ref (g + 47)), some (.ref (g + 48)), some (.ref (g + 65)), some (.ref (g + 82)), some .null, some .null, some .null, some .null, some .null, some .null, some .null, some .null, some .null]) hx hin DX11_init_103 FPRX11_60 hT_16 (Nat.le_of_ble_eq_true rfl) rfl rfl rfl Z16 (by omega) (fun L17 hP17 s17 Z17 => ?_)
  have hR47_17 : L17 (g + 47) = some (.inr (5, 4, [none, none, none, none])) := (s17 (g + 47) (by omega)).1.trans hR47_16
  refine v_aload hx DX11_init_106 0 rfl ?_
  refine v_new (cs' := (163, 5241)) hx DX11_init_107 NWRX11_55 (by omega) Z17 rfl ⟨Nat.le_of_ble_eq_true rfl, Nat.le_of_ble_eq_true rfl⟩ (fun Lx18 hN18 sx18 Zx18 => ?_)
  have hTx18 : Lx18 g = some (.inl (11, [some (.ref (g + 1)), some (.ref (g + 4)), some (.ref (g + 24)), some (.ref (g + 27)), none, some (.ref (g + 47)), some (.ref (g + 48)), some (.ref (g + 65)), some (.ref (g + 82)), some .null, some .null, some .null, some .null, some .null, some .null, some .null, some .null, some .null])) := (sx18 g (by omega)).trans hP17
  refine v_dup hx DX11_init_110 rfl ?_
  refine v_aload hx DX11_init_111 0 rfl ?_
  refine v_get hx DX11_init_112 FLRX11_42 hTx18 (v := .ref (g + 48)) rfl ?_
  refine v_aload hx DX11_init_115 0 rfl ?_
  refine v_get hx DX11_init_116 FLRX11_51 hTx18 (v := .ref (g + 65)) rfl ?_
  refine v_cI (cs' := (243, 6979)) hx [.ref (g + 48), .ref (g + 65)] DX11_init_119 CIRX11_57 (k_X4 l G hN18 Zx18 (Z17 (g + 163) (by omega)).2.1) rfl rfl (Nat.le_of_ble_eq_true rfl) (by decide) rfl ⟨Nat.le_of_ble_eq_true rfl, Nat.le_of_ble_eq_true rfl⟩ (fun vx18 L18 e18 m18 hP18 => ?_)
  obtain ⟨rfl, rfl, sy18, Z18, r18⟩ := hP18
  have s18 : ∀ a, a < g + 163 → SmA L17 m16 L18 m18 a := fun a ha => SmA.trans ⟨sx18 a (by omega), rfl, rfl⟩ (sy18 a ha)
  have hT_18 : L18 (g) = some (.inl (11, [some (.ref (g + 1)), some (.ref (g + 4)), some (.ref (g + 24)), some (.ref (g + 27)), none, some (.ref (g + 47)), some (.ref (g + 48)), some (.ref (g + 65)), some (.ref (g + 82)), some .null, some .null, some .null, some .null, some .null, some .null, some .null, some .null, some .null])) := (s18 (g) (by omega)).1.trans hP17
  have wT_18 : m18.1 (g) = rw1 (z0) 4 0 := (s18 (g) (by omega)).2.1.trans wT_16
  have hR47_18 : L18 (g + 47) = some (.inr (5, 4, [none, none, none, none])) := (s18 (g + 47) (by omega)).1.trans hR47_17
  refine v_putRo (fs' := [some (.ref (g + 1)), some (.ref (g + 4)), some (.ref (g + 24)), some (.ref (g + 27)), none, some (.ref (g + 47)), some (.ref (g + 48)), some (.ref (g + 65)), some (.ref (g + 82)), some (.ref (g + 163)), some .null, some .null, some .null, some .null, some .null, some .null, some .null, some .null]) hx hin DX11_init_122 FPRX11_64 hT_18 (Nat.le_of_ble_eq_true rfl) rfl rfl rfl Z18 (by omega) (fun L19 hP19 s19 Z19 => ?_)
  have hR47_19 : L19 (g + 47) = some (.inr (5, 4, [none, none, none, none])) := (s19 (g + 47) (by omega)).1.trans hR47_18
  refine v_aload hx DX11_init_125 0 rfl ?_
  refine v_new (cs' := (244, 6989)) hx DX11_init_126 NWRX11_67 (by omega) Z19 rfl ⟨Nat.le_of_ble_eq_true rfl, Nat.le_of_ble_eq_true rfl⟩ (fun Lx20 hN20 sx20 Zx20 => ?_)
  have hTx20 : Lx20 g = some (.inl (11, [some (.ref (g + 1)), some (.ref (g + 4)), some (.ref (g + 24)), some (.ref (g + 27)), none, some (.ref (g + 47)), some (.ref (g + 48)), some (.ref (g + 65)), some (.ref (g + 82)), some (.ref (g + 163)), some .null, some .null, some .null, some .null, some .null, some .null, some .null, some .null])) := (sx20 g (by omega)).trans hP19
  refine v_dup hx DX11_init_129 rfl ?_
  refine v_aload hx DX11_init_130 0 rfl ?_
  refine v_get hx DX11_init_131 FLRX11_42 hTx20 (v := .ref (g + 48)) rfl ?_
  refine v_cI (cs' := (262, 7439)) hx [.ref (g + 48)] DX11_init_134 CIRX11_69 (k_X7 l G hN20 Zx20 (Z19 (g + 244) (by omega)).2.1) rfl rfl (Nat.le_of_ble_eq_true rfl) (by decide) rfl ⟨Nat.le_of_ble_eq_true rfl, Nat.le_of_ble_eq_true rfl⟩ (fun vx20 L20 e20 m20 hP20 => ?_)
  obtain ⟨rfl, rfl, sy20, Z20, r20⟩ := hP20
  have s20 : ∀ a, a < g + 244 → SmA L19 m18 L20 m20 a := fun a ha => SmA.trans ⟨sx20 a (by omega), rfl, rfl⟩ (sy20 a ha)
  have hT_20 : L20 (g) = some (.inl (11, [some (.ref (g + 1)), some (.ref (g + 4)), some (.ref (g + 24)), some (.ref (g + 27)), none, some (.ref (g + 47)), some (.ref (g + 48)), some (.ref (g + 65)), some (.ref (g + 82)), some (.ref (g + 163)), some .null, some .null, some .null, some .null, some .null, some .null, some .null, some .null])) := (s20 (g) (by omega)).1.trans hP19
  have wT_20 : m20.1 (g) = rw1 (z0) 4 0 := (s20 (g) (by omega)).2.1.trans wT_18
  have hR47_20 : L20 (g + 47) = some (.inr (5, 4, [none, none, none, none])) := (s20 (g + 47) (by omega)).1.trans hR47_19
  refine v_putRo (fs' := [some (.ref (g + 1)), some (.ref (g + 4)), some (.ref (g + 24)), some (.ref (g + 27)), none, some (.ref (g + 47)), some (.ref (g + 48)), some (.ref (g + 65)), some (.ref (g + 82)), some (.ref (g + 163)), some (.ref (g + 244)), some .null, some .null, some .null, some .null, some .null, some .null, some .null]) hx hin DX11_init_137 FPRX11_70 hT_20 (Nat.le_of_ble_eq_true rfl) rfl rfl rfl Z20 (by omega) (fun L21 hP21 s21 Z21 => ?_)
  have hR47_21 : L21 (g + 47) = some (.inr (5, 4, [none, none, none, none])) := (s21 (g + 47) (by omega)).1.trans hR47_20
  refine v_aload hx DX11_init_140 0 rfl ?_
  refine v_new (cs' := (263, 7451)) hx DX11_init_141 NWRX11_74 (by omega) Z21 rfl ⟨Nat.le_of_ble_eq_true rfl, Nat.le_of_ble_eq_true rfl⟩ (fun Lx22 hN22 sx22 Zx22 => ?_)
  have hTx22 : Lx22 g = some (.inl (11, [some (.ref (g + 1)), some (.ref (g + 4)), some (.ref (g + 24)), some (.ref (g + 27)), none, some (.ref (g + 47)), some (.ref (g + 48)), some (.ref (g + 65)), some (.ref (g + 82)), some (.ref (g + 163)), some (.ref (g + 244)), some .null, some .null, some .null, some .null, some .null, some .null, some .null])) := (sx22 g (by omega)).trans hP21
  refine v_dup hx DX11_init_144 rfl ?_
  refine v_aload hx DX11_init_145 0 rfl ?_
  refine v_get hx DX11_init_146 FLRX11_42 hTx22 (v := .ref (g + 48)) rfl ?_
  refine v_cI (cs' := (347, 9368)) hx [.ref (g + 48)] DX11_init_149 CIRX11_76 (k_X6 l G hN22 Zx22 (Z21 (g + 263) (by omega)).2.1) rfl rfl (Nat.le_of_ble_eq_true rfl) (by decide) rfl ⟨Nat.le_of_ble_eq_true rfl, Nat.le_of_ble_eq_true rfl⟩ (fun vx22 L22 e22 m22 hP22 => ?_)
  obtain ⟨rfl, rfl, sy22, Z22, r22⟩ := hP22
  have s22 : ∀ a, a < g + 263 → SmA L21 m20 L22 m22 a := fun a ha => SmA.trans ⟨sx22 a (by omega), rfl, rfl⟩ (sy22 a ha)
  have hT_22 : L22 (g) = some (.inl (11, [some (.ref (g + 1)), some (.ref (g + 4)), some (.ref (g + 24)), some (.ref (g + 27)), none, some (.ref (g + 47)), some (.ref (g + 48)), some (.ref (g + 65)), some (.ref (g + 82)), some (.ref (g + 163)), some (.ref (g + 244)), some .null, some .null, some .null, some .null, some .null, some .null, some .null])) := (s22 (g) (by omega)).1.trans hP21
  have wT_22 : m22.1 (g) = rw1 (z0) 4 0 := (s22 (g) (by omega)).2.1.trans wT_20
  have hR47_22 : L22 (g + 47) = some (.inr (5, 4, [none, none, none, none])) := (s22 (g + 47) (by omega)).1.trans hR47_21
  refine v_putRo (fs' := [some (.ref (g + 1)), some (.ref (g + 4)), some (.ref (g + 24)), some (.ref (g + 27)), none, some (.ref (g + 47)), some (.ref (g + 48)), some (.ref (g + 65)), some (.ref (g + 82)), some (.ref (g + 163)), some (.ref (g + 244)), some (.ref (g + 263)), some .null, some .null, some .null, some .null, some .null, some .null]) hx hin DX11_init_152 FPRX11_77 hT_22 (Nat.le_of_ble_eq_true rfl) rfl rfl rfl Z22 (by omega) (fun L23 hP23 s23 Z23 => ?_)
  have hR47_23 : L23 (g + 47) = some (.inr (5, 4, [none, none, none, none])) := (s23 (g + 47) (by omega)).1.trans hR47_22
  refine v_aload hx DX11_init_155 0 rfl ?_
  refine v_nw (e' := g + 350) (cs' := (349, 9466)) hx DX11_init_156 DX11_init_159 DX11_init_160 NWRX11_81 CIRX11_83 (by omega) Z23 (fun _ h1 h2 h3 => k_X10 l G h1 h2 h3) (Nat.le_of_ble_eq_true rfl) (by decide) rfl ⟨Nat.le_of_ble_eq_true rfl, Nat.le_of_ble_eq_true rfl⟩ (fun L24 m24 s24 Z24 r24 => ?_)
  have hT_24 : L24 (g) = some (.inl (11, [some (.ref (g + 1)), some (.ref (g + 4)), some (.ref (g + 24)), some (.ref (g + 27)), none, some (.ref (g + 47)), some (.ref (g + 48)), some (.ref (g + 65)), some (.ref (g + 82)), some (.ref (g + 163)), some (.ref (g + 244)), some (.ref (g + 263)), some .null, some .null, some .null, some .null, some .null, some .null])) := (s24 (g) (by omega)).1.trans hP23
  have wT_24 : m24.1 (g) = rw1 (z0) 4 0 := (s24 (g) (by omega)).2.1.trans wT_22
  have hR47_24 : L24 (g + 47) = some (.inr (5, 4, [none, none, none, none])) := (s24 (g + 47) (by omega)).1.trans hR47_23
  refine v_putRo (fs' := [some (.ref (g + 1)), some (.ref (g + 4)), some (.ref (g + 24)), some (.ref (g + 27)), none, some (.ref (g + 47)), some (.ref (g + 48)), some (.ref (g + 65)), some (.ref (g + 82)), some (.ref (g + 163)), some (.ref (g + 244)), some (.ref (g + 263)), some (.ref (g + 348)), some .null, some .null, some .null, some .null, some .null]) hx hin DX11_init_163 FPRX11_84 hT_24 (Nat.le_of_ble_eq_true rfl) rfl rfl rfl Z24 (by omega) (fun L25 hP25 s25 Z25 => ?_)
  have hR47_25 : L25 (g + 47) = some (.inr (5, 4, [none, none, none, none])) := (s25 (g + 47) (by omega)).1.trans hR47_24
  refine v_aload hx DX11_init_166 0 rfl ?_
  refine v_push hx DX11_init_167 ?_
  refine v_newq (t := 4) (n := 5) (rs := [none, none, none, none, none]) (cs' := (350, 9471)) hx DX11_init_168 (by decide) rfl clRX11_88 (fun U h => (KK.ao h).2.1) (by decide) rfl (by omega) Z25 rfl ⟨Nat.le_of_ble_eq_true rfl, Nat.le_of_ble_eq_true rfl⟩ (fun L26 hA26 s26 Z26 => ?_)
  have hT_26 : L26 (g) = some (.inl (11, [some (.ref (g + 1)), some (.ref (g + 4)), some (.ref (g + 24)), some (.ref (g + 27)), none, some (.ref (g + 47)), some (.ref (g + 48)), some (.ref (g + 65)), some (.ref (g + 82)), some (.ref (g + 163)), some (.ref (g + 244)), some (.ref (g + 263)), some (.ref (g + 348)), some .null, some .null, some .null, some .null, some .null])) := (s26 (g) (by omega)).1.trans hP25
  have wT_26 : m24.1 (g) = rw1 (z0) 4 0 := (s26 (g) (by omega)).2.1.trans wT_24
  have hR47_26 : L26 (g + 47) = some (.inr (5, 4, [none, none, none, none])) := (s26 (g + 47) (by omega)).1.trans hR47_25
  refine v_putRo (fs' := [some (.ref (g + 1)), some (.ref (g + 4)), some (.ref (g + 24)), some (.ref (g + 27)), none, some (.ref (g + 47)), some (.ref (g + 48)), some (.ref (g + 65)), some (.ref (g + 82)), some (.ref (g + 163)), some (.ref (g + 244)), some (.ref (g + 263)), some (.ref (g + 348)), some (.ref (g + 350)), some .null, some .null, some .null, some .null]) hx hin DX11_init_171 FPRX11_90 hT_26 (Nat.le_of_ble_eq_true rfl) rfl rfl rfl Z26 (by omega) (fun L27 hP27 s27 Z27 => ?_)
  have hR47_27 : L27 (g + 47) = some (.inr (5, 4, [none, none, none, none])) := (s27 (g + 47) (by omega)).1.trans hR47_26
  have hR350_27 : L27 (g + 350) = some (.inr (4, 5, [none, none, none, none, none])) := (s27 (g + 350) (by omega)).1.trans hA26
  refine v_aload hx DX11_init_174 0 rfl ?_
  refine v_nw (e' := g + 356) (cs' := (355, 9573)) hx DX11_init_175 DX11_init_178 DX11_init_179 NWRX11_88 CIRX11_94 (by omega) Z27 (fun _ h1 h2 h3 => k_X1 l G h1 h2 h3) (Nat.le_of_ble_eq_true rfl) (by decide) rfl ⟨Nat.le_of_ble_eq_true rfl, Nat.le_of_ble_eq_true rfl⟩ (fun L28 m28 s28 Z28 r28 => ?_)
  have hT_28 : L28 (g) = some (.inl (11, [some (.ref (g + 1)), some (.ref (g + 4)), some (.ref (g + 24)), some (.ref (g + 27)), none, some (.ref (g + 47)), some (.ref (g + 48)), some (.ref (g + 65)), some (.ref (g + 82)), some (.ref (g + 163)), some (.ref (g + 244)), some (.ref (g + 263)), some (.ref (g + 348)), some (.ref (g + 350)), some .null, some .null, some .null, some .null])) := (s28 (g) (by omega)).1.trans hP27
  have wT_28 : m28.1 (g) = rw1 (z0) 4 0 := (s28 (g) (by omega)).2.1.trans wT_26
  have hR47_28 : L28 (g + 47) = some (.inr (5, 4, [none, none, none, none])) := (s28 (g + 47) (by omega)).1.trans hR47_27
  have hR350_28 : L28 (g + 350) = some (.inr (4, 5, [none, none, none, none, none])) := (s28 (g + 350) (by omega)).1.trans hR350_27
  refine v_putRo (fs' := [some (.ref (g + 1)), some (.ref (g + 4)), some (.ref (g + 24)), some (.ref (g + 27)), none, some (.ref (g + 47)), some (.ref (g + 48)), some (.ref (g + 65)), some (.ref (g + 82)), some (.ref (g + 163)), some (.ref (g + 244)), some (.ref (g + 263)), some (.ref (g + 348)), some (.ref (g + 350)), some (.ref (g + 351)), some .null, some .null, some .null]) hx hin DX11_init_182 FPRX11_95 hT_28 (Nat.le_of_ble_eq_true rfl) rfl rfl rfl Z28 (by omega) (fun L29 hP29 s29 Z29 => ?_)
  have hR47_29 : L29 (g + 47) = some (.inr (5, 4, [none, none, none, none])) := (s29 (g + 47) (by omega)).1.trans hR47_28
  have hR350_29 : L29 (g + 350) = some (.inr (4, 5, [none, none, none, none, none])) := (s29 (g + 350) (by omega)).1.trans hR350_28
  refine v_aload hx DX11_init_185 0 rfl ?_
  refine v_nw (e' := g + 361) (cs' := (360, 9675)) hx DX11_init_186 DX11_init_189 DX11_init_190 NWRX11_88 CIRX11_94 (by omega) Z29 (fun _ h1 h2 h3 => k_X1 l G h1 h2 h3) (Nat.le_of_ble_eq_true rfl) (by decide) rfl ⟨Nat.le_of_ble_eq_true rfl, Nat.le_of_ble_eq_true rfl⟩ (fun L30 m30 s30 Z30 r30 => ?_)
  have hT_30 : L30 (g) = some (.inl (11, [some (.ref (g + 1)), some (.ref (g + 4)), some (.ref (g + 24)), some (.ref (g + 27)), none, some (.ref (g + 47)), some (.ref (g + 48)), some (.ref (g + 65)), some (.ref (g + 82)), some (.ref (g + 163)), some (.ref (g + 244)), some (.ref (g + 263)), some (.ref (g + 348)), some (.ref (g + 350)), some (.ref (g + 351)), some .null, some .null, some .null])) := (s30 (g) (by omega)).1.trans hP29
  have wT_30 : m30.1 (g) = rw1 (z0) 4 0 := (s30 (g) (by omega)).2.1.trans wT_28
  have hR47_30 : L30 (g + 47) = some (.inr (5, 4, [none, none, none, none])) := (s30 (g + 47) (by omega)).1.trans hR47_29
  have hR350_30 : L30 (g + 350) = some (.inr (4, 5, [none, none, none, none, none])) := (s30 (g + 350) (by omega)).1.trans hR350_29
  refine v_putRo (fs' := [some (.ref (g + 1)), some (.ref (g + 4)), some (.ref (g + 24)), some (.ref (g + 27)), none, some (.ref (g + 47)), some (.ref (g + 48)), some (.ref (g + 65)), some (.ref (g + 82)), some (.ref (g + 163)), some (.ref (g + 244)), some (.ref (g + 263)), some (.ref (g + 348)), some (.ref (g + 350)), some (.ref (g + 351)), some (.ref (g + 356)), some .null, some .null]) hx hin DX11_init_193 FPRX11_99 hT_30 (Nat.le_of_ble_eq_true rfl) rfl rfl rfl Z30 (by omega) (fun L31 hP31 s31 Z31 => ?_)
  have hR47_31 : L31 (g + 47) = some (.inr (5, 4, [none, none, none, none])) := (s31 (g + 47) (by omega)).1.trans hR47_30
  have hR350_31 : L31 (g + 350) = some (.inr (4, 5, [none, none, none, none, none])) := (s31 (g + 350) (by omega)).1.trans hR350_30
  refine v_aload hx DX11_init_196 0 rfl ?_
  refine v_nw (e' := g + 366) (cs' := (365, 9777)) hx DX11_init_197 DX11_init_200 DX11_init_201 NWRX11_88 CIRX11_94 (by omega) Z31 (fun _ h1 h2 h3 => k_X1 l G h1 h2 h3) (Nat.le_of_ble_eq_true rfl) (by decide) rfl ⟨Nat.le_of_ble_eq_true rfl, Nat.le_of_ble_eq_true rfl⟩ (fun L32 m32 s32 Z32 r32 => ?_)
  have hT_32 : L32 (g) = some (.inl (11, [some (.ref (g + 1)), some (.ref (g + 4)), some (.ref (g + 24)), some (.ref (g + 27)), none, some (.ref (g + 47)), some (.ref (g + 48)), some (.ref (g + 65)), some (.ref (g + 82)), some (.ref (g + 163)), some (.ref (g + 244)), some (.ref (g + 263)), some (.ref (g + 348)), some (.ref (g + 350)), some (.ref (g + 351)), some (.ref (g + 356)), some .null, some .null])) := (s32 (g) (by omega)).1.trans hP31
  have wT_32 : m32.1 (g) = rw1 (z0) 4 0 := (s32 (g) (by omega)).2.1.trans wT_30
  have hR47_32 : L32 (g + 47) = some (.inr (5, 4, [none, none, none, none])) := (s32 (g + 47) (by omega)).1.trans hR47_31
  have hR350_32 : L32 (g + 350) = some (.inr (4, 5, [none, none, none, none, none])) := (s32 (g + 350) (by omega)).1.trans hR350_31
  refine v_putRo (fs' := [some (.ref (g + 1)), some (.ref (g + 4)), some (.ref (g + 24)), some (.ref (g + 27)), none, some (.ref (g + 47)), some (.ref (g + 48)), some (.ref (g + 65)), some (.ref (g + 82)), some (.ref (g + 163)), some (.ref (g + 244)), some (.ref (g + 263)), some (.ref (g + 348)), some (.ref (g + 350)), some (.ref (g + 351)), some (.ref (g + 356)), some (.ref (g + 361)), some .null]) hx hin DX11_init_204 FPRX11_102 hT_32 (Nat.le_of_ble_eq_true rfl) rfl rfl rfl Z32 (by omega) (fun L33 hP33 s33 Z33 => ?_)
  have hR47_33 : L33 (g + 47) = some (.inr (5, 4, [none, none, none, none])) := (s33 (g + 47) (by omega)).1.trans hR47_32
  have hR350_33 : L33 (g + 350) = some (.inr (4, 5, [none, none, none, none, none])) := (s33 (g + 350) (by omega)).1.trans hR350_32
  refine v_aload hx DX11_init_207 0 rfl ?_
  refine v_nw (e' := g + 368) (cs' := (367, 9827)) hx DX11_init_208 DX11_init_211 DX11_init_212 NWRX11_105 CIRX11_107 (by omega) Z33 (fun _ h1 h2 h3 => k_X5 l G h1 h2 h3) (Nat.le_of_ble_eq_true rfl) (by decide) rfl ⟨Nat.le_of_ble_eq_true rfl, Nat.le_of_ble_eq_true rfl⟩ (fun L34 m34 s34 Z34 r34 => ?_)
  have hT_34 : L34 (g) = some (.inl (11, [some (.ref (g + 1)), some (.ref (g + 4)), some (.ref (g + 24)), some (.ref (g + 27)), none, some (.ref (g + 47)), some (.ref (g + 48)), some (.ref (g + 65)), some (.ref (g + 82)), some (.ref (g + 163)), some (.ref (g + 244)), some (.ref (g + 263)), some (.ref (g + 348)), some (.ref (g + 350)), some (.ref (g + 351)), some (.ref (g + 356)), some (.ref (g + 361)), some .null])) := (s34 (g) (by omega)).1.trans hP33
  have wT_34 : m34.1 (g) = rw1 (z0) 4 0 := (s34 (g) (by omega)).2.1.trans wT_32
  have hR47_34 : L34 (g + 47) = some (.inr (5, 4, [none, none, none, none])) := (s34 (g + 47) (by omega)).1.trans hR47_33
  have hR350_34 : L34 (g + 350) = some (.inr (4, 5, [none, none, none, none, none])) := (s34 (g + 350) (by omega)).1.trans hR350_33
  refine v_putRo (fs' := [some (.ref (g + 1)), some (.ref (g + 4)), some (.ref (g + 24)), some (.ref (g + 27)), none, some (.ref (g + 47)), some (.ref (g + 48)), some (.ref (g + 65)), some (.ref (g + 82)), some (.ref (g + 163)), some (.ref (g + 244)), some (.ref (g + 263)), some (.ref (g + 348)), some (.ref (g + 350)), some (.ref (g + 351)), some (.ref (g + 356)), some (.ref (g + 361)), some (.ref (g + 366))]) hx hin DX11_init_215 FPRX11_108 hT_34 (Nat.le_of_ble_eq_true rfl) rfl rfl rfl Z34 (by omega) (fun L35 hP35 s35 Z35 => ?_)
  have hR47_35 : L35 (g + 47) = some (.inr (5, 4, [none, none, none, none])) := (s35 (g + 47) (by omega)).1.trans hR47_34
  have hR350_35 : L35 (g + 350) = some (.inr (4, 5, [none, none, none, none, none])) := (s35 (g + 350) (by omega)).1.trans hR350_34
  refine v_push hx DX11_init_218 ?_
  refine v_istore hx DX11_init_219 [(1, iv 0), (0, .ref g)] rfl (by decide) ?_
  refine v_iload hx DX11_init_220 0 rfl ?_
  refine v_aload hx DX11_init_221 1 rfl ?_
  refine v_get hx DX11_init_222 FLRX11_35 hP35 (v := .ref (g + 47)) rfl ?_
  refine v_alenI hx DX11_init_225 hR47_35 (by decide) (z := 4) rfl ?_
  refine v_icmp_ge hx DX11_init_226 (by decide) (by decide) (fun c226 => ?_) (fun c226 => ?_)
  · exact absurd c226 (by decide)
  refine v_aload hx DX11_init_229 1 rfl ?_
  refine v_get hx DX11_init_230 FLRX11_35 hP35 (v := .ref (g + 47)) rfl ?_
  refine v_iload hx DX11_init_233 0 rfl ?_
  refine v_nw (e' := g + 370) (cs' := (369, 9854)) hx DX11_init_234 DX11_init_237 DX11_init_238 NWRX11_33 CIRX11_112 (by omega) Z35 (fun _ h1 h2 h3 => k_X8 l G h1 h2 h3) (Nat.le_of_ble_eq_true rfl) (by decide) rfl ⟨Nat.le_of_ble_eq_true rfl, Nat.le_of_ble_eq_true rfl⟩ (fun L36 m36 s36 Z36 r36 => ?_)
  have hT_36 : L36 (g) = some (.inl (11, [some (.ref (g + 1)), some (.ref (g + 4)), some (.ref (g + 24)), some (.ref (g + 27)), none, some (.ref (g + 47)), some (.ref (g + 48)), some (.ref (g + 65)), some (.ref (g + 82)), some (.ref (g + 163)), some (.ref (g + 244)), some (.ref (g + 263)), some (.ref (g + 348)), some (.ref (g + 350)), some (.ref (g + 351)), some (.ref (g + 356)), some (.ref (g + 361)), some (.ref (g + 366))])) := (s36 (g) (by omega)).1.trans hP35
  have wT_36 : m36.1 (g) = rw1 (z0) 4 0 := (s36 (g) (by omega)).2.1.trans wT_34
  have hR47_36 : L36 (g + 47) = some (.inr (5, 4, [none, none, none, none])) := (s36 (g + 47) (by omega)).1.trans hR47_35
  have hR350_36 : L36 (g + 350) = some (.inr (4, 5, [none, none, none, none, none])) := (s36 (g + 350) (by omega)).1.trans hR350_35
  refine v_aast (i := 0) (rs' := [some (g + 368), none, none, none]) hx DX11_init_241 hR47_36 (by decide) rfl r36.1.1 rfl (by decide) (by decide) rfl rfl Z36 (by omega) (fun L37 hA37 s37 Z37 => ?_)
  have hT_37 : L37 (g) = some (.inl (11, [some (.ref (g + 1)), some (.ref (g + 4)), some (.ref (g + 24)), some (.ref (g + 27)), none, some (.ref (g + 47)), some (.ref (g + 48)), some (.ref (g + 65)), some (.ref (g + 82)), some (.ref (g + 163)), some (.ref (g + 244)), some (.ref (g + 263)), some (.ref (g + 348)), some (.ref (g + 350)), some (.ref (g + 351)), some (.ref (g + 356)), some (.ref (g + 361)), some (.ref (g + 366))])) := (s37 (g) (by omega)).1.trans hT_36
  have wT_37 : m36.1 (g) = rw1 (z0) 4 0 := (s37 (g) (by omega)).2.1.trans wT_36
  have hR350_37 : L37 (g + 350) = some (.inr (4, 5, [none, none, none, none, none])) := (s37 (g + 350) (by omega)).1.trans hR350_36
  refine v_iinc hx DX11_init_242 0 rfl [(1, iv 1), (0, .ref g)] rfl (by decide) ?_
  refine v_goto hx DX11_init_245 ?_
  refine v_iload hx DX11_init_220 0 rfl ?_
  refine v_aload hx DX11_init_221 1 rfl ?_
  refine v_get hx DX11_init_222 FLRX11_35 hT_37 (v := .ref (g + 47)) rfl ?_
  refine v_alenI hx DX11_init_225 hA37 (by decide) (z := 4) rfl ?_
  refine v_icmp_ge hx DX11_init_226 (by decide) (by decide) (fun c226 => ?_) (fun c226 => ?_)
  · exact absurd c226 (by decide)
  refine v_aload hx DX11_init_229 1 rfl ?_
  refine v_get hx DX11_init_230 FLRX11_35 hT_37 (v := .ref (g + 47)) rfl ?_
  refine v_iload hx DX11_init_233 0 rfl ?_
  refine v_nw (e' := g + 372) (cs' := (371, 9881)) hx DX11_init_234 DX11_init_237 DX11_init_238 NWRX11_33 CIRX11_112 (by omega) Z37 (fun _ h1 h2 h3 => k_X8 l G h1 h2 h3) (Nat.le_of_ble_eq_true rfl) (by decide) rfl ⟨Nat.le_of_ble_eq_true rfl, Nat.le_of_ble_eq_true rfl⟩ (fun L38 m38 s38 Z38 r38 => ?_)
  have hT_38 : L38 (g) = some (.inl (11, [some (.ref (g + 1)), some (.ref (g + 4)), some (.ref (g + 24)), some (.ref (g + 27)), none, some (.ref (g + 47)), some (.ref (g + 48)), some (.ref (g + 65)), some (.ref (g + 82)), some (.ref (g + 163)), some (.ref (g + 244)), some (.ref (g + 263)), some (.ref (g + 348)), some (.ref (g + 350)), some (.ref (g + 351)), some (.ref (g + 356)), some (.ref (g + 361)), some (.ref (g + 366))])) := (s38 (g) (by omega)).1.trans hT_37
  have wT_38 : m38.1 (g) = rw1 (z0) 4 0 := (s38 (g) (by omega)).2.1.trans wT_37
  have hR47_38 : L38 (g + 47) = some (.inr (5, 4, [some (g + 368), none, none, none])) := (s38 (g + 47) (by omega)).1.trans hA37
  have hR350_38 : L38 (g + 350) = some (.inr (4, 5, [none, none, none, none, none])) := (s38 (g + 350) (by omega)).1.trans hR350_37
  refine v_aast (i := 1) (rs' := [some (g + 368), some (g + 370), none, none]) hx DX11_init_241 hR47_38 (by decide) rfl r38.1.1 rfl (by decide) (by decide) rfl rfl Z38 (by omega) (fun L39 hA39 s39 Z39 => ?_)
  have hT_39 : L39 (g) = some (.inl (11, [some (.ref (g + 1)), some (.ref (g + 4)), some (.ref (g + 24)), some (.ref (g + 27)), none, some (.ref (g + 47)), some (.ref (g + 48)), some (.ref (g + 65)), some (.ref (g + 82)), some (.ref (g + 163)), some (.ref (g + 244)), some (.ref (g + 263)), some (.ref (g + 348)), some (.ref (g + 350)), some (.ref (g + 351)), some (.ref (g + 356)), some (.ref (g + 361)), some (.ref (g + 366))])) := (s39 (g) (by omega)).1.trans hT_38
  have wT_39 : m38.1 (g) = rw1 (z0) 4 0 := (s39 (g) (by omega)).2.1.trans wT_38
  have hR350_39 : L39 (g + 350) = some (.inr (4, 5, [none, none, none, none, none])) := (s39 (g + 350) (by omega)).1.trans hR350_38
  refine v_iinc hx DX11_init_242 0 rfl [(1, iv 2), (0, .ref g)] rfl (by decide) ?_
  refine v_goto hx DX11_init_245 ?_
  refine v_iload hx DX11_init_220 0 rfl ?_
  refine v_aload hx DX11_init_221 1 rfl ?_
  refine v_get hx DX11_init_222 FLRX11_35 hT_39 (v := .ref (g + 47)) rfl ?_
  refine v_alenI hx DX11_init_225 hA39 (by decide) (z := 4) rfl ?_
  refine v_icmp_ge hx DX11_init_226 (by decide) (by decide) (fun c226 => ?_) (fun c226 => ?_)
  · exact absurd c226 (by decide)
  refine v_aload hx DX11_init_229 1 rfl ?_
  refine v_get hx DX11_init_230 FLRX11_35 hT_39 (v := .ref (g + 47)) rfl ?_
  refine v_iload hx DX11_init_233 0 rfl ?_
  refine v_nw (e' := g + 374) (cs' := (373, 9908)) hx DX11_init_234 DX11_init_237 DX11_init_238 NWRX11_33 CIRX11_112 (by omega) Z39 (fun _ h1 h2 h3 => k_X8 l G h1 h2 h3) (Nat.le_of_ble_eq_true rfl) (by decide) rfl ⟨Nat.le_of_ble_eq_true rfl, Nat.le_of_ble_eq_true rfl⟩ (fun L40 m40 s40 Z40 r40 => ?_)
  have hT_40 : L40 (g) = some (.inl (11, [some (.ref (g + 1)), some (.ref (g + 4)), some (.ref (g + 24)), some (.ref (g + 27)), none, some (.ref (g + 47)), some (.ref (g + 48)), some (.ref (g + 65)), some (.ref (g + 82)), some (.ref (g + 163)), some (.ref (g + 244)), some (.ref (g + 263)), some (.ref (g + 348)), some (.ref (g + 350)), some (.ref (g + 351)), some (.ref (g + 356)), some (.ref (g + 361)), some (.ref (g + 366))])) := (s40 (g) (by omega)).1.trans hT_39
  have wT_40 : m40.1 (g) = rw1 (z0) 4 0 := (s40 (g) (by omega)).2.1.trans wT_39
  have hR47_40 : L40 (g + 47) = some (.inr (5, 4, [some (g + 368), some (g + 370), none, none])) := (s40 (g + 47) (by omega)).1.trans hA39
  have hR350_40 : L40 (g + 350) = some (.inr (4, 5, [none, none, none, none, none])) := (s40 (g + 350) (by omega)).1.trans hR350_39
  refine v_aast (i := 2) (rs' := [some (g + 368), some (g + 370), some (g + 372), none]) hx DX11_init_241 hR47_40 (by decide) rfl r40.1.1 rfl (by decide) (by decide) rfl rfl Z40 (by omega) (fun L41 hA41 s41 Z41 => ?_)
  have hT_41 : L41 (g) = some (.inl (11, [some (.ref (g + 1)), some (.ref (g + 4)), some (.ref (g + 24)), some (.ref (g + 27)), none, some (.ref (g + 47)), some (.ref (g + 48)), some (.ref (g + 65)), some (.ref (g + 82)), some (.ref (g + 163)), some (.ref (g + 244)), some (.ref (g + 263)), some (.ref (g + 348)), some (.ref (g + 350)), some (.ref (g + 351)), some (.ref (g + 356)), some (.ref (g + 361)), some (.ref (g + 366))])) := (s41 (g) (by omega)).1.trans hT_40
  have wT_41 : m40.1 (g) = rw1 (z0) 4 0 := (s41 (g) (by omega)).2.1.trans wT_40
  have hR350_41 : L41 (g + 350) = some (.inr (4, 5, [none, none, none, none, none])) := (s41 (g + 350) (by omega)).1.trans hR350_40
  refine v_iinc hx DX11_init_242 0 rfl [(1, iv 3), (0, .ref g)] rfl (by decide) ?_
  refine v_goto hx DX11_init_245 ?_
  refine v_iload hx DX11_init_220 0 rfl ?_
  refine v_aload hx DX11_init_221 1 rfl ?_
  refine v_get hx DX11_init_222 FLRX11_35 hT_41 (v := .ref (g + 47)) rfl ?_
  refine v_alenI hx DX11_init_225 hA41 (by decide) (z := 4) rfl ?_
  refine v_icmp_ge hx DX11_init_226 (by decide) (by decide) (fun c226 => ?_) (fun c226 => ?_)
  · exact absurd c226 (by decide)
  refine v_aload hx DX11_init_229 1 rfl ?_
  refine v_get hx DX11_init_230 FLRX11_35 hT_41 (v := .ref (g + 47)) rfl ?_
  refine v_iload hx DX11_init_233 0 rfl ?_
  refine v_nw (e' := g + 376) (cs' := (375, 9935)) hx DX11_init_234 DX11_init_237 DX11_init_238 NWRX11_33 CIRX11_112 (by omega) Z41 (fun _ h1 h2 h3 => k_X8 l G h1 h2 h3) (Nat.le_of_ble_eq_true rfl) (by decide) rfl ⟨Nat.le_of_ble_eq_true rfl, Nat.le_of_ble_eq_true rfl⟩ (fun L42 m42 s42 Z42 r42 => ?_)
  have hT_42 : L42 (g) = some (.inl (11, [some (.ref (g + 1)), some (.ref (g + 4)), some (.ref (g + 24)), some (.ref (g + 27)), none, some (.ref (g + 47)), some (.ref (g + 48)), some (.ref (g + 65)), some (.ref (g + 82)), some (.ref (g + 163)), some (.ref (g + 244)), some (.ref (g + 263)), some (.ref (g + 348)), some (.ref (g + 350)), some (.ref (g + 351)), some (.ref (g + 356)), some (.ref (g + 361)), some (.ref (g + 366))])) := (s42 (g) (by omega)).1.trans hT_41
  have wT_42 : m42.1 (g) = rw1 (z0) 4 0 := (s42 (g) (by omega)).2.1.trans wT_41
  have hR47_42 : L42 (g + 47) = some (.inr (5, 4, [some (g + 368), some (g + 370), some (g + 372), none])) := (s42 (g + 47) (by omega)).1.trans hA41
  have hR350_42 : L42 (g + 350) = some (.inr (4, 5, [none, none, none, none, none])) := (s42 (g + 350) (by omega)).1.trans hR350_41
  refine v_aast (i := 3) (rs' := [some (g + 368), some (g + 370), some (g + 372), some (g + 374)]) hx DX11_init_241 hR47_42 (by decide) rfl r42.1.1 rfl (by decide) (by decide) rfl rfl Z42 (by omega) (fun L43 hA43 s43 Z43 => ?_)
  have hT_43 : L43 (g) = some (.inl (11, [some (.ref (g + 1)), some (.ref (g + 4)), some (.ref (g + 24)), some (.ref (g + 27)), none, some (.ref (g + 47)), some (.ref (g + 48)), some (.ref (g + 65)), some (.ref (g + 82)), some (.ref (g + 163)), some (.ref (g + 244)), some (.ref (g + 263)), some (.ref (g + 348)), some (.ref (g + 350)), some (.ref (g + 351)), some (.ref (g + 356)), some (.ref (g + 361)), some (.ref (g + 366))])) := (s43 (g) (by omega)).1.trans hT_42
  have wT_43 : m42.1 (g) = rw1 (z0) 4 0 := (s43 (g) (by omega)).2.1.trans wT_42
  have hR350_43 : L43 (g + 350) = some (.inr (4, 5, [none, none, none, none, none])) := (s43 (g + 350) (by omega)).1.trans hR350_42
  refine v_iinc hx DX11_init_242 0 rfl [(1, iv 4), (0, .ref g)] rfl (by decide) ?_
  refine v_goto hx DX11_init_245 ?_
  refine v_iload hx DX11_init_220 0 rfl ?_
  refine v_aload hx DX11_init_221 1 rfl ?_
  refine v_get hx DX11_init_222 FLRX11_35 hT_43 (v := .ref (g + 47)) rfl ?_
  refine v_alenI hx DX11_init_225 hA43 (by decide) (z := 4) rfl ?_
  refine v_icmp_ge hx DX11_init_226 (by decide) (by decide) (fun c226 => ?_) (fun c226 => ?_)
  rotate_left
  · exact absurd c226 (by decide)
  refine v_push hx DX11_init_248 ?_
  refine v_istore hx DX11_init_249 [(1, iv 0), (0, .ref g)] rfl (by decide) ?_
  refine v_iload hx DX11_init_250 0 rfl ?_
  refine v_aload hx DX11_init_251 1 rfl ?_
  refine v_get hx DX11_init_252 FLRX11_90 hT_43 (v := .ref (g + 350)) rfl ?_
  refine v_alenI hx DX11_init_255 hR350_43 (by decide) (z := 5) rfl ?_
  refine v_icmp_ge hx DX11_init_256 (by decide) (by decide) (fun c256 => ?_) (fun c256 => ?_)
  · exact absurd c256 (by decide)
  refine v_aload hx DX11_init_259 1 rfl ?_
  refine v_get hx DX11_init_260 FLRX11_90 hT_43 (v := .ref (g + 350)) rfl ?_
  refine v_iload hx DX11_init_263 0 rfl ?_
  refine v_nw (e' := g + 381) (cs' := (380, 10037)) hx DX11_init_264 DX11_init_267 DX11_init_268 NWRX11_88 CIRX11_94 (by omega) Z43 (fun _ h1 h2 h3 => k_X1 l G h1 h2 h3) (Nat.le_of_ble_eq_true rfl) (by decide) rfl ⟨Nat.le_of_ble_eq_true rfl, Nat.le_of_ble_eq_true rfl⟩ (fun L44 m44 s44 Z44 r44 => ?_)
  have hT_44 : L44 (g) = some (.inl (11, [some (.ref (g + 1)), some (.ref (g + 4)), some (.ref (g + 24)), some (.ref (g + 27)), none, some (.ref (g + 47)), some (.ref (g + 48)), some (.ref (g + 65)), some (.ref (g + 82)), some (.ref (g + 163)), some (.ref (g + 244)), some (.ref (g + 263)), some (.ref (g + 348)), some (.ref (g + 350)), some (.ref (g + 351)), some (.ref (g + 356)), some (.ref (g + 361)), some (.ref (g + 366))])) := (s44 (g) (by omega)).1.trans hT_43
  have wT_44 : m44.1 (g) = rw1 (z0) 4 0 := (s44 (g) (by omega)).2.1.trans wT_43
  have hR47_44 : L44 (g + 47) = some (.inr (5, 4, [some (g + 368), some (g + 370), some (g + 372), some (g + 374)])) := (s44 (g + 47) (by omega)).1.trans hA43
  have hR350_44 : L44 (g + 350) = some (.inr (4, 5, [none, none, none, none, none])) := (s44 (g + 350) (by omega)).1.trans hR350_43
  refine v_aast (i := 0) (rs' := [some (g + 376), none, none, none, none]) hx DX11_init_271 hR350_44 (by decide) rfl r44.1.1 rfl (by decide) (by decide) rfl rfl Z44 (by omega) (fun L45 hA45 s45 Z45 => ?_)
  have hT_45 : L45 (g) = some (.inl (11, [some (.ref (g + 1)), some (.ref (g + 4)), some (.ref (g + 24)), some (.ref (g + 27)), none, some (.ref (g + 47)), some (.ref (g + 48)), some (.ref (g + 65)), some (.ref (g + 82)), some (.ref (g + 163)), some (.ref (g + 244)), some (.ref (g + 263)), some (.ref (g + 348)), some (.ref (g + 350)), some (.ref (g + 351)), some (.ref (g + 356)), some (.ref (g + 361)), some (.ref (g + 366))])) := (s45 (g) (by omega)).1.trans hT_44
  have wT_45 : m44.1 (g) = rw1 (z0) 4 0 := (s45 (g) (by omega)).2.1.trans wT_44
  have hR47_45 : L45 (g + 47) = some (.inr (5, 4, [some (g + 368), some (g + 370), some (g + 372), some (g + 374)])) := (s45 (g + 47) (by omega)).1.trans hR47_44
  refine v_iinc hx DX11_init_272 0 rfl [(1, iv 1), (0, .ref g)] rfl (by decide) ?_
  refine v_goto hx DX11_init_275 ?_
  refine v_iload hx DX11_init_250 0 rfl ?_
  refine v_aload hx DX11_init_251 1 rfl ?_
  refine v_get hx DX11_init_252 FLRX11_90 hT_45 (v := .ref (g + 350)) rfl ?_
  refine v_alenI hx DX11_init_255 hA45 (by decide) (z := 5) rfl ?_
  refine v_icmp_ge hx DX11_init_256 (by decide) (by decide) (fun c256 => ?_) (fun c256 => ?_)
  · exact absurd c256 (by decide)
  refine v_aload hx DX11_init_259 1 rfl ?_
  refine v_get hx DX11_init_260 FLRX11_90 hT_45 (v := .ref (g + 350)) rfl ?_
  refine v_iload hx DX11_init_263 0 rfl ?_
  refine v_nw (e' := g + 386) (cs' := (385, 10139)) hx DX11_init_264 DX11_init_267 DX11_init_268 NWRX11_88 CIRX11_94 (by omega) Z45 (fun _ h1 h2 h3 => k_X1 l G h1 h2 h3) (Nat.le_of_ble_eq_true rfl) (by decide) rfl ⟨Nat.le_of_ble_eq_true rfl, Nat.le_of_ble_eq_true rfl⟩ (fun L46 m46 s46 Z46 r46 => ?_)
  have hT_46 : L46 (g) = some (.inl (11, [some (.ref (g + 1)), some (.ref (g + 4)), some (.ref (g + 24)), some (.ref (g + 27)), none, some (.ref (g + 47)), some (.ref (g + 48)), some (.ref (g + 65)), some (.ref (g + 82)), some (.ref (g + 163)), some (.ref (g + 244)), some (.ref (g + 263)), some (.ref (g + 348)), some (.ref (g + 350)), some (.ref (g + 351)), some (.ref (g + 356)), some (.ref (g + 361)), some (.ref (g + 366))])) := (s46 (g) (by omega)).1.trans hT_45
  have wT_46 : m46.1 (g) = rw1 (z0) 4 0 := (s46 (g) (by omega)).2.1.trans wT_45
  have hR47_46 : L46 (g + 47) = some (.inr (5, 4, [some (g + 368), some (g + 370), some (g + 372), some (g + 374)])) := (s46 (g + 47) (by omega)).1.trans hR47_45
  have hR350_46 : L46 (g + 350) = some (.inr (4, 5, [some (g + 376), none, none, none, none])) := (s46 (g + 350) (by omega)).1.trans hA45
  refine v_aast (i := 1) (rs' := [some (g + 376), some (g + 381), none, none, none]) hx DX11_init_271 hR350_46 (by decide) rfl r46.1.1 rfl (by decide) (by decide) rfl rfl Z46 (by omega) (fun L47 hA47 s47 Z47 => ?_)
  have hT_47 : L47 (g) = some (.inl (11, [some (.ref (g + 1)), some (.ref (g + 4)), some (.ref (g + 24)), some (.ref (g + 27)), none, some (.ref (g + 47)), some (.ref (g + 48)), some (.ref (g + 65)), some (.ref (g + 82)), some (.ref (g + 163)), some (.ref (g + 244)), some (.ref (g + 263)), some (.ref (g + 348)), some (.ref (g + 350)), some (.ref (g + 351)), some (.ref (g + 356)), some (.ref (g + 361)), some (.ref (g + 366))])) := (s47 (g) (by omega)).1.trans hT_46
  have wT_47 : m46.1 (g) = rw1 (z0) 4 0 := (s47 (g) (by omega)).2.1.trans wT_46
  have hR47_47 : L47 (g + 47) = some (.inr (5, 4, [some (g + 368), some (g + 370), some (g + 372), some (g + 374)])) := (s47 (g + 47) (by omega)).1.trans hR47_46
  refine v_iinc hx DX11_init_272 0 rfl [(1, iv 2), (0, .ref g)] rfl (by decide) ?_
  refine v_goto hx DX11_init_275 ?_
  refine v_iload hx DX11_init_250 0 rfl ?_
  refine v_aload hx DX11_init_251 1 rfl ?_
  refine v_get hx DX11_init_252 FLRX11_90 hT_47 (v := .ref (g + 350)) rfl ?_
  refine v_alenI hx DX11_init_255 hA47 (by decide) (z := 5) rfl ?_
  refine v_icmp_ge hx DX11_init_256 (by decide) (by decide) (fun c256 => ?_) (fun c256 => ?_)
  · exact absurd c256 (by decide)
  refine v_aload hx DX11_init_259 1 rfl ?_
  refine v_get hx DX11_init_260 FLRX11_90 hT_47 (v := .ref (g + 350)) rfl ?_
  refine v_iload hx DX11_init_263 0 rfl ?_
  refine v_nw (e' := g + 391) (cs' := (390, 10241)) hx DX11_init_264 DX11_init_267 DX11_init_268 NWRX11_88 CIRX11_94 (by omega) Z47 (fun _ h1 h2 h3 => k_X1 l G h1 h2 h3) (Nat.le_of_ble_eq_true rfl) (by decide) rfl ⟨Nat.le_of_ble_eq_true rfl, Nat.le_of_ble_eq_true rfl⟩ (fun L48 m48 s48 Z48 r48 => ?_)
  have hT_48 : L48 (g) = some (.inl (11, [some (.ref (g + 1)), some (.ref (g + 4)), some (.ref (g + 24)), some (.ref (g + 27)), none, some (.ref (g + 47)), some (.ref (g + 48)), some (.ref (g + 65)), some (.ref (g + 82)), some (.ref (g + 163)), some (.ref (g + 244)), some (.ref (g + 263)), some (.ref (g + 348)), some (.ref (g + 350)), some (.ref (g + 351)), some (.ref (g + 356)), some (.ref (g + 361)), some (.ref (g + 366))])) := (s48 (g) (by omega)).1.trans hT_47
  have wT_48 : m48.1 (g) = rw1 (z0) 4 0 := (s48 (g) (by omega)).2.1.trans wT_47
  have hR47_48 : L48 (g + 47) = some (.inr (5, 4, [some (g + 368), some (g + 370), some (g + 372), some (g + 374)])) := (s48 (g + 47) (by omega)).1.trans hR47_47
  have hR350_48 : L48 (g + 350) = some (.inr (4, 5, [some (g + 376), some (g + 381), none, none, none])) := (s48 (g + 350) (by omega)).1.trans hA47
  refine v_aast (i := 2) (rs' := [some (g + 376), some (g + 381), some (g + 386), none, none]) hx DX11_init_271 hR350_48 (by decide) rfl r48.1.1 rfl (by decide) (by decide) rfl rfl Z48 (by omega) (fun L49 hA49 s49 Z49 => ?_)
  have hT_49 : L49 (g) = some (.inl (11, [some (.ref (g + 1)), some (.ref (g + 4)), some (.ref (g + 24)), some (.ref (g + 27)), none, some (.ref (g + 47)), some (.ref (g + 48)), some (.ref (g + 65)), some (.ref (g + 82)), some (.ref (g + 163)), some (.ref (g + 244)), some (.ref (g + 263)), some (.ref (g + 348)), some (.ref (g + 350)), some (.ref (g + 351)), some (.ref (g + 356)), some (.ref (g + 361)), some (.ref (g + 366))])) := (s49 (g) (by omega)).1.trans hT_48
  have wT_49 : m48.1 (g) = rw1 (z0) 4 0 := (s49 (g) (by omega)).2.1.trans wT_48
  have hR47_49 : L49 (g + 47) = some (.inr (5, 4, [some (g + 368), some (g + 370), some (g + 372), some (g + 374)])) := (s49 (g + 47) (by omega)).1.trans hR47_48
  refine v_iinc hx DX11_init_272 0 rfl [(1, iv 3), (0, .ref g)] rfl (by decide) ?_
  refine v_goto hx DX11_init_275 ?_
  refine v_iload hx DX11_init_250 0 rfl ?_
  refine v_aload hx DX11_init_251 1 rfl ?_
  refine v_get hx DX11_init_252 FLRX11_90 hT_49 (v := .ref (g + 350)) rfl ?_
  refine v_alenI hx DX11_init_255 hA49 (by decide) (z := 5) rfl ?_
  refine v_icmp_ge hx DX11_init_256 (by decide) (by decide) (fun c256 => ?_) (fun c256 => ?_)
  · exact absurd c256 (by decide)
  refine v_aload hx DX11_init_259 1 rfl ?_
  refine v_get hx DX11_init_260 FLRX11_90 hT_49 (v := .ref (g + 350)) rfl ?_
  refine v_iload hx DX11_init_263 0 rfl ?_
  refine v_nw (e' := g + 396) (cs' := (395, 10343)) hx DX11_init_264 DX11_init_267 DX11_init_268 NWRX11_88 CIRX11_94 (by omega) Z49 (fun _ h1 h2 h3 => k_X1 l G h1 h2 h3) (Nat.le_of_ble_eq_true rfl) (by decide) rfl ⟨Nat.le_of_ble_eq_true rfl, Nat.le_of_ble_eq_true rfl⟩ (fun L50 m50 s50 Z50 r50 => ?_)
  have hT_50 : L50 (g) = some (.inl (11, [some (.ref (g + 1)), some (.ref (g + 4)), some (.ref (g + 24)), some (.ref (g + 27)), none, some (.ref (g + 47)), some (.ref (g + 48)), some (.ref (g + 65)), some (.ref (g + 82)), some (.ref (g + 163)), some (.ref (g + 244)), some (.ref (g + 263)), some (.ref (g + 348)), some (.ref (g + 350)), some (.ref (g + 351)), some (.ref (g + 356)), some (.ref (g + 361)), some (.ref (g + 366))])) := (s50 (g) (by omega)).1.trans hT_49
  have wT_50 : m50.1 (g) = rw1 (z0) 4 0 := (s50 (g) (by omega)).2.1.trans wT_49
  have hR47_50 : L50 (g + 47) = some (.inr (5, 4, [some (g + 368), some (g + 370), some (g + 372), some (g + 374)])) := (s50 (g + 47) (by omega)).1.trans hR47_49
  have hR350_50 : L50 (g + 350) = some (.inr (4, 5, [some (g + 376), some (g + 381), some (g + 386), none, none])) := (s50 (g + 350) (by omega)).1.trans hA49
  refine v_aast (i := 3) (rs' := [some (g + 376), some (g + 381), some (g + 386), some (g + 391), none]) hx DX11_init_271 hR350_50 (by decide) rfl r50.1.1 rfl (by decide) (by decide) rfl rfl Z50 (by omega) (fun L51 hA51 s51 Z51 => ?_)
  have hT_51 : L51 (g) = some (.inl (11, [some (.ref (g + 1)), some (.ref (g + 4)), some (.ref (g + 24)), some (.ref (g + 27)), none, some (.ref (g + 47)), some (.ref (g + 48)), some (.ref (g + 65)), some (.ref (g + 82)), some (.ref (g + 163)), some (.ref (g + 244)), some (.ref (g + 263)), some (.ref (g + 348)), some (.ref (g + 350)), some (.ref (g + 351)), some (.ref (g + 356)), some (.ref (g + 361)), some (.ref (g + 366))])) := (s51 (g) (by omega)).1.trans hT_50
  have wT_51 : m50.1 (g) = rw1 (z0) 4 0 := (s51 (g) (by omega)).2.1.trans wT_50
  have hR47_51 : L51 (g + 47) = some (.inr (5, 4, [some (g + 368), some (g + 370), some (g + 372), some (g + 374)])) := (s51 (g + 47) (by omega)).1.trans hR47_50
  refine v_iinc hx DX11_init_272 0 rfl [(1, iv 4), (0, .ref g)] rfl (by decide) ?_
  refine v_goto hx DX11_init_275 ?_
  refine v_iload hx DX11_init_250 0 rfl ?_
  refine v_aload hx DX11_init_251 1 rfl ?_
  refine v_get hx DX11_init_252 FLRX11_90 hT_51 (v := .ref (g + 350)) rfl ?_
  refine v_alenI hx DX11_init_255 hA51 (by decide) (z := 5) rfl ?_
  refine v_icmp_ge hx DX11_init_256 (by decide) (by decide) (fun c256 => ?_) (fun c256 => ?_)
  · exact absurd c256 (by decide)
  refine v_aload hx DX11_init_259 1 rfl ?_
  refine v_get hx DX11_init_260 FLRX11_90 hT_51 (v := .ref (g + 350)) rfl ?_
  refine v_iload hx DX11_init_263 0 rfl ?_
  refine v_nw (e' := g + 401) (cs' := (400, 10445)) hx DX11_init_264 DX11_init_267 DX11_init_268 NWRX11_88 CIRX11_94 (by omega) Z51 (fun _ h1 h2 h3 => k_X1 l G h1 h2 h3) (Nat.le_of_ble_eq_true rfl) (by decide) rfl ⟨Nat.le_of_ble_eq_true rfl, Nat.le_of_ble_eq_true rfl⟩ (fun L52 m52 s52 Z52 r52 => ?_)
  have hT_52 : L52 (g) = some (.inl (11, [some (.ref (g + 1)), some (.ref (g + 4)), some (.ref (g + 24)), some (.ref (g + 27)), none, some (.ref (g + 47)), some (.ref (g + 48)), some (.ref (g + 65)), some (.ref (g + 82)), some (.ref (g + 163)), some (.ref (g + 244)), some (.ref (g + 263)), some (.ref (g + 348)), some (.ref (g + 350)), some (.ref (g + 351)), some (.ref (g + 356)), some (.ref (g + 361)), some (.ref (g + 366))])) := (s52 (g) (by omega)).1.trans hT_51
  have wT_52 : m52.1 (g) = rw1 (z0) 4 0 := (s52 (g) (by omega)).2.1.trans wT_51
  have hR47_52 : L52 (g + 47) = some (.inr (5, 4, [some (g + 368), some (g + 370), some (g + 372), some (g + 374)])) := (s52 (g + 47) (by omega)).1.trans hR47_51
  have hR350_52 : L52 (g + 350) = some (.inr (4, 5, [some (g + 376), some (g + 381), some (g + 386), some (g + 391), none])) := (s52 (g + 350) (by omega)).1.trans hA51
  refine v_aast (i := 4) (rs' := [some (g + 376), some (g + 381), some (g + 386), some (g + 391), some (g + 396)]) hx DX11_init_271 hR350_52 (by decide) rfl r52.1.1 rfl (by decide) (by decide) rfl rfl Z52 (by omega) (fun L53 hA53 s53 Z53 => ?_)
  have hT_53 : L53 (g) = some (.inl (11, [some (.ref (g + 1)), some (.ref (g + 4)), some (.ref (g + 24)), some (.ref (g + 27)), none, some (.ref (g + 47)), some (.ref (g + 48)), some (.ref (g + 65)), some (.ref (g + 82)), some (.ref (g + 163)), some (.ref (g + 244)), some (.ref (g + 263)), some (.ref (g + 348)), some (.ref (g + 350)), some (.ref (g + 351)), some (.ref (g + 356)), some (.ref (g + 361)), some (.ref (g + 366))])) := (s53 (g) (by omega)).1.trans hT_52
  have wT_53 : m52.1 (g) = rw1 (z0) 4 0 := (s53 (g) (by omega)).2.1.trans wT_52
  have hR47_53 : L53 (g + 47) = some (.inr (5, 4, [some (g + 368), some (g + 370), some (g + 372), some (g + 374)])) := (s53 (g + 47) (by omega)).1.trans hR47_52
  refine v_iinc hx DX11_init_272 0 rfl [(1, iv 5), (0, .ref g)] rfl (by decide) ?_
  refine v_goto hx DX11_init_275 ?_
  refine v_iload hx DX11_init_250 0 rfl ?_
  refine v_aload hx DX11_init_251 1 rfl ?_
  refine v_get hx DX11_init_252 FLRX11_90 hT_53 (v := .ref (g + 350)) rfl ?_
  refine v_alenI hx DX11_init_255 hA53 (by decide) (z := 5) rfl ?_
  refine v_icmp_ge hx DX11_init_256 (by decide) (by decide) (fun c256 => ?_) (fun c256 => ?_)
  rotate_left
  · exact absurd c256 (by decide)
  have S53 : ∀ a, a < g + 401 → a ≠ g → a ≠ g + 47 → a ≠ g + 350 → SmA L53 m52 L53 m52 a := fun a _ _ _ _ => SmA.rf
  have S52 : ∀ a, a < g + 401 → a ≠ g → a ≠ g + 47 → a ≠ g + 350 → SmA L52 m52 L53 m52 a := fun a h0 q0 q47 q350 => (s53 a (by omega)).trans (S53 a (by omega) q0 q47 q350)
  have S51 : ∀ a, a < g + 396 → a ≠ g → a ≠ g + 47 → a ≠ g + 350 → SmA L51 m50 L53 m52 a := fun a h0 q0 q47 q350 => (s52 a (by omega)).trans (S52 a (by omega) q0 q47 q350)
  have S50 : ∀ a, a < g + 396 → a ≠ g → a ≠ g + 47 → a ≠ g + 350 → SmA L50 m50 L53 m52 a := fun a h0 q0 q47 q350 => (s51 a (by omega)).trans (S51 a (by omega) q0 q47 q350)
  have S49 : ∀ a, a < g + 391 → a ≠ g → a ≠ g + 47 → a ≠ g + 350 → SmA L49 m48 L53 m52 a := fun a h0 q0 q47 q350 => (s50 a (by omega)).trans (S50 a (by omega) q0 q47 q350)
  have S48 : ∀ a, a < g + 391 → a ≠ g → a ≠ g + 47 → a ≠ g + 350 → SmA L48 m48 L53 m52 a := fun a h0 q0 q47 q350 => (s49 a (by omega)).trans (S49 a (by omega) q0 q47 q350)
  have S47 : ∀ a, a < g + 386 → a ≠ g → a ≠ g + 47 → a ≠ g + 350 → SmA L47 m46 L53 m52 a := fun a h0 q0 q47 q350 => (s48 a (by omega)).trans (S48 a (by omega) q0 q47 q350)
  have S46 : ∀ a, a < g + 386 → a ≠ g → a ≠ g + 47 → a ≠ g + 350 → SmA L46 m46 L53 m52 a := fun a h0 q0 q47 q350 => (s47 a (by omega)).trans (S47 a (by omega) q0 q47 q350)
  have S45 : ∀ a, a < g + 381 → a ≠ g → a ≠ g + 47 → a ≠ g + 350 → SmA L45 m44 L53 m52 a := fun a h0 q0 q47 q350 => (s46 a (by omega)).trans (S46 a (by omega) q0 q47 q350)
  have S44 : ∀ a, a < g + 381 → a ≠ g → a ≠ g + 47 → a ≠ g + 350 → SmA L44 m44 L53 m52 a := fun a h0 q0 q47 q350 => (s45 a (by omega)).trans (S45 a (by omega) q0 q47 q350)
  have S43 : ∀ a, a < g + 376 → a ≠ g → a ≠ g + 47 → a ≠ g + 350 → SmA L43 m42 L53 m52 a := fun a h0 q0 q47 q350 => (s44 a (by omega)).trans (S44 a (by omega) q0 q47 q350)
  have S42 : ∀ a, a < g + 376 → a ≠ g → a ≠ g + 47 → a ≠ g + 350 → SmA L42 m42 L53 m52 a := fun a h0 q0 q47 q350 => (s43 a (by omega)).trans (S43 a (by omega) q0 q47 q350)
  have S41 : ∀ a, a < g + 374 → a ≠ g → a ≠ g + 47 → a ≠ g + 350 → SmA L41 m40 L53 m52 a := fun a h0 q0 q47 q350 => (s42 a (by omega)).trans (S42 a (by omega) q0 q47 q350)
  have S40 : ∀ a, a < g + 374 → a ≠ g → a ≠ g + 47 → a ≠ g + 350 → SmA L40 m40 L53 m52 a := fun a h0 q0 q47 q350 => (s41 a (by omega)).trans (S41 a (by omega) q0 q47 q350)
  have S39 : ∀ a, a < g + 372 → a ≠ g → a ≠ g + 47 → a ≠ g + 350 → SmA L39 m38 L53 m52 a := fun a h0 q0 q47 q350 => (s40 a (by omega)).trans (S40 a (by omega) q0 q47 q350)
  have S38 : ∀ a, a < g + 372 → a ≠ g → a ≠ g + 47 → a ≠ g + 350 → SmA L38 m38 L53 m52 a := fun a h0 q0 q47 q350 => (s39 a (by omega)).trans (S39 a (by omega) q0 q47 q350)
  have S37 : ∀ a, a < g + 370 → a ≠ g → a ≠ g + 47 → a ≠ g + 350 → SmA L37 m36 L53 m52 a := fun a h0 q0 q47 q350 => (s38 a (by omega)).trans (S38 a (by omega) q0 q47 q350)
  have S36 : ∀ a, a < g + 370 → a ≠ g → a ≠ g + 47 → a ≠ g + 350 → SmA L36 m36 L53 m52 a := fun a h0 q0 q47 q350 => (s37 a (by omega)).trans (S37 a (by omega) q0 q47 q350)
  have S35 : ∀ a, a < g + 368 → a ≠ g → a ≠ g + 47 → a ≠ g + 350 → SmA L35 m34 L53 m52 a := fun a h0 q0 q47 q350 => (s36 a (by omega)).trans (S36 a (by omega) q0 q47 q350)
  have S34 : ∀ a, a < g + 368 → a ≠ g → a ≠ g + 47 → a ≠ g + 350 → SmA L34 m34 L53 m52 a := fun a h0 q0 q47 q350 => (s35 a (by omega)).trans (S35 a (by omega) q0 q47 q350)
  have S33 : ∀ a, a < g + 366 → a ≠ g → a ≠ g + 47 → a ≠ g + 350 → SmA L33 m32 L53 m52 a := fun a h0 q0 q47 q350 => (s34 a (by omega)).trans (S34 a (by omega) q0 q47 q350)
  have S32 : ∀ a, a < g + 366 → a ≠ g → a ≠ g + 47 → a ≠ g + 350 → SmA L32 m32 L53 m52 a := fun a h0 q0 q47 q350 => (s33 a (by omega)).trans (S33 a (by omega) q0 q47 q350)
  have S31 : ∀ a, a < g + 361 → a ≠ g → a ≠ g + 47 → a ≠ g + 350 → SmA L31 m30 L53 m52 a := fun a h0 q0 q47 q350 => (s32 a (by omega)).trans (S32 a (by omega) q0 q47 q350)
  have S30 : ∀ a, a < g + 361 → a ≠ g → a ≠ g + 47 → a ≠ g + 350 → SmA L30 m30 L53 m52 a := fun a h0 q0 q47 q350 => (s31 a (by omega)).trans (S31 a (by omega) q0 q47 q350)
  have S29 : ∀ a, a < g + 356 → a ≠ g → a ≠ g + 47 → a ≠ g + 350 → SmA L29 m28 L53 m52 a := fun a h0 q0 q47 q350 => (s30 a (by omega)).trans (S30 a (by omega) q0 q47 q350)
  have S28 : ∀ a, a < g + 356 → a ≠ g → a ≠ g + 47 → a ≠ g + 350 → SmA L28 m28 L53 m52 a := fun a h0 q0 q47 q350 => (s29 a (by omega)).trans (S29 a (by omega) q0 q47 q350)
  have S27 : ∀ a, a < g + 351 → a ≠ g → a ≠ g + 47 → a ≠ g + 350 → SmA L27 m24 L53 m52 a := fun a h0 q0 q47 q350 => (s28 a (by omega)).trans (S28 a (by omega) q0 q47 q350)
  have S26 : ∀ a, a < g + 351 → a ≠ g → a ≠ g + 47 → a ≠ g + 350 → SmA L26 m24 L53 m52 a := fun a h0 q0 q47 q350 => (s27 a (by omega)).trans (S27 a (by omega) q0 q47 q350)
  have S25 : ∀ a, a < g + 350 → a ≠ g → a ≠ g + 47 → a ≠ g + 350 → SmA L25 m24 L53 m52 a := fun a h0 q0 q47 q350 => (s26 a (by omega)).trans (S26 a (by omega) q0 q47 q350)
  have S24 : ∀ a, a < g + 350 → a ≠ g → a ≠ g + 47 → a ≠ g + 350 → SmA L24 m24 L53 m52 a := fun a h0 q0 q47 q350 => (s25 a (by omega)).trans (S25 a (by omega) q0 q47 q350)
  have S23 : ∀ a, a < g + 348 → a ≠ g → a ≠ g + 47 → a ≠ g + 350 → SmA L23 m22 L53 m52 a := fun a h0 q0 q47 q350 => (s24 a (by omega)).trans (S24 a (by omega) q0 q47 q350)
  have S22 : ∀ a, a < g + 348 → a ≠ g → a ≠ g + 47 → a ≠ g + 350 → SmA L22 m22 L53 m52 a := fun a h0 q0 q47 q350 => (s23 a (by omega)).trans (S23 a (by omega) q0 q47 q350)
  have S21 : ∀ a, a < g + 263 → a ≠ g → a ≠ g + 47 → a ≠ g + 350 → SmA L21 m20 L53 m52 a := fun a h0 q0 q47 q350 => (s22 a (by omega)).trans (S22 a (by omega) q0 q47 q350)
  have S20 : ∀ a, a < g + 263 → a ≠ g → a ≠ g + 47 → a ≠ g + 350 → SmA L20 m20 L53 m52 a := fun a h0 q0 q47 q350 => (s21 a (by omega)).trans (S21 a (by omega) q0 q47 q350)
  have S19 : ∀ a, a < g + 244 → a ≠ g → a ≠ g + 47 → a ≠ g + 350 → SmA L19 m18 L53 m52 a := fun a h0 q0 q47 q350 => (s20 a (by omega)).trans (S20 a (by omega) q0 q47 q350)
  have S18 : ∀ a, a < g + 244 → a ≠ g → a ≠ g + 47 → a ≠ g + 350 → SmA L18 m18 L53 m52 a := fun a h0 q0 q47 q350 => (s19 a (by omega)).trans (S19 a (by omega) q0 q47 q350)
  have S17 : ∀ a, a < g + 163 → a ≠ g → a ≠ g + 47 → a ≠ g + 350 → SmA L17 m16 L53 m52 a := fun a h0 q0 q47 q350 => (s18 a (by omega)).trans (S18 a (by omega) q0 q47 q350)
  have S16 : ∀ a, a < g + 163 → a ≠ g → a ≠ g + 47 → a ≠ g + 350 → SmA L16 m16 L53 m52 a := fun a h0 q0 q47 q350 => (s17 a (by omega)).trans (S17 a (by omega) q0 q47 q350)
  have S15 : ∀ a, a < g + 82 → a ≠ g → a ≠ g + 47 → a ≠ g + 350 → SmA L15 m14 L53 m52 a := fun a h0 q0 q47 q350 => (s16 a (by omega)).trans (S16 a (by omega) q0 q47 q350)
  have S14 : ∀ a, a < g + 82 → a ≠ g → a ≠ g + 47 → a ≠ g + 350 → SmA L14 m14 L53 m52 a := fun a h0 q0 q47 q350 => (s15 a (by omega)).trans (S15 a (by omega) q0 q47 q350)
  have S13 : ∀ a, a < g + 65 → a ≠ g → a ≠ g + 47 → a ≠ g + 350 → SmA L13 m12 L53 m52 a := fun a h0 q0 q47 q350 => (s14 a (by omega)).trans (S14 a (by omega) q0 q47 q350)
  have S12 : ∀ a, a < g + 65 → a ≠ g → a ≠ g + 47 → a ≠ g + 350 → SmA L12 m12 L53 m52 a := fun a h0 q0 q47 q350 => (s13 a (by omega)).trans (S13 a (by omega) q0 q47 q350)
  have S11 : ∀ a, a < g + 48 → a ≠ g → a ≠ g + 47 → a ≠ g + 350 → SmA L11 m9 L53 m52 a := fun a h0 q0 q47 q350 => (s12 a (by omega)).trans (S12 a (by omega) q0 q47 q350)
  have S10 : ∀ a, a < g + 48 → a ≠ g → a ≠ g + 47 → a ≠ g + 350 → SmA L10 m9 L53 m52 a := fun a h0 q0 q47 q350 => (s11 a (by omega)).trans (S11 a (by omega) q0 q47 q350)
  have S9 : ∀ a, a < g + 47 → a ≠ g → a ≠ g + 47 → a ≠ g + 350 → SmA L8 m9 L53 m52 a := fun a h0 q0 q47 q350 => (s10 a (by omega)).trans (S10 a (by omega) q0 q47 q350)
  have S8 : ∀ a, a < g + 47 → a ≠ g → a ≠ g + 47 → a ≠ g + 350 → SmA L8 m7 L53 m52 a := fun a h0 q0 q47 q350 => (s9 a (by omega)).trans (S9 a (by omega) q0 q47 q350)
  have S7 : ∀ a, a < g + 47 → a ≠ g → a ≠ g + 47 → a ≠ g + 350 → SmA L7 m7 L53 m52 a := fun a h0 q0 q47 q350 => (s8 a (by omega)).trans (S8 a (by omega) q0 q47 q350)
  have S6 : ∀ a, a < g + 27 → a ≠ g → a ≠ g + 47 → a ≠ g + 350 → SmA L6 m5 L53 m52 a := fun a h0 q0 q47 q350 => (s7 a (by omega)).trans (S7 a (by omega) q0 q47 q350)
  have S5 : ∀ a, a < g + 27 → a ≠ g → a ≠ g + 47 → a ≠ g + 350 → SmA L5 m5 L53 m52 a := fun a h0 q0 q47 q350 => (s6 a (by omega)).trans (S6 a (by omega) q0 q47 q350)
  have S4 : ∀ a, a < g + 24 → a ≠ g → a ≠ g + 47 → a ≠ g + 350 → SmA L4 m3 L53 m52 a := fun a h0 q0 q47 q350 => (s5 a (by omega)).trans (S5 a (by omega) q0 q47 q350)
  have S3 : ∀ a, a < g + 24 → a ≠ g → a ≠ g + 47 → a ≠ g + 350 → SmA L3 m3 L53 m52 a := fun a h0 q0 q47 q350 => (s4 a (by omega)).trans (S4 a (by omega) q0 q47 q350)
  have S2 : ∀ a, a < g + 4 → a ≠ g → a ≠ g + 47 → a ≠ g + 350 → SmA L2 m1 L53 m52 a := fun a h0 q0 q47 q350 => (s3 a (by omega)).trans (S3 a (by omega) q0 q47 q350)
  have S1 : ∀ a, a < g + 4 → a ≠ g → a ≠ g + 47 → a ≠ g + 350 → SmA L1 m1 L53 m52 a := fun a h0 q0 q47 q350 => (s2 a (by omega)).trans (S2 a (by omega) q0 q47 q350)
  have S0 : ∀ a, a < g + 1 → a ≠ g → a ≠ g + 47 → a ≠ g + 350 → SmA Λ μ L53 m52 a := fun a h0 q0 q47 q350 => (s1 a (by omega)).trans (S1 a (by omega) q0 q47 q350)
  have F1 : OB (g + 1) L53 m52 := OB.lc _ _ _ _ (fun a h0 h1 => S1 a (by omega) (by omega) (by omega) (by omega)) r1
  have F4 : OH (g + 4) L53 m52 := OH.lc _ _ _ _ (fun a h0 h1 => S3 a (by omega) (by omega) (by omega) (by omega)) r3
  have F24 : OB (g + 24) L53 m52 := OB.lc _ _ _ _ (fun a h0 h1 => S5 a (by omega) (by omega) (by omega) (by omega)) r5
  have F27 : OH (g + 27) L53 m52 := OH.lc _ _ _ _ (fun a h0 h1 => S7 a (by omega) (by omega) (by omega) (by omega)) r7
  have F48 : OK (g + 48) L53 m52 := OK.lc _ _ _ _ (fun a h0 h1 => S12 a (by omega) (by omega) (by omega) (by omega)) r12
  have F65 : OS (g + 48) (g + 65) L53 m52 := OS.lc _ _ _ _ (fun a h0 h1 => S14 a (by omega) (by omega) (by omega) (by omega)) r14
  have F82 : OPt (g + 48) (g + 65) (g + 82) L53 m52 := OPt.lc _ _ _ _ (fun a h0 h1 => S16 a (by omega) (by omega) (by omega) (by omega)) r16
  have F163 : OPt (g + 48) (g + 65) (g + 163) L53 m52 := OPt.lc _ _ _ _ (fun a h0 h1 => S18 a (by omega) (by omega) (by omega) (by omega)) r18
  have F244 : ORes (g + 48) (g + 244) L53 m52 := ORes.lc _ _ _ _ (fun a h0 h1 => S20 a (by omega) (by omega) (by omega) (by omega)) r20
  have F263 : ORd (g + 48) (g + 263) L53 m52 := ORd.lc _ _ _ _ (fun a h0 h1 => S22 a (by omega) (by omega) (by omega) (by omega)) r22
  have F348 : OW (g + 348) L53 m52 := OW.lc _ _ _ _ (fun a h0 h1 => S24 a (by omega) (by omega) (by omega) (by omega)) r24
  have F351 : OF (g + 351) L53 m52 := OF.lc _ _ _ _ (fun a h0 h1 => S28 a (by omega) (by omega) (by omega) (by omega)) r28
  have F356 : OF (g + 356) L53 m52 := OF.lc _ _ _ _ (fun a h0 h1 => S30 a (by omega) (by omega) (by omega) (by omega)) r30
  have F361 : OF (g + 361) L53 m52 := OF.lc _ _ _ _ (fun a h0 h1 => S32 a (by omega) (by omega) (by omega) (by omega)) r32
  have F366 : OP (g + 366) L53 m52 := OP.lc _ _ _ _ (fun a h0 h1 => S34 a (by omega) (by omega) (by omega) (by omega)) r34
  have F368 : OSh (g + 368) L53 m52 := OSh.lc _ _ _ _ (fun a h0 h1 => S36 a (by omega) (by omega) (by omega) (by omega)) r36
  have F370 : OSh (g + 370) L53 m52 := OSh.lc _ _ _ _ (fun a h0 h1 => S38 a (by omega) (by omega) (by omega) (by omega)) r38
  have F372 : OSh (g + 372) L53 m52 := OSh.lc _ _ _ _ (fun a h0 h1 => S40 a (by omega) (by omega) (by omega) (by omega)) r40
  have F374 : OSh (g + 374) L53 m52 := OSh.lc _ _ _ _ (fun a h0 h1 => S42 a (by omega) (by omega) (by omega) (by omega)) r42
  have F376 : OF (g + 376) L53 m52 := OF.lc _ _ _ _ (fun a h0 h1 => S44 a (by omega) (by omega) (by omega) (by omega)) r44
  have F381 : OF (g + 381) L53 m52 := OF.lc _ _ _ _ (fun a h0 h1 => S46 a (by omega) (by omega) (by omega) (by omega)) r46
  have F386 : OF (g + 386) L53 m52 := OF.lc _ _ _ _ (fun a h0 h1 => S48 a (by omega) (by omega) (by omega) (by omega)) r48
  have F391 : OF (g + 391) L53 m52 := OF.lc _ _ _ _ (fun a h0 h1 => S50 a (by omega) (by omega) (by omega) (by omega)) r50
  have F396 : OF (g + 396) L53 m52 := OF.lc _ _ _ _ (fun a h0 h1 => S52 a (by omega) (by omega) (by omega) (by omega)) r52
  have RGA : Rg g (g + 401) L53 m52 := (((((((((((((((((((((((((((Rg.one (μ := m52) hT_53 (by decide)).app F1.2.1 (by omega)).app F4.2.1 (by omega)).app F24.2.1 (by omega)).app F27.2.1 (by omega)).app (Rg.arr (μ := m52) hR47_53) (by omega)).app F48.2 (by omega)).app F65.2 (by omega)).app F82.2 (by omega)).app F163.2 (by omega)).app F244.2 (by omega)).app F263.2.1 (by omega)).app F348.2.1 (by omega)).app (Rg.arr (μ := m52) hA53) (by omega)).app F351.2 (by omega)).app F356.2 (by omega)).app F361.2 (by omega)).app F366.rg (by omega)).app F368.2.1 (by omega)).app F370.2.1 (by omega)).app F372.2.1 (by omega)).app F374.2.1 (by omega)).app F376.2 (by omega)).app F381.2 (by omega)).app F386.2 (by omega)).app F391.2 (by omega)).app F396.2 (by omega))
  exact v_ret hx hBD DX11_init_278 ⟨rfl, rfl, fun a ha => S0 a (by omega) (by omega) (by omega) (by omega), Z53, ⟨⟨hT_53, hR47_53, hA53⟩, ⟨F1, F4, F24, F27⟩, ⟨F48, F65, F82, F163, F244, F263, F348⟩, ⟨F351, F356, F361, F366⟩, fun k hk => (match k, hk with | 0, _ => F368 | 1, _ => F370 | 2, _ => F372 | 3, _ => F374 | n + 4, h => absurd h (by omega)), fun k hk => (match k, hk with | 0, _ => F376 | 1, _ => F381 | 2, _ => F386 | 3, _ => F391 | 4, _ => F396 | n + 5, h => absurd h (by omega)), RGA, by rw [wT_53]; rfl⟩⟩
