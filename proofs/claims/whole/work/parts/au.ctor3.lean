/-! ===== constructors of History, Parts, Reader ===== -/
theorem ORes.lc {κ r : Nat} : Lc r (r + 19) (ORes κ r) := ((Lc.lay.wide (by omega) (by omega)).and ((Lc.poly.wide (by omega) (by omega)).and ((Lc.poly.wide (by omega) (by omega)).and ((Lc.poly.wide (by omega) (by omega)).and ((Lc.poly.wide (by omega) (by omega)).and ((Lc.poly.wide (by omega) (by omega)).and ((Lc.poly.wide (by omega) (by omega)).and ((Lc.poly.wide (by omega) (by omega)).and ((Lc.poly.wide (by omega) (by omega)).and (Lc.poly.wide (by omega) (by omega))))))))))).and Lc.rg
theorem Lc.poly6 {lo hi a b c d e f : Nat} (h : lo ≤ a ∧ lo ≤ b ∧ lo ≤ c ∧ lo ≤ d ∧ lo ≤ e ∧ lo ≤ f) (h' : a + 2 ≤ hi ∧ b + 2 ≤ hi ∧ c + 2 ≤ hi ∧ d + 2 ≤ hi ∧ e + 2 ≤ hi ∧ f + 2 ≤ hi) : Lc lo hi (fun Λ _ => polyK Λ a ∧ polyK Λ b ∧ polyK Λ c ∧ polyK Λ d ∧ polyK Λ e ∧ polyK Λ f) := (Lc.poly.wide (by omega) (by omega)).and ((Lc.poly.wide (by omega) (by omega)).and ((Lc.poly.wide (by omega) (by omega)).and ((Lc.poly.wide (by omega) (by omega)).and ((Lc.poly.wide (by omega) (by omega)).and (Lc.poly.wide (by omega) (by omega))))))
theorem OPt.lc {κ σ p : Nat} : Lc p (p + 81) (OPt κ σ p) := ((Lc.lay.wide (by omega) (by omega)).and ((Lc.lay.wide (by omega) (by omega)).and ((Lc.lay.wide (by omega) (by omega)).and ((Lc.lay.wide (by omega) (by omega)).and (((Lc.frac.wide (by omega) (by omega)).and (Lc.frac.wide (by omega) (by omega))).and ((Lc.poly6 (by omega) (by omega)).and ((Lc.all (fun k hk => Lc.frac.wide (by omega) (by omega))).and (Lc.all (fun k hk => Lc.frac.wide (by omega) (by omega)))))))))).and Lc.rg
theorem ORd.lc {κ r : Nat} : Lc r (r + 85) (ORd κ r) := ((Lc.lay.wide (by omega) (by omega)).and ((Lc.lay.wide (by omega) (by omega)).and ((Lc.lay.wide (by omega) (by omega)).and ((Lc.lay.wide (by omega) (by omega)).and ((Lc.lay.wide (by omega) (by omega)).and ((Lc.frac.wide (by omega) (by omega)).and (Lc.all (fun k hk => Lc.frac.wide (by omega) (by omega))))))))).and (Lc.rg.and (Lc.and (R := fun _ μ => TPA μ r []) (fun Λ Λ' μ μ' hs q => ⟨q.1, by rw [(hs r (by omega) (by omega)).2.1]; exact q.2.1, fun i hi => absurd hi (by simp), q.2.2.2⟩) (fun Λ Λ' μ μ' hs q => by rw [(hs r (by omega) (by omega)).2.1]; exact q)))
theorem k_X2 (l : Launch) (G : Gl) {Λ : Lay} {μ : Mem} {t : Nat} (hT : Λ t = some (.inl (2, [some .null, none, none]))) (hZ : Zr Λ μ (t + 1)) (hw : μ.1 t = z0) : SpN l G yX2_init cX2_init 2 none 2 19 1134 [.ref t] Λ (t + 1) μ (CT t (t + 20) Λ μ (OH t)) := by
  refine SpN.intro (by decide) (Nat.le_of_ble_eq_true rfl) (fun x hx hBD hin => ?_)
  refine v_lv [(0, .ref t)] rfl ?_
  refine v_gB hT (fun hg => ?_)
  refine v_aload hx DX2_init_0 0 rfl ?_
  refine v_objI hx DX2_init_1 mlRX2_3 (by decide) (Nat.le_of_ble_eq_true rfl) ?_
  refine v_aload hx DX2_init_4 0 rfl ?_
  refine v_push hx DX2_init_5 ?_
  refine v_newq (t := 3) (n := 6) (rs := [none, none, none, none, none, none]) (cs' := (1, 6)) hx DX2_init_7 (by decide) rfl clRX2_9 (fun U h => (KK.ao h).1) (by decide) rfl (by omega) hZ rfl ⟨Nat.le_of_ble_eq_true rfl, Nat.le_of_ble_eq_true rfl⟩ (fun L1 hA1 s1 Z1 => ?_)
  have hT_1 : L1 (t) = some (.inl (2, [some .null, none, none])) := (s1 (t) (by omega)).1.trans hT
  have wT_1 : μ.1 (t) = z0 := (s1 (t) (by omega)).2.1.trans hw
  refine v_putRo (fs' := [some (.ref (t + 1)), none, none]) hx hin DX2_init_10 FPRX2_11 hT_1 (Nat.le_of_ble_eq_true rfl) rfl rfl rfl Z1 (by omega) (fun L2 hP2 s2 Z2 => ?_)
  have hR1_2 : L2 (t + 1) = some (.inr (3, 6, [none, none, none, none, none, none])) := (s2 (t + 1) (by omega)).1.trans hA1
  refine v_aload hx DX2_init_13 0 rfl ?_
  refine v_push hx DX2_init_14 ?_
  refine v_putIo hx DX2_init_15 FPRX2_17 hP2 rfl wT_1 rfl Z2 (by omega) (fun m3 wT3 s3 Z3 => ?_)
  have wP3 : m3.1 t = rw1 (z0) 1 0 := wT3
  have hR1_3 : L2 (t + 1) = some (.inr (3, 6, [none, none, none, none, none, none])) := (s3 (t + 1) (by omega)).1.trans hR1_2
  refine v_aload hx DX2_init_18 0 rfl ?_
  refine v_push hx DX2_init_19 ?_
  refine v_putIo hx DX2_init_20 FPRX2_21 hP2 rfl wP3 rfl Z3 (by omega) (fun m4 wT4 s4 Z4 => ?_)
  have wP4 : m4.1 t = rw1 (rw1 (z0) 1 0) 2 0 := wT4
  have hR1_4 : L2 (t + 1) = some (.inr (3, 6, [none, none, none, none, none, none])) := (s4 (t + 1) (by omega)).1.trans hR1_3
  refine v_push hx DX2_init_23 ?_
  refine v_istore hx DX2_init_24 [(1, iv 0), (0, .ref t)] rfl (by decide) ?_
  refine v_iload hx DX2_init_25 0 rfl ?_
  refine v_aload hx DX2_init_26 1 rfl ?_
  refine v_get hx DX2_init_27 FLRX2_11 hP2 (v := .ref (t + 1)) rfl ?_
  refine v_alenI hx DX2_init_30 hR1_4 (by decide) (z := 6) rfl ?_
  refine v_icmp_ge hx DX2_init_31 (by decide) (by decide) (fun c31 => ?_) (fun c31 => ?_)
  · exact absurd c31 (by decide)
  refine v_aload hx DX2_init_34 1 rfl ?_
  refine v_get hx DX2_init_35 FLRX2_11 hP2 (v := .ref (t + 1)) rfl ?_
  refine v_iload hx DX2_init_38 0 rfl ?_
  refine v_nw (e' := t + 5) (cs' := (4, 194)) hx DX2_init_39 DX2_init_42 DX2_init_43 NWRX2_9 CIRX2_24 (by omega) Z4 (fun _ h1 h2 h3 => k_X0 l G h1 h2 h3) (Nat.le_of_ble_eq_true rfl) (by decide) rfl ⟨Nat.le_of_ble_eq_true rfl, Nat.le_of_ble_eq_true rfl⟩ (fun L5 m5 s5 Z5 r5 => ?_)
  have hT_5 : L5 (t) = some (.inl (2, [some (.ref (t + 1)), none, none])) := (s5 (t) (by omega)).1.trans hP2
  have wT_5 : m5.1 (t) = rw1 (rw1 (z0) 1 0) 2 0 := (s5 (t) (by omega)).2.1.trans wP4
  have hR1_5 : L5 (t + 1) = some (.inr (3, 6, [none, none, none, none, none, none])) := (s5 (t + 1) (by omega)).1.trans hR1_4
  refine v_aast (i := 0) (rs' := [some (t + 2), none, none, none, none, none]) hx DX2_init_46 hR1_5 (by decide) rfl r5.1.1 rfl (by decide) (by decide) rfl rfl Z5 (by omega) (fun L6 hA6 s6 Z6 => ?_)
  have hT_6 : L6 (t) = some (.inl (2, [some (.ref (t + 1)), none, none])) := (s6 (t) (by omega)).1.trans hT_5
  have wT_6 : m5.1 (t) = rw1 (rw1 (z0) 1 0) 2 0 := (s6 (t) (by omega)).2.1.trans wT_5
  refine v_iinc hx DX2_init_47 0 rfl [(1, iv 1), (0, .ref t)] rfl (by decide) ?_
  refine v_goto hx DX2_init_50 ?_
  refine v_iload hx DX2_init_25 0 rfl ?_
  refine v_aload hx DX2_init_26 1 rfl ?_
  refine v_get hx DX2_init_27 FLRX2_11 hT_6 (v := .ref (t + 1)) rfl ?_
  refine v_alenI hx DX2_init_30 hA6 (by decide) (z := 6) rfl ?_
  refine v_icmp_ge hx DX2_init_31 (by decide) (by decide) (fun c31 => ?_) (fun c31 => ?_)
  · exact absurd c31 (by decide)
  refine v_aload hx DX2_init_34 1 rfl ?_
  refine v_get hx DX2_init_35 FLRX2_11 hT_6 (v := .ref (t + 1)) rfl ?_
  refine v_iload hx DX2_init_38 0 rfl ?_
  refine v_nw (e' := t + 8) (cs' := (7, 382)) hx DX2_init_39 DX2_init_42 DX2_init_43 NWRX2_9 CIRX2_24 (by omega) Z6 (fun _ h1 h2 h3 => k_X0 l G h1 h2 h3) (Nat.le_of_ble_eq_true rfl) (by decide) rfl ⟨Nat.le_of_ble_eq_true rfl, Nat.le_of_ble_eq_true rfl⟩ (fun L7 m7 s7 Z7 r7 => ?_)
  have hT_7 : L7 (t) = some (.inl (2, [some (.ref (t + 1)), none, none])) := (s7 (t) (by omega)).1.trans hT_6
  have wT_7 : m7.1 (t) = rw1 (rw1 (z0) 1 0) 2 0 := (s7 (t) (by omega)).2.1.trans wT_6
  have hR1_7 : L7 (t + 1) = some (.inr (3, 6, [some (t + 2), none, none, none, none, none])) := (s7 (t + 1) (by omega)).1.trans hA6
  refine v_aast (i := 1) (rs' := [some (t + 2), some (t + 5), none, none, none, none]) hx DX2_init_46 hR1_7 (by decide) rfl r7.1.1 rfl (by decide) (by decide) rfl rfl Z7 (by omega) (fun L8 hA8 s8 Z8 => ?_)
  have hT_8 : L8 (t) = some (.inl (2, [some (.ref (t + 1)), none, none])) := (s8 (t) (by omega)).1.trans hT_7
  have wT_8 : m7.1 (t) = rw1 (rw1 (z0) 1 0) 2 0 := (s8 (t) (by omega)).2.1.trans wT_7
  refine v_iinc hx DX2_init_47 0 rfl [(1, iv 2), (0, .ref t)] rfl (by decide) ?_
  refine v_goto hx DX2_init_50 ?_
  refine v_iload hx DX2_init_25 0 rfl ?_
  refine v_aload hx DX2_init_26 1 rfl ?_
  refine v_get hx DX2_init_27 FLRX2_11 hT_8 (v := .ref (t + 1)) rfl ?_
  refine v_alenI hx DX2_init_30 hA8 (by decide) (z := 6) rfl ?_
  refine v_icmp_ge hx DX2_init_31 (by decide) (by decide) (fun c31 => ?_) (fun c31 => ?_)
  · exact absurd c31 (by decide)
  refine v_aload hx DX2_init_34 1 rfl ?_
  refine v_get hx DX2_init_35 FLRX2_11 hT_8 (v := .ref (t + 1)) rfl ?_
  refine v_iload hx DX2_init_38 0 rfl ?_
  refine v_nw (e' := t + 11) (cs' := (10, 570)) hx DX2_init_39 DX2_init_42 DX2_init_43 NWRX2_9 CIRX2_24 (by omega) Z8 (fun _ h1 h2 h3 => k_X0 l G h1 h2 h3) (Nat.le_of_ble_eq_true rfl) (by decide) rfl ⟨Nat.le_of_ble_eq_true rfl, Nat.le_of_ble_eq_true rfl⟩ (fun L9 m9 s9 Z9 r9 => ?_)
  have hT_9 : L9 (t) = some (.inl (2, [some (.ref (t + 1)), none, none])) := (s9 (t) (by omega)).1.trans hT_8
  have wT_9 : m9.1 (t) = rw1 (rw1 (z0) 1 0) 2 0 := (s9 (t) (by omega)).2.1.trans wT_8
  have hR1_9 : L9 (t + 1) = some (.inr (3, 6, [some (t + 2), some (t + 5), none, none, none, none])) := (s9 (t + 1) (by omega)).1.trans hA8
  refine v_aast (i := 2) (rs' := [some (t + 2), some (t + 5), some (t + 8), none, none, none]) hx DX2_init_46 hR1_9 (by decide) rfl r9.1.1 rfl (by decide) (by decide) rfl rfl Z9 (by omega) (fun L10 hA10 s10 Z10 => ?_)
  have hT_10 : L10 (t) = some (.inl (2, [some (.ref (t + 1)), none, none])) := (s10 (t) (by omega)).1.trans hT_9
  have wT_10 : m9.1 (t) = rw1 (rw1 (z0) 1 0) 2 0 := (s10 (t) (by omega)).2.1.trans wT_9
  refine v_iinc hx DX2_init_47 0 rfl [(1, iv 3), (0, .ref t)] rfl (by decide) ?_
  refine v_goto hx DX2_init_50 ?_
  refine v_iload hx DX2_init_25 0 rfl ?_
  refine v_aload hx DX2_init_26 1 rfl ?_
  refine v_get hx DX2_init_27 FLRX2_11 hT_10 (v := .ref (t + 1)) rfl ?_
  refine v_alenI hx DX2_init_30 hA10 (by decide) (z := 6) rfl ?_
  refine v_icmp_ge hx DX2_init_31 (by decide) (by decide) (fun c31 => ?_) (fun c31 => ?_)
  · exact absurd c31 (by decide)
  refine v_aload hx DX2_init_34 1 rfl ?_
  refine v_get hx DX2_init_35 FLRX2_11 hT_10 (v := .ref (t + 1)) rfl ?_
  refine v_iload hx DX2_init_38 0 rfl ?_
  refine v_nw (e' := t + 14) (cs' := (13, 758)) hx DX2_init_39 DX2_init_42 DX2_init_43 NWRX2_9 CIRX2_24 (by omega) Z10 (fun _ h1 h2 h3 => k_X0 l G h1 h2 h3) (Nat.le_of_ble_eq_true rfl) (by decide) rfl ⟨Nat.le_of_ble_eq_true rfl, Nat.le_of_ble_eq_true rfl⟩ (fun L11 m11 s11 Z11 r11 => ?_)
  have hT_11 : L11 (t) = some (.inl (2, [some (.ref (t + 1)), none, none])) := (s11 (t) (by omega)).1.trans hT_10
  have wT_11 : m11.1 (t) = rw1 (rw1 (z0) 1 0) 2 0 := (s11 (t) (by omega)).2.1.trans wT_10
  have hR1_11 : L11 (t + 1) = some (.inr (3, 6, [some (t + 2), some (t + 5), some (t + 8), none, none, none])) := (s11 (t + 1) (by omega)).1.trans hA10
  refine v_aast (i := 3) (rs' := [some (t + 2), some (t + 5), some (t + 8), some (t + 11), none, none]) hx DX2_init_46 hR1_11 (by decide) rfl r11.1.1 rfl (by decide) (by decide) rfl rfl Z11 (by omega) (fun L12 hA12 s12 Z12 => ?_)
  have hT_12 : L12 (t) = some (.inl (2, [some (.ref (t + 1)), none, none])) := (s12 (t) (by omega)).1.trans hT_11
  have wT_12 : m11.1 (t) = rw1 (rw1 (z0) 1 0) 2 0 := (s12 (t) (by omega)).2.1.trans wT_11
  refine v_iinc hx DX2_init_47 0 rfl [(1, iv 4), (0, .ref t)] rfl (by decide) ?_
  refine v_goto hx DX2_init_50 ?_
  refine v_iload hx DX2_init_25 0 rfl ?_
  refine v_aload hx DX2_init_26 1 rfl ?_
  refine v_get hx DX2_init_27 FLRX2_11 hT_12 (v := .ref (t + 1)) rfl ?_
  refine v_alenI hx DX2_init_30 hA12 (by decide) (z := 6) rfl ?_
  refine v_icmp_ge hx DX2_init_31 (by decide) (by decide) (fun c31 => ?_) (fun c31 => ?_)
  · exact absurd c31 (by decide)
  refine v_aload hx DX2_init_34 1 rfl ?_
  refine v_get hx DX2_init_35 FLRX2_11 hT_12 (v := .ref (t + 1)) rfl ?_
  refine v_iload hx DX2_init_38 0 rfl ?_
  refine v_nw (e' := t + 17) (cs' := (16, 946)) hx DX2_init_39 DX2_init_42 DX2_init_43 NWRX2_9 CIRX2_24 (by omega) Z12 (fun _ h1 h2 h3 => k_X0 l G h1 h2 h3) (Nat.le_of_ble_eq_true rfl) (by decide) rfl ⟨Nat.le_of_ble_eq_true rfl, Nat.le_of_ble_eq_true rfl⟩ (fun L13 m13 s13 Z13 r13 => ?_)
  have hT_13 : L13 (t) = some (.inl (2, [some (.ref (t + 1)), none, none])) := (s13 (t) (by omega)).1.trans hT_12
  have wT_13 : m13.1 (t) = rw1 (rw1 (z0) 1 0) 2 0 := (s13 (t) (by omega)).2.1.trans wT_12
  have hR1_13 : L13 (t + 1) = some (.inr (3, 6, [some (t + 2), some (t + 5), some (t + 8), some (t + 11), none, none])) := (s13 (t + 1) (by omega)).1.trans hA12
  refine v_aast (i := 4) (rs' := [some (t + 2), some (t + 5), some (t + 8), some (t + 11), some (t + 14), none]) hx DX2_init_46 hR1_13 (by decide) rfl r13.1.1 rfl (by decide) (by decide) rfl rfl Z13 (by omega) (fun L14 hA14 s14 Z14 => ?_)
  have hT_14 : L14 (t) = some (.inl (2, [some (.ref (t + 1)), none, none])) := (s14 (t) (by omega)).1.trans hT_13
  have wT_14 : m13.1 (t) = rw1 (rw1 (z0) 1 0) 2 0 := (s14 (t) (by omega)).2.1.trans wT_13
  refine v_iinc hx DX2_init_47 0 rfl [(1, iv 5), (0, .ref t)] rfl (by decide) ?_
  refine v_goto hx DX2_init_50 ?_
  refine v_iload hx DX2_init_25 0 rfl ?_
  refine v_aload hx DX2_init_26 1 rfl ?_
  refine v_get hx DX2_init_27 FLRX2_11 hT_14 (v := .ref (t + 1)) rfl ?_
  refine v_alenI hx DX2_init_30 hA14 (by decide) (z := 6) rfl ?_
  refine v_icmp_ge hx DX2_init_31 (by decide) (by decide) (fun c31 => ?_) (fun c31 => ?_)
  · exact absurd c31 (by decide)
  refine v_aload hx DX2_init_34 1 rfl ?_
  refine v_get hx DX2_init_35 FLRX2_11 hT_14 (v := .ref (t + 1)) rfl ?_
  refine v_iload hx DX2_init_38 0 rfl ?_
  refine v_nw (e' := t + 20) (cs' := (19, 1134)) hx DX2_init_39 DX2_init_42 DX2_init_43 NWRX2_9 CIRX2_24 (by omega) Z14 (fun _ h1 h2 h3 => k_X0 l G h1 h2 h3) (Nat.le_of_ble_eq_true rfl) (by decide) rfl ⟨Nat.le_of_ble_eq_true rfl, Nat.le_of_ble_eq_true rfl⟩ (fun L15 m15 s15 Z15 r15 => ?_)
  have hT_15 : L15 (t) = some (.inl (2, [some (.ref (t + 1)), none, none])) := (s15 (t) (by omega)).1.trans hT_14
  have wT_15 : m15.1 (t) = rw1 (rw1 (z0) 1 0) 2 0 := (s15 (t) (by omega)).2.1.trans wT_14
  have hR1_15 : L15 (t + 1) = some (.inr (3, 6, [some (t + 2), some (t + 5), some (t + 8), some (t + 11), some (t + 14), none])) := (s15 (t + 1) (by omega)).1.trans hA14
  refine v_aast (i := 5) (rs' := [some (t + 2), some (t + 5), some (t + 8), some (t + 11), some (t + 14), some (t + 17)]) hx DX2_init_46 hR1_15 (by decide) rfl r15.1.1 rfl (by decide) (by decide) rfl rfl Z15 (by omega) (fun L16 hA16 s16 Z16 => ?_)
  have hT_16 : L16 (t) = some (.inl (2, [some (.ref (t + 1)), none, none])) := (s16 (t) (by omega)).1.trans hT_15
  have wT_16 : m15.1 (t) = rw1 (rw1 (z0) 1 0) 2 0 := (s16 (t) (by omega)).2.1.trans wT_15
  refine v_iinc hx DX2_init_47 0 rfl [(1, iv 6), (0, .ref t)] rfl (by decide) ?_
  refine v_goto hx DX2_init_50 ?_
  refine v_iload hx DX2_init_25 0 rfl ?_
  refine v_aload hx DX2_init_26 1 rfl ?_
  refine v_get hx DX2_init_27 FLRX2_11 hT_16 (v := .ref (t + 1)) rfl ?_
  refine v_alenI hx DX2_init_30 hA16 (by decide) (z := 6) rfl ?_
  refine v_icmp_ge hx DX2_init_31 (by decide) (by decide) (fun c31 => ?_) (fun c31 => ?_)
  rotate_left
  · exact absurd c31 (by decide)
  have S16 : ∀ a, a < t + 20 → a ≠ t → a ≠ t + 1 → SmA L16 m15 L16 m15 a := fun a _ _ _ => SmA.rf
  have S15 : ∀ a, a < t + 20 → a ≠ t → a ≠ t + 1 → SmA L15 m15 L16 m15 a := fun a h0 q0 q1 => (s16 a (by omega)).trans (S16 a (by omega) q0 q1)
  have S14 : ∀ a, a < t + 17 → a ≠ t → a ≠ t + 1 → SmA L14 m13 L16 m15 a := fun a h0 q0 q1 => (s15 a (by omega)).trans (S15 a (by omega) q0 q1)
  have S13 : ∀ a, a < t + 17 → a ≠ t → a ≠ t + 1 → SmA L13 m13 L16 m15 a := fun a h0 q0 q1 => (s14 a (by omega)).trans (S14 a (by omega) q0 q1)
  have S12 : ∀ a, a < t + 14 → a ≠ t → a ≠ t + 1 → SmA L12 m11 L16 m15 a := fun a h0 q0 q1 => (s13 a (by omega)).trans (S13 a (by omega) q0 q1)
  have S11 : ∀ a, a < t + 14 → a ≠ t → a ≠ t + 1 → SmA L11 m11 L16 m15 a := fun a h0 q0 q1 => (s12 a (by omega)).trans (S12 a (by omega) q0 q1)
  have S10 : ∀ a, a < t + 11 → a ≠ t → a ≠ t + 1 → SmA L10 m9 L16 m15 a := fun a h0 q0 q1 => (s11 a (by omega)).trans (S11 a (by omega) q0 q1)
  have S9 : ∀ a, a < t + 11 → a ≠ t → a ≠ t + 1 → SmA L9 m9 L16 m15 a := fun a h0 q0 q1 => (s10 a (by omega)).trans (S10 a (by omega) q0 q1)
  have S8 : ∀ a, a < t + 8 → a ≠ t → a ≠ t + 1 → SmA L8 m7 L16 m15 a := fun a h0 q0 q1 => (s9 a (by omega)).trans (S9 a (by omega) q0 q1)
  have S7 : ∀ a, a < t + 8 → a ≠ t → a ≠ t + 1 → SmA L7 m7 L16 m15 a := fun a h0 q0 q1 => (s8 a (by omega)).trans (S8 a (by omega) q0 q1)
  have S6 : ∀ a, a < t + 5 → a ≠ t → a ≠ t + 1 → SmA L6 m5 L16 m15 a := fun a h0 q0 q1 => (s7 a (by omega)).trans (S7 a (by omega) q0 q1)
  have S5 : ∀ a, a < t + 5 → a ≠ t → a ≠ t + 1 → SmA L5 m5 L16 m15 a := fun a h0 q0 q1 => (s6 a (by omega)).trans (S6 a (by omega) q0 q1)
  have S4 : ∀ a, a < t + 2 → a ≠ t → a ≠ t + 1 → SmA L2 m4 L16 m15 a := fun a h0 q0 q1 => (s5 a (by omega)).trans (S5 a (by omega) q0 q1)
  have S3 : ∀ a, a < t + 2 → a ≠ t → a ≠ t + 1 → SmA L2 m3 L16 m15 a := fun a h0 q0 q1 => (s4 a (by omega)).trans (S4 a (by omega) q0 q1)
  have S2 : ∀ a, a < t + 2 → a ≠ t → a ≠ t + 1 → SmA L2 μ L16 m15 a := fun a h0 q0 q1 => (s3 a (by omega)).trans (S3 a (by omega) q0 q1)
  have S1 : ∀ a, a < t + 2 → a ≠ t → a ≠ t + 1 → SmA L1 μ L16 m15 a := fun a h0 q0 q1 => (s2 a (by omega)).trans (S2 a (by omega) q0 q1)
  have S0 : ∀ a, a < t + 1 → a ≠ t → a ≠ t + 1 → SmA Λ μ L16 m15 a := fun a h0 q0 q1 => (s1 a (by omega)).trans (S1 a (by omega) q0 q1)
  have F2 : OB (t + 2) L16 m15 := OB.lc _ _ _ _ (fun a h0 h1 => S5 a (by omega) (by omega) (by omega)) r5
  have F5 : OB (t + 5) L16 m15 := OB.lc _ _ _ _ (fun a h0 h1 => S7 a (by omega) (by omega) (by omega)) r7
  have F8 : OB (t + 8) L16 m15 := OB.lc _ _ _ _ (fun a h0 h1 => S9 a (by omega) (by omega) (by omega)) r9
  have F11 : OB (t + 11) L16 m15 := OB.lc _ _ _ _ (fun a h0 h1 => S11 a (by omega) (by omega) (by omega)) r11
  have F14 : OB (t + 14) L16 m15 := OB.lc _ _ _ _ (fun a h0 h1 => S13 a (by omega) (by omega) (by omega)) r13
  have F17 : OB (t + 17) L16 m15 := OB.lc _ _ _ _ (fun a h0 h1 => S15 a (by omega) (by omega) (by omega)) r15
  have RGA : Rg t (t + 20) L16 m15 := ((((((((Rg.one (μ := m15) hT_16 (by decide)).app (Rg.arr (μ := m15) hA16) (by omega)).app F2.2.1 (by omega)).app F5.2.1 (by omega)).app F8.2.1 (by omega)).app F11.2.1 (by omega)).app F14.2.1 (by omega)).app F17.2.1 (by omega))
  exact v_ret hx hBD DX2_init_53 ⟨rfl, rfl, fun a ha => S0 a (by omega) (by omega) (by omega), Z16, ⟨⟨hT_16, hA16, fun k hk => (match k, hk with | 0, _ => F2.1 | 1, _ => F5.1 | 2, _ => F8.1 | 3, _ => F11.1 | 4, _ => F14.1 | 5, _ => F17.1 | n + 6, h => absurd h (by omega))⟩, RGA, fun _ => bd0, 0, by decide, by decide, by rw [wT_16]; rfl, by rw [wT_16]; rfl, fun k hk => (match k, hk with | 0, _ => F2.2.2 | 1, _ => F5.2.2 | 2, _ => F8.2.2 | 3, _ => F11.2.2 | 4, _ => F14.2.2 | 5, _ => F17.2.2 | n + 6, h => absurd h (by omega)), fun i hi => absurd hi (by simp [hs0])⟩⟩
theorem k_X4 (l : Launch) (G : Gl) {Λ : Lay} {μ : Mem} {t κ σ : Nat} (hT : Λ t = some (.inl (4, [some .null, some .null, some .null, some .null, some .null, some .null, some .null, some .null, some .null, some .null, some .null, some .null, some .null, none, none, none]))) (hZ : Zr Λ μ (t + 1)) (hw : μ.1 t = z0) : SpN l G yX4_init cX4_init 4 none 3 80 1738 [.ref t, .ref κ, .ref σ] Λ (t + 1) μ (CT t (t + 81) Λ μ (OPt κ σ t)) := by
  refine SpN.intro (by decide) (Nat.le_of_ble_eq_true rfl) (fun x hx hBD hin => ?_)
  refine v_lv [(0, .ref t), (1, .ref κ), (2, .ref σ)] rfl ?_
  refine v_gB hT (fun hg => ?_)
  refine v_aload hx DX4_init_0 0 rfl ?_
  refine v_objI hx DX4_init_1 mlRX4_3 (by decide) (Nat.le_of_ble_eq_true rfl) ?_
  refine v_aload hx DX4_init_4 0 rfl ?_
  refine v_push hx DX4_init_5 ?_
  refine v_newq (t := 4) (n := 6) (rs := [none, none, none, none, none, none]) (cs' := (1, 6)) hx DX4_init_7 (by decide) rfl clRX4_9 (fun U h => (KK.ao h).2.1) (by decide) rfl (by omega) hZ rfl ⟨Nat.le_of_ble_eq_true rfl, Nat.le_of_ble_eq_true rfl⟩ (fun L1 hA1 s1 Z1 => ?_)
  have hT_1 : L1 (t) = some (.inl (4, [some .null, some .null, some .null, some .null, some .null, some .null, some .null, some .null, some .null, some .null, some .null, some .null, some .null, none, none, none])) := (s1 (t) (by omega)).1.trans hT
  have wT_1 : μ.1 (t) = z0 := (s1 (t) (by omega)).2.1.trans hw
  refine v_putRo (fs' := [some .null, some .null, some (.ref (t + 1)), some .null, some .null, some .null, some .null, some .null, some .null, some .null, some .null, some .null, some .null, none, none, none]) hx hin DX4_init_10 FPRX4_11 hT_1 (Nat.le_of_ble_eq_true rfl) rfl rfl rfl Z1 (by omega) (fun L2 hP2 s2 Z2 => ?_)
  have hR1_2 : L2 (t + 1) = some (.inr (4, 6, [none, none, none, none, none, none])) := (s2 (t + 1) (by omega)).1.trans hA1
  refine v_aload hx DX4_init_13 0 rfl ?_
  refine v_push hx DX4_init_14 ?_
  refine v_newq (t := 4) (n := 5) (rs := [none, none, none, none, none]) (cs' := (2, 11)) hx DX4_init_15 (by decide) rfl clRX4_9 (fun U h => (KK.ao h).2.1) (by decide) rfl (by omega) Z2 rfl ⟨Nat.le_of_ble_eq_true rfl, Nat.le_of_ble_eq_true rfl⟩ (fun L3 hA3 s3 Z3 => ?_)
  have hT_3 : L3 (t) = some (.inl (4, [some .null, some .null, some (.ref (t + 1)), some .null, some .null, some .null, some .null, some .null, some .null, some .null, some .null, some .null, some .null, none, none, none])) := (s3 (t) (by omega)).1.trans hP2
  have wT_3 : μ.1 (t) = z0 := (s3 (t) (by omega)).2.1.trans wT_1
  have hR1_3 : L3 (t + 1) = some (.inr (4, 6, [none, none, none, none, none, none])) := (s3 (t + 1) (by omega)).1.trans hR1_2
  refine v_putRo (fs' := [some .null, some .null, some (.ref (t + 1)), some (.ref (t + 2)), some .null, some .null, some .null, some .null, some .null, some .null, some .null, some .null, some .null, none, none, none]) hx hin DX4_init_18 FPRX4_17 hT_3 (Nat.le_of_ble_eq_true rfl) rfl rfl rfl Z3 (by omega) (fun L4 hP4 s4 Z4 => ?_)
  have hR1_4 : L4 (t + 1) = some (.inr (4, 6, [none, none, none, none, none, none])) := (s4 (t + 1) (by omega)).1.trans hR1_3
  have hR2_4 : L4 (t + 2) = some (.inr (4, 5, [none, none, none, none, none])) := (s4 (t + 2) (by omega)).1.trans hA3
  refine v_aload hx DX4_init_21 0 rfl ?_
  refine v_nw (e' := t + 8) (cs' := (7, 113)) hx DX4_init_22 DX4_init_25 DX4_init_26 NWRX4_9 CIRX4_20 (by omega) Z4 (fun _ h1 h2 h3 => k_X1 l G h1 h2 h3) (Nat.le_of_ble_eq_true rfl) (by decide) rfl ⟨Nat.le_of_ble_eq_true rfl, Nat.le_of_ble_eq_true rfl⟩ (fun L5 m5 s5 Z5 r5 => ?_)
  have hT_5 : L5 (t) = some (.inl (4, [some .null, some .null, some (.ref (t + 1)), some (.ref (t + 2)), some .null, some .null, some .null, some .null, some .null, some .null, some .null, some .null, some .null, none, none, none])) := (s5 (t) (by omega)).1.trans hP4
  have wT_5 : m5.1 (t) = z0 := (s5 (t) (by omega)).2.1.trans wT_3
  have hR1_5 : L5 (t + 1) = some (.inr (4, 6, [none, none, none, none, none, none])) := (s5 (t + 1) (by omega)).1.trans hR1_4
  have hR2_5 : L5 (t + 2) = some (.inr (4, 5, [none, none, none, none, none])) := (s5 (t + 2) (by omega)).1.trans hR2_4
  refine v_putRo (fs' := [some .null, some .null, some (.ref (t + 1)), some (.ref (t + 2)), some (.ref (t + 3)), some .null, some .null, some .null, some .null, some .null, some .null, some .null, some .null, none, none, none]) hx hin DX4_init_29 FPRX4_21 hT_5 (Nat.le_of_ble_eq_true rfl) rfl rfl rfl Z5 (by omega) (fun L6 hP6 s6 Z6 => ?_)
  have hR1_6 : L6 (t + 1) = some (.inr (4, 6, [none, none, none, none, none, none])) := (s6 (t + 1) (by omega)).1.trans hR1_5
  have hR2_6 : L6 (t + 2) = some (.inr (4, 5, [none, none, none, none, none])) := (s6 (t + 2) (by omega)).1.trans hR2_5
  refine v_aload hx DX4_init_32 0 rfl ?_
  refine v_nw (e' := t + 13) (cs' := (12, 215)) hx DX4_init_33 DX4_init_36 DX4_init_37 NWRX4_9 CIRX4_20 (by omega) Z6 (fun _ h1 h2 h3 => k_X1 l G h1 h2 h3) (Nat.le_of_ble_eq_true rfl) (by decide) rfl ⟨Nat.le_of_ble_eq_true rfl, Nat.le_of_ble_eq_true rfl⟩ (fun L7 m7 s7 Z7 r7 => ?_)
  have hT_7 : L7 (t) = some (.inl (4, [some .null, some .null, some (.ref (t + 1)), some (.ref (t + 2)), some (.ref (t + 3)), some .null, some .null, some .null, some .null, some .null, some .null, some .null, some .null, none, none, none])) := (s7 (t) (by omega)).1.trans hP6
  have wT_7 : m7.1 (t) = z0 := (s7 (t) (by omega)).2.1.trans wT_5
  have hR1_7 : L7 (t + 1) = some (.inr (4, 6, [none, none, none, none, none, none])) := (s7 (t + 1) (by omega)).1.trans hR1_6
  have hR2_7 : L7 (t + 2) = some (.inr (4, 5, [none, none, none, none, none])) := (s7 (t + 2) (by omega)).1.trans hR2_6
  refine v_putRo (fs' := [some .null, some .null, some (.ref (t + 1)), some (.ref (t + 2)), some (.ref (t + 3)), some (.ref (t + 8)), some .null, some .null, some .null, some .null, some .null, some .null, some .null, none, none, none]) hx hin DX4_init_40 FPRX4_25 hT_7 (Nat.le_of_ble_eq_true rfl) rfl rfl rfl Z7 (by omega) (fun L8 hP8 s8 Z8 => ?_)
  have hR1_8 : L8 (t + 1) = some (.inr (4, 6, [none, none, none, none, none, none])) := (s8 (t + 1) (by omega)).1.trans hR1_7
  have hR2_8 : L8 (t + 2) = some (.inr (4, 5, [none, none, none, none, none])) := (s8 (t + 2) (by omega)).1.trans hR2_7
  refine v_aload hx DX4_init_43 0 rfl ?_
  refine v_nw (e' := t + 15) (cs' := (14, 265)) hx DX4_init_44 DX4_init_47 DX4_init_48 NWRX4_28 CIRX4_30 (by omega) Z8 (fun _ h1 h2 h3 => k_X5 l G h1 h2 h3) (Nat.le_of_ble_eq_true rfl) (by decide) rfl ⟨Nat.le_of_ble_eq_true rfl, Nat.le_of_ble_eq_true rfl⟩ (fun L9 m9 s9 Z9 r9 => ?_)
  have hT_9 : L9 (t) = some (.inl (4, [some .null, some .null, some (.ref (t + 1)), some (.ref (t + 2)), some (.ref (t + 3)), some (.ref (t + 8)), some .null, some .null, some .null, some .null, some .null, some .null, some .null, none, none, none])) := (s9 (t) (by omega)).1.trans hP8
  have wT_9 : m9.1 (t) = z0 := (s9 (t) (by omega)).2.1.trans wT_7
  have hR1_9 : L9 (t + 1) = some (.inr (4, 6, [none, none, none, none, none, none])) := (s9 (t + 1) (by omega)).1.trans hR1_8
  have hR2_9 : L9 (t + 2) = some (.inr (4, 5, [none, none, none, none, none])) := (s9 (t + 2) (by omega)).1.trans hR2_8
  refine v_putRo (fs' := [some .null, some .null, some (.ref (t + 1)), some (.ref (t + 2)), some (.ref (t + 3)), some (.ref (t + 8)), some (.ref (t + 13)), some .null, some .null, some .null, some .null, some .null, some .null, none, none, none]) hx hin DX4_init_51 FPRX4_31 hT_9 (Nat.le_of_ble_eq_true rfl) rfl rfl rfl Z9 (by omega) (fun L10 hP10 s10 Z10 => ?_)
  have hR1_10 : L10 (t + 1) = some (.inr (4, 6, [none, none, none, none, none, none])) := (s10 (t + 1) (by omega)).1.trans hR1_9
  have hR2_10 : L10 (t + 2) = some (.inr (4, 5, [none, none, none, none, none])) := (s10 (t + 2) (by omega)).1.trans hR2_9
  refine v_aload hx DX4_init_54 0 rfl ?_
  refine v_nw (e' := t + 17) (cs' := (16, 315)) hx DX4_init_55 DX4_init_58 DX4_init_59 NWRX4_28 CIRX4_30 (by omega) Z10 (fun _ h1 h2 h3 => k_X5 l G h1 h2 h3) (Nat.le_of_ble_eq_true rfl) (by decide) rfl ⟨Nat.le_of_ble_eq_true rfl, Nat.le_of_ble_eq_true rfl⟩ (fun L11 m11 s11 Z11 r11 => ?_)
  have hT_11 : L11 (t) = some (.inl (4, [some .null, some .null, some (.ref (t + 1)), some (.ref (t + 2)), some (.ref (t + 3)), some (.ref (t + 8)), some (.ref (t + 13)), some .null, some .null, some .null, some .null, some .null, some .null, none, none, none])) := (s11 (t) (by omega)).1.trans hP10
  have wT_11 : m11.1 (t) = z0 := (s11 (t) (by omega)).2.1.trans wT_9
  have hR1_11 : L11 (t + 1) = some (.inr (4, 6, [none, none, none, none, none, none])) := (s11 (t + 1) (by omega)).1.trans hR1_10
  have hR2_11 : L11 (t + 2) = some (.inr (4, 5, [none, none, none, none, none])) := (s11 (t + 2) (by omega)).1.trans hR2_10
  refine v_putRo (fs' := [some .null, some .null, some (.ref (t + 1)), some (.ref (t + 2)), some (.ref (t + 3)), some (.ref (t + 8)), some (.ref (t + 13)), some (.ref (t + 15)), some .null, some .null, some .null, some .null, some .null, none, none, none]) hx hin DX4_init_62 FPRX4_35 hT_11 (Nat.le_of_ble_eq_true rfl) rfl rfl rfl Z11 (by omega) (fun L12 hP12 s12 Z12 => ?_)
  have hR1_12 : L12 (t + 1) = some (.inr (4, 6, [none, none, none, none, none, none])) := (s12 (t + 1) (by omega)).1.trans hR1_11
  have hR2_12 : L12 (t + 2) = some (.inr (4, 5, [none, none, none, none, none])) := (s12 (t + 2) (by omega)).1.trans hR2_11
  refine v_aload hx DX4_init_65 0 rfl ?_
  refine v_nw (e' := t + 19) (cs' := (18, 365)) hx DX4_init_66 DX4_init_69 DX4_init_70 NWRX4_28 CIRX4_30 (by omega) Z12 (fun _ h1 h2 h3 => k_X5 l G h1 h2 h3) (Nat.le_of_ble_eq_true rfl) (by decide) rfl ⟨Nat.le_of_ble_eq_true rfl, Nat.le_of_ble_eq_true rfl⟩ (fun L13 m13 s13 Z13 r13 => ?_)
  have hT_13 : L13 (t) = some (.inl (4, [some .null, some .null, some (.ref (t + 1)), some (.ref (t + 2)), some (.ref (t + 3)), some (.ref (t + 8)), some (.ref (t + 13)), some (.ref (t + 15)), some .null, some .null, some .null, some .null, some .null, none, none, none])) := (s13 (t) (by omega)).1.trans hP12
  have wT_13 : m13.1 (t) = z0 := (s13 (t) (by omega)).2.1.trans wT_11
  have hR1_13 : L13 (t + 1) = some (.inr (4, 6, [none, none, none, none, none, none])) := (s13 (t + 1) (by omega)).1.trans hR1_12
  have hR2_13 : L13 (t + 2) = some (.inr (4, 5, [none, none, none, none, none])) := (s13 (t + 2) (by omega)).1.trans hR2_12
  refine v_putRo (fs' := [some .null, some .null, some (.ref (t + 1)), some (.ref (t + 2)), some (.ref (t + 3)), some (.ref (t + 8)), some (.ref (t + 13)), some (.ref (t + 15)), some (.ref (t + 17)), some .null, some .null, some .null, some .null, none, none, none]) hx hin DX4_init_73 FPRX4_38 hT_13 (Nat.le_of_ble_eq_true rfl) rfl rfl rfl Z13 (by omega) (fun L14 hP14 s14 Z14 => ?_)
  have hR1_14 : L14 (t + 1) = some (.inr (4, 6, [none, none, none, none, none, none])) := (s14 (t + 1) (by omega)).1.trans hR1_13
  have hR2_14 : L14 (t + 2) = some (.inr (4, 5, [none, none, none, none, none])) := (s14 (t + 2) (by omega)).1.trans hR2_13
  refine v_aload hx DX4_init_76 0 rfl ?_
  refine v_nw (e' := t + 21) (cs' := (20, 415)) hx DX4_init_77 DX4_init_80 DX4_init_81 NWRX4_28 CIRX4_30 (by omega) Z14 (fun _ h1 h2 h3 => k_X5 l G h1 h2 h3) (Nat.le_of_ble_eq_true rfl) (by decide) rfl ⟨Nat.le_of_ble_eq_true rfl, Nat.le_of_ble_eq_true rfl⟩ (fun L15 m15 s15 Z15 r15 => ?_)
  have hT_15 : L15 (t) = some (.inl (4, [some .null, some .null, some (.ref (t + 1)), some (.ref (t + 2)), some (.ref (t + 3)), some (.ref (t + 8)), some (.ref (t + 13)), some (.ref (t + 15)), some (.ref (t + 17)), some .null, some .null, some .null, some .null, none, none, none])) := (s15 (t) (by omega)).1.trans hP14
  have wT_15 : m15.1 (t) = z0 := (s15 (t) (by omega)).2.1.trans wT_13
  have hR1_15 : L15 (t + 1) = some (.inr (4, 6, [none, none, none, none, none, none])) := (s15 (t + 1) (by omega)).1.trans hR1_14
  have hR2_15 : L15 (t + 2) = some (.inr (4, 5, [none, none, none, none, none])) := (s15 (t + 2) (by omega)).1.trans hR2_14
  refine v_putRo (fs' := [some .null, some .null, some (.ref (t + 1)), some (.ref (t + 2)), some (.ref (t + 3)), some (.ref (t + 8)), some (.ref (t + 13)), some (.ref (t + 15)), some (.ref (t + 17)), some (.ref (t + 19)), some .null, some .null, some .null, none, none, none]) hx hin DX4_init_84 FPRX4_41 hT_15 (Nat.le_of_ble_eq_true rfl) rfl rfl rfl Z15 (by omega) (fun L16 hP16 s16 Z16 => ?_)
  have hR1_16 : L16 (t + 1) = some (.inr (4, 6, [none, none, none, none, none, none])) := (s16 (t + 1) (by omega)).1.trans hR1_15
  have hR2_16 : L16 (t + 2) = some (.inr (4, 5, [none, none, none, none, none])) := (s16 (t + 2) (by omega)).1.trans hR2_15
  refine v_aload hx DX4_init_87 0 rfl ?_
  refine v_nw (e' := t + 23) (cs' := (22, 465)) hx DX4_init_88 DX4_init_91 DX4_init_92 NWRX4_28 CIRX4_30 (by omega) Z16 (fun _ h1 h2 h3 => k_X5 l G h1 h2 h3) (Nat.le_of_ble_eq_true rfl) (by decide) rfl ⟨Nat.le_of_ble_eq_true rfl, Nat.le_of_ble_eq_true rfl⟩ (fun L17 m17 s17 Z17 r17 => ?_)
  have hT_17 : L17 (t) = some (.inl (4, [some .null, some .null, some (.ref (t + 1)), some (.ref (t + 2)), some (.ref (t + 3)), some (.ref (t + 8)), some (.ref (t + 13)), some (.ref (t + 15)), some (.ref (t + 17)), some (.ref (t + 19)), some .null, some .null, some .null, none, none, none])) := (s17 (t) (by omega)).1.trans hP16
  have wT_17 : m17.1 (t) = z0 := (s17 (t) (by omega)).2.1.trans wT_15
  have hR1_17 : L17 (t + 1) = some (.inr (4, 6, [none, none, none, none, none, none])) := (s17 (t + 1) (by omega)).1.trans hR1_16
  have hR2_17 : L17 (t + 2) = some (.inr (4, 5, [none, none, none, none, none])) := (s17 (t + 2) (by omega)).1.trans hR2_16
  refine v_putRo (fs' := [some .null, some .null, some (.ref (t + 1)), some (.ref (t + 2)), some (.ref (t + 3)), some (.ref (t + 8)), some (.ref (t + 13)), some (.ref (t + 15)), some (.ref (t + 17)), some (.ref (t + 19)), some (.ref (t + 21)), some .null, some .null, none, none, none]) hx hin DX4_init_95 FPRX4_44 hT_17 (Nat.le_of_ble_eq_true rfl) rfl rfl rfl Z17 (by omega) (fun L18 hP18 s18 Z18 => ?_)
  have hR1_18 : L18 (t + 1) = some (.inr (4, 6, [none, none, none, none, none, none])) := (s18 (t + 1) (by omega)).1.trans hR1_17
  have hR2_18 : L18 (t + 2) = some (.inr (4, 5, [none, none, none, none, none])) := (s18 (t + 2) (by omega)).1.trans hR2_17
  refine v_aload hx DX4_init_98 0 rfl ?_
  refine v_nw (e' := t + 25) (cs' := (24, 515)) hx DX4_init_99 DX4_init_102 DX4_init_103 NWRX4_28 CIRX4_30 (by omega) Z18 (fun _ h1 h2 h3 => k_X5 l G h1 h2 h3) (Nat.le_of_ble_eq_true rfl) (by decide) rfl ⟨Nat.le_of_ble_eq_true rfl, Nat.le_of_ble_eq_true rfl⟩ (fun L19 m19 s19 Z19 r19 => ?_)
  have hT_19 : L19 (t) = some (.inl (4, [some .null, some .null, some (.ref (t + 1)), some (.ref (t + 2)), some (.ref (t + 3)), some (.ref (t + 8)), some (.ref (t + 13)), some (.ref (t + 15)), some (.ref (t + 17)), some (.ref (t + 19)), some (.ref (t + 21)), some .null, some .null, none, none, none])) := (s19 (t) (by omega)).1.trans hP18
  have wT_19 : m19.1 (t) = z0 := (s19 (t) (by omega)).2.1.trans wT_17
  have hR1_19 : L19 (t + 1) = some (.inr (4, 6, [none, none, none, none, none, none])) := (s19 (t + 1) (by omega)).1.trans hR1_18
  have hR2_19 : L19 (t + 2) = some (.inr (4, 5, [none, none, none, none, none])) := (s19 (t + 2) (by omega)).1.trans hR2_18
  refine v_putRo (fs' := [some .null, some .null, some (.ref (t + 1)), some (.ref (t + 2)), some (.ref (t + 3)), some (.ref (t + 8)), some (.ref (t + 13)), some (.ref (t + 15)), some (.ref (t + 17)), some (.ref (t + 19)), some (.ref (t + 21)), some (.ref (t + 23)), some .null, none, none, none]) hx hin DX4_init_106 FPRX4_47 hT_19 (Nat.le_of_ble_eq_true rfl) rfl rfl rfl Z19 (by omega) (fun L20 hP20 s20 Z20 => ?_)
  have hR1_20 : L20 (t + 1) = some (.inr (4, 6, [none, none, none, none, none, none])) := (s20 (t + 1) (by omega)).1.trans hR1_19
  have hR2_20 : L20 (t + 2) = some (.inr (4, 5, [none, none, none, none, none])) := (s20 (t + 2) (by omega)).1.trans hR2_19
  refine v_aload hx DX4_init_109 0 rfl ?_
  refine v_push hx DX4_init_110 ?_
  refine v_newa (t := 1) (n := 101) (cs' := (25, 616)) hx DX4_init_112 (by decide) rfl (lwc2 (List.mem_of_getElem? (i := 9) rfl)) (by decide) (by omega) Z20 rfl ⟨Nat.le_of_ble_eq_true rfl, Nat.le_of_ble_eq_true rfl⟩ (fun L21 hA21 sx21 Z21 => ?_)
  have hz25 : m19.1 (t + 25) = z0 ∧ m19.2 (t + 25) = z1 := (Z20 (t + 25) (by omega)).2
  have s21 : ∀ a, a ≠ t + 25 → SmA L20 m19 L21 m19 a := fun a ha => ⟨sx21 a ha, rfl, rfl⟩
  have hT_21 : L21 (t) = some (.inl (4, [some .null, some .null, some (.ref (t + 1)), some (.ref (t + 2)), some (.ref (t + 3)), some (.ref (t + 8)), some (.ref (t + 13)), some (.ref (t + 15)), some (.ref (t + 17)), some (.ref (t + 19)), some (.ref (t + 21)), some (.ref (t + 23)), some .null, none, none, none])) := (s21 (t) (by omega)).1.trans hP20
  have wT_21 : m19.1 (t) = z0 := (s21 (t) (by omega)).2.1.trans wT_19
  have hR1_21 : L21 (t + 1) = some (.inr (4, 6, [none, none, none, none, none, none])) := (s21 (t + 1) (by omega)).1.trans hR1_20
  have hR2_21 : L21 (t + 2) = some (.inr (4, 5, [none, none, none, none, none])) := (s21 (t + 2) (by omega)).1.trans hR2_20
  refine v_putRo (fs' := [some .null, some .null, some (.ref (t + 1)), some (.ref (t + 2)), some (.ref (t + 3)), some (.ref (t + 8)), some (.ref (t + 13)), some (.ref (t + 15)), some (.ref (t + 17)), some (.ref (t + 19)), some (.ref (t + 21)), some (.ref (t + 23)), some (.ref (t + 25)), none, none, none]) hx hin DX4_init_114 FPRX4_50 hT_21 (Nat.le_of_ble_eq_true rfl) rfl rfl rfl Z21 (by omega) (fun L22 hP22 s22 Z22 => ?_)
  have hR1_22 : L22 (t + 1) = some (.inr (4, 6, [none, none, none, none, none, none])) := (s22 (t + 1) (by omega)).1.trans hR1_21
  have hR2_22 : L22 (t + 2) = some (.inr (4, 5, [none, none, none, none, none])) := (s22 (t + 2) (by omega)).1.trans hR2_21
  refine v_aload hx DX4_init_117 0 rfl ?_
  refine v_push hx DX4_init_118 ?_
  refine v_putIo hx DX4_init_119 FPRX4_54 hP22 rfl wT_21 rfl Z22 (by omega) (fun m23 wT23 s23 Z23 => ?_)
  have wP23 : m23.1 t = rw1 (z0) 13 0 := wT23
  have hR1_23 : L22 (t + 1) = some (.inr (4, 6, [none, none, none, none, none, none])) := (s23 (t + 1) (by omega)).1.trans hR1_22
  have hR2_23 : L22 (t + 2) = some (.inr (4, 5, [none, none, none, none, none])) := (s23 (t + 2) (by omega)).1.trans hR2_22
  refine v_aload hx DX4_init_122 0 rfl ?_
  refine v_push hx DX4_init_123 ?_
  refine v_putZo hx DX4_init_124 FPRX4_58 hP22 rfl (Or.inr rfl) wP23 rfl Z23 (by omega) (fun m24 wT24 s24 Z24 => ?_)
  have wP24 : m24.1 t = rw1 (rw1 (z0) 13 0) 14 1 := wT24
  have hR1_24 : L22 (t + 1) = some (.inr (4, 6, [none, none, none, none, none, none])) := (s24 (t + 1) (by omega)).1.trans hR1_23
  have hR2_24 : L22 (t + 2) = some (.inr (4, 5, [none, none, none, none, none])) := (s24 (t + 2) (by omega)).1.trans hR2_23
  refine v_aload hx DX4_init_127 0 rfl ?_
  refine v_push hx DX4_init_128 ?_
  refine v_putIo hx DX4_init_129 FPRX4_62 hP22 rfl wP24 rfl Z24 (by omega) (fun m25 wT25 s25 Z25 => ?_)
  have wP25 : m25.1 t = rw1 (rw1 (rw1 (z0) 13 0) 14 1) 15 0 := wT25
  have hR1_25 : L22 (t + 1) = some (.inr (4, 6, [none, none, none, none, none, none])) := (s25 (t + 1) (by omega)).1.trans hR1_24
  have hR2_25 : L22 (t + 2) = some (.inr (4, 5, [none, none, none, none, none])) := (s25 (t + 2) (by omega)).1.trans hR2_24
  refine v_aload hx DX4_init_132 0 rfl ?_
  refine v_aload hx DX4_init_133 1 rfl ?_
  refine v_putRo (fs' := [some (.ref κ), some .null, some (.ref (t + 1)), some (.ref (t + 2)), some (.ref (t + 3)), some (.ref (t + 8)), some (.ref (t + 13)), some (.ref (t + 15)), some (.ref (t + 17)), some (.ref (t + 19)), some (.ref (t + 21)), some (.ref (t + 23)), some (.ref (t + 25)), none, none, none]) hx hin DX4_init_134 FPRX4_65 hP22 (Nat.le_of_ble_eq_true rfl) rfl rfl rfl Z25 (by omega) (fun L26 hP26 s26 Z26 => ?_)
  have hR1_26 : L26 (t + 1) = some (.inr (4, 6, [none, none, none, none, none, none])) := (s26 (t + 1) (by omega)).1.trans hR1_25
  have hR2_26 : L26 (t + 2) = some (.inr (4, 5, [none, none, none, none, none])) := (s26 (t + 2) (by omega)).1.trans hR2_25
  refine v_aload hx DX4_init_137 0 rfl ?_
  refine v_aload hx DX4_init_138 2 rfl ?_
  refine v_putRo (fs' := [some (.ref κ), some (.ref σ), some (.ref (t + 1)), some (.ref (t + 2)), some (.ref (t + 3)), some (.ref (t + 8)), some (.ref (t + 13)), some (.ref (t + 15)), some (.ref (t + 17)), some (.ref (t + 19)), some (.ref (t + 21)), some (.ref (t + 23)), some (.ref (t + 25)), none, none, none]) hx hin DX4_init_139 FPRX4_69 hP26 (Nat.le_of_ble_eq_true rfl) rfl rfl rfl Z26 (by omega) (fun L27 hP27 s27 Z27 => ?_)
  have hR1_27 : L27 (t + 1) = some (.inr (4, 6, [none, none, none, none, none, none])) := (s27 (t + 1) (by omega)).1.trans hR1_26
  have hR2_27 : L27 (t + 2) = some (.inr (4, 5, [none, none, none, none, none])) := (s27 (t + 2) (by omega)).1.trans hR2_26
  refine v_push hx DX4_init_142 ?_
  refine v_istore hx DX4_init_143 [(3, iv 0), (0, .ref t), (1, .ref κ), (2, .ref σ)] rfl (by decide) ?_
  refine v_iload hx DX4_init_144 0 rfl ?_
  refine v_aload hx DX4_init_145 1 rfl ?_
  refine v_get hx DX4_init_146 FLRX4_11 hP27 (v := .ref (t + 1)) rfl ?_
  refine v_alenI hx DX4_init_149 hR1_27 (by decide) (z := 6) rfl ?_
  refine v_icmp_ge hx DX4_init_150 (by decide) (by decide) (fun c150 => ?_) (fun c150 => ?_)
  · exact absurd c150 (by decide)
  refine v_aload hx DX4_init_153 1 rfl ?_
  refine v_get hx DX4_init_154 FLRX4_11 hP27 (v := .ref (t + 1)) rfl ?_
  refine v_iload hx DX4_init_157 0 rfl ?_
  refine v_nw (e' := t + 31) (cs' := (30, 718)) hx DX4_init_158 DX4_init_161 DX4_init_162 NWRX4_9 CIRX4_20 (by omega) Z27 (fun _ h1 h2 h3 => k_X1 l G h1 h2 h3) (Nat.le_of_ble_eq_true rfl) (by decide) rfl ⟨Nat.le_of_ble_eq_true rfl, Nat.le_of_ble_eq_true rfl⟩ (fun L28 m28 s28 Z28 r28 => ?_)
  have hT_28 : L28 (t) = some (.inl (4, [some (.ref κ), some (.ref σ), some (.ref (t + 1)), some (.ref (t + 2)), some (.ref (t + 3)), some (.ref (t + 8)), some (.ref (t + 13)), some (.ref (t + 15)), some (.ref (t + 17)), some (.ref (t + 19)), some (.ref (t + 21)), some (.ref (t + 23)), some (.ref (t + 25)), none, none, none])) := (s28 (t) (by omega)).1.trans hP27
  have wT_28 : m28.1 (t) = rw1 (rw1 (rw1 (z0) 13 0) 14 1) 15 0 := (s28 (t) (by omega)).2.1.trans wP25
  have hR1_28 : L28 (t + 1) = some (.inr (4, 6, [none, none, none, none, none, none])) := (s28 (t + 1) (by omega)).1.trans hR1_27
  have hR2_28 : L28 (t + 2) = some (.inr (4, 5, [none, none, none, none, none])) := (s28 (t + 2) (by omega)).1.trans hR2_27
  refine v_aast (i := 0) (rs' := [some (t + 26), none, none, none, none, none]) hx DX4_init_165 hR1_28 (by decide) rfl r28.1.1 rfl (by decide) (by decide) rfl rfl Z28 (by omega) (fun L29 hA29 s29 Z29 => ?_)
  have hT_29 : L29 (t) = some (.inl (4, [some (.ref κ), some (.ref σ), some (.ref (t + 1)), some (.ref (t + 2)), some (.ref (t + 3)), some (.ref (t + 8)), some (.ref (t + 13)), some (.ref (t + 15)), some (.ref (t + 17)), some (.ref (t + 19)), some (.ref (t + 21)), some (.ref (t + 23)), some (.ref (t + 25)), none, none, none])) := (s29 (t) (by omega)).1.trans hT_28
  have wT_29 : m28.1 (t) = rw1 (rw1 (rw1 (z0) 13 0) 14 1) 15 0 := (s29 (t) (by omega)).2.1.trans wT_28
  have hR2_29 : L29 (t + 2) = some (.inr (4, 5, [none, none, none, none, none])) := (s29 (t + 2) (by omega)).1.trans hR2_28
  refine v_iinc hx DX4_init_166 0 rfl [(3, iv 1), (0, .ref t), (1, .ref κ), (2, .ref σ)] rfl (by decide) ?_
  refine v_goto hx DX4_init_169 ?_
  refine v_iload hx DX4_init_144 0 rfl ?_
  refine v_aload hx DX4_init_145 1 rfl ?_
  refine v_get hx DX4_init_146 FLRX4_11 hT_29 (v := .ref (t + 1)) rfl ?_
  refine v_alenI hx DX4_init_149 hA29 (by decide) (z := 6) rfl ?_
  refine v_icmp_ge hx DX4_init_150 (by decide) (by decide) (fun c150 => ?_) (fun c150 => ?_)
  · exact absurd c150 (by decide)
  refine v_aload hx DX4_init_153 1 rfl ?_
  refine v_get hx DX4_init_154 FLRX4_11 hT_29 (v := .ref (t + 1)) rfl ?_
  refine v_iload hx DX4_init_157 0 rfl ?_
  refine v_nw (e' := t + 36) (cs' := (35, 820)) hx DX4_init_158 DX4_init_161 DX4_init_162 NWRX4_9 CIRX4_20 (by omega) Z29 (fun _ h1 h2 h3 => k_X1 l G h1 h2 h3) (Nat.le_of_ble_eq_true rfl) (by decide) rfl ⟨Nat.le_of_ble_eq_true rfl, Nat.le_of_ble_eq_true rfl⟩ (fun L30 m30 s30 Z30 r30 => ?_)
  have hT_30 : L30 (t) = some (.inl (4, [some (.ref κ), some (.ref σ), some (.ref (t + 1)), some (.ref (t + 2)), some (.ref (t + 3)), some (.ref (t + 8)), some (.ref (t + 13)), some (.ref (t + 15)), some (.ref (t + 17)), some (.ref (t + 19)), some (.ref (t + 21)), some (.ref (t + 23)), some (.ref (t + 25)), none, none, none])) := (s30 (t) (by omega)).1.trans hT_29
  have wT_30 : m30.1 (t) = rw1 (rw1 (rw1 (z0) 13 0) 14 1) 15 0 := (s30 (t) (by omega)).2.1.trans wT_29
  have hR1_30 : L30 (t + 1) = some (.inr (4, 6, [some (t + 26), none, none, none, none, none])) := (s30 (t + 1) (by omega)).1.trans hA29
  have hR2_30 : L30 (t + 2) = some (.inr (4, 5, [none, none, none, none, none])) := (s30 (t + 2) (by omega)).1.trans hR2_29
  refine v_aast (i := 1) (rs' := [some (t + 26), some (t + 31), none, none, none, none]) hx DX4_init_165 hR1_30 (by decide) rfl r30.1.1 rfl (by decide) (by decide) rfl rfl Z30 (by omega) (fun L31 hA31 s31 Z31 => ?_)
  have hT_31 : L31 (t) = some (.inl (4, [some (.ref κ), some (.ref σ), some (.ref (t + 1)), some (.ref (t + 2)), some (.ref (t + 3)), some (.ref (t + 8)), some (.ref (t + 13)), some (.ref (t + 15)), some (.ref (t + 17)), some (.ref (t + 19)), some (.ref (t + 21)), some (.ref (t + 23)), some (.ref (t + 25)), none, none, none])) := (s31 (t) (by omega)).1.trans hT_30
  have wT_31 : m30.1 (t) = rw1 (rw1 (rw1 (z0) 13 0) 14 1) 15 0 := (s31 (t) (by omega)).2.1.trans wT_30
  have hR2_31 : L31 (t + 2) = some (.inr (4, 5, [none, none, none, none, none])) := (s31 (t + 2) (by omega)).1.trans hR2_30
  refine v_iinc hx DX4_init_166 0 rfl [(3, iv 2), (0, .ref t), (1, .ref κ), (2, .ref σ)] rfl (by decide) ?_
  refine v_goto hx DX4_init_169 ?_
  refine v_iload hx DX4_init_144 0 rfl ?_
  refine v_aload hx DX4_init_145 1 rfl ?_
  refine v_get hx DX4_init_146 FLRX4_11 hT_31 (v := .ref (t + 1)) rfl ?_
  refine v_alenI hx DX4_init_149 hA31 (by decide) (z := 6) rfl ?_
  refine v_icmp_ge hx DX4_init_150 (by decide) (by decide) (fun c150 => ?_) (fun c150 => ?_)
  · exact absurd c150 (by decide)
  refine v_aload hx DX4_init_153 1 rfl ?_
  refine v_get hx DX4_init_154 FLRX4_11 hT_31 (v := .ref (t + 1)) rfl ?_
  refine v_iload hx DX4_init_157 0 rfl ?_
  refine v_nw (e' := t + 41) (cs' := (40, 922)) hx DX4_init_158 DX4_init_161 DX4_init_162 NWRX4_9 CIRX4_20 (by omega) Z31 (fun _ h1 h2 h3 => k_X1 l G h1 h2 h3) (Nat.le_of_ble_eq_true rfl) (by decide) rfl ⟨Nat.le_of_ble_eq_true rfl, Nat.le_of_ble_eq_true rfl⟩ (fun L32 m32 s32 Z32 r32 => ?_)
  have hT_32 : L32 (t) = some (.inl (4, [some (.ref κ), some (.ref σ), some (.ref (t + 1)), some (.ref (t + 2)), some (.ref (t + 3)), some (.ref (t + 8)), some (.ref (t + 13)), some (.ref (t + 15)), some (.ref (t + 17)), some (.ref (t + 19)), some (.ref (t + 21)), some (.ref (t + 23)), some (.ref (t + 25)), none, none, none])) := (s32 (t) (by omega)).1.trans hT_31
  have wT_32 : m32.1 (t) = rw1 (rw1 (rw1 (z0) 13 0) 14 1) 15 0 := (s32 (t) (by omega)).2.1.trans wT_31
  have hR1_32 : L32 (t + 1) = some (.inr (4, 6, [some (t + 26), some (t + 31), none, none, none, none])) := (s32 (t + 1) (by omega)).1.trans hA31
  have hR2_32 : L32 (t + 2) = some (.inr (4, 5, [none, none, none, none, none])) := (s32 (t + 2) (by omega)).1.trans hR2_31
  refine v_aast (i := 2) (rs' := [some (t + 26), some (t + 31), some (t + 36), none, none, none]) hx DX4_init_165 hR1_32 (by decide) rfl r32.1.1 rfl (by decide) (by decide) rfl rfl Z32 (by omega) (fun L33 hA33 s33 Z33 => ?_)
  have hT_33 : L33 (t) = some (.inl (4, [some (.ref κ), some (.ref σ), some (.ref (t + 1)), some (.ref (t + 2)), some (.ref (t + 3)), some (.ref (t + 8)), some (.ref (t + 13)), some (.ref (t + 15)), some (.ref (t + 17)), some (.ref (t + 19)), some (.ref (t + 21)), some (.ref (t + 23)), some (.ref (t + 25)), none, none, none])) := (s33 (t) (by omega)).1.trans hT_32
  have wT_33 : m32.1 (t) = rw1 (rw1 (rw1 (z0) 13 0) 14 1) 15 0 := (s33 (t) (by omega)).2.1.trans wT_32
  have hR2_33 : L33 (t + 2) = some (.inr (4, 5, [none, none, none, none, none])) := (s33 (t + 2) (by omega)).1.trans hR2_32
  refine v_iinc hx DX4_init_166 0 rfl [(3, iv 3), (0, .ref t), (1, .ref κ), (2, .ref σ)] rfl (by decide) ?_
  refine v_goto hx DX4_init_169 ?_
  refine v_iload hx DX4_init_144 0 rfl ?_
  refine v_aload hx DX4_init_145 1 rfl ?_
  refine v_get hx DX4_init_146 FLRX4_11 hT_33 (v := .ref (t + 1)) rfl ?_
  refine v_alenI hx DX4_init_149 hA33 (by decide) (z := 6) rfl ?_
  refine v_icmp_ge hx DX4_init_150 (by decide) (by decide) (fun c150 => ?_) (fun c150 => ?_)
  · exact absurd c150 (by decide)
  refine v_aload hx DX4_init_153 1 rfl ?_
  refine v_get hx DX4_init_154 FLRX4_11 hT_33 (v := .ref (t + 1)) rfl ?_
  refine v_iload hx DX4_init_157 0 rfl ?_
  refine v_nw (e' := t + 46) (cs' := (45, 1024)) hx DX4_init_158 DX4_init_161 DX4_init_162 NWRX4_9 CIRX4_20 (by omega) Z33 (fun _ h1 h2 h3 => k_X1 l G h1 h2 h3) (Nat.le_of_ble_eq_true rfl) (by decide) rfl ⟨Nat.le_of_ble_eq_true rfl, Nat.le_of_ble_eq_true rfl⟩ (fun L34 m34 s34 Z34 r34 => ?_)
  have hT_34 : L34 (t) = some (.inl (4, [some (.ref κ), some (.ref σ), some (.ref (t + 1)), some (.ref (t + 2)), some (.ref (t + 3)), some (.ref (t + 8)), some (.ref (t + 13)), some (.ref (t + 15)), some (.ref (t + 17)), some (.ref (t + 19)), some (.ref (t + 21)), some (.ref (t + 23)), some (.ref (t + 25)), none, none, none])) := (s34 (t) (by omega)).1.trans hT_33
  have wT_34 : m34.1 (t) = rw1 (rw1 (rw1 (z0) 13 0) 14 1) 15 0 := (s34 (t) (by omega)).2.1.trans wT_33
  have hR1_34 : L34 (t + 1) = some (.inr (4, 6, [some (t + 26), some (t + 31), some (t + 36), none, none, none])) := (s34 (t + 1) (by omega)).1.trans hA33
  have hR2_34 : L34 (t + 2) = some (.inr (4, 5, [none, none, none, none, none])) := (s34 (t + 2) (by omega)).1.trans hR2_33
  refine v_aast (i := 3) (rs' := [some (t + 26), some (t + 31), some (t + 36), some (t + 41), none, none]) hx DX4_init_165 hR1_34 (by decide) rfl r34.1.1 rfl (by decide) (by decide) rfl rfl Z34 (by omega) (fun L35 hA35 s35 Z35 => ?_)
  have hT_35 : L35 (t) = some (.inl (4, [some (.ref κ), some (.ref σ), some (.ref (t + 1)), some (.ref (t + 2)), some (.ref (t + 3)), some (.ref (t + 8)), some (.ref (t + 13)), some (.ref (t + 15)), some (.ref (t + 17)), some (.ref (t + 19)), some (.ref (t + 21)), some (.ref (t + 23)), some (.ref (t + 25)), none, none, none])) := (s35 (t) (by omega)).1.trans hT_34
  have wT_35 : m34.1 (t) = rw1 (rw1 (rw1 (z0) 13 0) 14 1) 15 0 := (s35 (t) (by omega)).2.1.trans wT_34
  have hR2_35 : L35 (t + 2) = some (.inr (4, 5, [none, none, none, none, none])) := (s35 (t + 2) (by omega)).1.trans hR2_34
  refine v_iinc hx DX4_init_166 0 rfl [(3, iv 4), (0, .ref t), (1, .ref κ), (2, .ref σ)] rfl (by decide) ?_
  refine v_goto hx DX4_init_169 ?_
  refine v_iload hx DX4_init_144 0 rfl ?_
  refine v_aload hx DX4_init_145 1 rfl ?_
  refine v_get hx DX4_init_146 FLRX4_11 hT_35 (v := .ref (t + 1)) rfl ?_
  refine v_alenI hx DX4_init_149 hA35 (by decide) (z := 6) rfl ?_
  refine v_icmp_ge hx DX4_init_150 (by decide) (by decide) (fun c150 => ?_) (fun c150 => ?_)
  · exact absurd c150 (by decide)
  refine v_aload hx DX4_init_153 1 rfl ?_
  refine v_get hx DX4_init_154 FLRX4_11 hT_35 (v := .ref (t + 1)) rfl ?_
  refine v_iload hx DX4_init_157 0 rfl ?_
  refine v_nw (e' := t + 51) (cs' := (50, 1126)) hx DX4_init_158 DX4_init_161 DX4_init_162 NWRX4_9 CIRX4_20 (by omega) Z35 (fun _ h1 h2 h3 => k_X1 l G h1 h2 h3) (Nat.le_of_ble_eq_true rfl) (by decide) rfl ⟨Nat.le_of_ble_eq_true rfl, Nat.le_of_ble_eq_true rfl⟩ (fun L36 m36 s36 Z36 r36 => ?_)
  have hT_36 : L36 (t) = some (.inl (4, [some (.ref κ), some (.ref σ), some (.ref (t + 1)), some (.ref (t + 2)), some (.ref (t + 3)), some (.ref (t + 8)), some (.ref (t + 13)), some (.ref (t + 15)), some (.ref (t + 17)), some (.ref (t + 19)), some (.ref (t + 21)), some (.ref (t + 23)), some (.ref (t + 25)), none, none, none])) := (s36 (t) (by omega)).1.trans hT_35
  have wT_36 : m36.1 (t) = rw1 (rw1 (rw1 (z0) 13 0) 14 1) 15 0 := (s36 (t) (by omega)).2.1.trans wT_35
  have hR1_36 : L36 (t + 1) = some (.inr (4, 6, [some (t + 26), some (t + 31), some (t + 36), some (t + 41), none, none])) := (s36 (t + 1) (by omega)).1.trans hA35
  have hR2_36 : L36 (t + 2) = some (.inr (4, 5, [none, none, none, none, none])) := (s36 (t + 2) (by omega)).1.trans hR2_35
  refine v_aast (i := 4) (rs' := [some (t + 26), some (t + 31), some (t + 36), some (t + 41), some (t + 46), none]) hx DX4_init_165 hR1_36 (by decide) rfl r36.1.1 rfl (by decide) (by decide) rfl rfl Z36 (by omega) (fun L37 hA37 s37 Z37 => ?_)
  have hT_37 : L37 (t) = some (.inl (4, [some (.ref κ), some (.ref σ), some (.ref (t + 1)), some (.ref (t + 2)), some (.ref (t + 3)), some (.ref (t + 8)), some (.ref (t + 13)), some (.ref (t + 15)), some (.ref (t + 17)), some (.ref (t + 19)), some (.ref (t + 21)), some (.ref (t + 23)), some (.ref (t + 25)), none, none, none])) := (s37 (t) (by omega)).1.trans hT_36
  have wT_37 : m36.1 (t) = rw1 (rw1 (rw1 (z0) 13 0) 14 1) 15 0 := (s37 (t) (by omega)).2.1.trans wT_36
  have hR2_37 : L37 (t + 2) = some (.inr (4, 5, [none, none, none, none, none])) := (s37 (t + 2) (by omega)).1.trans hR2_36
  refine v_iinc hx DX4_init_166 0 rfl [(3, iv 5), (0, .ref t), (1, .ref κ), (2, .ref σ)] rfl (by decide) ?_
  refine v_goto hx DX4_init_169 ?_
  refine v_iload hx DX4_init_144 0 rfl ?_
  refine v_aload hx DX4_init_145 1 rfl ?_
  refine v_get hx DX4_init_146 FLRX4_11 hT_37 (v := .ref (t + 1)) rfl ?_
  refine v_alenI hx DX4_init_149 hA37 (by decide) (z := 6) rfl ?_
  refine v_icmp_ge hx DX4_init_150 (by decide) (by decide) (fun c150 => ?_) (fun c150 => ?_)
  · exact absurd c150 (by decide)
  refine v_aload hx DX4_init_153 1 rfl ?_
  refine v_get hx DX4_init_154 FLRX4_11 hT_37 (v := .ref (t + 1)) rfl ?_
  refine v_iload hx DX4_init_157 0 rfl ?_
  refine v_nw (e' := t + 56) (cs' := (55, 1228)) hx DX4_init_158 DX4_init_161 DX4_init_162 NWRX4_9 CIRX4_20 (by omega) Z37 (fun _ h1 h2 h3 => k_X1 l G h1 h2 h3) (Nat.le_of_ble_eq_true rfl) (by decide) rfl ⟨Nat.le_of_ble_eq_true rfl, Nat.le_of_ble_eq_true rfl⟩ (fun L38 m38 s38 Z38 r38 => ?_)
  have hT_38 : L38 (t) = some (.inl (4, [some (.ref κ), some (.ref σ), some (.ref (t + 1)), some (.ref (t + 2)), some (.ref (t + 3)), some (.ref (t + 8)), some (.ref (t + 13)), some (.ref (t + 15)), some (.ref (t + 17)), some (.ref (t + 19)), some (.ref (t + 21)), some (.ref (t + 23)), some (.ref (t + 25)), none, none, none])) := (s38 (t) (by omega)).1.trans hT_37
  have wT_38 : m38.1 (t) = rw1 (rw1 (rw1 (z0) 13 0) 14 1) 15 0 := (s38 (t) (by omega)).2.1.trans wT_37
  have hR1_38 : L38 (t + 1) = some (.inr (4, 6, [some (t + 26), some (t + 31), some (t + 36), some (t + 41), some (t + 46), none])) := (s38 (t + 1) (by omega)).1.trans hA37
  have hR2_38 : L38 (t + 2) = some (.inr (4, 5, [none, none, none, none, none])) := (s38 (t + 2) (by omega)).1.trans hR2_37
  refine v_aast (i := 5) (rs' := [some (t + 26), some (t + 31), some (t + 36), some (t + 41), some (t + 46), some (t + 51)]) hx DX4_init_165 hR1_38 (by decide) rfl r38.1.1 rfl (by decide) (by decide) rfl rfl Z38 (by omega) (fun L39 hA39 s39 Z39 => ?_)
  have hT_39 : L39 (t) = some (.inl (4, [some (.ref κ), some (.ref σ), some (.ref (t + 1)), some (.ref (t + 2)), some (.ref (t + 3)), some (.ref (t + 8)), some (.ref (t + 13)), some (.ref (t + 15)), some (.ref (t + 17)), some (.ref (t + 19)), some (.ref (t + 21)), some (.ref (t + 23)), some (.ref (t + 25)), none, none, none])) := (s39 (t) (by omega)).1.trans hT_38
  have wT_39 : m38.1 (t) = rw1 (rw1 (rw1 (z0) 13 0) 14 1) 15 0 := (s39 (t) (by omega)).2.1.trans wT_38
  have hR2_39 : L39 (t + 2) = some (.inr (4, 5, [none, none, none, none, none])) := (s39 (t + 2) (by omega)).1.trans hR2_38
  refine v_iinc hx DX4_init_166 0 rfl [(3, iv 6), (0, .ref t), (1, .ref κ), (2, .ref σ)] rfl (by decide) ?_
  refine v_goto hx DX4_init_169 ?_
  refine v_iload hx DX4_init_144 0 rfl ?_
  refine v_aload hx DX4_init_145 1 rfl ?_
  refine v_get hx DX4_init_146 FLRX4_11 hT_39 (v := .ref (t + 1)) rfl ?_
  refine v_alenI hx DX4_init_149 hA39 (by decide) (z := 6) rfl ?_
  refine v_icmp_ge hx DX4_init_150 (by decide) (by decide) (fun c150 => ?_) (fun c150 => ?_)
  rotate_left
  · exact absurd c150 (by decide)
  refine v_push hx DX4_init_172 ?_
  refine v_istore hx DX4_init_173 [(3, iv 0), (0, .ref t), (1, .ref κ), (2, .ref σ)] rfl (by decide) ?_
  refine v_iload hx DX4_init_174 0 rfl ?_
  refine v_aload hx DX4_init_175 1 rfl ?_
  refine v_get hx DX4_init_176 FLRX4_17 hT_39 (v := .ref (t + 2)) rfl ?_
  refine v_alenI hx DX4_init_179 hR2_39 (by decide) (z := 5) rfl ?_
  refine v_icmp_ge hx DX4_init_180 (by decide) (by decide) (fun c180 => ?_) (fun c180 => ?_)
  · exact absurd c180 (by decide)
  refine v_aload hx DX4_init_183 1 rfl ?_
  refine v_get hx DX4_init_184 FLRX4_17 hT_39 (v := .ref (t + 2)) rfl ?_
  refine v_iload hx DX4_init_187 0 rfl ?_
  refine v_nw (e' := t + 61) (cs' := (60, 1330)) hx DX4_init_188 DX4_init_191 DX4_init_192 NWRX4_9 CIRX4_20 (by omega) Z39 (fun _ h1 h2 h3 => k_X1 l G h1 h2 h3) (Nat.le_of_ble_eq_true rfl) (by decide) rfl ⟨Nat.le_of_ble_eq_true rfl, Nat.le_of_ble_eq_true rfl⟩ (fun L40 m40 s40 Z40 r40 => ?_)
  have hT_40 : L40 (t) = some (.inl (4, [some (.ref κ), some (.ref σ), some (.ref (t + 1)), some (.ref (t + 2)), some (.ref (t + 3)), some (.ref (t + 8)), some (.ref (t + 13)), some (.ref (t + 15)), some (.ref (t + 17)), some (.ref (t + 19)), some (.ref (t + 21)), some (.ref (t + 23)), some (.ref (t + 25)), none, none, none])) := (s40 (t) (by omega)).1.trans hT_39
  have wT_40 : m40.1 (t) = rw1 (rw1 (rw1 (z0) 13 0) 14 1) 15 0 := (s40 (t) (by omega)).2.1.trans wT_39
  have hR1_40 : L40 (t + 1) = some (.inr (4, 6, [some (t + 26), some (t + 31), some (t + 36), some (t + 41), some (t + 46), some (t + 51)])) := (s40 (t + 1) (by omega)).1.trans hA39
  have hR2_40 : L40 (t + 2) = some (.inr (4, 5, [none, none, none, none, none])) := (s40 (t + 2) (by omega)).1.trans hR2_39
  refine v_aast (i := 0) (rs' := [some (t + 56), none, none, none, none]) hx DX4_init_195 hR2_40 (by decide) rfl r40.1.1 rfl (by decide) (by decide) rfl rfl Z40 (by omega) (fun L41 hA41 s41 Z41 => ?_)
  have hT_41 : L41 (t) = some (.inl (4, [some (.ref κ), some (.ref σ), some (.ref (t + 1)), some (.ref (t + 2)), some (.ref (t + 3)), some (.ref (t + 8)), some (.ref (t + 13)), some (.ref (t + 15)), some (.ref (t + 17)), some (.ref (t + 19)), some (.ref (t + 21)), some (.ref (t + 23)), some (.ref (t + 25)), none, none, none])) := (s41 (t) (by omega)).1.trans hT_40
  have wT_41 : m40.1 (t) = rw1 (rw1 (rw1 (z0) 13 0) 14 1) 15 0 := (s41 (t) (by omega)).2.1.trans wT_40
  have hR1_41 : L41 (t + 1) = some (.inr (4, 6, [some (t + 26), some (t + 31), some (t + 36), some (t + 41), some (t + 46), some (t + 51)])) := (s41 (t + 1) (by omega)).1.trans hR1_40
  refine v_iinc hx DX4_init_196 0 rfl [(3, iv 1), (0, .ref t), (1, .ref κ), (2, .ref σ)] rfl (by decide) ?_
  refine v_goto hx DX4_init_199 ?_
  refine v_iload hx DX4_init_174 0 rfl ?_
  refine v_aload hx DX4_init_175 1 rfl ?_
  refine v_get hx DX4_init_176 FLRX4_17 hT_41 (v := .ref (t + 2)) rfl ?_
  refine v_alenI hx DX4_init_179 hA41 (by decide) (z := 5) rfl ?_
  refine v_icmp_ge hx DX4_init_180 (by decide) (by decide) (fun c180 => ?_) (fun c180 => ?_)
  · exact absurd c180 (by decide)
  refine v_aload hx DX4_init_183 1 rfl ?_
  refine v_get hx DX4_init_184 FLRX4_17 hT_41 (v := .ref (t + 2)) rfl ?_
  refine v_iload hx DX4_init_187 0 rfl ?_
  refine v_nw (e' := t + 66) (cs' := (65, 1432)) hx DX4_init_188 DX4_init_191 DX4_init_192 NWRX4_9 CIRX4_20 (by omega) Z41 (fun _ h1 h2 h3 => k_X1 l G h1 h2 h3) (Nat.le_of_ble_eq_true rfl) (by decide) rfl ⟨Nat.le_of_ble_eq_true rfl, Nat.le_of_ble_eq_true rfl⟩ (fun L42 m42 s42 Z42 r42 => ?_)
  have hT_42 : L42 (t) = some (.inl (4, [some (.ref κ), some (.ref σ), some (.ref (t + 1)), some (.ref (t + 2)), some (.ref (t + 3)), some (.ref (t + 8)), some (.ref (t + 13)), some (.ref (t + 15)), some (.ref (t + 17)), some (.ref (t + 19)), some (.ref (t + 21)), some (.ref (t + 23)), some (.ref (t + 25)), none, none, none])) := (s42 (t) (by omega)).1.trans hT_41
  have wT_42 : m42.1 (t) = rw1 (rw1 (rw1 (z0) 13 0) 14 1) 15 0 := (s42 (t) (by omega)).2.1.trans wT_41
  have hR1_42 : L42 (t + 1) = some (.inr (4, 6, [some (t + 26), some (t + 31), some (t + 36), some (t + 41), some (t + 46), some (t + 51)])) := (s42 (t + 1) (by omega)).1.trans hR1_41
  have hR2_42 : L42 (t + 2) = some (.inr (4, 5, [some (t + 56), none, none, none, none])) := (s42 (t + 2) (by omega)).1.trans hA41
  refine v_aast (i := 1) (rs' := [some (t + 56), some (t + 61), none, none, none]) hx DX4_init_195 hR2_42 (by decide) rfl r42.1.1 rfl (by decide) (by decide) rfl rfl Z42 (by omega) (fun L43 hA43 s43 Z43 => ?_)
  have hT_43 : L43 (t) = some (.inl (4, [some (.ref κ), some (.ref σ), some (.ref (t + 1)), some (.ref (t + 2)), some (.ref (t + 3)), some (.ref (t + 8)), some (.ref (t + 13)), some (.ref (t + 15)), some (.ref (t + 17)), some (.ref (t + 19)), some (.ref (t + 21)), some (.ref (t + 23)), some (.ref (t + 25)), none, none, none])) := (s43 (t) (by omega)).1.trans hT_42
  have wT_43 : m42.1 (t) = rw1 (rw1 (rw1 (z0) 13 0) 14 1) 15 0 := (s43 (t) (by omega)).2.1.trans wT_42
  have hR1_43 : L43 (t + 1) = some (.inr (4, 6, [some (t + 26), some (t + 31), some (t + 36), some (t + 41), some (t + 46), some (t + 51)])) := (s43 (t + 1) (by omega)).1.trans hR1_42
  refine v_iinc hx DX4_init_196 0 rfl [(3, iv 2), (0, .ref t), (1, .ref κ), (2, .ref σ)] rfl (by decide) ?_
  refine v_goto hx DX4_init_199 ?_
  refine v_iload hx DX4_init_174 0 rfl ?_
  refine v_aload hx DX4_init_175 1 rfl ?_
  refine v_get hx DX4_init_176 FLRX4_17 hT_43 (v := .ref (t + 2)) rfl ?_
  refine v_alenI hx DX4_init_179 hA43 (by decide) (z := 5) rfl ?_
  refine v_icmp_ge hx DX4_init_180 (by decide) (by decide) (fun c180 => ?_) (fun c180 => ?_)
  · exact absurd c180 (by decide)
  refine v_aload hx DX4_init_183 1 rfl ?_
  refine v_get hx DX4_init_184 FLRX4_17 hT_43 (v := .ref (t + 2)) rfl ?_
  refine v_iload hx DX4_init_187 0 rfl ?_
  refine v_nw (e' := t + 71) (cs' := (70, 1534)) hx DX4_init_188 DX4_init_191 DX4_init_192 NWRX4_9 CIRX4_20 (by omega) Z43 (fun _ h1 h2 h3 => k_X1 l G h1 h2 h3) (Nat.le_of_ble_eq_true rfl) (by decide) rfl ⟨Nat.le_of_ble_eq_true rfl, Nat.le_of_ble_eq_true rfl⟩ (fun L44 m44 s44 Z44 r44 => ?_)
  have hT_44 : L44 (t) = some (.inl (4, [some (.ref κ), some (.ref σ), some (.ref (t + 1)), some (.ref (t + 2)), some (.ref (t + 3)), some (.ref (t + 8)), some (.ref (t + 13)), some (.ref (t + 15)), some (.ref (t + 17)), some (.ref (t + 19)), some (.ref (t + 21)), some (.ref (t + 23)), some (.ref (t + 25)), none, none, none])) := (s44 (t) (by omega)).1.trans hT_43
  have wT_44 : m44.1 (t) = rw1 (rw1 (rw1 (z0) 13 0) 14 1) 15 0 := (s44 (t) (by omega)).2.1.trans wT_43
  have hR1_44 : L44 (t + 1) = some (.inr (4, 6, [some (t + 26), some (t + 31), some (t + 36), some (t + 41), some (t + 46), some (t + 51)])) := (s44 (t + 1) (by omega)).1.trans hR1_43
  have hR2_44 : L44 (t + 2) = some (.inr (4, 5, [some (t + 56), some (t + 61), none, none, none])) := (s44 (t + 2) (by omega)).1.trans hA43
  refine v_aast (i := 2) (rs' := [some (t + 56), some (t + 61), some (t + 66), none, none]) hx DX4_init_195 hR2_44 (by decide) rfl r44.1.1 rfl (by decide) (by decide) rfl rfl Z44 (by omega) (fun L45 hA45 s45 Z45 => ?_)
  have hT_45 : L45 (t) = some (.inl (4, [some (.ref κ), some (.ref σ), some (.ref (t + 1)), some (.ref (t + 2)), some (.ref (t + 3)), some (.ref (t + 8)), some (.ref (t + 13)), some (.ref (t + 15)), some (.ref (t + 17)), some (.ref (t + 19)), some (.ref (t + 21)), some (.ref (t + 23)), some (.ref (t + 25)), none, none, none])) := (s45 (t) (by omega)).1.trans hT_44
  have wT_45 : m44.1 (t) = rw1 (rw1 (rw1 (z0) 13 0) 14 1) 15 0 := (s45 (t) (by omega)).2.1.trans wT_44
  have hR1_45 : L45 (t + 1) = some (.inr (4, 6, [some (t + 26), some (t + 31), some (t + 36), some (t + 41), some (t + 46), some (t + 51)])) := (s45 (t + 1) (by omega)).1.trans hR1_44
  refine v_iinc hx DX4_init_196 0 rfl [(3, iv 3), (0, .ref t), (1, .ref κ), (2, .ref σ)] rfl (by decide) ?_
  refine v_goto hx DX4_init_199 ?_
  refine v_iload hx DX4_init_174 0 rfl ?_
  refine v_aload hx DX4_init_175 1 rfl ?_
  refine v_get hx DX4_init_176 FLRX4_17 hT_45 (v := .ref (t + 2)) rfl ?_
  refine v_alenI hx DX4_init_179 hA45 (by decide) (z := 5) rfl ?_
  refine v_icmp_ge hx DX4_init_180 (by decide) (by decide) (fun c180 => ?_) (fun c180 => ?_)
  · exact absurd c180 (by decide)
  refine v_aload hx DX4_init_183 1 rfl ?_
  refine v_get hx DX4_init_184 FLRX4_17 hT_45 (v := .ref (t + 2)) rfl ?_
  refine v_iload hx DX4_init_187 0 rfl ?_
  refine v_nw (e' := t + 76) (cs' := (75, 1636)) hx DX4_init_188 DX4_init_191 DX4_init_192 NWRX4_9 CIRX4_20 (by omega) Z45 (fun _ h1 h2 h3 => k_X1 l G h1 h2 h3) (Nat.le_of_ble_eq_true rfl) (by decide) rfl ⟨Nat.le_of_ble_eq_true rfl, Nat.le_of_ble_eq_true rfl⟩ (fun L46 m46 s46 Z46 r46 => ?_)
  have hT_46 : L46 (t) = some (.inl (4, [some (.ref κ), some (.ref σ), some (.ref (t + 1)), some (.ref (t + 2)), some (.ref (t + 3)), some (.ref (t + 8)), some (.ref (t + 13)), some (.ref (t + 15)), some (.ref (t + 17)), some (.ref (t + 19)), some (.ref (t + 21)), some (.ref (t + 23)), some (.ref (t + 25)), none, none, none])) := (s46 (t) (by omega)).1.trans hT_45
  have wT_46 : m46.1 (t) = rw1 (rw1 (rw1 (z0) 13 0) 14 1) 15 0 := (s46 (t) (by omega)).2.1.trans wT_45
  have hR1_46 : L46 (t + 1) = some (.inr (4, 6, [some (t + 26), some (t + 31), some (t + 36), some (t + 41), some (t + 46), some (t + 51)])) := (s46 (t + 1) (by omega)).1.trans hR1_45
  have hR2_46 : L46 (t + 2) = some (.inr (4, 5, [some (t + 56), some (t + 61), some (t + 66), none, none])) := (s46 (t + 2) (by omega)).1.trans hA45
  refine v_aast (i := 3) (rs' := [some (t + 56), some (t + 61), some (t + 66), some (t + 71), none]) hx DX4_init_195 hR2_46 (by decide) rfl r46.1.1 rfl (by decide) (by decide) rfl rfl Z46 (by omega) (fun L47 hA47 s47 Z47 => ?_)
  have hT_47 : L47 (t) = some (.inl (4, [some (.ref κ), some (.ref σ), some (.ref (t + 1)), some (.ref (t + 2)), some (.ref (t + 3)), some (.ref (t + 8)), some (.ref (t + 13)), some (.ref (t + 15)), some (.ref (t + 17)), some (.ref (t + 19)), some (.ref (t + 21)), some (.ref (t + 23)), some (.ref (t + 25)), none, none, none])) := (s47 (t) (by omega)).1.trans hT_46
  have wT_47 : m46.1 (t) = rw1 (rw1 (rw1 (z0) 13 0) 14 1) 15 0 := (s47 (t) (by omega)).2.1.trans wT_46
  have hR1_47 : L47 (t + 1) = some (.inr (4, 6, [some (t + 26), some (t + 31), some (t + 36), some (t + 41), some (t + 46), some (t + 51)])) := (s47 (t + 1) (by omega)).1.trans hR1_46
  refine v_iinc hx DX4_init_196 0 rfl [(3, iv 4), (0, .ref t), (1, .ref κ), (2, .ref σ)] rfl (by decide) ?_
  refine v_goto hx DX4_init_199 ?_
  refine v_iload hx DX4_init_174 0 rfl ?_
  refine v_aload hx DX4_init_175 1 rfl ?_
  refine v_get hx DX4_init_176 FLRX4_17 hT_47 (v := .ref (t + 2)) rfl ?_
  refine v_alenI hx DX4_init_179 hA47 (by decide) (z := 5) rfl ?_
  refine v_icmp_ge hx DX4_init_180 (by decide) (by decide) (fun c180 => ?_) (fun c180 => ?_)
  · exact absurd c180 (by decide)
  refine v_aload hx DX4_init_183 1 rfl ?_
  refine v_get hx DX4_init_184 FLRX4_17 hT_47 (v := .ref (t + 2)) rfl ?_
  refine v_iload hx DX4_init_187 0 rfl ?_
  refine v_nw (e' := t + 81) (cs' := (80, 1738)) hx DX4_init_188 DX4_init_191 DX4_init_192 NWRX4_9 CIRX4_20 (by omega) Z47 (fun _ h1 h2 h3 => k_X1 l G h1 h2 h3) (Nat.le_of_ble_eq_true rfl) (by decide) rfl ⟨Nat.le_of_ble_eq_true rfl, Nat.le_of_ble_eq_true rfl⟩ (fun L48 m48 s48 Z48 r48 => ?_)
  have hT_48 : L48 (t) = some (.inl (4, [some (.ref κ), some (.ref σ), some (.ref (t + 1)), some (.ref (t + 2)), some (.ref (t + 3)), some (.ref (t + 8)), some (.ref (t + 13)), some (.ref (t + 15)), some (.ref (t + 17)), some (.ref (t + 19)), some (.ref (t + 21)), some (.ref (t + 23)), some (.ref (t + 25)), none, none, none])) := (s48 (t) (by omega)).1.trans hT_47
  have wT_48 : m48.1 (t) = rw1 (rw1 (rw1 (z0) 13 0) 14 1) 15 0 := (s48 (t) (by omega)).2.1.trans wT_47
  have hR1_48 : L48 (t + 1) = some (.inr (4, 6, [some (t + 26), some (t + 31), some (t + 36), some (t + 41), some (t + 46), some (t + 51)])) := (s48 (t + 1) (by omega)).1.trans hR1_47
  have hR2_48 : L48 (t + 2) = some (.inr (4, 5, [some (t + 56), some (t + 61), some (t + 66), some (t + 71), none])) := (s48 (t + 2) (by omega)).1.trans hA47
  refine v_aast (i := 4) (rs' := [some (t + 56), some (t + 61), some (t + 66), some (t + 71), some (t + 76)]) hx DX4_init_195 hR2_48 (by decide) rfl r48.1.1 rfl (by decide) (by decide) rfl rfl Z48 (by omega) (fun L49 hA49 s49 Z49 => ?_)
  have hT_49 : L49 (t) = some (.inl (4, [some (.ref κ), some (.ref σ), some (.ref (t + 1)), some (.ref (t + 2)), some (.ref (t + 3)), some (.ref (t + 8)), some (.ref (t + 13)), some (.ref (t + 15)), some (.ref (t + 17)), some (.ref (t + 19)), some (.ref (t + 21)), some (.ref (t + 23)), some (.ref (t + 25)), none, none, none])) := (s49 (t) (by omega)).1.trans hT_48
  have wT_49 : m48.1 (t) = rw1 (rw1 (rw1 (z0) 13 0) 14 1) 15 0 := (s49 (t) (by omega)).2.1.trans wT_48
  have hR1_49 : L49 (t + 1) = some (.inr (4, 6, [some (t + 26), some (t + 31), some (t + 36), some (t + 41), some (t + 46), some (t + 51)])) := (s49 (t + 1) (by omega)).1.trans hR1_48
  refine v_iinc hx DX4_init_196 0 rfl [(3, iv 5), (0, .ref t), (1, .ref κ), (2, .ref σ)] rfl (by decide) ?_
  refine v_goto hx DX4_init_199 ?_
  refine v_iload hx DX4_init_174 0 rfl ?_
  refine v_aload hx DX4_init_175 1 rfl ?_
  refine v_get hx DX4_init_176 FLRX4_17 hT_49 (v := .ref (t + 2)) rfl ?_
  refine v_alenI hx DX4_init_179 hA49 (by decide) (z := 5) rfl ?_
  refine v_icmp_ge hx DX4_init_180 (by decide) (by decide) (fun c180 => ?_) (fun c180 => ?_)
  rotate_left
  · exact absurd c180 (by decide)
  have S49 : ∀ a, a < t + 81 → a ≠ t → a ≠ t + 1 → a ≠ t + 2 → SmA L49 m48 L49 m48 a := fun a _ _ _ _ => SmA.rf
  have S48 : ∀ a, a < t + 81 → a ≠ t → a ≠ t + 1 → a ≠ t + 2 → SmA L48 m48 L49 m48 a := fun a h0 q0 q1 q2 => (s49 a (by omega)).trans (S49 a (by omega) q0 q1 q2)
  have S47 : ∀ a, a < t + 76 → a ≠ t → a ≠ t + 1 → a ≠ t + 2 → SmA L47 m46 L49 m48 a := fun a h0 q0 q1 q2 => (s48 a (by omega)).trans (S48 a (by omega) q0 q1 q2)
  have S46 : ∀ a, a < t + 76 → a ≠ t → a ≠ t + 1 → a ≠ t + 2 → SmA L46 m46 L49 m48 a := fun a h0 q0 q1 q2 => (s47 a (by omega)).trans (S47 a (by omega) q0 q1 q2)
  have S45 : ∀ a, a < t + 71 → a ≠ t → a ≠ t + 1 → a ≠ t + 2 → SmA L45 m44 L49 m48 a := fun a h0 q0 q1 q2 => (s46 a (by omega)).trans (S46 a (by omega) q0 q1 q2)
  have S44 : ∀ a, a < t + 71 → a ≠ t → a ≠ t + 1 → a ≠ t + 2 → SmA L44 m44 L49 m48 a := fun a h0 q0 q1 q2 => (s45 a (by omega)).trans (S45 a (by omega) q0 q1 q2)
  have S43 : ∀ a, a < t + 66 → a ≠ t → a ≠ t + 1 → a ≠ t + 2 → SmA L43 m42 L49 m48 a := fun a h0 q0 q1 q2 => (s44 a (by omega)).trans (S44 a (by omega) q0 q1 q2)
  have S42 : ∀ a, a < t + 66 → a ≠ t → a ≠ t + 1 → a ≠ t + 2 → SmA L42 m42 L49 m48 a := fun a h0 q0 q1 q2 => (s43 a (by omega)).trans (S43 a (by omega) q0 q1 q2)
  have S41 : ∀ a, a < t + 61 → a ≠ t → a ≠ t + 1 → a ≠ t + 2 → SmA L41 m40 L49 m48 a := fun a h0 q0 q1 q2 => (s42 a (by omega)).trans (S42 a (by omega) q0 q1 q2)
  have S40 : ∀ a, a < t + 61 → a ≠ t → a ≠ t + 1 → a ≠ t + 2 → SmA L40 m40 L49 m48 a := fun a h0 q0 q1 q2 => (s41 a (by omega)).trans (S41 a (by omega) q0 q1 q2)
  have S39 : ∀ a, a < t + 56 → a ≠ t → a ≠ t + 1 → a ≠ t + 2 → SmA L39 m38 L49 m48 a := fun a h0 q0 q1 q2 => (s40 a (by omega)).trans (S40 a (by omega) q0 q1 q2)
  have S38 : ∀ a, a < t + 56 → a ≠ t → a ≠ t + 1 → a ≠ t + 2 → SmA L38 m38 L49 m48 a := fun a h0 q0 q1 q2 => (s39 a (by omega)).trans (S39 a (by omega) q0 q1 q2)
  have S37 : ∀ a, a < t + 51 → a ≠ t → a ≠ t + 1 → a ≠ t + 2 → SmA L37 m36 L49 m48 a := fun a h0 q0 q1 q2 => (s38 a (by omega)).trans (S38 a (by omega) q0 q1 q2)
  have S36 : ∀ a, a < t + 51 → a ≠ t → a ≠ t + 1 → a ≠ t + 2 → SmA L36 m36 L49 m48 a := fun a h0 q0 q1 q2 => (s37 a (by omega)).trans (S37 a (by omega) q0 q1 q2)
  have S35 : ∀ a, a < t + 46 → a ≠ t → a ≠ t + 1 → a ≠ t + 2 → SmA L35 m34 L49 m48 a := fun a h0 q0 q1 q2 => (s36 a (by omega)).trans (S36 a (by omega) q0 q1 q2)
  have S34 : ∀ a, a < t + 46 → a ≠ t → a ≠ t + 1 → a ≠ t + 2 → SmA L34 m34 L49 m48 a := fun a h0 q0 q1 q2 => (s35 a (by omega)).trans (S35 a (by omega) q0 q1 q2)
  have S33 : ∀ a, a < t + 41 → a ≠ t → a ≠ t + 1 → a ≠ t + 2 → SmA L33 m32 L49 m48 a := fun a h0 q0 q1 q2 => (s34 a (by omega)).trans (S34 a (by omega) q0 q1 q2)
  have S32 : ∀ a, a < t + 41 → a ≠ t → a ≠ t + 1 → a ≠ t + 2 → SmA L32 m32 L49 m48 a := fun a h0 q0 q1 q2 => (s33 a (by omega)).trans (S33 a (by omega) q0 q1 q2)
  have S31 : ∀ a, a < t + 36 → a ≠ t → a ≠ t + 1 → a ≠ t + 2 → SmA L31 m30 L49 m48 a := fun a h0 q0 q1 q2 => (s32 a (by omega)).trans (S32 a (by omega) q0 q1 q2)
  have S30 : ∀ a, a < t + 36 → a ≠ t → a ≠ t + 1 → a ≠ t + 2 → SmA L30 m30 L49 m48 a := fun a h0 q0 q1 q2 => (s31 a (by omega)).trans (S31 a (by omega) q0 q1 q2)
  have S29 : ∀ a, a < t + 31 → a ≠ t → a ≠ t + 1 → a ≠ t + 2 → SmA L29 m28 L49 m48 a := fun a h0 q0 q1 q2 => (s30 a (by omega)).trans (S30 a (by omega) q0 q1 q2)
  have S28 : ∀ a, a < t + 31 → a ≠ t → a ≠ t + 1 → a ≠ t + 2 → SmA L28 m28 L49 m48 a := fun a h0 q0 q1 q2 => (s29 a (by omega)).trans (S29 a (by omega) q0 q1 q2)
  have S27 : ∀ a, a < t + 26 → a ≠ t → a ≠ t + 1 → a ≠ t + 2 → SmA L27 m25 L49 m48 a := fun a h0 q0 q1 q2 => (s28 a (by omega)).trans (S28 a (by omega) q0 q1 q2)
  have S26 : ∀ a, a < t + 26 → a ≠ t → a ≠ t + 1 → a ≠ t + 2 → SmA L26 m25 L49 m48 a := fun a h0 q0 q1 q2 => (s27 a (by omega)).trans (S27 a (by omega) q0 q1 q2)
  have S25 : ∀ a, a < t + 26 → a ≠ t → a ≠ t + 1 → a ≠ t + 2 → SmA L22 m25 L49 m48 a := fun a h0 q0 q1 q2 => (s26 a (by omega)).trans (S26 a (by omega) q0 q1 q2)
  have S24 : ∀ a, a < t + 26 → a ≠ t → a ≠ t + 1 → a ≠ t + 2 → SmA L22 m24 L49 m48 a := fun a h0 q0 q1 q2 => (s25 a (by omega)).trans (S25 a (by omega) q0 q1 q2)
  have S23 : ∀ a, a < t + 26 → a ≠ t → a ≠ t + 1 → a ≠ t + 2 → SmA L22 m23 L49 m48 a := fun a h0 q0 q1 q2 => (s24 a (by omega)).trans (S24 a (by omega) q0 q1 q2)
  have S22 : ∀ a, a < t + 26 → a ≠ t → a ≠ t + 1 → a ≠ t + 2 → SmA L22 m19 L49 m48 a := fun a h0 q0 q1 q2 => (s23 a (by omega)).trans (S23 a (by omega) q0 q1 q2)
  have S21 : ∀ a, a < t + 26 → a ≠ t → a ≠ t + 1 → a ≠ t + 2 → SmA L21 m19 L49 m48 a := fun a h0 q0 q1 q2 => (s22 a (by omega)).trans (S22 a (by omega) q0 q1 q2)
  have S20 : ∀ a, a < t + 25 → a ≠ t → a ≠ t + 1 → a ≠ t + 2 → SmA L20 m19 L49 m48 a := fun a h0 q0 q1 q2 => (s21 a (by omega)).trans (S21 a (by omega) q0 q1 q2)
  have S19 : ∀ a, a < t + 25 → a ≠ t → a ≠ t + 1 → a ≠ t + 2 → SmA L19 m19 L49 m48 a := fun a h0 q0 q1 q2 => (s20 a (by omega)).trans (S20 a (by omega) q0 q1 q2)
  have S18 : ∀ a, a < t + 23 → a ≠ t → a ≠ t + 1 → a ≠ t + 2 → SmA L18 m17 L49 m48 a := fun a h0 q0 q1 q2 => (s19 a (by omega)).trans (S19 a (by omega) q0 q1 q2)
  have S17 : ∀ a, a < t + 23 → a ≠ t → a ≠ t + 1 → a ≠ t + 2 → SmA L17 m17 L49 m48 a := fun a h0 q0 q1 q2 => (s18 a (by omega)).trans (S18 a (by omega) q0 q1 q2)
  have S16 : ∀ a, a < t + 21 → a ≠ t → a ≠ t + 1 → a ≠ t + 2 → SmA L16 m15 L49 m48 a := fun a h0 q0 q1 q2 => (s17 a (by omega)).trans (S17 a (by omega) q0 q1 q2)
  have S15 : ∀ a, a < t + 21 → a ≠ t → a ≠ t + 1 → a ≠ t + 2 → SmA L15 m15 L49 m48 a := fun a h0 q0 q1 q2 => (s16 a (by omega)).trans (S16 a (by omega) q0 q1 q2)
  have S14 : ∀ a, a < t + 19 → a ≠ t → a ≠ t + 1 → a ≠ t + 2 → SmA L14 m13 L49 m48 a := fun a h0 q0 q1 q2 => (s15 a (by omega)).trans (S15 a (by omega) q0 q1 q2)
  have S13 : ∀ a, a < t + 19 → a ≠ t → a ≠ t + 1 → a ≠ t + 2 → SmA L13 m13 L49 m48 a := fun a h0 q0 q1 q2 => (s14 a (by omega)).trans (S14 a (by omega) q0 q1 q2)
  have S12 : ∀ a, a < t + 17 → a ≠ t → a ≠ t + 1 → a ≠ t + 2 → SmA L12 m11 L49 m48 a := fun a h0 q0 q1 q2 => (s13 a (by omega)).trans (S13 a (by omega) q0 q1 q2)
  have S11 : ∀ a, a < t + 17 → a ≠ t → a ≠ t + 1 → a ≠ t + 2 → SmA L11 m11 L49 m48 a := fun a h0 q0 q1 q2 => (s12 a (by omega)).trans (S12 a (by omega) q0 q1 q2)
  have S10 : ∀ a, a < t + 15 → a ≠ t → a ≠ t + 1 → a ≠ t + 2 → SmA L10 m9 L49 m48 a := fun a h0 q0 q1 q2 => (s11 a (by omega)).trans (S11 a (by omega) q0 q1 q2)
  have S9 : ∀ a, a < t + 15 → a ≠ t → a ≠ t + 1 → a ≠ t + 2 → SmA L9 m9 L49 m48 a := fun a h0 q0 q1 q2 => (s10 a (by omega)).trans (S10 a (by omega) q0 q1 q2)
  have S8 : ∀ a, a < t + 13 → a ≠ t → a ≠ t + 1 → a ≠ t + 2 → SmA L8 m7 L49 m48 a := fun a h0 q0 q1 q2 => (s9 a (by omega)).trans (S9 a (by omega) q0 q1 q2)
  have S7 : ∀ a, a < t + 13 → a ≠ t → a ≠ t + 1 → a ≠ t + 2 → SmA L7 m7 L49 m48 a := fun a h0 q0 q1 q2 => (s8 a (by omega)).trans (S8 a (by omega) q0 q1 q2)
  have S6 : ∀ a, a < t + 8 → a ≠ t → a ≠ t + 1 → a ≠ t + 2 → SmA L6 m5 L49 m48 a := fun a h0 q0 q1 q2 => (s7 a (by omega)).trans (S7 a (by omega) q0 q1 q2)
  have S5 : ∀ a, a < t + 8 → a ≠ t → a ≠ t + 1 → a ≠ t + 2 → SmA L5 m5 L49 m48 a := fun a h0 q0 q1 q2 => (s6 a (by omega)).trans (S6 a (by omega) q0 q1 q2)
  have S4 : ∀ a, a < t + 3 → a ≠ t → a ≠ t + 1 → a ≠ t + 2 → SmA L4 μ L49 m48 a := fun a h0 q0 q1 q2 => (s5 a (by omega)).trans (S5 a (by omega) q0 q1 q2)
  have S3 : ∀ a, a < t + 3 → a ≠ t → a ≠ t + 1 → a ≠ t + 2 → SmA L3 μ L49 m48 a := fun a h0 q0 q1 q2 => (s4 a (by omega)).trans (S4 a (by omega) q0 q1 q2)
  have S2 : ∀ a, a < t + 2 → a ≠ t → a ≠ t + 1 → a ≠ t + 2 → SmA L2 μ L49 m48 a := fun a h0 q0 q1 q2 => (s3 a (by omega)).trans (S3 a (by omega) q0 q1 q2)
  have S1 : ∀ a, a < t + 2 → a ≠ t → a ≠ t + 1 → a ≠ t + 2 → SmA L1 μ L49 m48 a := fun a h0 q0 q1 q2 => (s2 a (by omega)).trans (S2 a (by omega) q0 q1 q2)
  have S0 : ∀ a, a < t + 1 → a ≠ t → a ≠ t + 1 → a ≠ t + 2 → SmA Λ μ L49 m48 a := fun a h0 q0 q1 q2 => (s1 a (by omega)).trans (S1 a (by omega) q0 q1 q2)
  have F3 : OF (t + 3) L49 m48 := OF.lc _ _ _ _ (fun a h0 h1 => S5 a (by omega) (by omega) (by omega) (by omega)) r5
  have F8 : OF (t + 8) L49 m48 := OF.lc _ _ _ _ (fun a h0 h1 => S7 a (by omega) (by omega) (by omega) (by omega)) r7
  have F13 : OP (t + 13) L49 m48 := OP.lc _ _ _ _ (fun a h0 h1 => S9 a (by omega) (by omega) (by omega) (by omega)) r9
  have F15 : OP (t + 15) L49 m48 := OP.lc _ _ _ _ (fun a h0 h1 => S11 a (by omega) (by omega) (by omega) (by omega)) r11
  have F17 : OP (t + 17) L49 m48 := OP.lc _ _ _ _ (fun a h0 h1 => S13 a (by omega) (by omega) (by omega) (by omega)) r13
  have F19 : OP (t + 19) L49 m48 := OP.lc _ _ _ _ (fun a h0 h1 => S15 a (by omega) (by omega) (by omega) (by omega)) r15
  have F21 : OP (t + 21) L49 m48 := OP.lc _ _ _ _ (fun a h0 h1 => S17 a (by omega) (by omega) (by omega) (by omega)) r17
  have F23 : OP (t + 23) L49 m48 := OP.lc _ _ _ _ (fun a h0 h1 => S19 a (by omega) (by omega) (by omega) (by omega)) r19
  have F26 : OF (t + 26) L49 m48 := OF.lc _ _ _ _ (fun a h0 h1 => S28 a (by omega) (by omega) (by omega) (by omega)) r28
  have F31 : OF (t + 31) L49 m48 := OF.lc _ _ _ _ (fun a h0 h1 => S30 a (by omega) (by omega) (by omega) (by omega)) r30
  have F36 : OF (t + 36) L49 m48 := OF.lc _ _ _ _ (fun a h0 h1 => S32 a (by omega) (by omega) (by omega) (by omega)) r32
  have F41 : OF (t + 41) L49 m48 := OF.lc _ _ _ _ (fun a h0 h1 => S34 a (by omega) (by omega) (by omega) (by omega)) r34
  have F46 : OF (t + 46) L49 m48 := OF.lc _ _ _ _ (fun a h0 h1 => S36 a (by omega) (by omega) (by omega) (by omega)) r36
  have F51 : OF (t + 51) L49 m48 := OF.lc _ _ _ _ (fun a h0 h1 => S38 a (by omega) (by omega) (by omega) (by omega)) r38
  have F56 : OF (t + 56) L49 m48 := OF.lc _ _ _ _ (fun a h0 h1 => S40 a (by omega) (by omega) (by omega) (by omega)) r40
  have F61 : OF (t + 61) L49 m48 := OF.lc _ _ _ _ (fun a h0 h1 => S42 a (by omega) (by omega) (by omega) (by omega)) r42
  have F66 : OF (t + 66) L49 m48 := OF.lc _ _ _ _ (fun a h0 h1 => S44 a (by omega) (by omega) (by omega) (by omega)) r44
  have F71 : OF (t + 71) L49 m48 := OF.lc _ _ _ _ (fun a h0 h1 => S46 a (by omega) (by omega) (by omega) (by omega)) r46
  have F76 : OF (t + 76) L49 m48 := OF.lc _ _ _ _ (fun a h0 h1 => S48 a (by omega) (by omega) (by omega) (by omega)) r48
  have A25 : L49 (t + 25) = some (.inr (1, 101, [])) := (S21 (t + 25) (by omega) (by omega) (by omega) (by omega)).1.trans hA21
  have C25 : m48.1 (t + 25) = z0 ∧ m48.2 (t + 25) = z1 := ⟨(S21 (t + 25) (by omega) (by omega) (by omega) (by omega)).2.1.trans (hz25).1, (S21 (t + 25) (by omega) (by omega) (by omega) (by omega)).2.2.trans (hz25).2⟩
  have RGA : Rg t (t + 81) L49 m48 := (((((((((((((((((((((((Rg.one (μ := m48) hT_49 (by decide)).app (Rg.arr (μ := m48) hR1_49) (by omega)).app (Rg.arr (μ := m48) hA49) (by omega)).app F3.2 (by omega)).app F8.2 (by omega)).app F13.rg (by omega)).app F15.rg (by omega)).app F17.rg (by omega)).app F19.rg (by omega)).app F21.rg (by omega)).app F23.rg (by omega)).app (Rg.arr (μ := m48) A25) (by omega)).app F26.2 (by omega)).app F31.2 (by omega)).app F36.2 (by omega)).app F41.2 (by omega)).app F46.2 (by omega)).app F51.2 (by omega)).app F56.2 (by omega)).app F61.2 (by omega)).app F66.2 (by omega)).app F71.2 (by omega)).app F76.2 (by omega))
  exact v_ret hx hBD DX4_init_202 ⟨rfl, rfl, fun a ha => S0 a (by omega) (by omega) (by omega) (by omega), Z49, ⟨⟨hT_49, hR1_49, hA49, A25, ⟨F3.1, F8.1⟩, ⟨F13.1, F15.1, F17.1, F19.1, F21.1, F23.1⟩, fun k hk => (match k, hk with | 0, _ => F26.1 | 1, _ => F31.1 | 2, _ => F36.1 | 3, _ => F41.1 | 4, _ => F46.1 | 5, _ => F51.1 | n + 6, h => absurd h (by omega)), fun k hk => (match k, hk with | 0, _ => F56.1 | 1, _ => F61.1 | 2, _ => F66.1 | 3, _ => F71.1 | 4, _ => F76.1 | n + 5, h => absurd h (by omega))⟩, RGA⟩⟩
theorem k_X6 (l : Launch) (G : Gl) {Λ : Lay} {μ : Mem} {t κ : Nat} (hT : Λ t = some (.inl (6, [some .null, some .null, none, some .null, none, some .null, none, none, none, some .null, none, some .null]))) (hZ : Zr Λ μ (t + 1)) (hw : μ.1 t = z0) : SpN l G yX6_init cX6_init 3 none 3 84 1917 [.ref t, .ref κ] Λ (t + 1) μ (CT t (t + 85) Λ μ (ORd κ t)) := by
  refine SpN.intro (by decide) (Nat.le_of_ble_eq_true rfl) (fun x hx hBD hin => ?_)
  refine v_lv [(0, .ref t), (1, .ref κ)] rfl ?_
  refine v_gB hT (fun hg => ?_)
  refine v_aload hx DX6_init_0 0 rfl ?_
  refine v_objI hx DX6_init_1 mlRX6_3 (by decide) (Nat.le_of_ble_eq_true rfl) ?_
  refine v_aload hx DX6_init_4 0 rfl ?_
  refine v_push hx DX6_init_5 ?_
  refine v_newa (t := 0) (n := 90) (cs' := (1, 90)) hx DX6_init_7 (by decide) rfl (lwc1 (List.mem_of_getElem? (i := 48) rfl)) (by decide) (by omega) hZ rfl ⟨Nat.le_of_ble_eq_true rfl, Nat.le_of_ble_eq_true rfl⟩ (fun L1 hA1 sx1 Z1 => ?_)
  have hz1 : μ.1 (t + 1) = z0 ∧ μ.2 (t + 1) = z1 := (hZ (t + 1) (by omega)).2
  have s1 : ∀ a, a ≠ t + 1 → SmA Λ μ L1 μ a := fun a ha => ⟨sx1 a ha, rfl, rfl⟩
  have hT_1 : L1 (t) = some (.inl (6, [some .null, some .null, none, some .null, none, some .null, none, none, none, some .null, none, some .null])) := (s1 (t) (by omega)).1.trans hT
  have wT_1 : μ.1 (t) = z0 := (s1 (t) (by omega)).2.1.trans hw
  refine v_putRo (fs' := [some .null, some (.ref (t + 1)), none, some .null, none, some .null, none, none, none, some .null, none, some .null]) hx hin DX6_init_9 FPRX6_9 hT_1 (Nat.le_of_ble_eq_true rfl) rfl rfl rfl Z1 (by omega) (fun L2 hP2 s2 Z2 => ?_)
  refine v_aload hx DX6_init_12 0 rfl ?_
  refine v_push hx DX6_init_13 ?_
  refine v_putIo hx DX6_init_14 FPRX6_15 hP2 rfl wT_1 rfl Z2 (by omega) (fun m3 wT3 s3 Z3 => ?_)
  have wP3 : m3.1 t = rw1 (z0) 2 0 := wT3
  refine v_aload hx DX6_init_17 0 rfl ?_
  refine v_push hx DX6_init_18 ?_
  refine v_newa (t := 0) (n := 90) (cs' := (2, 180)) hx DX6_init_20 (by decide) rfl (lwc1 (List.mem_of_getElem? (i := 48) rfl)) (by decide) (by omega) Z3 rfl ⟨Nat.le_of_ble_eq_true rfl, Nat.le_of_ble_eq_true rfl⟩ (fun L4 hA4 sx4 Z4 => ?_)
  have hz2 : m3.1 (t + 2) = z0 ∧ m3.2 (t + 2) = z1 := (Z3 (t + 2) (by omega)).2
  have s4 : ∀ a, a ≠ t + 2 → SmA L2 m3 L4 m3 a := fun a ha => ⟨sx4 a ha, rfl, rfl⟩
  have hT_4 : L4 (t) = some (.inl (6, [some .null, some (.ref (t + 1)), none, some .null, none, some .null, none, none, none, some .null, none, some .null])) := (s4 (t) (by omega)).1.trans hP2
  have wT_4 : m3.1 (t) = rw1 (z0) 2 0 := (s4 (t) (by omega)).2.1.trans wP3
  refine v_putRo (fs' := [some .null, some (.ref (t + 1)), none, some (.ref (t + 2)), none, some .null, none, none, none, some .null, none, some .null]) hx hin DX6_init_22 FPRX6_19 hT_4 (Nat.le_of_ble_eq_true rfl) rfl rfl rfl Z4 (by omega) (fun L5 hP5 s5 Z5 => ?_)
  refine v_aload hx DX6_init_25 0 rfl ?_
  refine v_push hx DX6_init_26 ?_
  refine v_putIo hx DX6_init_27 FPRX6_22 hP5 rfl wT_4 rfl Z5 (by omega) (fun m6 wT6 s6 Z6 => ?_)
  have wP6 : m6.1 t = rw1 (rw1 (z0) 2 0) 4 0 := wT6
  refine v_aload hx DX6_init_30 0 rfl ?_
  refine v_push hx DX6_init_31 ?_
  refine v_newa (t := 0) (n := 90) (cs' := (3, 270)) hx DX6_init_33 (by decide) rfl (lwc1 (List.mem_of_getElem? (i := 48) rfl)) (by decide) (by omega) Z6 rfl ⟨Nat.le_of_ble_eq_true rfl, Nat.le_of_ble_eq_true rfl⟩ (fun L7 hA7 sx7 Z7 => ?_)
  have hz3 : m6.1 (t + 3) = z0 ∧ m6.2 (t + 3) = z1 := (Z6 (t + 3) (by omega)).2
  have s7 : ∀ a, a ≠ t + 3 → SmA L5 m6 L7 m6 a := fun a ha => ⟨sx7 a ha, rfl, rfl⟩
  have hT_7 : L7 (t) = some (.inl (6, [some .null, some (.ref (t + 1)), none, some (.ref (t + 2)), none, some .null, none, none, none, some .null, none, some .null])) := (s7 (t) (by omega)).1.trans hP5
  have wT_7 : m6.1 (t) = rw1 (rw1 (z0) 2 0) 4 0 := (s7 (t) (by omega)).2.1.trans wP6
  refine v_putRo (fs' := [some .null, some (.ref (t + 1)), none, some (.ref (t + 2)), none, some (.ref (t + 3)), none, none, none, some .null, none, some .null]) hx hin DX6_init_35 FPRX6_25 hT_7 (Nat.le_of_ble_eq_true rfl) rfl rfl rfl Z7 (by omega) (fun L8 hP8 s8 Z8 => ?_)
  refine v_aload hx DX6_init_38 0 rfl ?_
  refine v_push hx DX6_init_39 ?_
  refine v_putIo hx DX6_init_40 FPRX6_28 hP8 rfl wT_7 rfl Z8 (by omega) (fun m9 wT9 s9 Z9 => ?_)
  have wP9 : m9.1 t = rw1 (rw1 (rw1 (z0) 2 0) 4 0) 6 0 := wT9
  refine v_aload hx DX6_init_43 0 rfl ?_
  refine v_push hx DX6_init_44 ?_
  refine v_putIo hx DX6_init_45 FPRX6_31 hP8 rfl wP9 rfl Z9 (by omega) (fun m10 wT10 s10 Z10 => ?_)
  have wP10 : m10.1 t = rw1 (rw1 (rw1 (rw1 (z0) 2 0) 4 0) 6 0) 7 0 := wT10
  refine v_aload hx DX6_init_48 0 rfl ?_
  refine v_push hx DX6_init_49 ?_
  refine v_putIo hx DX6_init_50 FPRX6_34 hP8 rfl wP10 rfl Z10 (by omega) (fun m11 wT11 s11 Z11 => ?_)
  have wP11 : m11.1 t = rw1 (rw1 (rw1 (rw1 (rw1 (z0) 2 0) 4 0) 6 0) 7 0) 8 0 := wT11
  refine v_aload hx DX6_init_53 0 rfl ?_
  refine v_push hx DX6_init_54 ?_
  refine v_newq (t := 4) (n := 15) (rs := [none, none, none, none, none, none, none, none, none, none, none, none, none, none, none]) (cs' := (4, 285)) hx DX6_init_56 (by decide) rfl clRX6_37 (fun U h => (KK.ao h).2.1) (by decide) rfl (by omega) Z11 rfl ⟨Nat.le_of_ble_eq_true rfl, Nat.le_of_ble_eq_true rfl⟩ (fun L12 hA12 s12 Z12 => ?_)
  have hT_12 : L12 (t) = some (.inl (6, [some .null, some (.ref (t + 1)), none, some (.ref (t + 2)), none, some (.ref (t + 3)), none, none, none, some .null, none, some .null])) := (s12 (t) (by omega)).1.trans hP8
  have wT_12 : m11.1 (t) = rw1 (rw1 (rw1 (rw1 (rw1 (z0) 2 0) 4 0) 6 0) 7 0) 8 0 := (s12 (t) (by omega)).2.1.trans wP11
  refine v_putRo (fs' := [some .null, some (.ref (t + 1)), none, some (.ref (t + 2)), none, some (.ref (t + 3)), none, none, none, some (.ref (t + 4)), none, some .null]) hx hin DX6_init_59 FPRX6_39 hT_12 (Nat.le_of_ble_eq_true rfl) rfl rfl rfl Z12 (by omega) (fun L13 hP13 s13 Z13 => ?_)
  have hR4_13 : L13 (t + 4) = some (.inr (4, 15, [none, none, none, none, none, none, none, none, none, none, none, none, none, none, none])) := (s13 (t + 4) (by omega)).1.trans hA12
  refine v_aload hx DX6_init_62 0 rfl ?_
  refine v_push hx DX6_init_63 ?_
  refine v_putIo hx DX6_init_64 FPRX6_43 hP13 rfl wT_12 rfl Z13 (by omega) (fun m14 wT14 s14 Z14 => ?_)
  have wP14 : m14.1 t = rw1 (rw1 (rw1 (rw1 (rw1 (rw1 (z0) 2 0) 4 0) 6 0) 7 0) 8 0) 10 0 := wT14
  have hR4_14 : L13 (t + 4) = some (.inr (4, 15, [none, none, none, none, none, none, none, none, none, none, none, none, none, none, none])) := (s14 (t + 4) (by omega)).1.trans hR4_13
  refine v_aload hx DX6_init_67 0 rfl ?_
  refine v_nw (e' := t + 10) (cs' := (9, 387)) hx DX6_init_68 DX6_init_71 DX6_init_72 NWRX6_37 CIRX6_46 (by omega) Z14 (fun _ h1 h2 h3 => k_X1 l G h1 h2 h3) (Nat.le_of_ble_eq_true rfl) (by decide) rfl ⟨Nat.le_of_ble_eq_true rfl, Nat.le_of_ble_eq_true rfl⟩ (fun L15 m15 s15 Z15 r15 => ?_)
  have hT_15 : L15 (t) = some (.inl (6, [some .null, some (.ref (t + 1)), none, some (.ref (t + 2)), none, some (.ref (t + 3)), none, none, none, some (.ref (t + 4)), none, some .null])) := (s15 (t) (by omega)).1.trans hP13
  have wT_15 : m15.1 (t) = rw1 (rw1 (rw1 (rw1 (rw1 (rw1 (z0) 2 0) 4 0) 6 0) 7 0) 8 0) 10 0 := (s15 (t) (by omega)).2.1.trans wP14
  have hR4_15 : L15 (t + 4) = some (.inr (4, 15, [none, none, none, none, none, none, none, none, none, none, none, none, none, none, none])) := (s15 (t + 4) (by omega)).1.trans hR4_14
  refine v_putRo (fs' := [some .null, some (.ref (t + 1)), none, some (.ref (t + 2)), none, some (.ref (t + 3)), none, none, none, some (.ref (t + 4)), none, some (.ref (t + 5))]) hx hin DX6_init_75 FPRX6_47 hT_15 (Nat.le_of_ble_eq_true rfl) rfl rfl rfl Z15 (by omega) (fun L16 hP16 s16 Z16 => ?_)
  have hR4_16 : L16 (t + 4) = some (.inr (4, 15, [none, none, none, none, none, none, none, none, none, none, none, none, none, none, none])) := (s16 (t + 4) (by omega)).1.trans hR4_15
  refine v_aload hx DX6_init_78 0 rfl ?_
  refine v_aload hx DX6_init_79 1 rfl ?_
  refine v_putRo (fs' := [some (.ref κ), some (.ref (t + 1)), none, some (.ref (t + 2)), none, some (.ref (t + 3)), none, none, none, some (.ref (t + 4)), none, some (.ref (t + 5))]) hx hin DX6_init_80 FPRX6_51 hP16 (Nat.le_of_ble_eq_true rfl) rfl rfl rfl Z16 (by omega) (fun L17 hP17 s17 Z17 => ?_)
  have hR4_17 : L17 (t + 4) = some (.inr (4, 15, [none, none, none, none, none, none, none, none, none, none, none, none, none, none, none])) := (s17 (t + 4) (by omega)).1.trans hR4_16
  refine v_push hx DX6_init_83 ?_
  refine v_istore hx DX6_init_84 [(2, iv 0), (0, .ref t), (1, .ref κ)] rfl (by decide) ?_
  refine v_iload hx DX6_init_85 0 rfl ?_
  refine v_aload hx DX6_init_86 1 rfl ?_
  refine v_get hx DX6_init_87 FLRX6_39 hP17 (v := .ref (t + 4)) rfl ?_
  refine v_alenI hx DX6_init_90 hR4_17 (by decide) (z := 15) rfl ?_
  refine v_icmp_ge hx DX6_init_91 (by decide) (by decide) (fun c91 => ?_) (fun c91 => ?_)
  · exact absurd c91 (by decide)
  refine v_aload hx DX6_init_94 1 rfl ?_
  refine v_get hx DX6_init_95 FLRX6_39 hP17 (v := .ref (t + 4)) rfl ?_
  refine v_iload hx DX6_init_98 0 rfl ?_
  refine v_nw (e' := t + 15) (cs' := (14, 489)) hx DX6_init_99 DX6_init_102 DX6_init_103 NWRX6_37 CIRX6_46 (by omega) Z17 (fun _ h1 h2 h3 => k_X1 l G h1 h2 h3) (Nat.le_of_ble_eq_true rfl) (by decide) rfl ⟨Nat.le_of_ble_eq_true rfl, Nat.le_of_ble_eq_true rfl⟩ (fun L18 m18 s18 Z18 r18 => ?_)
  have hT_18 : L18 (t) = some (.inl (6, [some (.ref κ), some (.ref (t + 1)), none, some (.ref (t + 2)), none, some (.ref (t + 3)), none, none, none, some (.ref (t + 4)), none, some (.ref (t + 5))])) := (s18 (t) (by omega)).1.trans hP17
  have wT_18 : m18.1 (t) = rw1 (rw1 (rw1 (rw1 (rw1 (rw1 (z0) 2 0) 4 0) 6 0) 7 0) 8 0) 10 0 := (s18 (t) (by omega)).2.1.trans wT_15
  have hR4_18 : L18 (t + 4) = some (.inr (4, 15, [none, none, none, none, none, none, none, none, none, none, none, none, none, none, none])) := (s18 (t + 4) (by omega)).1.trans hR4_17
  refine v_aast (i := 0) (rs' := [some (t + 10), none, none, none, none, none, none, none, none, none, none, none, none, none, none]) hx DX6_init_106 hR4_18 (by decide) rfl r18.1.1 rfl (by decide) (by decide) rfl rfl Z18 (by omega) (fun L19 hA19 s19 Z19 => ?_)
  have hT_19 : L19 (t) = some (.inl (6, [some (.ref κ), some (.ref (t + 1)), none, some (.ref (t + 2)), none, some (.ref (t + 3)), none, none, none, some (.ref (t + 4)), none, some (.ref (t + 5))])) := (s19 (t) (by omega)).1.trans hT_18
  have wT_19 : m18.1 (t) = rw1 (rw1 (rw1 (rw1 (rw1 (rw1 (z0) 2 0) 4 0) 6 0) 7 0) 8 0) 10 0 := (s19 (t) (by omega)).2.1.trans wT_18
  refine v_iinc hx DX6_init_107 0 rfl [(2, iv 1), (0, .ref t), (1, .ref κ)] rfl (by decide) ?_
  refine v_goto hx DX6_init_110 ?_
  refine v_iload hx DX6_init_85 0 rfl ?_
  refine v_aload hx DX6_init_86 1 rfl ?_
  refine v_get hx DX6_init_87 FLRX6_39 hT_19 (v := .ref (t + 4)) rfl ?_
  refine v_alenI hx DX6_init_90 hA19 (by decide) (z := 15) rfl ?_
  refine v_icmp_ge hx DX6_init_91 (by decide) (by decide) (fun c91 => ?_) (fun c91 => ?_)
  · exact absurd c91 (by decide)
  refine v_aload hx DX6_init_94 1 rfl ?_
  refine v_get hx DX6_init_95 FLRX6_39 hT_19 (v := .ref (t + 4)) rfl ?_
  refine v_iload hx DX6_init_98 0 rfl ?_
  refine v_nw (e' := t + 20) (cs' := (19, 591)) hx DX6_init_99 DX6_init_102 DX6_init_103 NWRX6_37 CIRX6_46 (by omega) Z19 (fun _ h1 h2 h3 => k_X1 l G h1 h2 h3) (Nat.le_of_ble_eq_true rfl) (by decide) rfl ⟨Nat.le_of_ble_eq_true rfl, Nat.le_of_ble_eq_true rfl⟩ (fun L20 m20 s20 Z20 r20 => ?_)
  have hT_20 : L20 (t) = some (.inl (6, [some (.ref κ), some (.ref (t + 1)), none, some (.ref (t + 2)), none, some (.ref (t + 3)), none, none, none, some (.ref (t + 4)), none, some (.ref (t + 5))])) := (s20 (t) (by omega)).1.trans hT_19
  have wT_20 : m20.1 (t) = rw1 (rw1 (rw1 (rw1 (rw1 (rw1 (z0) 2 0) 4 0) 6 0) 7 0) 8 0) 10 0 := (s20 (t) (by omega)).2.1.trans wT_19
  have hR4_20 : L20 (t + 4) = some (.inr (4, 15, [some (t + 10), none, none, none, none, none, none, none, none, none, none, none, none, none, none])) := (s20 (t + 4) (by omega)).1.trans hA19
  refine v_aast (i := 1) (rs' := [some (t + 10), some (t + 15), none, none, none, none, none, none, none, none, none, none, none, none, none]) hx DX6_init_106 hR4_20 (by decide) rfl r20.1.1 rfl (by decide) (by decide) rfl rfl Z20 (by omega) (fun L21 hA21 s21 Z21 => ?_)
  have hT_21 : L21 (t) = some (.inl (6, [some (.ref κ), some (.ref (t + 1)), none, some (.ref (t + 2)), none, some (.ref (t + 3)), none, none, none, some (.ref (t + 4)), none, some (.ref (t + 5))])) := (s21 (t) (by omega)).1.trans hT_20
  have wT_21 : m20.1 (t) = rw1 (rw1 (rw1 (rw1 (rw1 (rw1 (z0) 2 0) 4 0) 6 0) 7 0) 8 0) 10 0 := (s21 (t) (by omega)).2.1.trans wT_20
  refine v_iinc hx DX6_init_107 0 rfl [(2, iv 2), (0, .ref t), (1, .ref κ)] rfl (by decide) ?_
  refine v_goto hx DX6_init_110 ?_
  refine v_iload hx DX6_init_85 0 rfl ?_
  refine v_aload hx DX6_init_86 1 rfl ?_
  refine v_get hx DX6_init_87 FLRX6_39 hT_21 (v := .ref (t + 4)) rfl ?_
  refine v_alenI hx DX6_init_90 hA21 (by decide) (z := 15) rfl ?_
  refine v_icmp_ge hx DX6_init_91 (by decide) (by decide) (fun c91 => ?_) (fun c91 => ?_)
  · exact absurd c91 (by decide)
  refine v_aload hx DX6_init_94 1 rfl ?_
  refine v_get hx DX6_init_95 FLRX6_39 hT_21 (v := .ref (t + 4)) rfl ?_
  refine v_iload hx DX6_init_98 0 rfl ?_
  refine v_nw (e' := t + 25) (cs' := (24, 693)) hx DX6_init_99 DX6_init_102 DX6_init_103 NWRX6_37 CIRX6_46 (by omega) Z21 (fun _ h1 h2 h3 => k_X1 l G h1 h2 h3) (Nat.le_of_ble_eq_true rfl) (by decide) rfl ⟨Nat.le_of_ble_eq_true rfl, Nat.le_of_ble_eq_true rfl⟩ (fun L22 m22 s22 Z22 r22 => ?_)
  have hT_22 : L22 (t) = some (.inl (6, [some (.ref κ), some (.ref (t + 1)), none, some (.ref (t + 2)), none, some (.ref (t + 3)), none, none, none, some (.ref (t + 4)), none, some (.ref (t + 5))])) := (s22 (t) (by omega)).1.trans hT_21
  have wT_22 : m22.1 (t) = rw1 (rw1 (rw1 (rw1 (rw1 (rw1 (z0) 2 0) 4 0) 6 0) 7 0) 8 0) 10 0 := (s22 (t) (by omega)).2.1.trans wT_21
  have hR4_22 : L22 (t + 4) = some (.inr (4, 15, [some (t + 10), some (t + 15), none, none, none, none, none, none, none, none, none, none, none, none, none])) := (s22 (t + 4) (by omega)).1.trans hA21
  refine v_aast (i := 2) (rs' := [some (t + 10), some (t + 15), some (t + 20), none, none, none, none, none, none, none, none, none, none, none, none]) hx DX6_init_106 hR4_22 (by decide) rfl r22.1.1 rfl (by decide) (by decide) rfl rfl Z22 (by omega) (fun L23 hA23 s23 Z23 => ?_)
  have hT_23 : L23 (t) = some (.inl (6, [some (.ref κ), some (.ref (t + 1)), none, some (.ref (t + 2)), none, some (.ref (t + 3)), none, none, none, some (.ref (t + 4)), none, some (.ref (t + 5))])) := (s23 (t) (by omega)).1.trans hT_22
  have wT_23 : m22.1 (t) = rw1 (rw1 (rw1 (rw1 (rw1 (rw1 (z0) 2 0) 4 0) 6 0) 7 0) 8 0) 10 0 := (s23 (t) (by omega)).2.1.trans wT_22
  refine v_iinc hx DX6_init_107 0 rfl [(2, iv 3), (0, .ref t), (1, .ref κ)] rfl (by decide) ?_
  refine v_goto hx DX6_init_110 ?_
  refine v_iload hx DX6_init_85 0 rfl ?_
  refine v_aload hx DX6_init_86 1 rfl ?_
  refine v_get hx DX6_init_87 FLRX6_39 hT_23 (v := .ref (t + 4)) rfl ?_
  refine v_alenI hx DX6_init_90 hA23 (by decide) (z := 15) rfl ?_
  refine v_icmp_ge hx DX6_init_91 (by decide) (by decide) (fun c91 => ?_) (fun c91 => ?_)
  · exact absurd c91 (by decide)
  refine v_aload hx DX6_init_94 1 rfl ?_
  refine v_get hx DX6_init_95 FLRX6_39 hT_23 (v := .ref (t + 4)) rfl ?_
  refine v_iload hx DX6_init_98 0 rfl ?_
  refine v_nw (e' := t + 30) (cs' := (29, 795)) hx DX6_init_99 DX6_init_102 DX6_init_103 NWRX6_37 CIRX6_46 (by omega) Z23 (fun _ h1 h2 h3 => k_X1 l G h1 h2 h3) (Nat.le_of_ble_eq_true rfl) (by decide) rfl ⟨Nat.le_of_ble_eq_true rfl, Nat.le_of_ble_eq_true rfl⟩ (fun L24 m24 s24 Z24 r24 => ?_)
  have hT_24 : L24 (t) = some (.inl (6, [some (.ref κ), some (.ref (t + 1)), none, some (.ref (t + 2)), none, some (.ref (t + 3)), none, none, none, some (.ref (t + 4)), none, some (.ref (t + 5))])) := (s24 (t) (by omega)).1.trans hT_23
  have wT_24 : m24.1 (t) = rw1 (rw1 (rw1 (rw1 (rw1 (rw1 (z0) 2 0) 4 0) 6 0) 7 0) 8 0) 10 0 := (s24 (t) (by omega)).2.1.trans wT_23
  have hR4_24 : L24 (t + 4) = some (.inr (4, 15, [some (t + 10), some (t + 15), some (t + 20), none, none, none, none, none, none, none, none, none, none, none, none])) := (s24 (t + 4) (by omega)).1.trans hA23
  refine v_aast (i := 3) (rs' := [some (t + 10), some (t + 15), some (t + 20), some (t + 25), none, none, none, none, none, none, none, none, none, none, none]) hx DX6_init_106 hR4_24 (by decide) rfl r24.1.1 rfl (by decide) (by decide) rfl rfl Z24 (by omega) (fun L25 hA25 s25 Z25 => ?_)
  have hT_25 : L25 (t) = some (.inl (6, [some (.ref κ), some (.ref (t + 1)), none, some (.ref (t + 2)), none, some (.ref (t + 3)), none, none, none, some (.ref (t + 4)), none, some (.ref (t + 5))])) := (s25 (t) (by omega)).1.trans hT_24
  have wT_25 : m24.1 (t) = rw1 (rw1 (rw1 (rw1 (rw1 (rw1 (z0) 2 0) 4 0) 6 0) 7 0) 8 0) 10 0 := (s25 (t) (by omega)).2.1.trans wT_24
  refine v_iinc hx DX6_init_107 0 rfl [(2, iv 4), (0, .ref t), (1, .ref κ)] rfl (by decide) ?_
  refine v_goto hx DX6_init_110 ?_
  refine v_iload hx DX6_init_85 0 rfl ?_
  refine v_aload hx DX6_init_86 1 rfl ?_
  refine v_get hx DX6_init_87 FLRX6_39 hT_25 (v := .ref (t + 4)) rfl ?_
  refine v_alenI hx DX6_init_90 hA25 (by decide) (z := 15) rfl ?_
  refine v_icmp_ge hx DX6_init_91 (by decide) (by decide) (fun c91 => ?_) (fun c91 => ?_)
  · exact absurd c91 (by decide)
  refine v_aload hx DX6_init_94 1 rfl ?_
  refine v_get hx DX6_init_95 FLRX6_39 hT_25 (v := .ref (t + 4)) rfl ?_
  refine v_iload hx DX6_init_98 0 rfl ?_
  refine v_nw (e' := t + 35) (cs' := (34, 897)) hx DX6_init_99 DX6_init_102 DX6_init_103 NWRX6_37 CIRX6_46 (by omega) Z25 (fun _ h1 h2 h3 => k_X1 l G h1 h2 h3) (Nat.le_of_ble_eq_true rfl) (by decide) rfl ⟨Nat.le_of_ble_eq_true rfl, Nat.le_of_ble_eq_true rfl⟩ (fun L26 m26 s26 Z26 r26 => ?_)
  have hT_26 : L26 (t) = some (.inl (6, [some (.ref κ), some (.ref (t + 1)), none, some (.ref (t + 2)), none, some (.ref (t + 3)), none, none, none, some (.ref (t + 4)), none, some (.ref (t + 5))])) := (s26 (t) (by omega)).1.trans hT_25
  have wT_26 : m26.1 (t) = rw1 (rw1 (rw1 (rw1 (rw1 (rw1 (z0) 2 0) 4 0) 6 0) 7 0) 8 0) 10 0 := (s26 (t) (by omega)).2.1.trans wT_25
  have hR4_26 : L26 (t + 4) = some (.inr (4, 15, [some (t + 10), some (t + 15), some (t + 20), some (t + 25), none, none, none, none, none, none, none, none, none, none, none])) := (s26 (t + 4) (by omega)).1.trans hA25
  refine v_aast (i := 4) (rs' := [some (t + 10), some (t + 15), some (t + 20), some (t + 25), some (t + 30), none, none, none, none, none, none, none, none, none, none]) hx DX6_init_106 hR4_26 (by decide) rfl r26.1.1 rfl (by decide) (by decide) rfl rfl Z26 (by omega) (fun L27 hA27 s27 Z27 => ?_)
  have hT_27 : L27 (t) = some (.inl (6, [some (.ref κ), some (.ref (t + 1)), none, some (.ref (t + 2)), none, some (.ref (t + 3)), none, none, none, some (.ref (t + 4)), none, some (.ref (t + 5))])) := (s27 (t) (by omega)).1.trans hT_26
  have wT_27 : m26.1 (t) = rw1 (rw1 (rw1 (rw1 (rw1 (rw1 (z0) 2 0) 4 0) 6 0) 7 0) 8 0) 10 0 := (s27 (t) (by omega)).2.1.trans wT_26
  refine v_iinc hx DX6_init_107 0 rfl [(2, iv 5), (0, .ref t), (1, .ref κ)] rfl (by decide) ?_
  refine v_goto hx DX6_init_110 ?_
  refine v_iload hx DX6_init_85 0 rfl ?_
  refine v_aload hx DX6_init_86 1 rfl ?_
  refine v_get hx DX6_init_87 FLRX6_39 hT_27 (v := .ref (t + 4)) rfl ?_
  refine v_alenI hx DX6_init_90 hA27 (by decide) (z := 15) rfl ?_
  refine v_icmp_ge hx DX6_init_91 (by decide) (by decide) (fun c91 => ?_) (fun c91 => ?_)
  · exact absurd c91 (by decide)
  refine v_aload hx DX6_init_94 1 rfl ?_
  refine v_get hx DX6_init_95 FLRX6_39 hT_27 (v := .ref (t + 4)) rfl ?_
  refine v_iload hx DX6_init_98 0 rfl ?_
  refine v_nw (e' := t + 40) (cs' := (39, 999)) hx DX6_init_99 DX6_init_102 DX6_init_103 NWRX6_37 CIRX6_46 (by omega) Z27 (fun _ h1 h2 h3 => k_X1 l G h1 h2 h3) (Nat.le_of_ble_eq_true rfl) (by decide) rfl ⟨Nat.le_of_ble_eq_true rfl, Nat.le_of_ble_eq_true rfl⟩ (fun L28 m28 s28 Z28 r28 => ?_)
  have hT_28 : L28 (t) = some (.inl (6, [some (.ref κ), some (.ref (t + 1)), none, some (.ref (t + 2)), none, some (.ref (t + 3)), none, none, none, some (.ref (t + 4)), none, some (.ref (t + 5))])) := (s28 (t) (by omega)).1.trans hT_27
  have wT_28 : m28.1 (t) = rw1 (rw1 (rw1 (rw1 (rw1 (rw1 (z0) 2 0) 4 0) 6 0) 7 0) 8 0) 10 0 := (s28 (t) (by omega)).2.1.trans wT_27
  have hR4_28 : L28 (t + 4) = some (.inr (4, 15, [some (t + 10), some (t + 15), some (t + 20), some (t + 25), some (t + 30), none, none, none, none, none, none, none, none, none, none])) := (s28 (t + 4) (by omega)).1.trans hA27
  refine v_aast (i := 5) (rs' := [some (t + 10), some (t + 15), some (t + 20), some (t + 25), some (t + 30), some (t + 35), none, none, none, none, none, none, none, none, none]) hx DX6_init_106 hR4_28 (by decide) rfl r28.1.1 rfl (by decide) (by decide) rfl rfl Z28 (by omega) (fun L29 hA29 s29 Z29 => ?_)
  have hT_29 : L29 (t) = some (.inl (6, [some (.ref κ), some (.ref (t + 1)), none, some (.ref (t + 2)), none, some (.ref (t + 3)), none, none, none, some (.ref (t + 4)), none, some (.ref (t + 5))])) := (s29 (t) (by omega)).1.trans hT_28
  have wT_29 : m28.1 (t) = rw1 (rw1 (rw1 (rw1 (rw1 (rw1 (z0) 2 0) 4 0) 6 0) 7 0) 8 0) 10 0 := (s29 (t) (by omega)).2.1.trans wT_28
  refine v_iinc hx DX6_init_107 0 rfl [(2, iv 6), (0, .ref t), (1, .ref κ)] rfl (by decide) ?_
  refine v_goto hx DX6_init_110 ?_
  refine v_iload hx DX6_init_85 0 rfl ?_
  refine v_aload hx DX6_init_86 1 rfl ?_
  refine v_get hx DX6_init_87 FLRX6_39 hT_29 (v := .ref (t + 4)) rfl ?_
  refine v_alenI hx DX6_init_90 hA29 (by decide) (z := 15) rfl ?_
  refine v_icmp_ge hx DX6_init_91 (by decide) (by decide) (fun c91 => ?_) (fun c91 => ?_)
  · exact absurd c91 (by decide)
  refine v_aload hx DX6_init_94 1 rfl ?_
  refine v_get hx DX6_init_95 FLRX6_39 hT_29 (v := .ref (t + 4)) rfl ?_
  refine v_iload hx DX6_init_98 0 rfl ?_
  refine v_nw (e' := t + 45) (cs' := (44, 1101)) hx DX6_init_99 DX6_init_102 DX6_init_103 NWRX6_37 CIRX6_46 (by omega) Z29 (fun _ h1 h2 h3 => k_X1 l G h1 h2 h3) (Nat.le_of_ble_eq_true rfl) (by decide) rfl ⟨Nat.le_of_ble_eq_true rfl, Nat.le_of_ble_eq_true rfl⟩ (fun L30 m30 s30 Z30 r30 => ?_)
  have hT_30 : L30 (t) = some (.inl (6, [some (.ref κ), some (.ref (t + 1)), none, some (.ref (t + 2)), none, some (.ref (t + 3)), none, none, none, some (.ref (t + 4)), none, some (.ref (t + 5))])) := (s30 (t) (by omega)).1.trans hT_29
  have wT_30 : m30.1 (t) = rw1 (rw1 (rw1 (rw1 (rw1 (rw1 (z0) 2 0) 4 0) 6 0) 7 0) 8 0) 10 0 := (s30 (t) (by omega)).2.1.trans wT_29
  have hR4_30 : L30 (t + 4) = some (.inr (4, 15, [some (t + 10), some (t + 15), some (t + 20), some (t + 25), some (t + 30), some (t + 35), none, none, none, none, none, none, none, none, none])) := (s30 (t + 4) (by omega)).1.trans hA29
  refine v_aast (i := 6) (rs' := [some (t + 10), some (t + 15), some (t + 20), some (t + 25), some (t + 30), some (t + 35), some (t + 40), none, none, none, none, none, none, none, none]) hx DX6_init_106 hR4_30 (by decide) rfl r30.1.1 rfl (by decide) (by decide) rfl rfl Z30 (by omega) (fun L31 hA31 s31 Z31 => ?_)
  have hT_31 : L31 (t) = some (.inl (6, [some (.ref κ), some (.ref (t + 1)), none, some (.ref (t + 2)), none, some (.ref (t + 3)), none, none, none, some (.ref (t + 4)), none, some (.ref (t + 5))])) := (s31 (t) (by omega)).1.trans hT_30
  have wT_31 : m30.1 (t) = rw1 (rw1 (rw1 (rw1 (rw1 (rw1 (z0) 2 0) 4 0) 6 0) 7 0) 8 0) 10 0 := (s31 (t) (by omega)).2.1.trans wT_30
  refine v_iinc hx DX6_init_107 0 rfl [(2, iv 7), (0, .ref t), (1, .ref κ)] rfl (by decide) ?_
  refine v_goto hx DX6_init_110 ?_
  refine v_iload hx DX6_init_85 0 rfl ?_
  refine v_aload hx DX6_init_86 1 rfl ?_
  refine v_get hx DX6_init_87 FLRX6_39 hT_31 (v := .ref (t + 4)) rfl ?_
  refine v_alenI hx DX6_init_90 hA31 (by decide) (z := 15) rfl ?_
  refine v_icmp_ge hx DX6_init_91 (by decide) (by decide) (fun c91 => ?_) (fun c91 => ?_)
  · exact absurd c91 (by decide)
  refine v_aload hx DX6_init_94 1 rfl ?_
  refine v_get hx DX6_init_95 FLRX6_39 hT_31 (v := .ref (t + 4)) rfl ?_
  refine v_iload hx DX6_init_98 0 rfl ?_
  refine v_nw (e' := t + 50) (cs' := (49, 1203)) hx DX6_init_99 DX6_init_102 DX6_init_103 NWRX6_37 CIRX6_46 (by omega) Z31 (fun _ h1 h2 h3 => k_X1 l G h1 h2 h3) (Nat.le_of_ble_eq_true rfl) (by decide) rfl ⟨Nat.le_of_ble_eq_true rfl, Nat.le_of_ble_eq_true rfl⟩ (fun L32 m32 s32 Z32 r32 => ?_)
  have hT_32 : L32 (t) = some (.inl (6, [some (.ref κ), some (.ref (t + 1)), none, some (.ref (t + 2)), none, some (.ref (t + 3)), none, none, none, some (.ref (t + 4)), none, some (.ref (t + 5))])) := (s32 (t) (by omega)).1.trans hT_31
  have wT_32 : m32.1 (t) = rw1 (rw1 (rw1 (rw1 (rw1 (rw1 (z0) 2 0) 4 0) 6 0) 7 0) 8 0) 10 0 := (s32 (t) (by omega)).2.1.trans wT_31
  have hR4_32 : L32 (t + 4) = some (.inr (4, 15, [some (t + 10), some (t + 15), some (t + 20), some (t + 25), some (t + 30), some (t + 35), some (t + 40), none, none, none, none, none, none, none, none])) := (s32 (t + 4) (by omega)).1.trans hA31
  refine v_aast (i := 7) (rs' := [some (t + 10), some (t + 15), some (t + 20), some (t + 25), some (t + 30), some (t + 35), some (t + 40), some (t + 45), none, none, none, none, none, none, none]) hx DX6_init_106 hR4_32 (by decide) rfl r32.1.1 rfl (by decide) (by decide) rfl rfl Z32 (by omega) (fun L33 hA33 s33 Z33 => ?_)
  have hT_33 : L33 (t) = some (.inl (6, [some (.ref κ), some (.ref (t + 1)), none, some (.ref (t + 2)), none, some (.ref (t + 3)), none, none, none, some (.ref (t + 4)), none, some (.ref (t + 5))])) := (s33 (t) (by omega)).1.trans hT_32
  have wT_33 : m32.1 (t) = rw1 (rw1 (rw1 (rw1 (rw1 (rw1 (z0) 2 0) 4 0) 6 0) 7 0) 8 0) 10 0 := (s33 (t) (by omega)).2.1.trans wT_32
  refine v_iinc hx DX6_init_107 0 rfl [(2, iv 8), (0, .ref t), (1, .ref κ)] rfl (by decide) ?_
  refine v_goto hx DX6_init_110 ?_
  refine v_iload hx DX6_init_85 0 rfl ?_
  refine v_aload hx DX6_init_86 1 rfl ?_
  refine v_get hx DX6_init_87 FLRX6_39 hT_33 (v := .ref (t + 4)) rfl ?_
  refine v_alenI hx DX6_init_90 hA33 (by decide) (z := 15) rfl ?_
  refine v_icmp_ge hx DX6_init_91 (by decide) (by decide) (fun c91 => ?_) (fun c91 => ?_)
  · exact absurd c91 (by decide)
  refine v_aload hx DX6_init_94 1 rfl ?_
  refine v_get hx DX6_init_95 FLRX6_39 hT_33 (v := .ref (t + 4)) rfl ?_
  refine v_iload hx DX6_init_98 0 rfl ?_
  refine v_nw (e' := t + 55) (cs' := (54, 1305)) hx DX6_init_99 DX6_init_102 DX6_init_103 NWRX6_37 CIRX6_46 (by omega) Z33 (fun _ h1 h2 h3 => k_X1 l G h1 h2 h3) (Nat.le_of_ble_eq_true rfl) (by decide) rfl ⟨Nat.le_of_ble_eq_true rfl, Nat.le_of_ble_eq_true rfl⟩ (fun L34 m34 s34 Z34 r34 => ?_)
  have hT_34 : L34 (t) = some (.inl (6, [some (.ref κ), some (.ref (t + 1)), none, some (.ref (t + 2)), none, some (.ref (t + 3)), none, none, none, some (.ref (t + 4)), none, some (.ref (t + 5))])) := (s34 (t) (by omega)).1.trans hT_33
  have wT_34 : m34.1 (t) = rw1 (rw1 (rw1 (rw1 (rw1 (rw1 (z0) 2 0) 4 0) 6 0) 7 0) 8 0) 10 0 := (s34 (t) (by omega)).2.1.trans wT_33
  have hR4_34 : L34 (t + 4) = some (.inr (4, 15, [some (t + 10), some (t + 15), some (t + 20), some (t + 25), some (t + 30), some (t + 35), some (t + 40), some (t + 45), none, none, none, none, none, none, none])) := (s34 (t + 4) (by omega)).1.trans hA33
  refine v_aast (i := 8) (rs' := [some (t + 10), some (t + 15), some (t + 20), some (t + 25), some (t + 30), some (t + 35), some (t + 40), some (t + 45), some (t + 50), none, none, none, none, none, none]) hx DX6_init_106 hR4_34 (by decide) rfl r34.1.1 rfl (by decide) (by decide) rfl rfl Z34 (by omega) (fun L35 hA35 s35 Z35 => ?_)
  have hT_35 : L35 (t) = some (.inl (6, [some (.ref κ), some (.ref (t + 1)), none, some (.ref (t + 2)), none, some (.ref (t + 3)), none, none, none, some (.ref (t + 4)), none, some (.ref (t + 5))])) := (s35 (t) (by omega)).1.trans hT_34
  have wT_35 : m34.1 (t) = rw1 (rw1 (rw1 (rw1 (rw1 (rw1 (z0) 2 0) 4 0) 6 0) 7 0) 8 0) 10 0 := (s35 (t) (by omega)).2.1.trans wT_34
  refine v_iinc hx DX6_init_107 0 rfl [(2, iv 9), (0, .ref t), (1, .ref κ)] rfl (by decide) ?_
  refine v_goto hx DX6_init_110 ?_
  refine v_iload hx DX6_init_85 0 rfl ?_
  refine v_aload hx DX6_init_86 1 rfl ?_
  refine v_get hx DX6_init_87 FLRX6_39 hT_35 (v := .ref (t + 4)) rfl ?_
  refine v_alenI hx DX6_init_90 hA35 (by decide) (z := 15) rfl ?_
  refine v_icmp_ge hx DX6_init_91 (by decide) (by decide) (fun c91 => ?_) (fun c91 => ?_)
  · exact absurd c91 (by decide)
  refine v_aload hx DX6_init_94 1 rfl ?_
  refine v_get hx DX6_init_95 FLRX6_39 hT_35 (v := .ref (t + 4)) rfl ?_
  refine v_iload hx DX6_init_98 0 rfl ?_
  refine v_nw (e' := t + 60) (cs' := (59, 1407)) hx DX6_init_99 DX6_init_102 DX6_init_103 NWRX6_37 CIRX6_46 (by omega) Z35 (fun _ h1 h2 h3 => k_X1 l G h1 h2 h3) (Nat.le_of_ble_eq_true rfl) (by decide) rfl ⟨Nat.le_of_ble_eq_true rfl, Nat.le_of_ble_eq_true rfl⟩ (fun L36 m36 s36 Z36 r36 => ?_)
  have hT_36 : L36 (t) = some (.inl (6, [some (.ref κ), some (.ref (t + 1)), none, some (.ref (t + 2)), none, some (.ref (t + 3)), none, none, none, some (.ref (t + 4)), none, some (.ref (t + 5))])) := (s36 (t) (by omega)).1.trans hT_35
  have wT_36 : m36.1 (t) = rw1 (rw1 (rw1 (rw1 (rw1 (rw1 (z0) 2 0) 4 0) 6 0) 7 0) 8 0) 10 0 := (s36 (t) (by omega)).2.1.trans wT_35
  have hR4_36 : L36 (t + 4) = some (.inr (4, 15, [some (t + 10), some (t + 15), some (t + 20), some (t + 25), some (t + 30), some (t + 35), some (t + 40), some (t + 45), some (t + 50), none, none, none, none, none, none])) := (s36 (t + 4) (by omega)).1.trans hA35
  refine v_aast (i := 9) (rs' := [some (t + 10), some (t + 15), some (t + 20), some (t + 25), some (t + 30), some (t + 35), some (t + 40), some (t + 45), some (t + 50), some (t + 55), none, none, none, none, none]) hx DX6_init_106 hR4_36 (by decide) rfl r36.1.1 rfl (by decide) (by decide) rfl rfl Z36 (by omega) (fun L37 hA37 s37 Z37 => ?_)
  have hT_37 : L37 (t) = some (.inl (6, [some (.ref κ), some (.ref (t + 1)), none, some (.ref (t + 2)), none, some (.ref (t + 3)), none, none, none, some (.ref (t + 4)), none, some (.ref (t + 5))])) := (s37 (t) (by omega)).1.trans hT_36
  have wT_37 : m36.1 (t) = rw1 (rw1 (rw1 (rw1 (rw1 (rw1 (z0) 2 0) 4 0) 6 0) 7 0) 8 0) 10 0 := (s37 (t) (by omega)).2.1.trans wT_36
  refine v_iinc hx DX6_init_107 0 rfl [(2, iv 10), (0, .ref t), (1, .ref κ)] rfl (by decide) ?_
  refine v_goto hx DX6_init_110 ?_
  refine v_iload hx DX6_init_85 0 rfl ?_
  refine v_aload hx DX6_init_86 1 rfl ?_
  refine v_get hx DX6_init_87 FLRX6_39 hT_37 (v := .ref (t + 4)) rfl ?_
  refine v_alenI hx DX6_init_90 hA37 (by decide) (z := 15) rfl ?_
  refine v_icmp_ge hx DX6_init_91 (by decide) (by decide) (fun c91 => ?_) (fun c91 => ?_)
  · exact absurd c91 (by decide)
  refine v_aload hx DX6_init_94 1 rfl ?_
  refine v_get hx DX6_init_95 FLRX6_39 hT_37 (v := .ref (t + 4)) rfl ?_
  refine v_iload hx DX6_init_98 0 rfl ?_
  refine v_nw (e' := t + 65) (cs' := (64, 1509)) hx DX6_init_99 DX6_init_102 DX6_init_103 NWRX6_37 CIRX6_46 (by omega) Z37 (fun _ h1 h2 h3 => k_X1 l G h1 h2 h3) (Nat.le_of_ble_eq_true rfl) (by decide) rfl ⟨Nat.le_of_ble_eq_true rfl, Nat.le_of_ble_eq_true rfl⟩ (fun L38 m38 s38 Z38 r38 => ?_)
  have hT_38 : L38 (t) = some (.inl (6, [some (.ref κ), some (.ref (t + 1)), none, some (.ref (t + 2)), none, some (.ref (t + 3)), none, none, none, some (.ref (t + 4)), none, some (.ref (t + 5))])) := (s38 (t) (by omega)).1.trans hT_37
  have wT_38 : m38.1 (t) = rw1 (rw1 (rw1 (rw1 (rw1 (rw1 (z0) 2 0) 4 0) 6 0) 7 0) 8 0) 10 0 := (s38 (t) (by omega)).2.1.trans wT_37
  have hR4_38 : L38 (t + 4) = some (.inr (4, 15, [some (t + 10), some (t + 15), some (t + 20), some (t + 25), some (t + 30), some (t + 35), some (t + 40), some (t + 45), some (t + 50), some (t + 55), none, none, none, none, none])) := (s38 (t + 4) (by omega)).1.trans hA37
  refine v_aast (i := 10) (rs' := [some (t + 10), some (t + 15), some (t + 20), some (t + 25), some (t + 30), some (t + 35), some (t + 40), some (t + 45), some (t + 50), some (t + 55), some (t + 60), none, none, none, none]) hx DX6_init_106 hR4_38 (by decide) rfl r38.1.1 rfl (by decide) (by decide) rfl rfl Z38 (by omega) (fun L39 hA39 s39 Z39 => ?_)
  have hT_39 : L39 (t) = some (.inl (6, [some (.ref κ), some (.ref (t + 1)), none, some (.ref (t + 2)), none, some (.ref (t + 3)), none, none, none, some (.ref (t + 4)), none, some (.ref (t + 5))])) := (s39 (t) (by omega)).1.trans hT_38
  have wT_39 : m38.1 (t) = rw1 (rw1 (rw1 (rw1 (rw1 (rw1 (z0) 2 0) 4 0) 6 0) 7 0) 8 0) 10 0 := (s39 (t) (by omega)).2.1.trans wT_38
  refine v_iinc hx DX6_init_107 0 rfl [(2, iv 11), (0, .ref t), (1, .ref κ)] rfl (by decide) ?_
  refine v_goto hx DX6_init_110 ?_
  refine v_iload hx DX6_init_85 0 rfl ?_
  refine v_aload hx DX6_init_86 1 rfl ?_
  refine v_get hx DX6_init_87 FLRX6_39 hT_39 (v := .ref (t + 4)) rfl ?_
  refine v_alenI hx DX6_init_90 hA39 (by decide) (z := 15) rfl ?_
  refine v_icmp_ge hx DX6_init_91 (by decide) (by decide) (fun c91 => ?_) (fun c91 => ?_)
  · exact absurd c91 (by decide)
  refine v_aload hx DX6_init_94 1 rfl ?_
  refine v_get hx DX6_init_95 FLRX6_39 hT_39 (v := .ref (t + 4)) rfl ?_
  refine v_iload hx DX6_init_98 0 rfl ?_
  refine v_nw (e' := t + 70) (cs' := (69, 1611)) hx DX6_init_99 DX6_init_102 DX6_init_103 NWRX6_37 CIRX6_46 (by omega) Z39 (fun _ h1 h2 h3 => k_X1 l G h1 h2 h3) (Nat.le_of_ble_eq_true rfl) (by decide) rfl ⟨Nat.le_of_ble_eq_true rfl, Nat.le_of_ble_eq_true rfl⟩ (fun L40 m40 s40 Z40 r40 => ?_)
  have hT_40 : L40 (t) = some (.inl (6, [some (.ref κ), some (.ref (t + 1)), none, some (.ref (t + 2)), none, some (.ref (t + 3)), none, none, none, some (.ref (t + 4)), none, some (.ref (t + 5))])) := (s40 (t) (by omega)).1.trans hT_39
  have wT_40 : m40.1 (t) = rw1 (rw1 (rw1 (rw1 (rw1 (rw1 (z0) 2 0) 4 0) 6 0) 7 0) 8 0) 10 0 := (s40 (t) (by omega)).2.1.trans wT_39
  have hR4_40 : L40 (t + 4) = some (.inr (4, 15, [some (t + 10), some (t + 15), some (t + 20), some (t + 25), some (t + 30), some (t + 35), some (t + 40), some (t + 45), some (t + 50), some (t + 55), some (t + 60), none, none, none, none])) := (s40 (t + 4) (by omega)).1.trans hA39
  refine v_aast (i := 11) (rs' := [some (t + 10), some (t + 15), some (t + 20), some (t + 25), some (t + 30), some (t + 35), some (t + 40), some (t + 45), some (t + 50), some (t + 55), some (t + 60), some (t + 65), none, none, none]) hx DX6_init_106 hR4_40 (by decide) rfl r40.1.1 rfl (by decide) (by decide) rfl rfl Z40 (by omega) (fun L41 hA41 s41 Z41 => ?_)
  have hT_41 : L41 (t) = some (.inl (6, [some (.ref κ), some (.ref (t + 1)), none, some (.ref (t + 2)), none, some (.ref (t + 3)), none, none, none, some (.ref (t + 4)), none, some (.ref (t + 5))])) := (s41 (t) (by omega)).1.trans hT_40
  have wT_41 : m40.1 (t) = rw1 (rw1 (rw1 (rw1 (rw1 (rw1 (z0) 2 0) 4 0) 6 0) 7 0) 8 0) 10 0 := (s41 (t) (by omega)).2.1.trans wT_40
  refine v_iinc hx DX6_init_107 0 rfl [(2, iv 12), (0, .ref t), (1, .ref κ)] rfl (by decide) ?_
  refine v_goto hx DX6_init_110 ?_
  refine v_iload hx DX6_init_85 0 rfl ?_
  refine v_aload hx DX6_init_86 1 rfl ?_
  refine v_get hx DX6_init_87 FLRX6_39 hT_41 (v := .ref (t + 4)) rfl ?_
  refine v_alenI hx DX6_init_90 hA41 (by decide) (z := 15) rfl ?_
  refine v_icmp_ge hx DX6_init_91 (by decide) (by decide) (fun c91 => ?_) (fun c91 => ?_)
  · exact absurd c91 (by decide)
  refine v_aload hx DX6_init_94 1 rfl ?_
  refine v_get hx DX6_init_95 FLRX6_39 hT_41 (v := .ref (t + 4)) rfl ?_
  refine v_iload hx DX6_init_98 0 rfl ?_
  refine v_nw (e' := t + 75) (cs' := (74, 1713)) hx DX6_init_99 DX6_init_102 DX6_init_103 NWRX6_37 CIRX6_46 (by omega) Z41 (fun _ h1 h2 h3 => k_X1 l G h1 h2 h3) (Nat.le_of_ble_eq_true rfl) (by decide) rfl ⟨Nat.le_of_ble_eq_true rfl, Nat.le_of_ble_eq_true rfl⟩ (fun L42 m42 s42 Z42 r42 => ?_)
  have hT_42 : L42 (t) = some (.inl (6, [some (.ref κ), some (.ref (t + 1)), none, some (.ref (t + 2)), none, some (.ref (t + 3)), none, none, none, some (.ref (t + 4)), none, some (.ref (t + 5))])) := (s42 (t) (by omega)).1.trans hT_41
  have wT_42 : m42.1 (t) = rw1 (rw1 (rw1 (rw1 (rw1 (rw1 (z0) 2 0) 4 0) 6 0) 7 0) 8 0) 10 0 := (s42 (t) (by omega)).2.1.trans wT_41
  have hR4_42 : L42 (t + 4) = some (.inr (4, 15, [some (t + 10), some (t + 15), some (t + 20), some (t + 25), some (t + 30), some (t + 35), some (t + 40), some (t + 45), some (t + 50), some (t + 55), some (t + 60), some (t + 65), none, none, none])) := (s42 (t + 4) (by omega)).1.trans hA41
  refine v_aast (i := 12) (rs' := [some (t + 10), some (t + 15), some (t + 20), some (t + 25), some (t + 30), some (t + 35), some (t + 40), some (t + 45), some (t + 50), some (t + 55), some (t + 60), some (t + 65), some (t + 70), none, none]) hx DX6_init_106 hR4_42 (by decide) rfl r42.1.1 rfl (by decide) (by decide) rfl rfl Z42 (by omega) (fun L43 hA43 s43 Z43 => ?_)
  have hT_43 : L43 (t) = some (.inl (6, [some (.ref κ), some (.ref (t + 1)), none, some (.ref (t + 2)), none, some (.ref (t + 3)), none, none, none, some (.ref (t + 4)), none, some (.ref (t + 5))])) := (s43 (t) (by omega)).1.trans hT_42
  have wT_43 : m42.1 (t) = rw1 (rw1 (rw1 (rw1 (rw1 (rw1 (z0) 2 0) 4 0) 6 0) 7 0) 8 0) 10 0 := (s43 (t) (by omega)).2.1.trans wT_42
  refine v_iinc hx DX6_init_107 0 rfl [(2, iv 13), (0, .ref t), (1, .ref κ)] rfl (by decide) ?_
  refine v_goto hx DX6_init_110 ?_
  refine v_iload hx DX6_init_85 0 rfl ?_
  refine v_aload hx DX6_init_86 1 rfl ?_
  refine v_get hx DX6_init_87 FLRX6_39 hT_43 (v := .ref (t + 4)) rfl ?_
  refine v_alenI hx DX6_init_90 hA43 (by decide) (z := 15) rfl ?_
  refine v_icmp_ge hx DX6_init_91 (by decide) (by decide) (fun c91 => ?_) (fun c91 => ?_)
  · exact absurd c91 (by decide)
  refine v_aload hx DX6_init_94 1 rfl ?_
  refine v_get hx DX6_init_95 FLRX6_39 hT_43 (v := .ref (t + 4)) rfl ?_
  refine v_iload hx DX6_init_98 0 rfl ?_
  refine v_nw (e' := t + 80) (cs' := (79, 1815)) hx DX6_init_99 DX6_init_102 DX6_init_103 NWRX6_37 CIRX6_46 (by omega) Z43 (fun _ h1 h2 h3 => k_X1 l G h1 h2 h3) (Nat.le_of_ble_eq_true rfl) (by decide) rfl ⟨Nat.le_of_ble_eq_true rfl, Nat.le_of_ble_eq_true rfl⟩ (fun L44 m44 s44 Z44 r44 => ?_)
  have hT_44 : L44 (t) = some (.inl (6, [some (.ref κ), some (.ref (t + 1)), none, some (.ref (t + 2)), none, some (.ref (t + 3)), none, none, none, some (.ref (t + 4)), none, some (.ref (t + 5))])) := (s44 (t) (by omega)).1.trans hT_43
  have wT_44 : m44.1 (t) = rw1 (rw1 (rw1 (rw1 (rw1 (rw1 (z0) 2 0) 4 0) 6 0) 7 0) 8 0) 10 0 := (s44 (t) (by omega)).2.1.trans wT_43
  have hR4_44 : L44 (t + 4) = some (.inr (4, 15, [some (t + 10), some (t + 15), some (t + 20), some (t + 25), some (t + 30), some (t + 35), some (t + 40), some (t + 45), some (t + 50), some (t + 55), some (t + 60), some (t + 65), some (t + 70), none, none])) := (s44 (t + 4) (by omega)).1.trans hA43
  refine v_aast (i := 13) (rs' := [some (t + 10), some (t + 15), some (t + 20), some (t + 25), some (t + 30), some (t + 35), some (t + 40), some (t + 45), some (t + 50), some (t + 55), some (t + 60), some (t + 65), some (t + 70), some (t + 75), none]) hx DX6_init_106 hR4_44 (by decide) rfl r44.1.1 rfl (by decide) (by decide) rfl rfl Z44 (by omega) (fun L45 hA45 s45 Z45 => ?_)
  have hT_45 : L45 (t) = some (.inl (6, [some (.ref κ), some (.ref (t + 1)), none, some (.ref (t + 2)), none, some (.ref (t + 3)), none, none, none, some (.ref (t + 4)), none, some (.ref (t + 5))])) := (s45 (t) (by omega)).1.trans hT_44
  have wT_45 : m44.1 (t) = rw1 (rw1 (rw1 (rw1 (rw1 (rw1 (z0) 2 0) 4 0) 6 0) 7 0) 8 0) 10 0 := (s45 (t) (by omega)).2.1.trans wT_44
  refine v_iinc hx DX6_init_107 0 rfl [(2, iv 14), (0, .ref t), (1, .ref κ)] rfl (by decide) ?_
  refine v_goto hx DX6_init_110 ?_
  refine v_iload hx DX6_init_85 0 rfl ?_
  refine v_aload hx DX6_init_86 1 rfl ?_
  refine v_get hx DX6_init_87 FLRX6_39 hT_45 (v := .ref (t + 4)) rfl ?_
  refine v_alenI hx DX6_init_90 hA45 (by decide) (z := 15) rfl ?_
  refine v_icmp_ge hx DX6_init_91 (by decide) (by decide) (fun c91 => ?_) (fun c91 => ?_)
  · exact absurd c91 (by decide)
  refine v_aload hx DX6_init_94 1 rfl ?_
  refine v_get hx DX6_init_95 FLRX6_39 hT_45 (v := .ref (t + 4)) rfl ?_
  refine v_iload hx DX6_init_98 0 rfl ?_
  refine v_nw (e' := t + 85) (cs' := (84, 1917)) hx DX6_init_99 DX6_init_102 DX6_init_103 NWRX6_37 CIRX6_46 (by omega) Z45 (fun _ h1 h2 h3 => k_X1 l G h1 h2 h3) (Nat.le_of_ble_eq_true rfl) (by decide) rfl ⟨Nat.le_of_ble_eq_true rfl, Nat.le_of_ble_eq_true rfl⟩ (fun L46 m46 s46 Z46 r46 => ?_)
  have hT_46 : L46 (t) = some (.inl (6, [some (.ref κ), some (.ref (t + 1)), none, some (.ref (t + 2)), none, some (.ref (t + 3)), none, none, none, some (.ref (t + 4)), none, some (.ref (t + 5))])) := (s46 (t) (by omega)).1.trans hT_45
  have wT_46 : m46.1 (t) = rw1 (rw1 (rw1 (rw1 (rw1 (rw1 (z0) 2 0) 4 0) 6 0) 7 0) 8 0) 10 0 := (s46 (t) (by omega)).2.1.trans wT_45
  have hR4_46 : L46 (t + 4) = some (.inr (4, 15, [some (t + 10), some (t + 15), some (t + 20), some (t + 25), some (t + 30), some (t + 35), some (t + 40), some (t + 45), some (t + 50), some (t + 55), some (t + 60), some (t + 65), some (t + 70), some (t + 75), none])) := (s46 (t + 4) (by omega)).1.trans hA45
  refine v_aast (i := 14) (rs' := [some (t + 10), some (t + 15), some (t + 20), some (t + 25), some (t + 30), some (t + 35), some (t + 40), some (t + 45), some (t + 50), some (t + 55), some (t + 60), some (t + 65), some (t + 70), some (t + 75), some (t + 80)]) hx DX6_init_106 hR4_46 (by decide) rfl r46.1.1 rfl (by decide) (by decide) rfl rfl Z46 (by omega) (fun L47 hA47 s47 Z47 => ?_)
  have hT_47 : L47 (t) = some (.inl (6, [some (.ref κ), some (.ref (t + 1)), none, some (.ref (t + 2)), none, some (.ref (t + 3)), none, none, none, some (.ref (t + 4)), none, some (.ref (t + 5))])) := (s47 (t) (by omega)).1.trans hT_46
  have wT_47 : m46.1 (t) = rw1 (rw1 (rw1 (rw1 (rw1 (rw1 (z0) 2 0) 4 0) 6 0) 7 0) 8 0) 10 0 := (s47 (t) (by omega)).2.1.trans wT_46
  refine v_iinc hx DX6_init_107 0 rfl [(2, iv 15), (0, .ref t), (1, .ref κ)] rfl (by decide) ?_
  refine v_goto hx DX6_init_110 ?_
  refine v_iload hx DX6_init_85 0 rfl ?_
  refine v_aload hx DX6_init_86 1 rfl ?_
  refine v_get hx DX6_init_87 FLRX6_39 hT_47 (v := .ref (t + 4)) rfl ?_
  refine v_alenI hx DX6_init_90 hA47 (by decide) (z := 15) rfl ?_
  refine v_icmp_ge hx DX6_init_91 (by decide) (by decide) (fun c91 => ?_) (fun c91 => ?_)
  rotate_left
  · exact absurd c91 (by decide)
  have S47 : ∀ a, a < t + 85 → a ≠ t → a ≠ t + 4 → SmA L47 m46 L47 m46 a := fun a _ _ _ => SmA.rf
  have S46 : ∀ a, a < t + 85 → a ≠ t → a ≠ t + 4 → SmA L46 m46 L47 m46 a := fun a h0 q0 q4 => (s47 a (by omega)).trans (S47 a (by omega) q0 q4)
  have S45 : ∀ a, a < t + 80 → a ≠ t → a ≠ t + 4 → SmA L45 m44 L47 m46 a := fun a h0 q0 q4 => (s46 a (by omega)).trans (S46 a (by omega) q0 q4)
  have S44 : ∀ a, a < t + 80 → a ≠ t → a ≠ t + 4 → SmA L44 m44 L47 m46 a := fun a h0 q0 q4 => (s45 a (by omega)).trans (S45 a (by omega) q0 q4)
  have S43 : ∀ a, a < t + 75 → a ≠ t → a ≠ t + 4 → SmA L43 m42 L47 m46 a := fun a h0 q0 q4 => (s44 a (by omega)).trans (S44 a (by omega) q0 q4)
  have S42 : ∀ a, a < t + 75 → a ≠ t → a ≠ t + 4 → SmA L42 m42 L47 m46 a := fun a h0 q0 q4 => (s43 a (by omega)).trans (S43 a (by omega) q0 q4)
  have S41 : ∀ a, a < t + 70 → a ≠ t → a ≠ t + 4 → SmA L41 m40 L47 m46 a := fun a h0 q0 q4 => (s42 a (by omega)).trans (S42 a (by omega) q0 q4)
  have S40 : ∀ a, a < t + 70 → a ≠ t → a ≠ t + 4 → SmA L40 m40 L47 m46 a := fun a h0 q0 q4 => (s41 a (by omega)).trans (S41 a (by omega) q0 q4)
  have S39 : ∀ a, a < t + 65 → a ≠ t → a ≠ t + 4 → SmA L39 m38 L47 m46 a := fun a h0 q0 q4 => (s40 a (by omega)).trans (S40 a (by omega) q0 q4)
  have S38 : ∀ a, a < t + 65 → a ≠ t → a ≠ t + 4 → SmA L38 m38 L47 m46 a := fun a h0 q0 q4 => (s39 a (by omega)).trans (S39 a (by omega) q0 q4)
  have S37 : ∀ a, a < t + 60 → a ≠ t → a ≠ t + 4 → SmA L37 m36 L47 m46 a := fun a h0 q0 q4 => (s38 a (by omega)).trans (S38 a (by omega) q0 q4)
  have S36 : ∀ a, a < t + 60 → a ≠ t → a ≠ t + 4 → SmA L36 m36 L47 m46 a := fun a h0 q0 q4 => (s37 a (by omega)).trans (S37 a (by omega) q0 q4)
  have S35 : ∀ a, a < t + 55 → a ≠ t → a ≠ t + 4 → SmA L35 m34 L47 m46 a := fun a h0 q0 q4 => (s36 a (by omega)).trans (S36 a (by omega) q0 q4)
  have S34 : ∀ a, a < t + 55 → a ≠ t → a ≠ t + 4 → SmA L34 m34 L47 m46 a := fun a h0 q0 q4 => (s35 a (by omega)).trans (S35 a (by omega) q0 q4)
  have S33 : ∀ a, a < t + 50 → a ≠ t → a ≠ t + 4 → SmA L33 m32 L47 m46 a := fun a h0 q0 q4 => (s34 a (by omega)).trans (S34 a (by omega) q0 q4)
  have S32 : ∀ a, a < t + 50 → a ≠ t → a ≠ t + 4 → SmA L32 m32 L47 m46 a := fun a h0 q0 q4 => (s33 a (by omega)).trans (S33 a (by omega) q0 q4)
  have S31 : ∀ a, a < t + 45 → a ≠ t → a ≠ t + 4 → SmA L31 m30 L47 m46 a := fun a h0 q0 q4 => (s32 a (by omega)).trans (S32 a (by omega) q0 q4)
  have S30 : ∀ a, a < t + 45 → a ≠ t → a ≠ t + 4 → SmA L30 m30 L47 m46 a := fun a h0 q0 q4 => (s31 a (by omega)).trans (S31 a (by omega) q0 q4)
  have S29 : ∀ a, a < t + 40 → a ≠ t → a ≠ t + 4 → SmA L29 m28 L47 m46 a := fun a h0 q0 q4 => (s30 a (by omega)).trans (S30 a (by omega) q0 q4)
  have S28 : ∀ a, a < t + 40 → a ≠ t → a ≠ t + 4 → SmA L28 m28 L47 m46 a := fun a h0 q0 q4 => (s29 a (by omega)).trans (S29 a (by omega) q0 q4)
  have S27 : ∀ a, a < t + 35 → a ≠ t → a ≠ t + 4 → SmA L27 m26 L47 m46 a := fun a h0 q0 q4 => (s28 a (by omega)).trans (S28 a (by omega) q0 q4)
  have S26 : ∀ a, a < t + 35 → a ≠ t → a ≠ t + 4 → SmA L26 m26 L47 m46 a := fun a h0 q0 q4 => (s27 a (by omega)).trans (S27 a (by omega) q0 q4)
  have S25 : ∀ a, a < t + 30 → a ≠ t → a ≠ t + 4 → SmA L25 m24 L47 m46 a := fun a h0 q0 q4 => (s26 a (by omega)).trans (S26 a (by omega) q0 q4)
  have S24 : ∀ a, a < t + 30 → a ≠ t → a ≠ t + 4 → SmA L24 m24 L47 m46 a := fun a h0 q0 q4 => (s25 a (by omega)).trans (S25 a (by omega) q0 q4)
  have S23 : ∀ a, a < t + 25 → a ≠ t → a ≠ t + 4 → SmA L23 m22 L47 m46 a := fun a h0 q0 q4 => (s24 a (by omega)).trans (S24 a (by omega) q0 q4)
  have S22 : ∀ a, a < t + 25 → a ≠ t → a ≠ t + 4 → SmA L22 m22 L47 m46 a := fun a h0 q0 q4 => (s23 a (by omega)).trans (S23 a (by omega) q0 q4)
  have S21 : ∀ a, a < t + 20 → a ≠ t → a ≠ t + 4 → SmA L21 m20 L47 m46 a := fun a h0 q0 q4 => (s22 a (by omega)).trans (S22 a (by omega) q0 q4)
  have S20 : ∀ a, a < t + 20 → a ≠ t → a ≠ t + 4 → SmA L20 m20 L47 m46 a := fun a h0 q0 q4 => (s21 a (by omega)).trans (S21 a (by omega) q0 q4)
  have S19 : ∀ a, a < t + 15 → a ≠ t → a ≠ t + 4 → SmA L19 m18 L47 m46 a := fun a h0 q0 q4 => (s20 a (by omega)).trans (S20 a (by omega) q0 q4)
  have S18 : ∀ a, a < t + 15 → a ≠ t → a ≠ t + 4 → SmA L18 m18 L47 m46 a := fun a h0 q0 q4 => (s19 a (by omega)).trans (S19 a (by omega) q0 q4)
  have S17 : ∀ a, a < t + 10 → a ≠ t → a ≠ t + 4 → SmA L17 m15 L47 m46 a := fun a h0 q0 q4 => (s18 a (by omega)).trans (S18 a (by omega) q0 q4)
  have S16 : ∀ a, a < t + 10 → a ≠ t → a ≠ t + 4 → SmA L16 m15 L47 m46 a := fun a h0 q0 q4 => (s17 a (by omega)).trans (S17 a (by omega) q0 q4)
  have S15 : ∀ a, a < t + 10 → a ≠ t → a ≠ t + 4 → SmA L15 m15 L47 m46 a := fun a h0 q0 q4 => (s16 a (by omega)).trans (S16 a (by omega) q0 q4)
  have S14 : ∀ a, a < t + 5 → a ≠ t → a ≠ t + 4 → SmA L13 m14 L47 m46 a := fun a h0 q0 q4 => (s15 a (by omega)).trans (S15 a (by omega) q0 q4)
  have S13 : ∀ a, a < t + 5 → a ≠ t → a ≠ t + 4 → SmA L13 m11 L47 m46 a := fun a h0 q0 q4 => (s14 a (by omega)).trans (S14 a (by omega) q0 q4)
  have S12 : ∀ a, a < t + 5 → a ≠ t → a ≠ t + 4 → SmA L12 m11 L47 m46 a := fun a h0 q0 q4 => (s13 a (by omega)).trans (S13 a (by omega) q0 q4)
  have S11 : ∀ a, a < t + 4 → a ≠ t → a ≠ t + 4 → SmA L8 m11 L47 m46 a := fun a h0 q0 q4 => (s12 a (by omega)).trans (S12 a (by omega) q0 q4)
  have S10 : ∀ a, a < t + 4 → a ≠ t → a ≠ t + 4 → SmA L8 m10 L47 m46 a := fun a h0 q0 q4 => (s11 a (by omega)).trans (S11 a (by omega) q0 q4)
  have S9 : ∀ a, a < t + 4 → a ≠ t → a ≠ t + 4 → SmA L8 m9 L47 m46 a := fun a h0 q0 q4 => (s10 a (by omega)).trans (S10 a (by omega) q0 q4)
  have S8 : ∀ a, a < t + 4 → a ≠ t → a ≠ t + 4 → SmA L8 m6 L47 m46 a := fun a h0 q0 q4 => (s9 a (by omega)).trans (S9 a (by omega) q0 q4)
  have S7 : ∀ a, a < t + 4 → a ≠ t → a ≠ t + 4 → SmA L7 m6 L47 m46 a := fun a h0 q0 q4 => (s8 a (by omega)).trans (S8 a (by omega) q0 q4)
  have S6 : ∀ a, a < t + 3 → a ≠ t → a ≠ t + 4 → SmA L5 m6 L47 m46 a := fun a h0 q0 q4 => (s7 a (by omega)).trans (S7 a (by omega) q0 q4)
  have S5 : ∀ a, a < t + 3 → a ≠ t → a ≠ t + 4 → SmA L5 m3 L47 m46 a := fun a h0 q0 q4 => (s6 a (by omega)).trans (S6 a (by omega) q0 q4)
  have S4 : ∀ a, a < t + 3 → a ≠ t → a ≠ t + 4 → SmA L4 m3 L47 m46 a := fun a h0 q0 q4 => (s5 a (by omega)).trans (S5 a (by omega) q0 q4)
  have S3 : ∀ a, a < t + 2 → a ≠ t → a ≠ t + 4 → SmA L2 m3 L47 m46 a := fun a h0 q0 q4 => (s4 a (by omega)).trans (S4 a (by omega) q0 q4)
  have S2 : ∀ a, a < t + 2 → a ≠ t → a ≠ t + 4 → SmA L2 μ L47 m46 a := fun a h0 q0 q4 => (s3 a (by omega)).trans (S3 a (by omega) q0 q4)
  have S1 : ∀ a, a < t + 2 → a ≠ t → a ≠ t + 4 → SmA L1 μ L47 m46 a := fun a h0 q0 q4 => (s2 a (by omega)).trans (S2 a (by omega) q0 q4)
  have S0 : ∀ a, a < t + 1 → a ≠ t → a ≠ t + 4 → SmA Λ μ L47 m46 a := fun a h0 q0 q4 => (s1 a (by omega)).trans (S1 a (by omega) q0 q4)
  have F5 : OF (t + 5) L47 m46 := OF.lc _ _ _ _ (fun a h0 h1 => S15 a (by omega) (by omega) (by omega)) r15
  have F10 : OF (t + 10) L47 m46 := OF.lc _ _ _ _ (fun a h0 h1 => S18 a (by omega) (by omega) (by omega)) r18
  have F15 : OF (t + 15) L47 m46 := OF.lc _ _ _ _ (fun a h0 h1 => S20 a (by omega) (by omega) (by omega)) r20
  have F20 : OF (t + 20) L47 m46 := OF.lc _ _ _ _ (fun a h0 h1 => S22 a (by omega) (by omega) (by omega)) r22
  have F25 : OF (t + 25) L47 m46 := OF.lc _ _ _ _ (fun a h0 h1 => S24 a (by omega) (by omega) (by omega)) r24
  have F30 : OF (t + 30) L47 m46 := OF.lc _ _ _ _ (fun a h0 h1 => S26 a (by omega) (by omega) (by omega)) r26
  have F35 : OF (t + 35) L47 m46 := OF.lc _ _ _ _ (fun a h0 h1 => S28 a (by omega) (by omega) (by omega)) r28
  have F40 : OF (t + 40) L47 m46 := OF.lc _ _ _ _ (fun a h0 h1 => S30 a (by omega) (by omega) (by omega)) r30
  have F45 : OF (t + 45) L47 m46 := OF.lc _ _ _ _ (fun a h0 h1 => S32 a (by omega) (by omega) (by omega)) r32
  have F50 : OF (t + 50) L47 m46 := OF.lc _ _ _ _ (fun a h0 h1 => S34 a (by omega) (by omega) (by omega)) r34
  have F55 : OF (t + 55) L47 m46 := OF.lc _ _ _ _ (fun a h0 h1 => S36 a (by omega) (by omega) (by omega)) r36
  have F60 : OF (t + 60) L47 m46 := OF.lc _ _ _ _ (fun a h0 h1 => S38 a (by omega) (by omega) (by omega)) r38
  have F65 : OF (t + 65) L47 m46 := OF.lc _ _ _ _ (fun a h0 h1 => S40 a (by omega) (by omega) (by omega)) r40
  have F70 : OF (t + 70) L47 m46 := OF.lc _ _ _ _ (fun a h0 h1 => S42 a (by omega) (by omega) (by omega)) r42
  have F75 : OF (t + 75) L47 m46 := OF.lc _ _ _ _ (fun a h0 h1 => S44 a (by omega) (by omega) (by omega)) r44
  have F80 : OF (t + 80) L47 m46 := OF.lc _ _ _ _ (fun a h0 h1 => S46 a (by omega) (by omega) (by omega)) r46
  have A1 : L47 (t + 1) = some (.inr (0, 90, [])) := (S1 (t + 1) (by omega) (by omega) (by omega)).1.trans hA1
  have C1 : m46.1 (t + 1) = z0 ∧ m46.2 (t + 1) = z1 := ⟨(S1 (t + 1) (by omega) (by omega) (by omega)).2.1.trans (hz1).1, (S1 (t + 1) (by omega) (by omega) (by omega)).2.2.trans (hz1).2⟩
  have A2 : L47 (t + 2) = some (.inr (0, 90, [])) := (S4 (t + 2) (by omega) (by omega) (by omega)).1.trans hA4
  have C2 : m46.1 (t + 2) = z0 ∧ m46.2 (t + 2) = z1 := ⟨(S4 (t + 2) (by omega) (by omega) (by omega)).2.1.trans (hz2).1, (S4 (t + 2) (by omega) (by omega) (by omega)).2.2.trans (hz2).2⟩
  have A3 : L47 (t + 3) = some (.inr (0, 90, [])) := (S7 (t + 3) (by omega) (by omega) (by omega)).1.trans hA7
  have C3 : m46.1 (t + 3) = z0 ∧ m46.2 (t + 3) = z1 := ⟨(S7 (t + 3) (by omega) (by omega) (by omega)).2.1.trans (hz3).1, (S7 (t + 3) (by omega) (by omega) (by omega)).2.2.trans (hz3).2⟩
  have RGA : Rg t (t + 85) L47 m46 := (((((((((((((((((((((Rg.one (μ := m46) hT_47 (by decide)).app (Rg.arr (μ := m46) A1) (by omega)).app (Rg.arr (μ := m46) A2) (by omega)).app (Rg.arr (μ := m46) A3) (by omega)).app (Rg.arr (μ := m46) hA47) (by omega)).app F5.2 (by omega)).app F10.2 (by omega)).app F15.2 (by omega)).app F20.2 (by omega)).app F25.2 (by omega)).app F30.2 (by omega)).app F35.2 (by omega)).app F40.2 (by omega)).app F45.2 (by omega)).app F50.2 (by omega)).app F55.2 (by omega)).app F60.2 (by omega)).app F65.2 (by omega)).app F70.2 (by omega)).app F75.2 (by omega)).app F80.2 (by omega))
  exact v_ret hx hBD DX6_init_113 ⟨rfl, rfl, fun a ha => S0 a (by omega) (by omega) (by omega), Z47, ⟨⟨hT_47, A1, A2, A3, hA47, F5.1, fun k hk => (match k, hk with | 0, _ => F10.1 | 1, _ => F15.1 | 2, _ => F20.1 | 3, _ => F25.1 | 4, _ => F30.1 | 5, _ => F35.1 | 6, _ => F40.1 | 7, _ => F45.1 | 8, _ => F50.1 | 9, _ => F55.1 | 10, _ => F60.1 | 11, _ => F65.1 | 12, _ => F70.1 | 13, _ => F75.1 | 14, _ => F80.1 | n + 15, h => absurd h (by omega))⟩, RGA, ⟨by decide, by rw [wT_47]; rfl, fun i hi => absurd hi (by simp), fun c hc => absurd hc (by simp)⟩, by rw [wT_47]; decide⟩⟩
