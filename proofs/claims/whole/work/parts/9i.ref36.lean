/-! ===== the reference: residues, logarithms, asked ===== -/
noncomputable def rofN (P : PS) (j : Int) : Nat → Int × Int
  | 0 => (-4, 0)
  | n + 1 => if (rofN P j n).1 ≠ -4 then rofN P j n else if evI P ((n : Int) + 1) 0 = 0 then (if (rofN P j n).2 = j then ((n : Int) + 1, (rofN P j n).2) else (-4, (rofN P j n).2 + 1)) else rofN P j n
noncomputable def rofA (P : PS) (j : Int) : Int := (rofN P j 100).1
theorem rofN_st {P : PS} {j : Int} {n : Nat} (h : (rofN P j n).1 ≠ -4) : ∀ m : Nat, (rofN P j (n + m)).1 = (rofN P j n).1 := by
  intro m
  induction m with
  | zero => rfl
  | succ m ih =>
    show (rofN P j (n + m + 1)).1 = _
    rw [rofN, if_pos (by rw [ih]; exact h)]; exact ih
theorem rofN_none {P : PS} {j : Int} {n : Nat} {k : Int} (h : rofN P j n = (-4, k)) : (evI P ((n : Int) + 1) 0 = 0 → k = j → rofA P j = (n : Int) + 1 ∨ 100 ≤ n) ∧ (evI P ((n : Int) + 1) 0 = 0 → k ≠ j → rofN P j (n + 1) = (-4, k + 1)) ∧ (evI P ((n : Int) + 1) 0 ≠ 0 → rofN P j (n + 1) = (-4, k)) := by
  have e1 : ¬ (rofN P j n).1 ≠ -4 := by rw [h]; exact fun q => q rfl
  refine ⟨fun a b => ?_, fun a b => ?_, fun a => ?_⟩
  · by_cases c : 100 ≤ n
    · exact Or.inr c
    · left
      have e2 : rofN P j (n + 1) = ((n : Int) + 1, (rofN P j n).2) := by rw [rofN, if_neg e1, if_pos a, if_pos (by rw [h]; exact b)]
      have e3 := rofN_st (P := P) (j := j) (n := n + 1) (by rw [e2]; show (n : Int) + 1 ≠ -4; omega) (100 - (n + 1))
      rw [show n + 1 + (100 - (n + 1)) = 100 by omega, e2] at e3
      exact e3
  · rw [rofN, if_neg e1, if_pos a, if_neg (by rw [h]; exact b), h]
  · rw [rofN, if_neg e1, if_neg a, h]
noncomputable def lgP (a s : PS) (c : Int) : PS := s.gcd ((s.der.sm (fi (-c))).add a)
noncomputable def lgN (a s : PS) : Nat → Int × Int
  | 0 => (0, (s.size : Int) - 1)
  | n + 1 => if evI (rsP a s) ((n : Int) + 1) 0 = 0 then ((lgN a s n).1 + 1, (lgN a s n).2 - ((lgP a s ((n : Int) + 1)).size - 1)) else lgN a s n
theorem igR0_ok {b : Bd} {J : Int → FP2} (hb : b.good) (hJ : JOK J) : FOK (igR b J 0) 33 29 := by
  have st := (ig_step b J (i := 0) (by omega)).2
  have zw : PS.zero.size ≤ 4 := by rw [PS.zero_sz]; omega
  rw [st]
  unfold igS
  by_cases c1 : b.2.2.1 = 1
  · rw [if_pos c1]
    exact (sp2_ok (hJ 0 (by omega) (by omega)) (PS.fin_sm _ (PS.fin_der ⟨_, b.uP_lt⟩)) (Nat.le_trans (PS.size_le (PS.lt_sm _ (PS.flt (PS.fin_der ⟨_, b.uP_lt⟩)))) (Nat.le_trans b.uP_sz.2 (by omega))) (by omega) (by omega)).2.2.mono (by omega) (by omega)
  · rw [if_neg c1, if_pos (Or.inl rfl)]
    by_cases c2 : b.2.2.1 = 2
    · rw [if_pos c2]
      exact (sp2_ok (ig_at hb hJ c2 (i := 0) (by omega)).2 PS.fin_zero zw (by omega) (by omega)).2.2.mono (by omega) (by omega)
    · rw [if_neg c2]
      exact (sp2_ok (hJ 0 (by omega) (by omega)) PS.fin_zero zw (by omega) (by omega)).2.2.mono (by omega) (by omega)
noncomputable def rst (b : Bd) (f : Int) : FP2 := igR b (fnJ b f) 0
noncomputable def resA (b : Bd) (f k : Int) : Int := if bz ((0 ≤ f ∧ f ≤ 2) ∧ 0 ≤ k) = 1 then (if b.fit f = 0 then -2 else ca (rsP (rst b f).1 (rst b f).2) k) else -1
def logV (f j w k : Int) : Prop := (0 ≤ f ∧ f ≤ 2) ∧ 0 ≤ j ∧ (0 ≤ w ∧ w ≤ 1) ∧ 0 ≤ k
noncomputable def logA (b : Bd) (f j w k : Int) : Int := if bz (logV f j w k) = 1 then (if b.fit f = 0 then -2 else if rofA (rsP (rst b f).1 (rst b f).2) j = -4 ∨ w = 0 then rofA (rsP (rst b f).1 (rst b f).2) j else ca (lgP (rst b f).1 (rst b f).2 (rofA (rsP (rst b f).1 (rst b f).2) j)) k) else -1
def askV (f w : Int) : Prop := (0 ≤ f ∧ f ≤ 2) ∧ (0 ≤ w ∧ w ≤ 4)
noncomputable def askA (b : Bd) (f w : Int) : Int := if bz (askV f w) = 1 then (if b.fit f = 0 then -2 else if w = 0 then (hwI b (fnJ b f) 5).1 else if w = 1 then (if (hwI b (fnJ b f) 5).1 = 0 then (hwI b (fnJ b f) 5).2 + 2 else -4) else if w = 2 then (lgN (rst b f).1 (rst b f).2 100).1 else if w = 3 then (lgN (rst b f).1 (rst b f).2 100).2 else ((rsP (rst b f).1 (rst b f).2).size : Int) - 1) else -1
theorem rofA_rng (P : PS) (j : Int) : rofA P j = -4 ∨ (1 ≤ rofA P j ∧ rofA P j ≤ 100) := by
  have h : ∀ n : Nat, (rofN P j n).1 = -4 ∨ (1 ≤ (rofN P j n).1 ∧ (rofN P j n).1 ≤ n) := by
    intro n
    induction n with
    | zero => exact Or.inl rfl
    | succ n ih =>
      rw [rofN]
      split
      · omega
      · split
        · split
          · right; show 1 ≤ (n : Int) + 1 ∧ (n : Int) + 1 ≤ _; omega
          · exact Or.inl rfl
        · omega
  exact h 100
theorem r_residueOf (l : Launch) (G : Gl) (Λ : Lay) (sz : Nat) (μ : Mem) {ν : Nat} {ρ : Nat → PS} {j : Int} (hR : refK Λ ν) (hw : RW μ ν ρ) (hj : 0 ≤ j ∧ j ≤ 2147483647) : Sp l G yX12_residueOf cX12_residueOf 4 (some FieldType.int) 2 [.ref ν, iv j] Λ sz μ (pP μ (rofA (ρ 149) j)) := by
  refine Sp.intro (by decide) (Nat.le_of_ble_eq_true rfl) (fun x hx hBD => ?_)
  refine v_lv [(0, .ref ν), (1, iv j)] rfl ?_
  have L4 : ∀ (nf : Nat) (c k : Int), (101 - c < (nf : Int)) → (1 ≤ c ∧ c ≤ 101) → (0 ≤ k ∧ k < c) → (rofN (ρ 149) j (c - 1).toNat = (-4, k)) → V G x (0, 0) Λ sz μ 4 [(3, iv c), (2, iv k), (0, .ref ν), (1, iv j)] [] := by
    intro nf
    induction nf with
    | zero => intro c k hm hc hk hr; exact absurd hm (by omega)
    | succ nf ih =>
      intro c k hm hc hk hr
      have er := evI_rng (ρ 149) c 0
      have q := rofN_none hr
      rw [show (((c - 1).toNat : Nat) : Int) + 1 = c by omega, show (c - 1).toNat + 1 = (c + 1 - 1).toNat by omega] at q
      refine v_iload hx DX12_residueOf_4 0 rfl ?_
      refine v_push hx DX12_residueOf_5 ?_
      refine v_icmp_ge hx DX12_residueOf_7 (by omega) (by decide) (fun c7 => ?_) (fun c7 => ?_)
      · skip
        refine v_push hx DX12_residueOf_37 ?_
        exact v_ri hx hBD DX12_residueOf_39 (⟨rfl, by unfold rofA; rw [show (c - 1).toNat = 100 by omega] at hr; rw [hr]⟩)
      · skip
        refine v_aload hx DX12_residueOf_10 2 rfl ?_
        refine v_push hx DX12_residueOf_11 ?_
        refine v_iload hx DX12_residueOf_14 0 rfl ?_
        refine v_cVp hx DX12_residueOf_15 CVRX12_177 [iv 149, iv c] (r_valueAt (s := 149) l G Λ sz μ hR hw (by decide) (by omega)) hR.o rfl rfl (Nat.le_of_ble_eq_true rfl) (by decide) ⟨Nat.le_refl _, Nat.le_refl _⟩ ?_
        refine v_if_ne hx DX12_residueOf_18 (by omega) (fun c18 => ?_) (fun c18 => ?_)
        · skip
          refine v_iinc hx DX12_residueOf_31 0 rfl [(3, iv (c + 1)), (2, iv k), (0, .ref ν), (1, iv j)] rfl (by decide) ?_
          refine v_goto hx DX12_residueOf_34 ?_
          exact v_sub [0, 1, 2, 3] _ rfl (ih (c + 1) k (by omega) (by omega) (by omega) (q.2.2 c18))
        · skip
          refine v_iload hx DX12_residueOf_21 1 rfl ?_
          refine v_iload hx DX12_residueOf_22 3 rfl ?_
          refine v_icmp_ne hx DX12_residueOf_23 (by omega) (by omega) (fun c23 => ?_) (fun c23 => ?_)
          · skip
            refine v_iinc hx DX12_residueOf_28 1 rfl [(2, iv (k + 1)), (3, iv c), (0, .ref ν), (1, iv j)] rfl (by decide) ?_
            refine v_iinc hx DX12_residueOf_31 1 rfl [(3, iv (c + 1)), (2, iv (k + 1)), (0, .ref ν), (1, iv j)] rfl (by decide) ?_
            refine v_goto hx DX12_residueOf_34 ?_
            exact v_sub [0, 1, 2, 3] _ rfl (ih (c + 1) (k + 1) (by omega) (by omega) (by omega) (q.2.1 c18 (by omega)))
          · skip
            refine v_iload hx DX12_residueOf_26 0 rfl ?_
            exact v_ri hx hBD DX12_residueOf_27 (⟨rfl, by have w := q.1 c18 (by omega); omega⟩)
  refine v_push hx DX12_residueOf_0 ?_
  refine v_istore hx DX12_residueOf_1 [(2, iv 0), (0, .ref ν), (1, iv j)] rfl (by decide) ?_
  refine v_push hx DX12_residueOf_2 ?_
  refine v_istore hx DX12_residueOf_3 [(3, iv 1), (2, iv 0), (0, .ref ν), (1, iv j)] rfl (by decide) ?_
  exact v_sub [0, 1, 2, 3] _ rfl (L4 200 1 0 (by omega) (by omega) (by omega) rfl)
theorem r_laysLog (l : Launch) (G : Gl) (Λ : Lay) (sz : Nat) (μ : Mem) {ν : Nat} {ρ : Nat → PS} {c : Int} {X : FP2} (hR : refK Λ ν) (hw : RW μ ν ρ) (hc : 0 ≤ c ∧ c ≤ 100) (hX : RFI ρ 24 X) : Sp l G yX12_laysLog cX12_laysLog 3 none 4 [.ref ν, iv c] Λ sz μ (pV (fun μ' => ∃ σ, RW μ' ν σ ∧ σ 150 = lgP X.1 X.2 c ∧ (∀ r : Nat, r < 140 ∨ r = 149 → σ r = ρ r) ∧ Fr [ν + 1] μ μ')) := by
  refine Sp.intro (by decide) (Nat.le_of_ble_eq_true rfl) (fun x hx hBD => ?_)
  refine v_lv [(0, .ref ν), (1, iv c)] rfl ?_
  have hx1 : ρ 48 = X.1 := hX.1
  have hx2 : ρ 49 = X.2 := hX.2
  refine v_push hx DX12_laysLog_0 ?_
  refine v_cSp hx DX12_laysLog_2 CSRX12_41 [iv 24] (r_below (f := 24) l G Λ sz μ) rfl rfl (Nat.le_of_ble_eq_true rfl) (by decide) ⟨Nat.le_refl _, Nat.le_refl _⟩ ?_
  refine v_istore hx DX12_laysLog_5 [(2, iv ((2 * 24 + 1 : Nat) : Int)), (0, .ref ν), (1, iv c)] rfl (by decide) ?_
  refine v_aload hx DX12_laysLog_6 1 rfl ?_
  refine v_push hx DX12_laysLog_7 ?_
  refine v_iload hx DX12_laysLog_10 0 rfl ?_
  refine v_cVv hx DX12_laysLog_11 CVRX12_59 [iv 142, iv ((2 * 24 + 1 : Nat) : Int)] (r_derives (s := 142) (t := 49) l G Λ sz μ hR hw (by decide) (by decide)) hR.o rfl rfl (Nat.le_of_ble_eq_true rfl) (by decide) ⟨Nat.le_refl _, Nat.le_refl _⟩ (fun μ3 hμ3 => ?_)
  obtain ⟨σ1, w1, a1, k1⟩ := RW.abs hμ3.1
  have f1 := hμ3.2
  refine v_aload hx DX12_laysLog_14 1 rfl ?_
  refine v_push hx DX12_laysLog_15 ?_
  refine v_iload hx DX12_laysLog_18 2 rfl ?_
  refine v_ineg hx DX12_laysLog_19 ?_
  refine v_cVv hx DX12_laysLog_20 CVRX12_35 [iv 142, iv (-c)] (r_scale (s := 142) l G Λ sz μ3 hR w1 (by decide) (by omega)) hR.o rfl rfl (Nat.le_of_ble_eq_true rfl) (by decide) ⟨Nat.le_refl _, Nat.le_refl _⟩ (fun μ5 hμ5 => ?_)
  obtain ⟨σ2, w2, a2, k2⟩ := RW.abs hμ5.1
  have f2 := hμ5.2
  refine v_aload hx DX12_laysLog_23 1 rfl ?_
  refine v_push hx DX12_laysLog_24 ?_
  refine v_push hx DX12_laysLog_27 ?_
  refine v_cSp hx DX12_laysLog_29 CSRX12_38 [iv 24] (r_above (f := 24) l G Λ sz μ5) rfl rfl (Nat.le_of_ble_eq_true rfl) (by decide) ⟨Nat.le_refl _, Nat.le_refl _⟩ ?_
  refine v_push hx DX12_laysLog_32 ?_
  refine v_cVv hx DX12_laysLog_33 CVRX12_53 [iv 142, iv ((2 * 24 : Nat) : Int), iv 1] (r_adds (s := 142) (t := 48) l G Λ sz μ5 hR w2 (by decide) (by decide) (by decide)) hR.o rfl rfl (Nat.le_of_ble_eq_true rfl) (by decide) ⟨Nat.le_refl _, Nat.le_refl _⟩ (fun μ9 hμ9 => ?_)
  obtain ⟨σ3, w3, a3, k3⟩ := RW.abs hμ9.1
  have f3 := hμ9.2
  have e3 : σ3 142 = (X.2.der.sm (fi (-c))).add X.1 := by rw [a3, a2, a1, k2 48 (by omega), k1 48 (by omega), hx1, hx2, fi_1, PS.sm_one]
  refine v_aload hx DX12_laysLog_36 1 rfl ?_
  refine v_push hx DX12_laysLog_37 ?_
  refine v_iload hx DX12_laysLog_40 0 rfl ?_
  refine v_push hx DX12_laysLog_41 ?_
  refine v_cVv hx DX12_laysLog_44 CVRX12_44 [iv 150, iv ((2 * 24 + 1 : Nat) : Int), iv 142] (r_common (o := 150) (a := 49) (b := 142) l G Λ sz μ9 hR w3 (by decide) (by decide) (by decide)) hR.o rfl rfl (Nat.le_of_ble_eq_true rfl) (by decide) ⟨Nat.le_refl _, Nat.le_refl _⟩ (fun μ11 hμ11 => ?_)
  obtain ⟨σ4, w4, a4, k4, f4⟩ := hμ11
  exact v_rv hx hBD DX12_laysLog_47 (⟨σ4, w4, by rw [a4, e3, k3 49 (by omega), k2 49 (by omega), k1 49 (by omega), hx2]; rfl, fun r hr => (k4 r (by omega) (by omega)).trans ((k3 r (by omega)).trans ((k2 r (by omega)).trans (k1 r (by omega)))), ((f1.trans f2).trans f3).trans f4⟩)
theorem r_laysLogs (l : Launch) (G : Gl) (Λ : Lay) (sz : Nat) (μ : Mem) {ν : Nat} {ρ : Nat → PS} {X : FP2} (hR : refK Λ ν) (hw : RW μ ν ρ) (hX : RFI ρ 24 X) (hP : RDP X.1 X.2) (hz : X.1.size ≤ 40 ∧ X.2.size ≤ 40) : Sp l G yX12_laysLogs cX12_laysLogs 2 none 5 [.ref ν] Λ sz μ (pV (fun μ' => ∃ σ, RW μ' ν σ ∧ σ 149 = (rsP X.1 X.2) ∧ (∀ r : Nat, r < 140 → σ r = ρ r) ∧ μ'.1 ν 22 = (lgN X.1 X.2 100).1 ∧ μ'.1 ν 23 = (lgN X.1 X.2 100).2 ∧ FrN ν [ν + 1, ν + 2, ν + 9, ν + 10, ν + 11] [22, 23] μ μ')) := by
  refine Sp.intro (by decide) (Nat.le_of_ble_eq_true rfl) (fun x hx hBD => ?_)
  refine v_lv [(0, .ref ν)] rfl ?_
  have hx2 : ρ 49 = X.2 := hX.2
  have L24 : ∀ (nf : Nat) (c : Int) (m : Mem) (σ : Nat → PS), (101 - c < (nf : Int)) → (1 ≤ c ∧ c ≤ 101) → (RW m ν σ) → (σ 149 = (rsP X.1 X.2)) → (∀ r : Nat, r < 140 → σ r = ρ r) → (m.1 ν 22 = (lgN X.1 X.2 (c - 1).toNat).1) → (m.1 ν 23 = (lgN X.1 X.2 (c - 1).toNat).2) → (FrN ν [ν + 1, ν + 2, ν + 9, ν + 10, ν + 11] [22, 23] μ m) → V G x (0, 0) Λ sz m 24 [(1, iv c), (0, .ref ν)] [] := by
    intro nf
    induction nf with
    | zero => intro c m σ hm hc h1 e9 hk3 e22 e23 hf; exact absurd hm (by omega)
    | succ nf ih =>
      intro c m σ hm hc h1 e9 hk3 e22 e23 hf
      have er := evI_rng (rsP X.1 X.2) c 0
      have lS : lgN X.1 X.2 (c + 1 - 1).toNat = if evI (rsP X.1 X.2) c 0 = 0 then ((lgN X.1 X.2 (c - 1).toNat).1 + 1, (lgN X.1 X.2 (c - 1).toNat).2 - ((lgP X.1 X.2 c).size - 1)) else lgN X.1 X.2 (c - 1).toNat := by
        rw [show (c + 1 - 1).toNat = (c - 1).toNat + 1 by omega, lgN, show (((c - 1).toNat : Nat) : Int) + 1 = c by omega]
      refine v_iload hx DX12_laysLogs_24 0 rfl ?_
      refine v_push hx DX12_laysLogs_25 ?_
      refine v_icmp_ge hx DX12_laysLogs_27 (by omega) (by decide) (fun c27 => ?_) (fun c27 => ?_)
      · skip
        exact v_rv hx hBD DX12_laysLogs_78 (⟨σ, h1, e9, hk3, by rw [e22, show (c - 1).toNat = 100 by omega], by rw [e23, show (c - 1).toNat = 100 by omega], hf⟩)
      · skip
        refine v_aload hx DX12_laysLogs_30 1 rfl ?_
        refine v_push hx DX12_laysLogs_31 ?_
        refine v_iload hx DX12_laysLogs_34 0 rfl ?_
        refine v_cVp hx DX12_laysLogs_35 CVRX12_177 [iv 149, iv c] (r_valueAt (s := 149) l G Λ sz m hR h1 (by decide) (by omega)) hR.o rfl rfl (Nat.le_of_ble_eq_true rfl) (by decide) ⟨Nat.le_refl _, Nat.le_refl _⟩ ?_
        rw [e9]
        refine v_if_ne hx DX12_laysLogs_38 (by omega) (fun c38 => ?_) (fun c38 => ?_)
        · skip
          refine v_iinc hx DX12_laysLogs_72 0 rfl [(1, iv (c + 1)), (0, .ref ν)] rfl (by decide) ?_
          refine v_goto hx DX12_laysLogs_75 ?_
          exact v_sub [0, 1] _ rfl (ih (c + 1) m σ (by omega) (by omega) h1 e9 hk3 (by rw [lS, if_neg c38]; exact e22) (by rw [lS, if_neg c38]; exact e23) hf)
        · skip
          refine v_aload hx DX12_laysLogs_41 1 rfl ?_
          refine v_iload hx DX12_laysLogs_42 0 rfl ?_
          refine v_cVv hx DX12_laysLogs_43 CVRX12_305 [iv c] (r_laysLog (X := X) l G Λ sz m hR h1 (by omega) ⟨(hk3 48 (by omega)).trans hX.1, (hk3 49 (by omega)).trans hX.2⟩) hR.o rfl rfl (Nat.le_of_ble_eq_true rfl) (by decide) ⟨Nat.le_refl _, Nat.le_refl _⟩ (fun μ3 hμ3 => ?_)
          obtain ⟨σ2, w2, a2, k2, f2⟩ := hμ3
          refine v_aload hx DX12_laysLogs_46 1 rfl ?_
          refine v_dup hx DX12_laysLogs_47 rfl ?_
          refine v_get hx DX12_laysLogs_48 FLRX12_299 hR.o (fv_i rfl ((congrFun (f2.1 ν (by simp)) 22).trans e22) : _ = iv ((lgN X.1 X.2 (c - 1).toNat).1)) ?_
          refine v_push hx DX12_laysLogs_51 ?_
          refine v_iadd hx DX12_laysLogs_52 ?_
          refine v_pI hx DX12_laysLogs_53 FPRX12_299 hR.o rfl (ki := 22) rfl (fun μ5 eμ5 => ?_)
          refine v_aload hx DX12_laysLogs_56 1 rfl ?_
          refine v_dup hx DX12_laysLogs_57 rfl ?_
          refine v_get hx DX12_laysLogs_58 FLRX12_302 hR.o (fv_i rfl (by rw [eμ5, mI_at, if_neg (by omega)]; exact (congrFun (f2.1 ν (by simp)) 23).trans e23) : _ = iv ((lgN X.1 X.2 (c - 1).toNat).2)) ?_
          refine v_aload hx DX12_laysLogs_61 1 rfl ?_
          refine v_push hx DX12_laysLogs_62 ?_
          refine v_cVp hx DX12_laysLogs_65 CVRX12_15 [iv 150] (r_degree (s := 150) l G Λ sz μ5 hR (w2.fr (by rw [eμ5, mI_ne (by omega)])) (by decide)) hR.o rfl rfl (Nat.le_of_ble_eq_true rfl) (by decide) ⟨Nat.le_refl _, Nat.le_refl _⟩ ?_
          rw [a2]
          refine v_isub hx DX12_laysLogs_68 ?_
          refine v_pI hx DX12_laysLogs_69 FPRX12_302 hR.o rfl (ki := 23) rfl (fun μ8 eμ8 => ?_)
          refine v_iinc hx DX12_laysLogs_72 0 rfl [(1, iv (c + 1)), (0, .ref ν)] rfl (by decide) ?_
          refine v_goto hx DX12_laysLogs_75 ?_
          exact v_sub [0, 1] _ rfl (ih (c + 1) μ8 σ2 (by omega) (by omega) (w2.fr (by rw [eμ8, mI_ne (by omega), eμ5, mI_ne (by omega)])) ((k2 149 (by omega)).trans e9) (fun r hr => (k2 r (by omega)).trans (hk3 r hr)) (by rw [lS, if_pos c38, eμ8, mI_at, if_neg (by omega), eμ5, mI_at, if_pos (by omega)]) (by rw [lS, if_pos c38, eμ8, mI_at, if_pos (by omega)]) ((hf.trans (FrN.of (f2.mono (by simp)) (by simp))).trans (by rw [eμ8, eμ5]; exact (FrN.wJ (by simp)).trans (FrN.wJ (by simp)))))
  refine v_aload hx DX12_laysLogs_0 0 rfl ?_
  refine v_cVv hx DX12_laysLogs_1 CVRX12_296 [] (r_laysResidues l G Λ sz μ hR hw hX hP hz) hR.o rfl rfl (Nat.le_of_ble_eq_true rfl) (by decide) ⟨Nat.le_refl _, Nat.le_refl _⟩ (fun μ9 hμ9 => ?_)
  obtain ⟨σ1, w1, a1, k1, f1⟩ := hμ9
  refine v_aload hx DX12_laysLogs_4 0 rfl ?_
  refine v_push hx DX12_laysLogs_5 ?_
  refine v_pI hx DX12_laysLogs_6 FPRX12_299 hR.o rfl (ki := 22) rfl (fun μ11 eμ11 => ?_)
  refine v_aload hx DX12_laysLogs_9 0 rfl ?_
  refine v_aload hx DX12_laysLogs_10 0 rfl ?_
  refine v_push hx DX12_laysLogs_11 ?_
  refine v_cSp hx DX12_laysLogs_13 CSRX12_41 [iv 24] (r_below (f := 24) l G Λ sz μ11) rfl rfl (Nat.le_of_ble_eq_true rfl) (by decide) ⟨Nat.le_refl _, Nat.le_refl _⟩ ?_
  refine v_cVp hx DX12_laysLogs_16 CVRX12_15 [iv ((2 * 24 + 1 : Nat) : Int)] (r_degree (s := 49) l G Λ sz μ11 hR (w1.fr (by rw [eμ11, mI_ne (by omega)])) (by decide)) hR.o rfl rfl (Nat.le_of_ble_eq_true rfl) (by decide) ⟨Nat.le_refl _, Nat.le_refl _⟩ ?_
  rw [k1 49 (by omega), hx2]
  have w2 : RW μ11 ν σ1 := w1.fr (by rw [eμ11, mI_ne (by omega)])
  refine v_pI hx DX12_laysLogs_19 FPRX12_302 hR.o rfl (ki := 23) rfl (fun μ16 eμ16 => ?_)
  refine v_push hx DX12_laysLogs_22 ?_
  refine v_istore hx DX12_laysLogs_23 [(1, iv 1), (0, .ref ν)] rfl (by decide) ?_
  exact v_sub [0, 1] _ rfl (L24 200 1 μ16 σ1 (by omega) (by omega) (w2.fr (by rw [eμ16, mI_ne (by omega)])) a1 k1 (by rw [eμ16, mI_at, if_neg (by omega), eμ11, mI_at, if_pos (by omega)]; rfl) (by rw [eμ16, mI_at, if_pos (by omega)]; rfl) ((FrN.of f1 (by simp)).trans (by rw [eμ16, eμ11]; exact (FrN.wJ (by simp)).trans (FrN.wJ (by simp)))))
theorem r_residue (l : Launch) (G : Gl) (Λ : Lay) (sz : Nat) (μ : Mem) {ν : Nat} {ρ : Nat → PS} {b : Bd} {f k : Int} (hR : refK Λ ν) (ha : RA μ ν ρ b) (hgd : b.good) (hX : ∃ X, MXI μ ν X) (rf : inR f) (rk : inR k) : Sp l G yX12_residue cX12_residue 3 (some FieldType.int) 9 [.ref ν, iv f, iv k] Λ sz μ (pI (fun z μ' => z = resA b f k ∧ RQ μ μ' ν b)) := by
  refine Sp.intro (by decide) (Nat.le_of_ble_eq_true rfl) (fun x hx hBD => ?_)
  refine v_lv [(0, .ref ν), (1, iv f), (2, iv k)] rfl ?_
  refine v_iload hx DX12_residue_0 1 rfl ?_
  refine v_cSp hx DX12_residue_1 CSRX12_199 [iv f] (r_isFunction l G Λ sz μ (by omega)) rfl rfl (Nat.le_of_ble_eq_true rfl) (by decide) ⟨Nat.le_refl _, Nat.le_refl _⟩ ?_
  have br1 := bz_rng (0 ≤ f ∧ f ≤ 2)
  refine v_if_eq hx DX12_residue_4 (by omega) (fun c4 => ?_) (fun c4 => ?_)
  · skip
    have d4 := bzf c4
    have nv : ¬ ((0 ≤ f ∧ f ≤ 2) ∧ 0 ≤ k) := fun q => d4 q.1
    refine v_push hx DX12_residue_11 ?_
    exact v_ri hx hBD DX12_residue_12 (⟨by unfold resA; rw [if0 nv], RQ.rf ha hX⟩)
  · skip
    have d4 := bzt c4
    refine v_iload hx DX12_residue_7 2 rfl ?_
    refine v_if_ge hx DX12_residue_8 (by omega) (fun c8 => ?_) (fun c8 => ?_)
    · skip
      refine v_aload hx DX12_residue_13 0 rfl ?_
      refine v_iload hx DX12_residue_14 1 rfl ?_
      refine v_cVp hx DX12_residue_15 CVRX12_205 [iv f] (r_fits l G Λ sz μ hR ha (by omega)) hR.o rfl rfl (Nat.le_of_ble_eq_true rfl) (by decide) ⟨Nat.le_refl _, Nat.le_refl _⟩ ?_
      have frf := b.fit_rng f
      refine v_if_ne hx DX12_residue_18 (by omega) (fun c18 => ?_) (fun c18 => ?_)
      · skip
        refine v_aload hx DX12_residue_24 0 rfl ?_
        refine v_iload hx DX12_residue_25 1 rfl ?_
        refine v_cVv hx DX12_residue_26 CVRX12_311 [iv f] (r_intF l G Λ sz μ hR ha hgd hX (by omega)) hR.o rfl rfl (Nat.le_of_ble_eq_true rfl) (by decide) ⟨Nat.le_refl _, Nat.le_refl _⟩ (fun μ5 hμ5 => ?_)
        obtain ⟨σ, q1, q2, q3, q5, q6, q7, q8⟩ := hμ5
        have rq : RQ μ μ5 ν b := ⟨⟨σ, q1⟩, q7, q8.mono (by simp) (by simp)⟩
        have hr := hwI_rng b (fnJ b f) 5 (by omega)
        have xo := igR0_ok hgd (fnJ_ok hgd (f := f) (by omega))
        have xr : RFI σ 24 (rst b f) := q3 0 (by omega) (by omega)
        have xz : (rst b f).1.size ≤ 40 ∧ (rst b f).2.size ≤ 40 := ⟨Nat.le_trans xo.2.1 (by omega), Nat.le_trans xo.2.2 (by omega)⟩
        refine v_aload hx DX12_residue_29 0 rfl ?_
        refine v_cVv hx DX12_residue_30 CVRX12_296 [] (r_laysResidues (X := rst b f) l G Λ sz μ5 hR q1.1 xr xo.1 xz) hR.o rfl rfl (Nat.le_of_ble_eq_true rfl) (by decide) ⟨Nat.le_refl _, Nat.le_refl _⟩ (fun μ7 hμ7 => ?_)
        obtain ⟨σ5, w5, a5, k5, f5⟩ := hμ7
        have rq5 : RQ μ μ7 ν b := ⟨⟨σ5, q1.rowsN w5 (fun r hr => k5 r (by omega)) (FrN.of (J := []) f5 (by simp)) (by simp) (by simp) (by simp)⟩, q7.elim (fun X h => ⟨X, h.fr (f5.1 _ (by simp))⟩), (q8.mono (by simp) (by simp)).trans (FrN.of (f5.mono (by simp)) (by simp))⟩
        refine v_aload hx DX12_residue_33 0 rfl ?_
        refine v_push hx DX12_residue_34 ?_
        refine v_iload hx DX12_residue_37 2 rfl ?_
        refine v_cVp hx DX12_residue_38 CVRX12_159 [iv 149, iv k] (r_at (s := 149) l G Λ sz μ7 hR w5 (by decide) (by omega)) hR.o rfl rfl (Nat.le_of_ble_eq_true rfl) (by decide) ⟨Nat.le_refl _, Nat.le_refl _⟩ ?_
        rw [a5]
        exact v_ri hx hBD DX12_residue_41 (⟨by unfold resA; rw [if1 ⟨d4, by omega⟩, if_neg (by omega)], rq5⟩)
      · skip
        refine v_push hx DX12_residue_21 ?_
        exact v_ri hx hBD DX12_residue_23 (⟨by unfold resA; rw [if1 ⟨d4, by omega⟩, if_pos (by omega)], RQ.rf ha hX⟩)
    · skip
      have nv : ¬ ((0 ≤ f ∧ f ≤ 2) ∧ 0 ≤ k) := fun q => by have := q.2; omega
      refine v_push hx DX12_residue_11 ?_
      exact v_ri hx hBD DX12_residue_12 (⟨by unfold resA; rw [if0 nv], RQ.rf ha hX⟩)
theorem r_log (l : Launch) (G : Gl) (Λ : Lay) (sz : Nat) (μ : Mem) {ν : Nat} {ρ : Nat → PS} {b : Bd} {f j w k : Int} (hR : refK Λ ν) (ha : RA μ ν ρ b) (hgd : b.good) (hX : ∃ X, MXI μ ν X) (rf : inR f) (rj : inR j) (rw : inR w) (rk : inR k) : Sp l G yX12_log cX12_log 6 (some FieldType.int) 9 [.ref ν, iv f, iv j, iv w, iv k] Λ sz μ (pI (fun z μ' => z = logA b f j w k ∧ RQ μ μ' ν b)) := by
  refine Sp.intro (by decide) (Nat.le_of_ble_eq_true rfl) (fun x hx hBD => ?_)
  refine v_lv [(0, .ref ν), (1, iv f), (2, iv j), (3, iv w), (4, iv k)] rfl ?_
  refine v_iload hx DX12_log_0 1 rfl ?_
  refine v_cSp hx DX12_log_1 CSRX12_199 [iv f] (r_isFunction l G Λ sz μ (by omega)) rfl rfl (Nat.le_of_ble_eq_true rfl) (by decide) ⟨Nat.le_refl _, Nat.le_refl _⟩ ?_
  have br1 := bz_rng (0 ≤ f ∧ f ≤ 2)
  refine v_if_eq hx DX12_log_4 (by omega) (fun c4 => ?_) (fun c4 => ?_)
  · skip
    have d4 := bzf c4
    have nv : ¬ logV f j w k := fun q => d4 q.1
    refine v_push hx DX12_log_25 ?_
    exact v_ri hx hBD DX12_log_26 (⟨by unfold logA; rw [if0 nv], RQ.rf ha hX⟩)
  · skip
    have d4 := bzt c4
    refine v_iload hx DX12_log_7 2 rfl ?_
    refine v_if_lt hx DX12_log_8 (by omega) (fun c8 => ?_) (fun c8 => ?_)
    · skip
      have nv : ¬ logV f j w k := fun q => by have := q.2.1; omega
      refine v_push hx DX12_log_25 ?_
      exact v_ri hx hBD DX12_log_26 (⟨by unfold logA; rw [if0 nv], RQ.rf ha hX⟩)
    · skip
      refine v_iload hx DX12_log_11 3 rfl ?_
      refine v_push hx DX12_log_12 ?_
      refine v_push hx DX12_log_13 ?_
      refine v_cSp hx DX12_log_14 CSRX12_121 [iv w, iv 0, iv 1] (r_in l G Λ sz μ (by omega) (by omega) (by omega)) rfl rfl (Nat.le_of_ble_eq_true rfl) (by decide) ⟨Nat.le_refl _, Nat.le_refl _⟩ ?_
      have br14 := bz_rng (0 ≤ w ∧ w ≤ 1)
      refine v_if_eq hx DX12_log_17 (by omega) (fun c17 => ?_) (fun c17 => ?_)
      · skip
        have d17 := bzf c17
        have nv : ¬ logV f j w k := fun q => d17 q.2.2.1
        refine v_push hx DX12_log_25 ?_
        exact v_ri hx hBD DX12_log_26 (⟨by unfold logA; rw [if0 nv], RQ.rf ha hX⟩)
      · skip
        have d17 := bzt c17
        refine v_iload hx DX12_log_20 4 rfl ?_
        refine v_if_ge hx DX12_log_22 (by omega) (fun c22 => ?_) (fun c22 => ?_)
        · skip
          refine v_aload hx DX12_log_27 0 rfl ?_
          refine v_iload hx DX12_log_28 1 rfl ?_
          refine v_cVp hx DX12_log_29 CVRX12_205 [iv f] (r_fits l G Λ sz μ hR ha (by omega)) hR.o rfl rfl (Nat.le_of_ble_eq_true rfl) (by decide) ⟨Nat.le_refl _, Nat.le_refl _⟩ ?_
          have frf := b.fit_rng f
          refine v_if_ne hx DX12_log_32 (by omega) (fun c32 => ?_) (fun c32 => ?_)
          · skip
            refine v_aload hx DX12_log_38 0 rfl ?_
            refine v_iload hx DX12_log_39 1 rfl ?_
            refine v_cVv hx DX12_log_40 CVRX12_311 [iv f] (r_intF l G Λ sz μ hR ha hgd hX (by omega)) hR.o rfl rfl (Nat.le_of_ble_eq_true rfl) (by decide) ⟨Nat.le_refl _, Nat.le_refl _⟩ (fun μ7 hμ7 => ?_)
            obtain ⟨σ, q1, q2, q3, q5, q6, q7, q8⟩ := hμ7
            have rq : RQ μ μ7 ν b := ⟨⟨σ, q1⟩, q7, q8.mono (by simp) (by simp)⟩
            have hr := hwI_rng b (fnJ b f) 5 (by omega)
            have xo := igR0_ok hgd (fnJ_ok hgd (f := f) (by omega))
            have xr : RFI σ 24 (rst b f) := q3 0 (by omega) (by omega)
            have xz : (rst b f).1.size ≤ 40 ∧ (rst b f).2.size ≤ 40 := ⟨Nat.le_trans xo.2.1 (by omega), Nat.le_trans xo.2.2 (by omega)⟩
            refine v_aload hx DX12_log_43 0 rfl ?_
            refine v_cVv hx DX12_log_44 CVRX12_296 [] (r_laysResidues (X := rst b f) l G Λ sz μ7 hR q1.1 xr xo.1 xz) hR.o rfl rfl (Nat.le_of_ble_eq_true rfl) (by decide) ⟨Nat.le_refl _, Nat.le_refl _⟩ (fun μ9 hμ9 => ?_)
            obtain ⟨σ5, w5, a5, k5, f5⟩ := hμ9
            have rq5 : RQ μ μ9 ν b := ⟨⟨σ5, q1.rowsN w5 (fun r hr => k5 r (by omega)) (FrN.of (J := []) f5 (by simp)) (by simp) (by simp) (by simp)⟩, q7.elim (fun X h => ⟨X, h.fr (f5.1 _ (by simp))⟩), (q8.mono (by simp) (by simp)).trans (FrN.of (f5.mono (by simp)) (by simp))⟩
            refine v_aload hx DX12_log_47 0 rfl ?_
            refine v_iload hx DX12_log_48 2 rfl ?_
            refine v_cVp hx DX12_log_49 CVRX12_317 [iv j] (r_residueOf l G Λ sz μ9 hR w5 (by omega)) hR.o rfl rfl (Nat.le_of_ble_eq_true rfl) (by decide) ⟨Nat.le_refl _, Nat.le_refl _⟩ ?_
            rw [a5]
            have rr := rofA_rng (rsP (rst b f).1 (rst b f).2) j
            refine v_istore hx DX12_log_52 [(5, iv (rofA (rsP (rst b f).1 (rst b f).2) j)), (0, .ref ν), (1, iv f), (2, iv j), (3, iv w), (4, iv k)] rfl (by decide) ?_
            refine v_iload hx DX12_log_54 0 rfl ?_
            refine v_push hx DX12_log_56 ?_
            refine v_icmp_eq hx DX12_log_58 (by omega) (by decide) (fun c58 => ?_) (fun c58 => ?_)
            · skip
              refine v_iload hx DX12_log_65 0 rfl ?_
              exact v_ri hx hBD DX12_log_67 (⟨by unfold logA; rw [if1 ⟨d4, by omega, d17, by omega⟩, if_neg (by omega), if_pos (by omega)], rq5⟩)
            · skip
              refine v_iload hx DX12_log_61 4 rfl ?_
              refine v_if_ne hx DX12_log_62 (by omega) (fun c62 => ?_) (fun c62 => ?_)
              · skip
                refine v_aload hx DX12_log_68 1 rfl ?_
                refine v_iload hx DX12_log_69 0 rfl ?_
                refine v_cVv hx DX12_log_71 CVRX12_305 [iv (rofA (rsP (rst b f).1 (rst b f).2) j)] (r_laysLog (c := (rofA (rsP (rst b f).1 (rst b f).2) j)) (X := rst b f) l G Λ sz μ9 hR w5 (by omega) ⟨(k5 _ (by decide)).trans xr.1, (k5 _ (by decide)).trans xr.2⟩) hR.o rfl rfl (Nat.le_of_ble_eq_true rfl) (by decide) ⟨Nat.le_refl _, Nat.le_refl _⟩ (fun μ13 hμ13 => ?_)
                obtain ⟨σ6, w6, a6, k6, f6⟩ := hμ13
                have rq6 : RQ μ μ13 ν b := ⟨rq5.1.elim (fun τ hτ => ⟨σ6, (q1.rowsN w5 (fun r hr => k5 r (by omega)) (FrN.of (J := []) f5 (by simp)) (by simp) (by simp) (by simp)).rows w6 (fun r hr => k6 r (by omega)) f6⟩), rq5.2.1.elim (fun X h => ⟨X, h.fr (f6.1 _ (by simp))⟩), rq5.2.2.trans (FrN.of (f6.mono (by simp)) (by simp))⟩
                refine v_aload hx DX12_log_74 1 rfl ?_
                refine v_push hx DX12_log_75 ?_
                refine v_iload hx DX12_log_78 5 rfl ?_
                refine v_cVp hx DX12_log_80 CVRX12_159 [iv 150, iv k] (r_at (s := 150) l G Λ sz μ13 hR w6 (by decide) (by omega)) hR.o rfl rfl (Nat.le_of_ble_eq_true rfl) (by decide) ⟨Nat.le_refl _, Nat.le_refl _⟩ ?_
                rw [a6]
                exact v_ri hx hBD DX12_log_83 (⟨by unfold logA; rw [if1 ⟨d4, by omega, d17, by omega⟩, if_neg (by omega), if_neg (by omega)], rq6⟩)
              · skip
                refine v_iload hx DX12_log_65 0 rfl ?_
                exact v_ri hx hBD DX12_log_67 (⟨by unfold logA; rw [if1 ⟨d4, by omega, d17, by omega⟩, if_neg (by omega), if_pos (by omega)], rq5⟩)
          · skip
            refine v_push hx DX12_log_35 ?_
            exact v_ri hx hBD DX12_log_37 (⟨by unfold logA; rw [if1 ⟨d4, by omega, d17, by omega⟩, if_pos (by omega)], RQ.rf ha hX⟩)
        · skip
          have nv : ¬ logV f j w k := fun q => by have := q.2.2.2; omega
          refine v_push hx DX12_log_25 ?_
          exact v_ri hx hBD DX12_log_26 (⟨by unfold logA; rw [if0 nv], RQ.rf ha hX⟩)
theorem r_asked (l : Launch) (G : Gl) (Λ : Lay) (sz : Nat) (μ : Mem) {ν : Nat} {ρ : Nat → PS} {b : Bd} {f w : Int} (hR : refK Λ ν) (ha : RA μ ν ρ b) (hgd : b.good) (hX : ∃ X, MXI μ ν X) (rf : inR f) (rw : inR w) : Sp l G yX12_asked cX12_asked 3 (some FieldType.int) 9 [.ref ν, iv f, iv w] Λ sz μ (pI (fun z μ' => z = askA b f w ∧ RQ μ μ' ν b)) := by
  refine Sp.intro (by decide) (Nat.le_of_ble_eq_true rfl) (fun x hx hBD => ?_)
  refine v_lv [(0, .ref ν), (1, iv f), (2, iv w)] rfl ?_
  refine v_iload hx DX12_asked_0 1 rfl ?_
  refine v_cSp hx DX12_asked_1 CSRX12_199 [iv f] (r_isFunction l G Λ sz μ (by omega)) rfl rfl (Nat.le_of_ble_eq_true rfl) (by decide) ⟨Nat.le_refl _, Nat.le_refl _⟩ ?_
  have br1 := bz_rng (0 ≤ f ∧ f ≤ 2)
  refine v_if_eq hx DX12_asked_4 (by omega) (fun c4 => ?_) (fun c4 => ?_)
  · skip
    have d4 := bzf c4
    have nv : ¬ askV f w := fun q => d4 q.1
    refine v_push hx DX12_asked_16 ?_
    exact v_ri hx hBD DX12_asked_17 (⟨by unfold askA; rw [if0 nv], RQ.rf ha hX⟩)
  · skip
    have d4 := bzt c4
    refine v_iload hx DX12_asked_7 2 rfl ?_
    refine v_push hx DX12_asked_8 ?_
    refine v_push hx DX12_asked_9 ?_
    refine v_cSp hx DX12_asked_10 CSRX12_121 [iv w, iv 0, iv 4] (r_in l G Λ sz μ (by omega) (by omega) (by omega)) rfl rfl (Nat.le_of_ble_eq_true rfl) (by decide) ⟨Nat.le_refl _, Nat.le_refl _⟩ ?_
    have br10 := bz_rng (0 ≤ w ∧ w ≤ 4)
    refine v_if_ne hx DX12_asked_13 (by omega) (fun c13 => ?_) (fun c13 => ?_)
    · skip
      have d13 := bzt c13
      refine v_aload hx DX12_asked_18 0 rfl ?_
      refine v_iload hx DX12_asked_19 1 rfl ?_
      refine v_cVp hx DX12_asked_20 CVRX12_205 [iv f] (r_fits l G Λ sz μ hR ha (by omega)) hR.o rfl rfl (Nat.le_of_ble_eq_true rfl) (by decide) ⟨Nat.le_refl _, Nat.le_refl _⟩ ?_
      have frf := b.fit_rng f
      refine v_if_ne hx DX12_asked_23 (by omega) (fun c23 => ?_) (fun c23 => ?_)
      · skip
        refine v_aload hx DX12_asked_29 0 rfl ?_
        refine v_iload hx DX12_asked_30 1 rfl ?_
        refine v_cVv hx DX12_asked_31 CVRX12_311 [iv f] (r_intF l G Λ sz μ hR ha hgd hX (by omega)) hR.o rfl rfl (Nat.le_of_ble_eq_true rfl) (by decide) ⟨Nat.le_refl _, Nat.le_refl _⟩ (fun μ7 hμ7 => ?_)
        obtain ⟨σ, q1, q2, q3, q5, q6, q7, q8⟩ := hμ7
        have rq : RQ μ μ7 ν b := ⟨⟨σ, q1⟩, q7, q8.mono (by simp) (by simp)⟩
        have hr := hwI_rng b (fnJ b f) 5 (by omega)
        have xo := igR0_ok hgd (fnJ_ok hgd (f := f) (by omega))
        have xr : RFI σ 24 (rst b f) := q3 0 (by omega) (by omega)
        have xz : (rst b f).1.size ≤ 40 ∧ (rst b f).2.size ≤ 40 := ⟨Nat.le_trans xo.2.1 (by omega), Nat.le_trans xo.2.2 (by omega)⟩
        refine v_iload hx DX12_asked_34 2 rfl ?_
        refine v_push hx DX12_asked_35 ?_
        refine v_icmp_ge hx DX12_asked_36 (by omega) (by decide) (fun c36 => ?_) (fun c36 => ?_)
        · skip
          refine v_aload hx DX12_asked_77 0 rfl ?_
          refine v_cVv hx DX12_asked_78 CVRX12_314 [] (r_laysLogs (X := rst b f) l G Λ sz μ7 hR q1.1 xr xo.1 xz) hR.o rfl rfl (Nat.le_of_ble_eq_true rfl) (by decide) ⟨Nat.le_refl _, Nat.le_refl _⟩ (fun μ9 hμ9 => ?_)
          obtain ⟨σ5, w5, a5, k5, y22, y23, f5⟩ := hμ9
          have rq5 : RQ μ μ9 ν b := ⟨⟨σ5, q1.rowsN w5 (fun r hr => k5 r (by omega)) f5 (by simp) (by simp) (by simp)⟩, q7.elim (fun X h => ⟨X, h.fr (f5.1 _ (by omega) (by simp))⟩), (q8.mono (by simp) (by simp)).trans (f5.mono (by simp) (by simp))⟩
          refine v_iload hx DX12_asked_81 2 rfl ?_
          refine v_push hx DX12_asked_82 ?_
          refine v_icmp_ne hx DX12_asked_83 (by omega) (by decide) (fun c83 => ?_) (fun c83 => ?_)
          · skip
            refine v_iload hx DX12_asked_93 2 rfl ?_
            refine v_push hx DX12_asked_94 ?_
            refine v_icmp_ne hx DX12_asked_95 (by omega) (by decide) (fun c95 => ?_) (fun c95 => ?_)
            · skip
              refine v_aload hx DX12_asked_105 0 rfl ?_
              refine v_push hx DX12_asked_106 ?_
              refine v_cVp hx DX12_asked_109 CVRX12_15 [iv 149] (r_degree (s := 149) l G Λ sz μ9 hR w5 (by decide)) hR.o rfl rfl (Nat.le_of_ble_eq_true rfl) (by decide) ⟨Nat.le_refl _, Nat.le_refl _⟩ ?_
              rw [a5]
              have e0 : (((rsP (rst b f).1 (rst b f).2).size : Int) - 1) = askA b f w := by unfold askA; rw [if1 ⟨d4, d13⟩, if_neg (show ¬ b.fit f = 0 by omega), if_neg (by omega), if_neg (by omega), if_neg (by omega), if_neg (by omega)]
              exact v_ri hx hBD DX12_asked_112 (⟨e0, rq5⟩)
            · skip
              refine v_aload hx DX12_asked_98 0 rfl ?_
              refine v_get hx DX12_asked_99 FLRX12_302 hR.o (fv_i rfl y23 : _ = iv ((lgN (rst b f).1 (rst b f).2 100).2)) ?_
              have e0 : (lgN (rst b f).1 (rst b f).2 100).2 = askA b f w := by unfold askA; rw [if1 ⟨d4, d13⟩, if_neg (show ¬ b.fit f = 0 by omega), if_neg (by omega), if_neg (by omega), if_neg (by omega), if_pos (by omega)]
              refine v_goto hx DX12_asked_102 ?_
              exact v_ri hx hBD DX12_asked_112 (⟨e0, rq5⟩)
          · skip
            refine v_aload hx DX12_asked_86 0 rfl ?_
            refine v_get hx DX12_asked_87 FLRX12_299 hR.o (fv_i rfl y22 : _ = iv ((lgN (rst b f).1 (rst b f).2 100).1)) ?_
            have e0 : (lgN (rst b f).1 (rst b f).2 100).1 = askA b f w := by unfold askA; rw [if1 ⟨d4, d13⟩, if_neg (show ¬ b.fit f = 0 by omega), if_neg (by omega), if_neg (by omega), if_pos (by omega)]
            refine v_goto hx DX12_asked_90 ?_
            exact v_ri hx hBD DX12_asked_112 (⟨e0, rq5⟩)
        · skip
          refine v_iload hx DX12_asked_39 2 rfl ?_
          refine v_if_ne hx DX12_asked_40 (by omega) (fun c40 => ?_) (fun c40 => ?_)
          · skip
            refine v_aload hx DX12_asked_58 0 rfl ?_
            refine v_get hx DX12_asked_59 FLRX12_278 hR.o (fv_i rfl q5 : _ = iv ((hwI b (fnJ b f) 5).1)) ?_
            refine v_if_eq hx DX12_asked_62 (by omega) (fun c62 => ?_) (fun c62 => ?_)
            · skip
              refine v_aload hx DX12_asked_70 0 rfl ?_
              refine v_get hx DX12_asked_71 FLRX12_281 hR.o (fv_i rfl q6 : _ = iv ((hwI b (fnJ b f) 5).2)) ?_
              refine v_push hx DX12_asked_74 ?_
              refine v_iadd hx DX12_asked_75 ?_
              have e0 : (hwI b (fnJ b f) 5).2 + 2 = askA b f w := by unfold askA; rw [if1 ⟨d4, d13⟩, if_neg (show ¬ b.fit f = 0 by omega), if_neg (by omega), if_pos (by omega), if_pos (by omega)]
              exact v_ri hx hBD DX12_asked_76 (⟨e0, rq⟩)
            · skip
              have e0 : (-4 : Int) = askA b f w := by unfold askA; rw [if1 ⟨d4, d13⟩, if_neg (show ¬ b.fit f = 0 by omega), if_neg (by omega), if_pos (by omega), if_neg (by omega)]
              refine v_push hx DX12_asked_65 ?_
              refine v_goto hx DX12_asked_67 ?_
              exact v_ri hx hBD DX12_asked_76 (⟨e0, rq⟩)
          · skip
            refine v_aload hx DX12_asked_43 0 rfl ?_
            refine v_get hx DX12_asked_44 FLRX12_278 hR.o (fv_i rfl q5 : _ = iv ((hwI b (fnJ b f) 5).1)) ?_
            refine v_if_eq hx DX12_asked_47 (by omega) (fun c47 => ?_) (fun c47 => ?_)
            · skip
              have e0 : (0 : Int) = askA b f w := by unfold askA; rw [if1 ⟨d4, d13⟩, if_neg (show ¬ b.fit f = 0 by omega), if_pos (by omega)]; omega
              refine v_push hx DX12_asked_54 ?_
              refine v_goto hx DX12_asked_55 ?_
              exact v_ri hx hBD DX12_asked_76 (⟨e0, rq⟩)
            · skip
              have e0 : (1 : Int) = askA b f w := by unfold askA; rw [if1 ⟨d4, d13⟩, if_neg (show ¬ b.fit f = 0 by omega), if_pos (by omega)]; omega
              refine v_push hx DX12_asked_50 ?_
              refine v_goto hx DX12_asked_51 ?_
              exact v_ri hx hBD DX12_asked_76 (⟨e0, rq⟩)
      · skip
        refine v_push hx DX12_asked_26 ?_
        exact v_ri hx hBD DX12_asked_28 (⟨by unfold askA; rw [if1 ⟨d4, d13⟩, if_pos (by omega)], RQ.rf ha hX⟩)
    · skip
      have d13 := bzf c13
      have nv : ¬ askV f w := fun q => d13 q.2
      refine v_push hx DX12_asked_16 ?_
      exact v_ri hx hBD DX12_asked_17 (⟨by unfold askA; rw [if0 nv], RQ.rf ha hX⟩)
