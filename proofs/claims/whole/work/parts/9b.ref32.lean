/-! ===== the reference: split, integral, left, pencil ===== -/
/-- what a call that only asks leaves -/
def RQ (μ μ' : Mem) (ν : Nat) (b : Bd) : Prop := (∃ σ, RA μ' ν σ b) ∧ (∃ X, MXI μ' ν X) ∧ FrN ν [ν + 1, ν + 2, ν + 7, ν + 8, ν + 9, ν + 10, ν + 11] [16, 17, 18, 22, 23] μ μ'
theorem RQ.rf {μ : Mem} {ν : Nat} {b : Bd} {ρ : Nat → PS} (h : RA μ ν ρ b) (hX : ∃ X, MXI μ ν X) : RQ μ μ ν b := ⟨⟨ρ, h⟩, hX, FrN.rf⟩
def frP (a : FP2) (w : Int) : PS := if w = 0 then a.1 else a.2
def fnJ (b : Bd) (f : Int) : Int → FP2 := fun i => b.tm (5 * f + i + 2)
theorem fnJ_ok {b : Bd} (h : b.good) {f : Int} (hf : 0 ≤ f ∧ f < 3) : JOK (fnJ b f) := fun i h0 h1 => by
  have q := h.tm (t := 5 * f + i + 2) (by omega)
  refine ⟨q.mono (by omega) (by omega), Or.inr ?_⟩
  have := q.2.1
  have := PS.fpos q.1.2.1 q.1.2.2.1
  show ((b.tm (5 * f + i + 2)).1.size : Int) ≤ (b.tm (5 * f + i + 2)).2.size + 6
  omega
def splV (f i w k : Int) : Prop := isTO f i ∧ (0 ≤ w ∧ w ≤ 3) ∧ 0 ≤ k
noncomputable def splA (b : Bd) (f i w k : Int) : Int := if bz (splV f i w k) = 1 then ca (if w < 2 then frP (sp2 (b.tm (5 * f + i + 2)) PS.zero).1 w else frP (sp2 (b.tm (5 * f + i + 2)) PS.zero).2 (w - 2)) k else -1
def intV (f i w k : Int) : Prop := (0 ≤ f ∧ f ≤ 2) ∧ (-2 ≤ i ∧ i ≤ 3) ∧ (0 ≤ w ∧ w ≤ 1) ∧ 0 ≤ k
noncomputable def intA (b : Bd) (f i w k : Int) : Int := if bz (intV f i w k) = 1 then (if b.fit f = 0 then -2 else if (hwI b (fnJ b f) 5).1 = 0 then -4 else ca (frP (fQ b (fnJ b f) i) w) k) else -1
def lefV (f i w k : Int) : Prop := isTO f i ∧ (0 ≤ w ∧ w ≤ 1) ∧ 0 ≤ k
noncomputable def lefA (b : Bd) (f i w k : Int) : Int := if bz (lefV f i w k) = 1 then (if b.fit f = 0 then -2 else ca (frP (igR b (fnJ b f) i) w) k) else -1
/-- a function and so many times another -/
noncomputable def pnJ (b : Bd) (f g c : Int) : Int → FP2 := fun i => fpl (b.tm (5 * f + i + 2)) (b.tm (5 * g + i + 2)) (fi c)
theorem pnJ_ok {b : Bd} (h : b.good) {f g c : Int} (hf : 0 ≤ f ∧ f < 3) (hg : 0 ≤ g ∧ g < 3) : JOK (pnJ b f g c) := fun i h0 h1 => by
  have q := h.tm (t := 5 * f + i + 2) (by omega)
  have r := h.tm (t := 5 * g + i + 2) (by omega)
  have q1 := (fnJ_ok h hf i h0 h1).2
  have r1 := (fnJ_ok h hg i h0 h1).2
  exact ⟨FOK.pl _ q r (by omega) (by omega) (by omega) (by omega), ORD.pl _ q r q1 r1 (by omega)⟩
noncomputable def penS (b : Bd) (f g : Int) : Nat → Int × Int
  | 0 => (0, -4)
  | n + 1 => if (hwI b (pnJ b f g (100 - (n : Int))) 5).1 = 0 then penS b f g n else ((penS b f g n).1 + 1, 100 - (n : Int))
theorem penS_rng (b : Bd) (f g : Int) : ∀ n : Nat, n ≤ 101 → (0 ≤ (penS b f g n).1 ∧ (penS b f g n).1 ≤ n) ∧ (-4 ≤ (penS b f g n).2 ∧ (penS b f g n).2 ≤ 100) := by
  intro n
  induction n with
  | zero => intro _; exact ⟨by show (0 : Int) ≤ 0 ∧ (0 : Int) ≤ 0; omega, by show (-4 : Int) ≤ -4 ∧ (-4 : Int) ≤ 100; omega⟩
  | succ n ih =>
    intro hn
    have q := ih (by omega)
    rw [penS]
    split
    · omega
    · exact ⟨by show 0 ≤ (penS b f g n).1 + 1 ∧ (penS b f g n).1 + 1 ≤ _; omega, by show -4 ≤ 100 - (n : Int) ∧ 100 - (n : Int) ≤ 100; omega⟩
def penV (f g w : Int) : Prop := (0 ≤ f ∧ f ≤ 2) ∧ (0 ≤ g ∧ g ≤ 2) ∧ (0 ≤ w ∧ w ≤ 1)
noncomputable def penA (b : Bd) (f g w : Int) : Int := if bz (penV f g w) = 1 then (if b.fit f = 0 ∨ b.fit g = 0 then -2 else if w = 0 then (penS b f g 101).1 else (penS b f g 101).2) else -1
theorem frP_row {ρ : Nat → PS} {t w : Int} {a : FP2} (h : RFI ρ t a) (hw : 0 ≤ w ∧ w ≤ 1) : ρ (2 * t.toNat + w.toNat) = frP a w := by
  unfold frP
  by_cases c : w = 0
  · rw [if_pos c, c]; exact h.1
  · rw [if_neg c, show w = 1 by omega]; exact h.2
theorem r_split (l : Launch) (G : Gl) (Λ : Lay) (sz : Nat) (μ : Mem) {ν : Nat} {ρ : Nat → PS} {b : Bd} {f i w k : Int} (hR : refK Λ ν) (ha : RA μ ν ρ b) (hgd : b.good) (hX : ∃ X, MXI μ ν X) (rf : inR f) (ri : inR i) (rw : inR w) (rk : inR k) : Sp l G yX12_split cX12_split 5 (some FieldType.int) 7 [.ref ν, iv f, iv i, iv w, iv k] Λ sz μ (pI (fun z μ' => z = splA b f i w k ∧ RQ μ μ' ν b)) := by
  refine Sp.intro (by decide) (Nat.le_of_ble_eq_true rfl) (fun x hx hBD => ?_)
  refine v_lv [(0, .ref ν), (1, iv f), (2, iv i), (3, iv w), (4, iv k)] rfl ?_
  refine v_iload hx DX12_split_0 1 rfl ?_
  refine v_iload hx DX12_split_1 2 rfl ?_
  refine v_cSp hx DX12_split_2 CSRX12_151 [iv f, iv i] (r_isTermOf l G Λ sz μ (by omega) (by omega)) rfl rfl (Nat.le_of_ble_eq_true rfl) (by decide) ⟨Nat.le_refl _, Nat.le_refl _⟩ ?_
  have br2 := bz_rng (isTO f i)
  refine v_if_eq hx DX12_split_5 (by omega) (fun c5 => ?_) (fun c5 => ?_)
  · skip
    have d5 := bzf c5
    have nv : ¬ splV f i w k := fun q => d5 q.1
    refine v_push hx DX12_split_22 ?_
    exact v_ri hx hBD DX12_split_23 (⟨by unfold splA; rw [if0 nv], RQ.rf ha hX⟩)
  · skip
    have d5 := bzt c5
    have d5n := d5.n
    refine v_iload hx DX12_split_8 3 rfl ?_
    refine v_push hx DX12_split_9 ?_
    refine v_push hx DX12_split_10 ?_
    refine v_cSp hx DX12_split_11 CSRX12_121 [iv w, iv 0, iv 3] (r_in l G Λ sz μ (by omega) (by omega) (by omega)) rfl rfl (Nat.le_of_ble_eq_true rfl) (by decide) ⟨Nat.le_refl _, Nat.le_refl _⟩ ?_
    have br11 := bz_rng (0 ≤ w ∧ w ≤ 3)
    refine v_if_eq hx DX12_split_14 (by omega) (fun c14 => ?_) (fun c14 => ?_)
    · skip
      have d14 := bzf c14
      have nv : ¬ splV f i w k := fun q => d14 q.2.1
      refine v_push hx DX12_split_22 ?_
      exact v_ri hx hBD DX12_split_23 (⟨by unfold splA; rw [if0 nv], RQ.rf ha hX⟩)
    · skip
      have d14 := bzt c14
      refine v_iload hx DX12_split_17 4 rfl ?_
      refine v_if_ge hx DX12_split_19 (by omega) (fun c19 => ?_) (fun c19 => ?_)
      · skip
        have jo := fnJ_ok hgd (f := f) (by omega) i (by omega) (by omega)
        have jo : SplOK (b.tm (5 * f + i + 2)) 11 9 := jo
        refine v_aload hx DX12_split_24 0 rfl ?_
        refine v_push hx DX12_split_25 ?_
        refine v_cVv hx DX12_split_27 CVRX12_7 [iv 118] (r_zero (s := 118) l G Λ sz μ hR ha.1 (by decide)) hR.o rfl rfl (Nat.le_of_ble_eq_true rfl) (by decide) ⟨Nat.le_refl _, Nat.le_refl _⟩ (fun μ5 hμ5 => ?_)
        obtain ⟨σ1, w1, a1, k1⟩ := RW.abs hμ5.1
        have f1 := hμ5.2
        refine v_aload hx DX12_split_30 0 rfl ?_
        refine v_push hx DX12_split_31 ?_
        refine v_iload hx DX12_split_33 1 rfl ?_
        refine v_iload hx DX12_split_34 2 rfl ?_
        refine v_cSp hx DX12_split_35 CSRX12_155 [iv f, iv i] (r_term l G Λ sz μ5 (by omega)) rfl rfl (Nat.le_of_ble_eq_true rfl) (by decide) ⟨Nat.le_refl _, Nat.le_refl _⟩ ?_
        refine v_cVv hx DX12_split_38 CVRX12_217 [iv 58, iv ((5 * f + i + 2).toNat : Int)] (r_takesF (o := 58) (a := ((5 * f + i + 2).toNat : Int)) (A := b.tm (5 * f + i + 2)) l G Λ sz μ5 hR w1 (by omega) (by omega) (by have q := ha.tm (t := (5 * f + i + 2)) (by omega); rw [← show ((5 * f + i + 2).toNat : Int) = (5 * f + i + 2) by omega] at q; exact ⟨(k1 _ (by omega)).trans (by rw [q.1, show ((5 * f + i + 2).toNat : Int) = (5 * f + i + 2) by omega]), (k1 _ (by omega)).trans (by rw [q.2, show ((5 * f + i + 2).toNat : Int) = (5 * f + i + 2) by omega])⟩)) hR.o rfl rfl (Nat.le_of_ble_eq_true rfl) (by decide) ⟨Nat.le_refl _, Nat.le_refl _⟩ (fun μ9 hμ9 => ?_)
        have h38 := hμ9
        refine v_aload hx DX12_split_41 0 rfl ?_
        refine v_push hx DX12_split_42 ?_
        refine v_push hx DX12_split_44 ?_
        refine v_push hx DX12_split_46 ?_
        refine v_push hx DX12_split_48 ?_
        refine v_cVv hx DX12_split_50 CVRX12_275 [iv 58, iv 60, iv 61, iv 118] (r_splitsF (t := 58) (q := 60) (lf := 61) (w := 118) (A := b.tm (5 * f + i + 2)) (W := PS.zero) l G Λ sz μ9 hR h38.1 (by omega) (by decide) (by omega) (RFI.wr (o := 58) (b.tm (5 * f + i + 2))) (by show up (up σ1 116 _) 117 _ 118 = _; rw [up_ne (by omega), up_ne (by omega)]; exact a1) jo (by omega) (by rw [PS.zero_sz]; omega) (hX.elim (fun X h => ⟨X, h.fr (by rw [h38.2.1 _ (by simp), f1.1 _ (by simp)])⟩))) hR.o rfl rfl (Nat.le_of_ble_eq_true rfl) (by decide) ⟨Nat.le_refl _, Nat.le_refl _⟩ (fun μ11 hμ11 => ?_)
        obtain ⟨σ2, w2, x1, x2, k2, mx, f2⟩ := hμ11
        have kk : ∀ r : Nat, r < 116 → σ2 r = ρ r := fun r hr => (k2 r (by omega) (by omega) (by omega) (by omega) (by omega)).trans (by show up (up σ1 116 _) 117 _ r = _; rw [up_ne (by omega), up_ne (by omega)]; exact k1 r (by omega))
        have fz : FrN ν [ν + 1, ν + 2, ν + 7, ν + 8] [16] μ μ11 := (FrN.of ((f1.trans h38.2).mono (by simp)) (by simp)).trans f2
        have rq : RQ μ μ11 ν b := ⟨⟨σ2, ha.rowsN w2 (fun r hr => kk r (by omega)) fz (by simp) (by simp) (by simp)⟩, mx, fz.mono (by simp) (by simp)⟩
        refine v_aload hx DX12_split_53 0 rfl ?_
        refine v_iload hx DX12_split_54 3 rfl ?_
        refine v_push hx DX12_split_55 ?_
        refine v_icmp_ge hx DX12_split_56 (by omega) (by decide) (fun c56 => ?_) (fun c56 => ?_)
        · skip
          refine v_push hx DX12_split_66 ?_
          refine v_iload hx DX12_split_68 3 rfl ?_
          refine v_iadd hx DX12_split_69 ?_
          refine v_push hx DX12_split_70 ?_
          refine v_isub hx DX12_split_71 ?_
          refine v_top (z' := ((120 + w).toNat : Int)) (by omega) ?_
          refine v_iload hx DX12_split_72 4 rfl ?_
          refine v_cVp hx DX12_split_74 CVRX12_159 [iv ((120 + w).toNat : Int), iv k] (r_at (s := (120 + w).toNat) l G Λ sz μ11 hR w2 (by omega) (by omega)) hR.o rfl rfl (Nat.le_of_ble_eq_true rfl) (by decide) ⟨Nat.le_refl _, Nat.le_refl _⟩ ?_
          have e0 : ca (σ2 (120 + w).toNat) k = splA b f i w k := by
            unfold splA
            rw [if1 ⟨d5, d14, by omega⟩]
            by_cases c : w < 2
            · rw [if_pos c, ← frP_row x1 (by omega), show 2 * (60 : Int).toNat + w.toNat = (120 + w).toNat by omega]
            · rw [if_neg c, ← frP_row x2 (by omega), show 2 * (61 : Int).toNat + (w - 2).toNat = (120 + w).toNat by omega]
          exact v_ri hx hBD DX12_split_77 (⟨e0, rq⟩)
        · skip
          refine v_push hx DX12_split_59 ?_
          refine v_iload hx DX12_split_61 3 rfl ?_
          refine v_iadd hx DX12_split_62 ?_
          refine v_goto hx DX12_split_63 ?_
          refine v_top (z' := ((120 + w).toNat : Int)) (by omega) ?_
          refine v_iload hx DX12_split_72 4 rfl ?_
          refine v_cVp hx DX12_split_74 CVRX12_159 [iv ((120 + w).toNat : Int), iv k] (r_at (s := (120 + w).toNat) l G Λ sz μ11 hR w2 (by omega) (by omega)) hR.o rfl rfl (Nat.le_of_ble_eq_true rfl) (by decide) ⟨Nat.le_refl _, Nat.le_refl _⟩ ?_
          have e0 : ca (σ2 (120 + w).toNat) k = splA b f i w k := by
            unfold splA
            rw [if1 ⟨d5, d14, by omega⟩]
            by_cases c : w < 2
            · rw [if_pos c, ← frP_row x1 (by omega), show 2 * (60 : Int).toNat + w.toNat = (120 + w).toNat by omega]
            · rw [if_neg c, ← frP_row x2 (by omega), show 2 * (61 : Int).toNat + (w - 2).toNat = (120 + w).toNat by omega]
          exact v_ri hx hBD DX12_split_77 (⟨e0, rq⟩)
      · skip
        have nv : ¬ splV f i w k := fun q => by have := q.2.2; omega
        refine v_push hx DX12_split_22 ?_
        exact v_ri hx hBD DX12_split_23 (⟨by unfold splA; rw [if0 nv], RQ.rf ha hX⟩)
theorem r_intF (l : Launch) (G : Gl) (Λ : Lay) (sz : Nat) (μ : Mem) {ν : Nat} {ρ : Nat → PS} {b : Bd} {f : Int} (hR : refK Λ ν) (ha : RA μ ν ρ b) (hgd : b.good) (hX : ∃ X, MXI μ ν X) (hf : 0 ≤ f ∧ f < 3) : Sp l G yX12_integratesFunction cX12_integratesFunction 2 none 8 [.ref ν, iv f] Λ sz μ (pV (fun μ' => ∃ σ, RA μ' ν σ b ∧ (∀ i : Int, -2 ≤ i → i ≤ 3 → RFI σ (16 + i + 2) (fQ b (fnJ b f) i)) ∧ (∀ i : Int, -2 ≤ i → i ≤ 2 → RFI σ (22 + i + 2) (igR b (fnJ b f) i)) ∧ μ'.1 ν 17 = (hwI b (fnJ b f) 5).1 ∧ μ'.1 ν 18 = (hwI b (fnJ b f) 5).2 ∧ (∃ X, MXI μ' ν X) ∧ FrN ν [ν + 1, ν + 2, ν + 7, ν + 8] [16, 17, 18] μ μ')) := by
  refine Sp.intro (by decide) (Nat.le_of_ble_eq_true rfl) (fun x hx hBD => ?_)
  refine v_lv [(0, .ref ν), (1, iv f)] rfl ?_
  refine v_aload hx DX12_integratesFunction_0 0 rfl ?_
  refine v_iload hx DX12_integratesFunction_1 1 rfl ?_
  refine v_push hx DX12_integratesFunction_2 ?_
  refine v_cSp hx DX12_integratesFunction_4 CSRX12_155 [iv f, iv (-2)] (r_term l G Λ sz μ (by omega)) rfl rfl (Nat.le_of_ble_eq_true rfl) (by decide) ⟨Nat.le_refl _, Nat.le_refl _⟩ ?_
  refine v_cVv hx DX12_integratesFunction_7 CVRX12_308 [iv ((5 * f + (-2) + 2).toNat : Int)] (r_integrates (fr := ((5 * f + (-2) + 2).toNat : Int)) (J := fnJ b f) l G Λ sz μ hR ha hgd (fnJ_ok hgd hf) (by omega) (fun i g0 g1 => by have q := ha.tm (t := 5 * f + i + 2) (by omega); rw [show ((5 * f + (-2) + 2).toNat : Int) + i + 2 = 5 * f + i + 2 by omega]; exact q) hX) hR.o rfl rfl (Nat.le_of_ble_eq_true rfl) (by decide) ⟨Nat.le_refl _, Nat.le_refl _⟩ (fun μ3 hμ3 => ?_)
  exact v_rv hx hBD DX12_integratesFunction_10 (by obtain ⟨σ, q1, q2, q3, q4, q5, q6, q7, q8⟩ := hμ3; exact ⟨σ, q1, q2, q3, q5, q6, q7, q8⟩)
theorem r_integral (l : Launch) (G : Gl) (Λ : Lay) (sz : Nat) (μ : Mem) {ν : Nat} {ρ : Nat → PS} {b : Bd} {f i w k : Int} (hR : refK Λ ν) (ha : RA μ ν ρ b) (hgd : b.good) (hX : ∃ X, MXI μ ν X) (rf : inR f) (ri : inR i) (rw : inR w) (rk : inR k) : Sp l G yX12_integral cX12_integral 5 (some FieldType.int) 9 [.ref ν, iv f, iv i, iv w, iv k] Λ sz μ (pI (fun z μ' => z = intA b f i w k ∧ RQ μ μ' ν b)) := by
  refine Sp.intro (by decide) (Nat.le_of_ble_eq_true rfl) (fun x hx hBD => ?_)
  refine v_lv [(0, .ref ν), (1, iv f), (2, iv i), (3, iv w), (4, iv k)] rfl ?_
  refine v_iload hx DX12_integral_0 1 rfl ?_
  refine v_cSp hx DX12_integral_1 CSRX12_199 [iv f] (r_isFunction l G Λ sz μ (by omega)) rfl rfl (Nat.le_of_ble_eq_true rfl) (by decide) ⟨Nat.le_refl _, Nat.le_refl _⟩ ?_
  have br1 := bz_rng (0 ≤ f ∧ f ≤ 2)
  refine v_if_eq hx DX12_integral_4 (by omega) (fun c4 => ?_) (fun c4 => ?_)
  · skip
    have d4 := bzf c4
    have nv : ¬ intV f i w k := fun q => d4 q.1
    refine v_push hx DX12_integral_31 ?_
    exact v_ri hx hBD DX12_integral_32 (⟨by unfold intA; rw [if0 nv], RQ.rf ha hX⟩)
  · skip
    have d4 := bzt c4
    refine v_iload hx DX12_integral_7 2 rfl ?_
    refine v_push hx DX12_integral_8 ?_
    refine v_push hx DX12_integral_10 ?_
    refine v_cSp hx DX12_integral_11 CSRX12_121 [iv i, iv (-2), iv 3] (r_in l G Λ sz μ (by omega) (by omega) (by omega)) rfl rfl (Nat.le_of_ble_eq_true rfl) (by decide) ⟨Nat.le_refl _, Nat.le_refl _⟩ ?_
    have br11 := bz_rng ((-2) ≤ i ∧ i ≤ 3)
    refine v_if_eq hx DX12_integral_14 (by omega) (fun c14 => ?_) (fun c14 => ?_)
    · skip
      have d14 := bzf c14
      have nv : ¬ intV f i w k := fun q => d14 q.2.1
      refine v_push hx DX12_integral_31 ?_
      exact v_ri hx hBD DX12_integral_32 (⟨by unfold intA; rw [if0 nv], RQ.rf ha hX⟩)
    · skip
      have d14 := bzt c14
      refine v_iload hx DX12_integral_17 3 rfl ?_
      refine v_push hx DX12_integral_18 ?_
      refine v_push hx DX12_integral_19 ?_
      refine v_cSp hx DX12_integral_20 CSRX12_121 [iv w, iv 0, iv 1] (r_in l G Λ sz μ (by omega) (by omega) (by omega)) rfl rfl (Nat.le_of_ble_eq_true rfl) (by decide) ⟨Nat.le_refl _, Nat.le_refl _⟩ ?_
      have br20 := bz_rng (0 ≤ w ∧ w ≤ 1)
      refine v_if_eq hx DX12_integral_23 (by omega) (fun c23 => ?_) (fun c23 => ?_)
      · skip
        have d23 := bzf c23
        have nv : ¬ intV f i w k := fun q => d23 q.2.2.1
        refine v_push hx DX12_integral_31 ?_
        exact v_ri hx hBD DX12_integral_32 (⟨by unfold intA; rw [if0 nv], RQ.rf ha hX⟩)
      · skip
        have d23 := bzt c23
        refine v_iload hx DX12_integral_26 4 rfl ?_
        refine v_if_ge hx DX12_integral_28 (by omega) (fun c28 => ?_) (fun c28 => ?_)
        · skip
          refine v_aload hx DX12_integral_33 0 rfl ?_
          refine v_iload hx DX12_integral_34 1 rfl ?_
          refine v_cVp hx DX12_integral_35 CVRX12_205 [iv f] (r_fits l G Λ sz μ hR ha (by omega)) hR.o rfl rfl (Nat.le_of_ble_eq_true rfl) (by decide) ⟨Nat.le_refl _, Nat.le_refl _⟩ ?_
          have frf := b.fit_rng f
          refine v_if_ne hx DX12_integral_38 (by omega) (fun c38 => ?_) (fun c38 => ?_)
          · skip
            refine v_aload hx DX12_integral_44 0 rfl ?_
            refine v_iload hx DX12_integral_45 1 rfl ?_
            refine v_cVv hx DX12_integral_46 CVRX12_311 [iv f] (r_intF l G Λ sz μ hR ha hgd hX (by omega)) hR.o rfl rfl (Nat.le_of_ble_eq_true rfl) (by decide) ⟨Nat.le_refl _, Nat.le_refl _⟩ (fun μ9 hμ9 => ?_)
            obtain ⟨σ, q1, q2, q3, q5, q6, q7, q8⟩ := hμ9
            have rq : RQ μ μ9 ν b := ⟨⟨σ, q1⟩, q7, q8.mono (by simp) (by simp)⟩
            have hr := hwI_rng b (fnJ b f) 5 (by omega)
            refine v_aload hx DX12_integral_49 0 rfl ?_
            refine v_get hx DX12_integral_50 FLRX12_278 hR.o (fv_i rfl q5 : _ = iv ((hwI b (fnJ b f) 5).1)) ?_
            refine v_if_eq hx DX12_integral_53 (by omega) (fun c53 => ?_) (fun c53 => ?_)
            · skip
              have e0 : (-4 : Int) = intA b f i w k := by unfold intA; rw [if1 ⟨d4, d14, d23, by omega⟩, if_neg (by omega), if_pos (by omega)]
              refine v_push hx DX12_integral_75 ?_
              exact v_ri hx hBD DX12_integral_77 (⟨e0, rq⟩)
            · skip
              refine v_aload hx DX12_integral_56 0 rfl ?_
              refine v_push hx DX12_integral_57 ?_
              refine v_push hx DX12_integral_58 ?_
              refine v_iload hx DX12_integral_60 2 rfl ?_
              refine v_iadd hx DX12_integral_61 ?_
              refine v_push hx DX12_integral_62 ?_
              refine v_iadd hx DX12_integral_63 ?_
              refine v_imul hx DX12_integral_64 ?_
              refine v_iload hx DX12_integral_65 3 rfl ?_
              refine v_iadd hx DX12_integral_66 ?_
              refine v_top (z' := ((2 * (16 + i + 2).toNat + w.toNat : Nat) : Int)) (by omega) ?_
              refine v_iload hx DX12_integral_67 4 rfl ?_
              refine v_cVp hx DX12_integral_69 CVRX12_159 [iv ((2 * (16 + i + 2).toNat + w.toNat : Nat) : Int), iv k] (r_at (s := 2 * (16 + i + 2).toNat + w.toNat) l G Λ sz μ9 hR q1.1 (by omega) (by omega)) hR.o rfl rfl (Nat.le_of_ble_eq_true rfl) (by decide) ⟨Nat.le_refl _, Nat.le_refl _⟩ ?_
              rw [frP_row (q2 i (by omega) (by omega)) (by omega)]
              have e0 : ca (frP (fQ b (fnJ b f) i) w) k = intA b f i w k := by unfold intA; rw [if1 ⟨d4, d14, d23, by omega⟩, if_neg (by omega), if_neg (by omega)]
              refine v_goto hx DX12_integral_72 ?_
              exact v_ri hx hBD DX12_integral_77 (⟨e0, rq⟩)
          · skip
            refine v_push hx DX12_integral_41 ?_
            exact v_ri hx hBD DX12_integral_43 (⟨by unfold intA; rw [if1 ⟨d4, d14, d23, by omega⟩, if_pos (by omega)], RQ.rf ha hX⟩)
        · skip
          have nv : ¬ intV f i w k := fun q => by have := q.2.2.2; omega
          refine v_push hx DX12_integral_31 ?_
          exact v_ri hx hBD DX12_integral_32 (⟨by unfold intA; rw [if0 nv], RQ.rf ha hX⟩)
theorem r_left (l : Launch) (G : Gl) (Λ : Lay) (sz : Nat) (μ : Mem) {ν : Nat} {ρ : Nat → PS} {b : Bd} {f i w k : Int} (hR : refK Λ ν) (ha : RA μ ν ρ b) (hgd : b.good) (hX : ∃ X, MXI μ ν X) (rf : inR f) (ri : inR i) (rw : inR w) (rk : inR k) : Sp l G yX12_left cX12_left 5 (some FieldType.int) 9 [.ref ν, iv f, iv i, iv w, iv k] Λ sz μ (pI (fun z μ' => z = lefA b f i w k ∧ RQ μ μ' ν b)) := by
  refine Sp.intro (by decide) (Nat.le_of_ble_eq_true rfl) (fun x hx hBD => ?_)
  refine v_lv [(0, .ref ν), (1, iv f), (2, iv i), (3, iv w), (4, iv k)] rfl ?_
  refine v_iload hx DX12_left_0 1 rfl ?_
  refine v_iload hx DX12_left_1 2 rfl ?_
  refine v_cSp hx DX12_left_2 CSRX12_151 [iv f, iv i] (r_isTermOf l G Λ sz μ (by omega) (by omega)) rfl rfl (Nat.le_of_ble_eq_true rfl) (by decide) ⟨Nat.le_refl _, Nat.le_refl _⟩ ?_
  have br2 := bz_rng (isTO f i)
  refine v_if_eq hx DX12_left_5 (by omega) (fun c5 => ?_) (fun c5 => ?_)
  · skip
    have d5 := bzf c5
    have nv : ¬ lefV f i w k := fun q => d5 q.1
    refine v_push hx DX12_left_22 ?_
    exact v_ri hx hBD DX12_left_23 (⟨by unfold lefA; rw [if0 nv], RQ.rf ha hX⟩)
  · skip
    have d5 := bzt c5
    have d5n := d5.n
    refine v_iload hx DX12_left_8 3 rfl ?_
    refine v_push hx DX12_left_9 ?_
    refine v_push hx DX12_left_10 ?_
    refine v_cSp hx DX12_left_11 CSRX12_121 [iv w, iv 0, iv 1] (r_in l G Λ sz μ (by omega) (by omega) (by omega)) rfl rfl (Nat.le_of_ble_eq_true rfl) (by decide) ⟨Nat.le_refl _, Nat.le_refl _⟩ ?_
    have br11 := bz_rng (0 ≤ w ∧ w ≤ 1)
    refine v_if_eq hx DX12_left_14 (by omega) (fun c14 => ?_) (fun c14 => ?_)
    · skip
      have d14 := bzf c14
      have nv : ¬ lefV f i w k := fun q => d14 q.2.1
      refine v_push hx DX12_left_22 ?_
      exact v_ri hx hBD DX12_left_23 (⟨by unfold lefA; rw [if0 nv], RQ.rf ha hX⟩)
    · skip
      have d14 := bzt c14
      refine v_iload hx DX12_left_17 4 rfl ?_
      refine v_if_ge hx DX12_left_19 (by omega) (fun c19 => ?_) (fun c19 => ?_)
      · skip
        refine v_aload hx DX12_left_24 0 rfl ?_
        refine v_iload hx DX12_left_25 1 rfl ?_
        refine v_cVp hx DX12_left_26 CVRX12_205 [iv f] (r_fits l G Λ sz μ hR ha (by omega)) hR.o rfl rfl (Nat.le_of_ble_eq_true rfl) (by decide) ⟨Nat.le_refl _, Nat.le_refl _⟩ ?_
        have frf := b.fit_rng f
        refine v_if_ne hx DX12_left_29 (by omega) (fun c29 => ?_) (fun c29 => ?_)
        · skip
          refine v_aload hx DX12_left_35 0 rfl ?_
          refine v_iload hx DX12_left_36 1 rfl ?_
          refine v_cVv hx DX12_left_37 CVRX12_311 [iv f] (r_intF l G Λ sz μ hR ha hgd hX (by omega)) hR.o rfl rfl (Nat.le_of_ble_eq_true rfl) (by decide) ⟨Nat.le_refl _, Nat.le_refl _⟩ (fun μ7 hμ7 => ?_)
          obtain ⟨σ, q1, q2, q3, q5, q6, q7, q8⟩ := hμ7
          have rq : RQ μ μ7 ν b := ⟨⟨σ, q1⟩, q7, q8.mono (by simp) (by simp)⟩
          have hr := hwI_rng b (fnJ b f) 5 (by omega)
          refine v_aload hx DX12_left_40 0 rfl ?_
          refine v_push hx DX12_left_41 ?_
          refine v_push hx DX12_left_42 ?_
          refine v_iload hx DX12_left_44 2 rfl ?_
          refine v_iadd hx DX12_left_45 ?_
          refine v_push hx DX12_left_46 ?_
          refine v_iadd hx DX12_left_47 ?_
          refine v_imul hx DX12_left_48 ?_
          refine v_iload hx DX12_left_49 3 rfl ?_
          refine v_iadd hx DX12_left_50 ?_
          refine v_top (z' := ((2 * (22 + i + 2).toNat + w.toNat : Nat) : Int)) (by omega) ?_
          refine v_iload hx DX12_left_51 4 rfl ?_
          refine v_cVp hx DX12_left_53 CVRX12_159 [iv ((2 * (22 + i + 2).toNat + w.toNat : Nat) : Int), iv k] (r_at (s := 2 * (22 + i + 2).toNat + w.toNat) l G Λ sz μ7 hR q1.1 (by omega) (by omega)) hR.o rfl rfl (Nat.le_of_ble_eq_true rfl) (by decide) ⟨Nat.le_refl _, Nat.le_refl _⟩ ?_
          rw [frP_row (q3 i (by omega) (by omega)) (by omega)]
          have e0 : ca (frP (igR b (fnJ b f) i) w) k = lefA b f i w k := by unfold lefA; rw [if1 ⟨d5, d14, by omega⟩, if_neg (by omega)]
          exact v_ri hx hBD DX12_left_56 (⟨e0, rq⟩)
        · skip
          refine v_push hx DX12_left_32 ?_
          exact v_ri hx hBD DX12_left_34 (⟨by unfold lefA; rw [if1 ⟨d5, d14, by omega⟩, if_pos (by omega)], RQ.rf ha hX⟩)
      · skip
        have nv : ¬ lefV f i w k := fun q => by have := q.2.2; omega
        refine v_push hx DX12_left_22 ?_
        exact v_ri hx hBD DX12_left_23 (⟨by unfold lefA; rw [if0 nv], RQ.rf ha hX⟩)
theorem r_pencil (l : Launch) (G : Gl) (Λ : Lay) (sz : Nat) (μ : Mem) {ν : Nat} {ρ : Nat → PS} {b : Bd} {f g w : Int} (hR : refK Λ ν) (ha : RA μ ν ρ b) (hgd : b.good) (hX : ∃ X, MXI μ ν X) (rf : inR f) (rg : inR g) (rw : inR w) : Sp l G yX12_pencil cX12_pencil 8 (some FieldType.int) 8 [.ref ν, iv f, iv g, iv w] Λ sz μ (pI (fun z μ' => z = penA b f g w ∧ RQ μ μ' ν b)) := by
  refine Sp.intro (by decide) (Nat.le_of_ble_eq_true rfl) (fun x hx hBD => ?_)
  refine v_lv [(0, .ref ν), (1, iv f), (2, iv g), (3, iv w)] rfl ?_
  have L64 : ∀ (nf : Nat) (c cn le i : Int) (m m0 : Mem) (σ : Nat → PS), (3 - i < (nf : Int)) → (penV f g w ∧ b.fit f ≠ 0 ∧ b.fit g ≠ 0) → (0 ≤ c ∧ c ≤ 100) → (-2 ≤ i ∧ i ≤ 3) → (RA m ν σ b) → (∃ X, MXI m ν X) → (∀ j : Int, -2 ≤ j → j < i → RFI σ (27 + j + 2) (pnJ b f g c j)) → (FrN ν [ν + 1, ν + 2, ν + 7, ν + 8] [16, 17, 18] μ m) → (∀ (m2 : Mem) (σ2 : Nat → PS), (RA m2 ν σ2 b) → (∃ X, MXI m2 ν X) → (∀ j : Int, -2 ≤ j → j ≤ 2 → RFI σ2 (27 + j + 2) (pnJ b f g c j)) → (FrN ν [ν + 1, ν + 2, ν + 7, ν + 8] [16, 17, 18] μ m2) → V G x (0, 0) Λ sz m2 101 [(6, iv c), (5, iv le), (4, iv cn), (0, .ref ν), (1, iv f), (2, iv g), (3, iv w)] []) → V G x (0, 0) Λ sz m 64 [(7, iv i), (6, iv c), (5, iv le), (4, iv cn), (0, .ref ν), (1, iv f), (2, iv g), (3, iv w)] [] := by
    intro nf
    induction nf with
    | zero => intro c cn le i m m0 σ hm hV hc hi h1 hM h2 hf hC; exact absurd hm (by omega)
    | succ nf ih =>
      intro c cn le i m m0 σ hm hV hc hi h1 hM h2 hf hC
      obtain ⟨⟨v1, v2, v3⟩, v4, v5⟩ := hV
      have hV : penV f g w ∧ b.fit f ≠ 0 ∧ b.fit g ≠ 0 := ⟨⟨v1, v2, v3⟩, v4, v5⟩
      refine v_iload hx DX12_pencil_64 0 rfl ?_
      refine v_push hx DX12_pencil_66 ?_
      refine v_icmp_gt hx DX12_pencil_67 (by omega) (by decide) (fun c67 => ?_) (fun c67 => ?_)
      · skip
        exact v_sub [1, 2, 3, 4, 5, 6, 7] _ rfl (hC m σ h1 hM (fun j g0 g1 => h2 j g0 (by omega)) hf)
      · skip
        have og := hgd.tm (t := 5 * f + i + 2) (by omega)
        have oh := hgd.tm (t := 5 * g + i + 2) (by omega)
        refine v_aload hx DX12_pencil_70 4 rfl ?_
        refine v_push hx DX12_pencil_71 ?_
        refine v_iload hx DX12_pencil_73 0 rfl ?_
        refine v_iadd hx DX12_pencil_75 ?_
        refine v_push hx DX12_pencil_76 ?_
        refine v_iadd hx DX12_pencil_77 ?_
        refine v_iload hx DX12_pencil_78 5 rfl ?_
        refine v_iload hx DX12_pencil_79 0 rfl ?_
        refine v_cSp hx DX12_pencil_81 CSRX12_155 [iv f, iv i] (r_term l G Λ sz m (by omega)) rfl rfl (Nat.le_of_ble_eq_true rfl) (by decide) ⟨Nat.le_refl _, Nat.le_refl _⟩ ?_
        refine v_iload hx DX12_pencil_84 6 rfl ?_
        refine v_iload hx DX12_pencil_85 0 rfl ?_
        refine v_cSp hx DX12_pencil_87 CSRX12_155 [iv g, iv i] (r_term l G Λ sz m (by omega)) rfl rfl (Nat.le_of_ble_eq_true rfl) (by decide) ⟨Nat.le_refl _, Nat.le_refl _⟩ ?_
        refine v_iload hx DX12_pencil_90 1 rfl ?_
        refine v_cVv hx DX12_pencil_92 CVRX12_223 [iv ((27 + i) + 2), iv ((5 * f + i + 2).toNat : Int), iv ((5 * g + i + 2).toNat : Int), iv c] (r_plusF (o := 27 + i + 2) (a := ((5 * f + i + 2).toNat : Int)) (b := ((5 * g + i + 2).toNat : Int)) (A := b.tm (5 * f + i + 2)) (B := b.tm (5 * g + i + 2)) l G Λ sz m hR h1.1 (by omega) (by omega) (by omega) (by omega) (by have q := h1.tm (t := 5 * f + i + 2) (by omega); exact q) (by have q := h1.tm (t := 5 * g + i + 2) (by omega); exact q) og.1.2.2.1 oh.1.2.2.1 (by have := og.2.1; have := oh.2.2; omega) (by have := oh.2.1; have := og.2.2; omega) (by have := og.2.2; have := oh.2.2; omega)) hR.o rfl rfl (Nat.le_of_ble_eq_true rfl) (by decide) ⟨Nat.le_refl _, Nat.le_refl _⟩ (fun μ5 hμ5 => ?_)
        obtain ⟨σ1, w1, x1a, x1b, k1, f1⟩ := hμ5
        have x1 : RFI σ1 (27 + i + 2) (pnJ b f g c i) := ⟨x1a, x1b⟩
        have rn : RA μ5 ν σ1 b := h1.rows w1 (fun r hr => k1 r (by omega) (by omega) (by omega)) f1
        have mx : ∃ X, MXI μ5 ν X := hM.elim (fun X h => ⟨X, h.fr (f1.1 _ (by simp))⟩)
        refine v_iinc hx DX12_pencil_95 0 rfl [(7, iv (i + 1)), (6, iv c), (5, iv le), (4, iv cn), (0, .ref ν), (1, iv f), (2, iv g), (3, iv w)] rfl (by decide) ?_
        refine v_goto hx DX12_pencil_98 ?_
        exact v_sub [0, 1, 2, 3, 4, 5, 6, 7] _ rfl (ih c cn le (i + 1) μ5 m σ1 (by omega) hV hc (by omega) rn mx (fun j g0 g1 => (Classical.em (j = i)).elim (fun q => by rw [q]; exact x1) (fun q => (h2 j g0 (by omega)).kept (by omega) (by omega) (by omega) k1)) (hf.trans (FrN.of (f1.mono (by simp)) (by simp))) hC)
  have L55 : ∀ (nf : Nat) (c cn le : Int) (m : Mem) (σ : Nat → PS), (c + 1 < (nf : Int)) → (penV f g w ∧ b.fit f ≠ 0 ∧ b.fit g ≠ 0) → (-1 ≤ c ∧ c ≤ 100) → (RA m ν σ b) → (∃ X, MXI m ν X) → (cn = (penS b f g (100 - c).toNat).1) → (le = (penS b f g (100 - c).toNat).2) → (FrN ν [ν + 1, ν + 2, ν + 7, ν + 8] [16, 17, 18] μ m) → V G x (0, 0) Λ sz m 55 [(6, iv c), (5, iv le), (4, iv cn), (0, .ref ν), (1, iv f), (2, iv g), (3, iv w)] [] := by
    intro nf
    induction nf with
    | zero => intro c cn le m σ hm hV hc h1 hM e1 e2 hf; exact absurd hm (by omega)
    | succ nf ih =>
      intro c cn le m σ hm hV hc h1 hM e1 e2 hf
      have pr := penS_rng b f g (100 - c).toNat (by omega)
      obtain ⟨⟨v1, v2, v3⟩, v4, v5⟩ := hV
      have hV : penV f g w ∧ b.fit f ≠ 0 ∧ b.fit g ≠ 0 := ⟨⟨v1, v2, v3⟩, v4, v5⟩
      refine v_iload hx DX12_pencil_55 0 rfl ?_
      refine v_if_lt hx DX12_pencil_57 (by omega) (fun c57 => ?_) (fun c57 => ?_)
      · skip
        refine v_iload hx DX12_pencil_146 6 rfl ?_
        refine v_if_ne hx DX12_pencil_147 (by omega) (fun c147 => ?_) (fun c147 => ?_)
        · skip
          refine v_iload hx DX12_pencil_155 1 rfl ?_
          exact v_ri hx hBD DX12_pencil_157 (⟨by unfold penA; rw [if1 hV.1, if_neg (by omega), if_neg (by omega)]; rw [show (100 - c).toNat = 101 by omega] at e1 e2; first | exact e1 | exact e2, ⟨⟨σ, h1⟩, hM, hf.mono (by simp) (by simp)⟩⟩)
        · skip
          refine v_iload hx DX12_pencil_150 2 rfl ?_
          refine v_goto hx DX12_pencil_152 ?_
          exact v_ri hx hBD DX12_pencil_157 (⟨by unfold penA; rw [if1 hV.1, if_neg (by omega), if_pos (by omega)]; rw [show (100 - c).toNat = 101 by omega] at e1 e2; first | exact e1 | exact e2, ⟨⟨σ, h1⟩, hM, hf.mono (by simp) (by simp)⟩⟩)
      · skip
        refine v_push hx DX12_pencil_60 ?_
        refine v_istore hx DX12_pencil_62 [(7, iv (-2)), (6, iv c), (5, iv le), (4, iv cn), (0, .ref ν), (1, iv f), (2, iv g), (3, iv w)] rfl (by decide) ?_
        refine v_sub [0, 1, 2, 3, 4, 5, 6, 7] _ rfl (L64 100 c cn le (-2) m m σ (by omega) hV (by omega) (by omega) h1 hM (fun j g0 g1 => by omega) hf (fun m2 σ2 a2 hM2 j2 hf2 => ?_))
        refine v_aload hx DX12_pencil_101 3 rfl ?_
        refine v_push hx DX12_pencil_102 ?_
        refine v_cVv hx DX12_pencil_104 CVRX12_308 [iv 27] (r_integrates (fr := 27) (J := pnJ b f g c) l G Λ sz m2 hR a2 hgd (pnJ_ok hgd (by omega) (by omega)) (by omega) (fun i g0 g1 => j2 i g0 g1) hM2) hR.o rfl rfl (Nat.le_of_ble_eq_true rfl) (by decide) ⟨Nat.le_refl _, Nat.le_refl _⟩ (fun μ7 hμ7 => ?_)
        obtain ⟨σ9, q1, q2, q3, q4, q5, q6, q7, q8⟩ := hμ7
        have hr := hwI_rng b (pnJ b f g c) 5 (by omega)
        have pS : penS b f g (100 - (c + (-1))).toNat = if (hwI b (pnJ b f g c) 5).1 = 0 then penS b f g (100 - c).toNat else ((penS b f g (100 - c).toNat).1 + 1, c) := by
          rw [show (100 - (c + (-1))).toNat = (100 - c).toNat + 1 by omega, penS, show 100 - (((100 - c).toNat : Nat) : Int) = c by omega]
        refine v_iload hx DX12_pencil_107 2 rfl ?_
        refine v_aload hx DX12_pencil_109 3 rfl ?_
        refine v_get hx DX12_pencil_110 FLRX12_278 hR.o (fv_i rfl q5 : _ = iv ((hwI b (pnJ b f g c) 5).1)) ?_
        refine v_if_eq hx DX12_pencil_113 (by omega) (fun c113 => ?_) (fun c113 => ?_)
        · skip
          refine v_push hx DX12_pencil_120 ?_
          refine v_iadd hx DX12_pencil_121 ?_
          refine v_istore hx DX12_pencil_122 [(4, iv (cn + 0)), (6, iv c), (5, iv le), (0, .ref ν), (1, iv f), (2, iv g), (3, iv w)] rfl (by decide) ?_
          refine v_aload hx DX12_pencil_124 3 rfl ?_
          refine v_get hx DX12_pencil_125 FLRX12_278 hR.o (fv_i rfl q5 : _ = iv ((hwI b (pnJ b f g c) 5).1)) ?_
          refine v_if_eq hx DX12_pencil_128 (by omega) (fun c128 => ?_) (fun c128 => ?_)
          · skip
            refine v_iload hx DX12_pencil_136 2 rfl ?_
            refine v_istore hx DX12_pencil_138 [(5, iv le), (4, iv (cn + 0)), (6, iv c), (0, .ref ν), (1, iv f), (2, iv g), (3, iv w)] rfl (by decide) ?_
            have s1 : cn + 0 = (if (hwI b (pnJ b f g c) 5).1 = 0 then penS b f g (100 - c).toNat else ((penS b f g (100 - c).toNat).1 + 1, c)).1 := by rw [if_pos (by omega)]; omega
            have s2 : le = (if (hwI b (pnJ b f g c) 5).1 = 0 then penS b f g (100 - c).toNat else ((penS b f g (100 - c).toNat).1 + 1, c)).2 := by rw [if_pos (by omega), e2]
            refine v_iinc hx DX12_pencil_140 2 rfl [(6, iv (c + (-1))), (5, iv le), (4, iv (cn + 0)), (0, .ref ν), (1, iv f), (2, iv g), (3, iv w)] rfl (by decide) ?_
            refine v_goto hx DX12_pencil_143 ?_
            exact v_sub [0, 1, 2, 3, 4, 5, 6] _ rfl (ih (c + (-1)) (cn + 0) le μ7 σ9 (by omega) hV (by omega) q1 q7 (by rw [pS]; exact s1) (by rw [pS]; exact s2) ((hf2.trans (q8.mono (by simp) (by simp)))))
          · exact absurd c128 (by omega)
        · skip
          refine v_push hx DX12_pencil_116 ?_
          refine v_goto hx DX12_pencil_117 ?_
          refine v_iadd hx DX12_pencil_121 ?_
          refine v_istore hx DX12_pencil_122 [(4, iv (cn + 1)), (6, iv c), (5, iv le), (0, .ref ν), (1, iv f), (2, iv g), (3, iv w)] rfl (by decide) ?_
          refine v_aload hx DX12_pencil_124 3 rfl ?_
          refine v_get hx DX12_pencil_125 FLRX12_278 hR.o (fv_i rfl q5 : _ = iv ((hwI b (pnJ b f g c) 5).1)) ?_
          refine v_if_eq hx DX12_pencil_128 (by omega) (fun c128 => ?_) (fun c128 => ?_)
          · exact absurd c128 (by omega)
          · skip
            refine v_iload hx DX12_pencil_131 1 rfl ?_
            refine v_goto hx DX12_pencil_133 ?_
            refine v_istore hx DX12_pencil_138 [(5, iv c), (4, iv (cn + 1)), (6, iv c), (0, .ref ν), (1, iv f), (2, iv g), (3, iv w)] rfl (by decide) ?_
            have s1 : cn + 1 = (if (hwI b (pnJ b f g c) 5).1 = 0 then penS b f g (100 - c).toNat else ((penS b f g (100 - c).toNat).1 + 1, c)).1 := by rw [if_neg (by omega), e1]
            have s2 : c = (if (hwI b (pnJ b f g c) 5).1 = 0 then penS b f g (100 - c).toNat else ((penS b f g (100 - c).toNat).1 + 1, c)).2 := by rw [if_neg (by omega)]
            refine v_iinc hx DX12_pencil_140 2 rfl [(6, iv (c + (-1))), (5, iv c), (4, iv (cn + 1)), (0, .ref ν), (1, iv f), (2, iv g), (3, iv w)] rfl (by decide) ?_
            refine v_goto hx DX12_pencil_143 ?_
            exact v_sub [0, 1, 2, 3, 4, 5, 6] _ rfl (ih (c + (-1)) (cn + 1) c μ7 σ9 (by omega) hV (by omega) q1 q7 (by rw [pS]; exact s1) (by rw [pS]; exact s2) ((hf2.trans (q8.mono (by simp) (by simp)))))
  refine v_iload hx DX12_pencil_0 1 rfl ?_
  refine v_cSp hx DX12_pencil_1 CSRX12_199 [iv f] (r_isFunction l G Λ sz μ (by omega)) rfl rfl (Nat.le_of_ble_eq_true rfl) (by decide) ⟨Nat.le_refl _, Nat.le_refl _⟩ ?_
  have br1 := bz_rng (0 ≤ f ∧ f ≤ 2)
  refine v_if_eq hx DX12_pencil_4 (by omega) (fun c4 => ?_) (fun c4 => ?_)
  · skip
    have d4 := bzf c4
    have nv : ¬ penV f g w := fun q => d4 q.1
    refine v_push hx DX12_pencil_23 ?_
    exact v_ri hx hBD DX12_pencil_24 (⟨by unfold penA; rw [if0 nv], RQ.rf ha hX⟩)
  · skip
    have d4 := bzt c4
    refine v_iload hx DX12_pencil_7 2 rfl ?_
    refine v_cSp hx DX12_pencil_8 CSRX12_199 [iv g] (r_isFunction l G Λ sz μ (by omega)) rfl rfl (Nat.le_of_ble_eq_true rfl) (by decide) ⟨Nat.le_refl _, Nat.le_refl _⟩ ?_
    have br8 := bz_rng (0 ≤ g ∧ g ≤ 2)
    refine v_if_eq hx DX12_pencil_11 (by omega) (fun c11 => ?_) (fun c11 => ?_)
    · skip
      have d11 := bzf c11
      have nv : ¬ penV f g w := fun q => d11 q.2.1
      refine v_push hx DX12_pencil_23 ?_
      exact v_ri hx hBD DX12_pencil_24 (⟨by unfold penA; rw [if0 nv], RQ.rf ha hX⟩)
    · skip
      have d11 := bzt c11
      refine v_iload hx DX12_pencil_14 3 rfl ?_
      refine v_push hx DX12_pencil_15 ?_
      refine v_push hx DX12_pencil_16 ?_
      refine v_cSp hx DX12_pencil_17 CSRX12_121 [iv w, iv 0, iv 1] (r_in l G Λ sz μ (by omega) (by omega) (by omega)) rfl rfl (Nat.le_of_ble_eq_true rfl) (by decide) ⟨Nat.le_refl _, Nat.le_refl _⟩ ?_
      have br17 := bz_rng (0 ≤ w ∧ w ≤ 1)
      refine v_if_ne hx DX12_pencil_20 (by omega) (fun c20 => ?_) (fun c20 => ?_)
      · skip
        have d20 := bzt c20
        refine v_aload hx DX12_pencil_25 0 rfl ?_
        refine v_iload hx DX12_pencil_26 1 rfl ?_
        refine v_cVp hx DX12_pencil_27 CVRX12_205 [iv f] (r_fits l G Λ sz μ hR ha (by omega)) hR.o rfl rfl (Nat.le_of_ble_eq_true rfl) (by decide) ⟨Nat.le_refl _, Nat.le_refl _⟩ ?_
        have frf := b.fit_rng f
        refine v_if_eq hx DX12_pencil_30 (by omega) (fun c30 => ?_) (fun c30 => ?_)
        · skip
          have nf : b.fit f = 0 ∨ b.fit g = 0 := Or.inl (by omega)
          refine v_push hx DX12_pencil_41 ?_
          exact v_ri hx hBD DX12_pencil_43 (⟨by unfold penA; rw [if1 ⟨d4, d11, d20⟩, if_pos nf], RQ.rf ha hX⟩)
        · skip
          refine v_aload hx DX12_pencil_33 0 rfl ?_
          refine v_iload hx DX12_pencil_34 2 rfl ?_
          refine v_cVp hx DX12_pencil_35 CVRX12_205 [iv g] (r_fits l G Λ sz μ hR ha (by omega)) hR.o rfl rfl (Nat.le_of_ble_eq_true rfl) (by decide) ⟨Nat.le_refl _, Nat.le_refl _⟩ ?_
          have frg := b.fit_rng g
          refine v_if_ne hx DX12_pencil_38 (by omega) (fun c38 => ?_) (fun c38 => ?_)
          · skip
            refine v_push hx DX12_pencil_44 ?_
            refine v_istore hx DX12_pencil_45 [(4, iv 0), (0, .ref ν), (1, iv f), (2, iv g), (3, iv w)] rfl (by decide) ?_
            refine v_push hx DX12_pencil_47 ?_
            refine v_istore hx DX12_pencil_49 [(5, iv (-4)), (4, iv 0), (0, .ref ν), (1, iv f), (2, iv g), (3, iv w)] rfl (by decide) ?_
            refine v_push hx DX12_pencil_51 ?_
            refine v_istore hx DX12_pencil_53 [(6, iv 100), (5, iv (-4)), (4, iv 0), (0, .ref ν), (1, iv f), (2, iv g), (3, iv w)] rfl (by decide) ?_
            exact v_sub [0, 1, 2, 3, 4, 5, 6] _ rfl (L55 200 100 0 (-4) μ ρ (by omega) ⟨⟨d4, d11, d20⟩, by omega, by omega⟩ (by omega) ha hX rfl rfl FrN.rf)
          · skip
            have nf : b.fit f = 0 ∨ b.fit g = 0 := Or.inr (by omega)
            refine v_push hx DX12_pencil_41 ?_
            exact v_ri hx hBD DX12_pencil_43 (⟨by unfold penA; rw [if1 ⟨d4, d11, d20⟩, if_pos nf], RQ.rf ha hX⟩)
      · skip
        have d20 := bzf c20
        have nv : ¬ penV f g w := fun q => d20 q.2.2
        refine v_push hx DX12_pencil_23 ?_
        exact v_ri hx hBD DX12_pencil_24 (⟨by unfold penA; rw [if0 nv], RQ.rf ha hX⟩)
