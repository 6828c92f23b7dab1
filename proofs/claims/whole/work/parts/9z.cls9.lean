/-! ===== the class: compare ===== -/
/-- the rests of two functions: the sum with c times the second suits -/
noncomputable def cmI (kd : Int) (A B C D u s : PS) (c : Int) : Int := if kd = 2 then ratI (((A.mul D).mul u).add (((C.mul B).mul u).sm (fi c))) ((B.mul D).mul s) else ratI ((A.mul D).add ((C.mul B).sm (fi c))) PS.zero
noncomputable def cmZ (kd : Int) (A B C D u s : PS) (w : Int → Int) : Int → Int := fun c => if 0 ≤ c ∧ c < 101 ∧ w c ≠ 0 ∧ cmI kd A B C D u s c < 0 then 0 else w c
def bit1 (w : Int → Int) : Prop := ∀ c : Int, 0 ≤ c → c < 101 → w c = 0 ∨ w c = 1
noncomputable def cmK (kd : Int) (A B C D u s : PS) (w : Int → Int) (n : Int) : Int → Int := fun c => if c < n then cmZ kd A B C D u s w c else w c
theorem cmK_0 (kd : Int) (A B C D u s : PS) (w : Int → Int) : cmK kd A B C D u s w 0 = w := funext fun c => by
  unfold cmK cmZ
  by_cases h : c < 0
  · rw [if_pos h, if_neg (by omega)]
  · rw [if_neg h]
theorem cmK_end (kd : Int) (A B C D u s : PS) (w : Int → Int) : cmK kd A B C D u s w 101 = cmZ kd A B C D u s w := funext fun c => by
  unfold cmK
  by_cases h : c < 101
  · rw [if_pos h]
  · rw [if_neg h]; unfold cmZ; rw [if_neg (by omega)]
theorem cmK_no {kd : Int} {A B C D u s : PS} {w : Int → Int} {n : Int} (h : w n = 0) : cmK kd A B C D u s w (n + 1) = cmK kd A B C D u s w n := funext fun c => by
  unfold cmK
  by_cases h1 : c = n
  · rw [if_pos (by omega), if_neg (by omega)]; unfold cmZ; rw [if_neg (by rw [h1]; omega)]
  · by_cases h2 : c < n
    · rw [if_pos h2, if_pos (by omega)]
    · rw [if_neg h2, if_neg (by omega)]
theorem cmK_yes {kd : Int} {A B C D u s : PS} {w : Int → Int} {n v : Int} (hn : 0 ≤ n ∧ n < 101) (h : w n = 1) (hv : v = if cmI kd A B C D u s n < 0 then 0 else 1) : rw1 (cmK kd A B C D u s w n) n v = cmK kd A B C D u s w (n + 1) := funext fun c => by
  unfold rw1 cmK
  by_cases h1 : c = n
  · rw [if_pos h1, if_pos (by omega), hv, h1]
    unfold cmZ
    by_cases h3 : cmI kd A B C D u s n < 0
    · rw [if_pos h3, if_pos (by omega)]
    · rw [if_neg h3, if_neg (by omega), h]
  · rw [if_neg h1]
    by_cases h2 : c < n
    · rw [if_pos h2, if_pos (by omega)]
    · rw [if_neg h2, if_neg (by omega)]
theorem cmK_at (kd : Int) (A B C D u s : PS) (w : Int → Int) (n : Int) : cmK kd A B C D u s w n n = w n := by unfold cmK; rw [if_neg (by omega)]
theorem bit1.z {w : Int → Int} (h : bit1 w) (kd : Int) (A B C D u s : PS) : bit1 (cmZ kd A B C D u s w) := fun c h0 h1 => by
  unfold cmZ
  split
  · exact Or.inl rfl
  · exact h c h0 h1
theorem partK.off25 {Λ : Lay} {p κ σ : Nat} (h : partK Λ p κ σ) : ¬ polyC Λ (p + 25) := by
  rintro (q | ⟨b, e, q⟩)
  · have := h.2.2.2.1.symm.trans q.1; simp at this
  · obtain rfl : b = p + 24 := by omega
    have := h.2.2.2.1.symm.trans q.2; simp at this
theorem cmI_rng (kd : Int) (A B C D u s : PS) (c : Int) : -1 ≤ cmI kd A B C D u s c ∧ cmI kd A B C D u s c ≤ 100 := by
  unfold cmI; split <;> exact ratI_rng _ _
theorem cm_if {kd c : Int} {A B C D u s : PS} : ratI ((if kd = 2 then (A.mul D).mul u else A.mul D).add ((if kd = 2 then (C.mul B).mul u else C.mul B).sm (fi c))) (if kd = 2 then (B.mul D).mul s else PS.zero) = cmI kd A B C D u s c := by
  unfold cmI
  by_cases h : kd = 2
  · rw [if_pos h, if_pos h, if_pos h, if_pos h]
  · rw [if_neg h, if_neg h, if_neg h, if_neg h]
theorem rw1_fill {w : Int → Int} {k : Int} (hw : ∀ c : Int, 0 ≤ c → c < k → w c = 1) (c : Int) (h0 : 0 ≤ c) (h1 : c < k + 1) : rw1 w k 1 c = 1 := by
  unfold rw1
  by_cases h : c = k
  · rw [if_pos h]
  · rw [if_neg h]; exact hw c h0 (by omega)
/-- how the rests i of two parts go together -/
noncomputable def cJ (kd : Int) (p q : Nat) (π : Nat → PS) (j c : Int) : Int := cmI kd (π (p + 56 + 5 * (j + 2).toNat + 1)) (π (p + 56 + 5 * (j + 2).toNat + 3)) (π (q + 56 + 5 * (j + 2).toNat + 1)) (π (q + 56 + 5 * (j + 2).toNat + 3)) (π (p + 13)) (π (p + 15)) c
def cmB (A B C D u s : PS) : Prop := ((A.fin ∧ B.fin) ∧ (C.fin ∧ D.fin) ∧ u.fin ∧ s.fin) ∧ (A.size + D.size + u.size ≤ 49 ∧ 1 ≤ D.size) ∧ (C.size + B.size + u.size ≤ 49 ∧ 1 ≤ B.size) ∧ B.size + D.size + s.size ≤ 49
def cmL (p q : Nat) (π : Nat → PS) (j : Int) : Prop := cmB (π (p + 56 + 5 * (j + 2).toNat + 1)) (π (p + 56 + 5 * (j + 2).toNat + 3)) (π (q + 56 + 5 * (j + 2).toNat + 1)) (π (q + 56 + 5 * (j + 2).toNat + 3)) (π (p + 13)) (π (p + 15))
theorem cmL_at {Λ : Lay} {p q : Nat} {w : Int → Int} {μ m : Mem} {π πk : Nat → PS} {j : Int} (h : ChgX Λ (fun c => c = p + 17 ∨ c = p + 19 ∨ c = p + 21 ∨ c = p + 23) (p + 25) w μ m π πk) (hL : cmL p q π j) (hq : p + 80 < q) (hj : -2 ≤ j ∧ j ≤ 2) :
    (((πk (p + 56 + 5 * (j + 2).toNat + 1)).fin ∧ (πk (p + 56 + 5 * (j + 2).toNat + 3)).fin) ∧ ((πk (q + 56 + 5 * (j + 2).toNat + 1)).fin ∧ (πk (q + 56 + 5 * (j + 2).toNat + 3)).fin) ∧ (πk (p + 13)).fin ∧ (πk (p + 15)).fin) ∧ ((πk (p + 56 + 5 * (j + 2).toNat + 1)).size + (πk (q + 56 + 5 * (j + 2).toNat + 3)).size + (πk (p + 13)).size ≤ 49 ∧ 1 ≤ (πk (q + 56 + 5 * (j + 2).toNat + 3)).size) ∧ ((πk (q + 56 + 5 * (j + 2).toNat + 1)).size + (πk (p + 56 + 5 * (j + 2).toNat + 3)).size + (πk (p + 13)).size ≤ 49 ∧ 1 ≤ (πk (p + 56 + 5 * (j + 2).toNat + 3)).size) ∧ ((πk (p + 56 + 5 * (j + 2).toNat + 3)).size + (πk (q + 56 + 5 * (j + 2).toNat + 3)).size + (πk (p + 15)).size ≤ 49) ∧
    ∀ kd c : Int, cmI kd (πk (p + 56 + 5 * (j + 2).toNat + 1)) (πk (p + 56 + 5 * (j + 2).toNat + 3)) (πk (q + 56 + 5 * (j + 2).toNat + 1)) (πk (q + 56 + 5 * (j + 2).toNat + 3)) (πk (p + 13)) (πk (p + 15)) c = cJ kd p q π j c := by
  have e1 := h.2.1 (p + 56 + 5 * (j + 2).toNat + 1) (by omega)
  have e2 := h.2.1 (p + 56 + 5 * (j + 2).toNat + 3) (by omega)
  have e3 := h.2.1 (q + 56 + 5 * (j + 2).toNat + 1) (by omega)
  have e4 := h.2.1 (q + 56 + 5 * (j + 2).toNat + 3) (by omega)
  have e5 := h.2.1 (p + 13) (by omega)
  have e6 := h.2.1 (p + 15) (by omega)
  rw [e1, e2, e3, e4, e5, e6]
  exact ⟨hL.1, hL.2.1, hL.2.2.1, hL.2.2.2, fun kd c => rfl⟩
theorem cmZ_iff {kd i c : Int} {p q : Nat} {π : Nat → PS} {A B C D u s : PS} {w : Int → Int} (hb : bit1 w) (h0 : 0 ≤ c) (h1 : c < 101) (hw : w c = 1 ↔ ∀ j : Int, -2 ≤ j → j < i → j ≠ 0 → 0 ≤ cJ kd p q π j c) (hi : -2 ≤ i ∧ i ≠ 0) (e : ∀ kd c : Int, cmI kd A B C D u s c = cJ kd p q π i c) :
    cmZ kd A B C D u s w c = 1 ↔ ∀ j : Int, -2 ≤ j → j < i + 1 → j ≠ 0 → 0 ≤ cJ kd p q π j c := by
  unfold cmZ
  rw [e]
  constructor
  · intro t j h2 h3 h4
    by_cases z : 0 ≤ c ∧ c < 101 ∧ w c ≠ 0 ∧ cJ kd p q π i c < 0
    · rw [if_pos z] at t; omega
    · rw [if_neg z] at t
      by_cases y : j = i
      · rw [y]; omega
      · exact hw.mp t j h2 (by omega) h4
  · intro t
    have y := t i hi.1 (by omega) hi.2
    rw [if_neg (by omega)]
    exact hw.mpr (fun j h2 h3 h4 => t j h2 (by omega) h4)
theorem c_compareRests (l : Launch) (G : Gl) (Λ : Lay) (sz : Nat) (μ : Mem) {π : Nat → PS} {p κ σ f q : Nat} {kd : Int} {w0 : Int → Int} (hA : AB Λ μ π) (hI : INV G Λ) (hK : kitK Λ κ) (hP : partK Λ p κ σ) (hF : fracK Λ f) (hQ : fracK Λ q) (hkd : μ.1 p 13 = kd ∧ 0 ≤ kd ∧ kd ≤ 2) (hw0 : μ.1 (p + 25) = w0) (hb : bit1 w0) (hord : κ + 16 < p ∧ p + 25 < f ∧ p + 25 < q) (fin : ((π (f + 1)).fin ∧ (π (f + 3)).fin) ∧ ((π (q + 1)).fin ∧ (π (q + 3)).fin) ∧ (π (p + 13)).fin ∧ (π (p + 15)).fin) (h1 : (π (f + 1)).size + (π (q + 3)).size + (π (p + 13)).size ≤ 49 ∧ 1 ≤ (π (q + 3)).size) (h2 : (π (q + 1)).size + (π (f + 3)).size + (π (p + 13)).size ≤ 49 ∧ 1 ≤ (π (f + 3)).size) (h3 : (π (f + 3)).size + (π (q + 3)).size + (π (p + 15)).size ≤ 49) : Sp l G yX4_compareRests cX4_compareRests 4 none 4 [.ref p, .ref f, .ref q] Λ sz μ (pV (fun μ' => ∃ π', ChgX Λ (fun c => c = p + 17 ∨ c = p + 19 ∨ c = p + 21 ∨ c = p + 23) (p + 25) (cmZ kd (π (f + 1)) (π (f + 3)) (π (q + 1)) (π (q + 3)) (π (p + 13)) (π (p + 15)) w0) μ μ' π π')) := by
  refine Sp.intro (by decide) (Nat.le_of_ble_eq_true rfl) (fun x hx hBD => ?_)
  refine v_lv [(0, .ref p), (1, .ref f), (2, .ref q)] rfl ?_
  have hoff := hP.off25
  have hoffp := hP.off
  have zAD := PS.size_le (PS.lt_mul' (N := (π (f + 1)).size + (π (q + 3)).size - 1) (PS.flt fin.1.1) (PS.flt fin.2.1.2) (by omega))
  have zCB := PS.size_le (PS.lt_mul' (N := (π (q + 1)).size + (π (f + 3)).size - 1) (PS.flt fin.2.1.1) (PS.flt fin.1.2) (by omega))
  have zBD := PS.size_le (PS.lt_mul' (N := (π (f + 3)).size + (π (q + 3)).size - 1) (PS.flt fin.1.2) (PS.flt fin.2.1.2) (by omega))
  have hch0 : ChgX Λ (fun c => c = p + 17 ∨ c = p + 19 ∨ c = p + 21 ∨ c = p + 23) (p + 25) (μ.1 (p + 25)) μ μ π π := ChgX.rf hA hoff
  have L129 : ∀ (nf : Nat) (c : Int) (m : Mem) (w : Int → Int) (πk : Nat → PS), (101 - c < (nf : Int)) → (ChgX Λ (fun c => c = p + 17 ∨ c = p + 19 ∨ c = p + 21 ∨ c = p + 23) (p + 25) w μ m π πk) → (πk (f + 1) = π (f + 1)) → (πk (f + 3) = π (f + 3)) → (πk (q + 1) = π (q + 1)) → (πk (q + 3) = π (q + 3)) → (πk (p + 13) = π (p + 13)) → (πk (p + 15) = π (p + 15)) → (πk (p + 17) = (if kd = 2 then ((π (f + 1)).mul (π (q + 3))).mul (π (p + 13)) else (π (f + 1)).mul (π (q + 3)))) → (πk (p + 19) = (if kd = 2 then ((π (q + 1)).mul (π (f + 3))).mul (π (p + 13)) else (π (q + 1)).mul (π (f + 3)))) → (πk (p + 21) = (if kd = 2 then ((π (f + 3)).mul (π (q + 3))).mul (π (p + 15)) else PS.zero)) → (0 ≤ c ∧ c ≤ 101) → (w = cmK kd (π (f + 1)) (π (f + 3)) (π (q + 1)) (π (q + 3)) (π (p + 13)) (π (p + 15)) w0 c) → V G x (0, 0) Λ sz m 129 [(3, iv c), (0, .ref p), (1, .ref f), (2, .ref q)] [] := by
    intro nf
    induction nf with
    | zero => intro c m w πk hm hchπk vπk_0 vπk_1 vπk_2 vπk_3 vπk_4 vπk_5 vπk_6 vπk_7 vπk_8 hc hwk; exact absurd hm (by omega)
    | succ nf ih =>
      intro c m w πk hm hchπk vπk_0 vπk_1 vπk_2 vπk_3 vπk_4 vπk_5 vπk_6 vπk_7 vπk_8 hc hwk
      have hAπk := hchπk.1
      have wb : c < 101 → w0 c = 0 ∨ w0 c = 1 := fun q => hb c hc.1 q
      have cr : -1 ≤ cmI kd (π (f + 1)) (π (f + 3)) (π (q + 1)) (π (q + 3)) (π (p + 13)) (π (p + 15)) c ∧ cmI kd (π (f + 1)) (π (f + 3)) (π (q + 1)) (π (q + 3)) (π (p + 13)) (π (p + 15)) c ≤ 100 := cmI_rng kd (π (f + 1)) (π (f + 3)) (π (q + 1)) (π (q + 3)) (π (p + 13)) (π (p + 15)) c
      have ozs : ((if kd = 2 then ((π (q + 1)).mul (π (f + 3))).mul (π (p + 13)) else (π (q + 1)).mul (π (f + 3)))).size ≤ 48 := by split; (· have := PS.size_le (PS.lt_mul' (N := 48) (PS.lt_mono (PS.flt (PS.fin_mul fin.2.1.1 fin.1.2)) zCB) (PS.flt fin.2.2.1) (by omega)); omega); (· omega)
      refine v_iload hx DX4_compareRests_129 0 rfl ?_
      refine v_aload hx DX4_compareRests_130 1 rfl ?_
      refine v_get hx DX4_compareRests_131 FLRX4_50 hP.1 (v := .ref (p + 25)) rfl ?_
      refine v_alenI hx DX4_compareRests_134 hP.2.2.2.1 (by decide) (z := 101) rfl ?_
      refine v_icmp_ge hx DX4_compareRests_135 (by omega) (by decide) (fun c135 => ?_) (fun c135 => ?_)
      · skip
        exact v_rv hx hBD DX4_compareRests_206 (⟨πk, by have e := hchπk; rw [hwk, show c = 101 by omega, cmK_end] at e; exact e⟩)
      · skip
        refine v_aload hx DX4_compareRests_138 1 rfl ?_
        refine v_get hx DX4_compareRests_139 FLRX4_50 hP.1 (v := .ref (p + 25)) rfl ?_
        refine v_iload hx DX4_compareRests_142 0 rfl ?_
        refine v_zald hx DX4_compareRests_143 hP.2.2.2.1 (by omega) (by decide) (z := w0 c) (by rw [hchπk.2.2.2.1, hwk]; exact cmK_at kd (π (f + 1)) (π (f + 3)) (π (q + 1)) (π (q + 3)) (π (p + 13)) (π (p + 15)) w0 c) ?_
        refine v_if_eq hx DX4_compareRests_144 (by omega) (fun c144 => ?_) (fun c144 => ?_)
        · skip
          refine v_iinc hx DX4_compareRests_200 0 rfl [(3, iv (c + 1)), (0, .ref p), (1, .ref f), (2, .ref q)] rfl (by decide) ?_
          refine v_goto hx DX4_compareRests_203 ?_
          exact v_sub [0, 1, 2, 3] _ rfl (ih (c + 1) m w πk (by omega) hchπk vπk_0 vπk_1 vπk_2 vπk_3 vπk_4 vπk_5 vπk_6 vπk_7 vπk_8 (by omega) (hwk.trans (cmK_no (by omega)).symm))
        · skip
          refine v_aload hx DX4_compareRests_147 1 rfl ?_
          refine v_get hx DX4_compareRests_148 FLRX4_47 hP.1 (v := .ref (p + 23)) rfl ?_
          refine v_aload hx DX4_compareRests_151 1 rfl ?_
          refine v_get hx DX4_compareRests_152 FLRX4_38 hP.1 (v := .ref (p + 17)) rfl ?_
          refine v_cVv hx DX4_compareRests_155 CVRX4_138 [.ref (p + 17)] (s_become l G Λ sz m hP.2.2.2.2.2.1.2.2.2.2.2 hP.2.2.2.2.2.1.2.2.1 (by omega) (AB.get (A := πk (p + 23)) hAπk hP.2.2.2.2.2.1.2.2.2.2.2 rfl) (AB.get (A := (if kd = 2 then ((π (f + 1)).mul (π (q + 3))).mul (π (p + 13)) else (π (f + 1)).mul (π (q + 3)))) hAπk hP.2.2.2.2.2.1.2.2.1 vπk_6)) hP.2.2.2.2.2.1.2.2.2.2.2.1 rfl rfl (Nat.le_of_ble_eq_true rfl) (by decide) ⟨Nat.le_refl _, Nat.le_refl _⟩ (fun μ1 hμ1 => ?_)
          obtain ⟨π1, hc1, he1, ho1⟩ := Chg.one (S := fun c => c = p + 17 ∨ c = p + 19 ∨ c = p + 21 ∨ c = p + 23) (R := (if kd = 2 then ((π (f + 1)).mul (π (q + 3))).mul (π (p + 13)) else (π (f + 1)).mul (π (q + 3)))) hAπk hP.2.2.2.2.2.1.2.2.2.2.2 (by first | omega | (dsimp only; omega)) hμ1
          have hA1 := hc1.1
          have hch1 := hchπk.trans hc1
          have v1_0 : π1 (f + 1) = π (f + 1) := (ho1 (f + 1) (by omega)).trans vπk_0
          have v1_1 : π1 (f + 3) = π (f + 3) := (ho1 (f + 3) (by omega)).trans vπk_1
          have v1_2 : π1 (q + 1) = π (q + 1) := (ho1 (q + 1) (by omega)).trans vπk_2
          have v1_3 : π1 (q + 3) = π (q + 3) := (ho1 (q + 3) (by omega)).trans vπk_3
          have v1_4 : π1 (p + 13) = π (p + 13) := (ho1 (p + 13) (by omega)).trans vπk_4
          have v1_5 : π1 (p + 15) = π (p + 15) := (ho1 (p + 15) (by omega)).trans vπk_5
          have v1_6 : π1 (p + 17) = (if kd = 2 then ((π (f + 1)).mul (π (q + 3))).mul (π (p + 13)) else (π (f + 1)).mul (π (q + 3))) := (ho1 (p + 17) (by omega)).trans vπk_6
          have v1_7 : π1 (p + 19) = (if kd = 2 then ((π (q + 1)).mul (π (f + 3))).mul (π (p + 13)) else (π (q + 1)).mul (π (f + 3))) := (ho1 (p + 19) (by omega)).trans vπk_7
          have v1_8 : π1 (p + 21) = (if kd = 2 then ((π (f + 3)).mul (π (q + 3))).mul (π (p + 15)) else PS.zero) := (ho1 (p + 21) (by omega)).trans vπk_8
          refine v_aload hx DX4_compareRests_158 1 rfl ?_
          refine v_get hx DX4_compareRests_159 FLRX4_47 hP.1 (v := .ref (p + 23)) rfl ?_
          refine v_aload hx DX4_compareRests_162 1 rfl ?_
          refine v_get hx DX4_compareRests_163 FLRX4_41 hP.1 (v := .ref (p + 19)) rfl ?_
          refine v_iload hx DX4_compareRests_166 0 rfl ?_
          refine v_push hx DX4_compareRests_167 ?_
          refine v_cVv hx DX4_compareRests_168 CVRX4_95 [.ref (p + 19), iv c, iv 0] (s_addMultiple l G Λ sz μ1 hP.2.2.2.2.2.1.2.2.2.2.2 hP.2.2.2.2.2.1.2.2.2.1 (by omega) (AB.get (A := (if kd = 2 then ((π (f + 1)).mul (π (q + 3))).mul (π (p + 13)) else (π (f + 1)).mul (π (q + 3)))) hA1 hP.2.2.2.2.2.1.2.2.2.2.2 he1) (AB.get (A := (if kd = 2 then ((π (q + 1)).mul (π (f + 3))).mul (π (p + 13)) else (π (q + 1)).mul (π (f + 3)))) hA1 hP.2.2.2.2.2.1.2.2.2.1 v1_7) (by omega) (by omega) (by have : Int.toNat 0 = 0 := rfl; have := ozs; omega)) hP.2.2.2.2.2.1.2.2.2.2.2.1 rfl rfl (Nat.le_of_ble_eq_true rfl) (by decide) ⟨Nat.le_refl _, Nat.le_refl _⟩ (fun μ2 hμ2 => ?_)
          obtain ⟨π2, hc2, he2, ho2⟩ := Chg.one (S := fun c => c = p + 17 ∨ c = p + 19 ∨ c = p + 21 ∨ c = p + 23) (R := PS.am (if kd = 2 then ((π (f + 1)).mul (π (q + 3))).mul (π (p + 13)) else (π (f + 1)).mul (π (q + 3))) (if kd = 2 then ((π (q + 1)).mul (π (f + 3))).mul (π (p + 13)) else (π (q + 1)).mul (π (f + 3))) (fi c) (Int.toNat 0)) hA1 hP.2.2.2.2.2.1.2.2.2.2.2 (by first | omega | (dsimp only; omega)) hμ2
          have hA2 := hc2.1
          have hch2 := hch1.trans hc2
          have v2_0 : π2 (f + 1) = π (f + 1) := (ho2 (f + 1) (by omega)).trans v1_0
          have v2_1 : π2 (f + 3) = π (f + 3) := (ho2 (f + 3) (by omega)).trans v1_1
          have v2_2 : π2 (q + 1) = π (q + 1) := (ho2 (q + 1) (by omega)).trans v1_2
          have v2_3 : π2 (q + 3) = π (q + 3) := (ho2 (q + 3) (by omega)).trans v1_3
          have v2_4 : π2 (p + 13) = π (p + 13) := (ho2 (p + 13) (by omega)).trans v1_4
          have v2_5 : π2 (p + 15) = π (p + 15) := (ho2 (p + 15) (by omega)).trans v1_5
          have v2_6 : π2 (p + 17) = (if kd = 2 then ((π (f + 1)).mul (π (q + 3))).mul (π (p + 13)) else (π (f + 1)).mul (π (q + 3))) := (ho2 (p + 17) (by omega)).trans v1_6
          have v2_7 : π2 (p + 19) = (if kd = 2 then ((π (q + 1)).mul (π (f + 3))).mul (π (p + 13)) else (π (q + 1)).mul (π (f + 3))) := (ho2 (p + 19) (by omega)).trans v1_7
          have v2_8 : π2 (p + 21) = (if kd = 2 then ((π (f + 3)).mul (π (q + 3))).mul (π (p + 15)) else PS.zero) := (ho2 (p + 21) (by omega)).trans v1_8
          have w3 : π2 (p + 23) = ((if kd = 2 then ((π (f + 1)).mul (π (q + 3))).mul (π (p + 13)) else (π (f + 1)).mul (π (q + 3)))).add (((if kd = 2 then ((π (q + 1)).mul (π (f + 3))).mul (π (p + 13)) else (π (q + 1)).mul (π (f + 3)))).sm (fi c)) := he2.trans (PS.am0 _ _ _)
          refine v_aload hx DX4_compareRests_171 1 rfl ?_
          refine v_get hx DX4_compareRests_172 FLRX4_50 hP.1 (v := .ref (p + 25)) rfl ?_
          refine v_iload hx DX4_compareRests_175 0 rfl ?_
          refine v_aload hx DX4_compareRests_176 1 rfl ?_
          refine v_get hx DX4_compareRests_177 FLRX4_65 hP.1 (v := .ref κ) rfl ?_
          refine v_aload hx DX4_compareRests_180 1 rfl ?_
          refine v_get hx DX4_compareRests_181 FLRX4_47 hP.1 (v := .ref (p + 23)) rfl ?_
          refine v_aload hx DX4_compareRests_184 1 rfl ?_
          refine v_get hx DX4_compareRests_185 FLRX4_44 hP.1 (v := .ref (p + 21)) rfl ?_
          refine v_cVp hx DX4_compareRests_188 CVRX4_163 [.ref (p + 23), .ref (p + 21)] (q_ratio l G Λ sz μ2 hI hK hP.2.2.2.2.2.1.2.2.2.2.2 hP.2.2.2.2.2.1.2.2.2.2.1 (AB.get (A := ((if kd = 2 then ((π (f + 1)).mul (π (q + 3))).mul (π (p + 13)) else (π (f + 1)).mul (π (q + 3)))).add (((if kd = 2 then ((π (q + 1)).mul (π (f + 3))).mul (π (p + 13)) else (π (q + 1)).mul (π (f + 3)))).sm (fi c))) hA2 hP.2.2.2.2.2.1.2.2.2.2.2 w3) (AB.get (A := (if kd = 2 then ((π (f + 3)).mul (π (q + 3))).mul (π (p + 15)) else PS.zero)) hA2 hP.2.2.2.2.2.1.2.2.2.2.1 v2_8)) hK.1 rfl rfl (Nat.le_of_ble_eq_true rfl) (by decide) ⟨Nat.le_refl _, Nat.le_refl _⟩ ?_
          refine v_top (z' := cmI kd (π (f + 1)) (π (f + 3)) (π (q + 1)) (π (q + 3)) (π (p + 13)) (π (p + 15)) c) cm_if ?_
          refine v_if_lt hx DX4_compareRests_191 (by omega) (fun c191 => ?_) (fun c191 => ?_)
          · skip
            refine v_push hx DX4_compareRests_198 ?_
            refine v_zast hx DX4_compareRests_199 hP.2.2.2.1 (by omega) (by decide) (by omega) (v_mem (fun μ6 eμ6 => ?_))
            have hA7 : AB Λ μ6 π2 := by rw [eμ6]; exact hA2.mI hoff
            have hch7 : ChgX Λ (fun c => c = p + 17 ∨ c = p + 19 ∨ c = p + 21 ∨ c = p + 23) (p + 25) (rw1 w c 0) μ μ6 π π2 := by rw [eμ6]; exact hch2.put
            refine v_iinc hx DX4_compareRests_200 0 rfl [(3, iv (c + 1)), (0, .ref p), (1, .ref f), (2, .ref q)] rfl (by decide) ?_
            refine v_goto hx DX4_compareRests_203 ?_
            exact v_sub [0, 1, 2, 3] _ rfl (ih (c + 1) μ6 (rw1 w c 0) π2 (by omega) hch7 v2_0 v2_1 v2_2 v2_3 v2_4 v2_5 v2_6 v2_7 v2_8 (by omega) (by rw [hwk]; exact cmK_yes (by omega) (by omega) (by first | (rw [if_pos (by omega)]) | (rw [if_neg (by omega)]))))
          · skip
            refine v_push hx DX4_compareRests_194 ?_
            refine v_goto hx DX4_compareRests_195 ?_
            refine v_zast hx DX4_compareRests_199 hP.2.2.2.1 (by omega) (by decide) (by omega) (v_mem (fun μ8 eμ8 => ?_))
            have hA9 : AB Λ μ8 π2 := by rw [eμ8]; exact hA2.mI hoff
            have hch9 : ChgX Λ (fun c => c = p + 17 ∨ c = p + 19 ∨ c = p + 21 ∨ c = p + 23) (p + 25) (rw1 w c 1) μ μ8 π π2 := by rw [eμ8]; exact hch2.put
            refine v_iinc hx DX4_compareRests_200 0 rfl [(3, iv (c + 1)), (0, .ref p), (1, .ref f), (2, .ref q)] rfl (by decide) ?_
            refine v_goto hx DX4_compareRests_203 ?_
            exact v_sub [0, 1, 2, 3] _ rfl (ih (c + 1) μ8 (rw1 w c 1) π2 (by omega) hch9 v2_0 v2_1 v2_2 v2_3 v2_4 v2_5 v2_6 v2_7 v2_8 (by omega) (by rw [hwk]; exact cmK_yes (by omega) (by omega) (by first | (rw [if_pos (by omega)]) | (rw [if_neg (by omega)]))))
  refine v_aload hx DX4_compareRests_0 0 rfl ?_
  refine v_get hx DX4_compareRests_1 FLRX4_38 hP.1 (v := .ref (p + 17)) rfl ?_
  refine v_aload hx DX4_compareRests_4 1 rfl ?_
  refine v_get hx DX4_compareRests_5 FLRX4_82 hF.1 (v := .ref (f + 1)) rfl ?_
  refine v_aload hx DX4_compareRests_8 2 rfl ?_
  refine v_get hx DX4_compareRests_9 FLRX4_99 hQ.1 (v := .ref (q + 3)) rfl ?_
  refine v_cVv hx DX4_compareRests_12 CVRX4_85 [.ref (f + 1), .ref (q + 3)] (s_product l G Λ sz μ hP.2.2.2.2.2.1.2.2.1 hF.2.1 hQ.2.2 (by omega) (by omega) (AB.get (A := π (p + 17)) hA hP.2.2.2.2.2.1.2.2.1 rfl) (AB.get (A := π (f + 1)) hA hF.2.1 rfl) (AB.get (A := π (q + 3)) hA hQ.2.2 rfl) (by omega)) hP.2.2.2.2.2.1.2.2.1.1 rfl rfl (Nat.le_of_ble_eq_true rfl) (by decide) ⟨Nat.le_refl _, Nat.le_refl _⟩ (fun μ10 hμ10 => ?_)
  obtain ⟨π10, hc10, he10, ho10⟩ := Chg.one (S := fun c => c = p + 17 ∨ c = p + 19 ∨ c = p + 21 ∨ c = p + 23) (R := PS.mul (π (f + 1)) (π (q + 3))) hA hP.2.2.2.2.2.1.2.2.1 (by first | omega | (dsimp only; omega)) hμ10
  have hA10 := hc10.1
  have hch10 := hch0.trans hc10
  have v10_0 : π10 (f + 1) = π (f + 1) := (ho10 (f + 1) (by omega)).trans rfl
  have v10_1 : π10 (f + 3) = π (f + 3) := (ho10 (f + 3) (by omega)).trans rfl
  have v10_2 : π10 (q + 1) = π (q + 1) := (ho10 (q + 1) (by omega)).trans rfl
  have v10_3 : π10 (q + 3) = π (q + 3) := (ho10 (q + 3) (by omega)).trans rfl
  have v10_4 : π10 (p + 13) = π (p + 13) := (ho10 (p + 13) (by omega)).trans rfl
  have v10_5 : π10 (p + 15) = π (p + 15) := (ho10 (p + 15) (by omega)).trans rfl
  refine v_aload hx DX4_compareRests_15 0 rfl ?_
  refine v_get hx DX4_compareRests_16 FLRX4_41 hP.1 (v := .ref (p + 19)) rfl ?_
  refine v_aload hx DX4_compareRests_19 2 rfl ?_
  refine v_get hx DX4_compareRests_20 FLRX4_82 hQ.1 (v := .ref (q + 1)) rfl ?_
  refine v_aload hx DX4_compareRests_23 1 rfl ?_
  refine v_get hx DX4_compareRests_24 FLRX4_99 hF.1 (v := .ref (f + 3)) rfl ?_
  refine v_cVv hx DX4_compareRests_27 CVRX4_85 [.ref (q + 1), .ref (f + 3)] (s_product l G Λ sz μ10 hP.2.2.2.2.2.1.2.2.2.1 hQ.2.1 hF.2.2 (by omega) (by omega) (AB.get (A := π10 (p + 19)) hA10 hP.2.2.2.2.2.1.2.2.2.1 rfl) (AB.get (A := π (q + 1)) hA10 hQ.2.1 v10_2) (AB.get (A := π (f + 3)) hA10 hF.2.2 v10_1) (by omega)) hP.2.2.2.2.2.1.2.2.2.1.1 rfl rfl (Nat.le_of_ble_eq_true rfl) (by decide) ⟨Nat.le_refl _, Nat.le_refl _⟩ (fun μ11 hμ11 => ?_)
  obtain ⟨π11, hc11, he11, ho11⟩ := Chg.one (S := fun c => c = p + 17 ∨ c = p + 19 ∨ c = p + 21 ∨ c = p + 23) (R := PS.mul (π (q + 1)) (π (f + 3))) hA10 hP.2.2.2.2.2.1.2.2.2.1 (by first | omega | (dsimp only; omega)) hμ11
  have hA11 := hc11.1
  have hch11 := hch10.trans hc11
  have v11_0 : π11 (f + 1) = π (f + 1) := (ho11 (f + 1) (by omega)).trans v10_0
  have v11_1 : π11 (f + 3) = π (f + 3) := (ho11 (f + 3) (by omega)).trans v10_1
  have v11_2 : π11 (q + 1) = π (q + 1) := (ho11 (q + 1) (by omega)).trans v10_2
  have v11_3 : π11 (q + 3) = π (q + 3) := (ho11 (q + 3) (by omega)).trans v10_3
  have v11_4 : π11 (p + 13) = π (p + 13) := (ho11 (p + 13) (by omega)).trans v10_4
  have v11_5 : π11 (p + 15) = π (p + 15) := (ho11 (p + 15) (by omega)).trans v10_5
  have v11_6 : π11 (p + 17) = PS.mul (π (f + 1)) (π (q + 3)) := (ho11 (p + 17) (by omega)).trans he10
  refine v_aload hx DX4_compareRests_30 0 rfl ?_
  refine v_get hx DX4_compareRests_31 FLRX4_44 hP.1 (v := .ref (p + 21)) rfl ?_
  refine v_cVv hx DX4_compareRests_34 CVRX4_141 [] (s_clear l G Λ sz μ11 hP.2.2.2.2.2.1.2.2.2.2.1 (AB.get (A := π11 (p + 21)) hA11 hP.2.2.2.2.2.1.2.2.2.2.1 rfl)) hP.2.2.2.2.2.1.2.2.2.2.1.1 rfl rfl (Nat.le_of_ble_eq_true rfl) (by decide) ⟨Nat.le_refl _, Nat.le_refl _⟩ (fun μ12 hμ12 => ?_)
  obtain ⟨π12, hc12, he12, ho12⟩ := Chg.one (S := fun c => c = p + 17 ∨ c = p + 19 ∨ c = p + 21 ∨ c = p + 23) (R := PS.zero) hA11 hP.2.2.2.2.2.1.2.2.2.2.1 (by first | omega | (dsimp only; omega)) hμ12
  have hA12 := hc12.1
  have hch12 := hch11.trans hc12
  have v12_0 : π12 (f + 1) = π (f + 1) := (ho12 (f + 1) (by omega)).trans v11_0
  have v12_1 : π12 (f + 3) = π (f + 3) := (ho12 (f + 3) (by omega)).trans v11_1
  have v12_2 : π12 (q + 1) = π (q + 1) := (ho12 (q + 1) (by omega)).trans v11_2
  have v12_3 : π12 (q + 3) = π (q + 3) := (ho12 (q + 3) (by omega)).trans v11_3
  have v12_4 : π12 (p + 13) = π (p + 13) := (ho12 (p + 13) (by omega)).trans v11_4
  have v12_5 : π12 (p + 15) = π (p + 15) := (ho12 (p + 15) (by omega)).trans v11_5
  have v12_6 : π12 (p + 17) = PS.mul (π (f + 1)) (π (q + 3)) := (ho12 (p + 17) (by omega)).trans v11_6
  have v12_7 : π12 (p + 19) = PS.mul (π (q + 1)) (π (f + 3)) := (ho12 (p + 19) (by omega)).trans he11
  refine v_aload hx DX4_compareRests_37 0 rfl ?_
  refine v_get hx DX4_compareRests_38 FLRX4_54 hP.1 (fv_i rfl (by rw [hch12.2.2.1.1 p hoffp (by omega)]; exact hkd.1) : _ = iv kd) ?_
  refine v_push hx DX4_compareRests_41 ?_
  refine v_icmp_ne hx DX4_compareRests_42 (by omega) (by decide) (fun c42 => ?_) (fun c42 => ?_)
  · skip
    have o1 : π12 (p + 17) = (if kd = 2 then ((π (f + 1)).mul (π (q + 3))).mul (π (p + 13)) else (π (f + 1)).mul (π (q + 3))) := (v12_6).trans (if_neg (by omega)).symm
    have o2 : π12 (p + 19) = (if kd = 2 then ((π (q + 1)).mul (π (f + 3))).mul (π (p + 13)) else (π (q + 1)).mul (π (f + 3))) := (v12_7).trans (if_neg (by omega)).symm
    have o3 : π12 (p + 21) = (if kd = 2 then ((π (f + 3)).mul (π (q + 3))).mul (π (p + 15)) else PS.zero) := (he12).trans (if_neg (by omega)).symm
    refine v_push hx DX4_compareRests_127 ?_
    refine v_istore hx DX4_compareRests_128 [(3, iv 0), (0, .ref p), (1, .ref f), (2, .ref q)] rfl (by decide) ?_
    exact v_sub [0, 1, 2, 3] _ rfl (L129 200 0 μ12 (μ.1 (p + 25)) π12 (by omega) hch12 v12_0 v12_1 v12_2 v12_3 v12_4 v12_5 o1 o2 o3 (by omega) (hw0.trans (cmK_0 kd (π (f + 1)) (π (f + 3)) (π (q + 1)) (π (q + 3)) (π (p + 13)) (π (p + 15)) w0).symm))
  · skip
    refine v_aload hx DX4_compareRests_45 0 rfl ?_
    refine v_get hx DX4_compareRests_46 FLRX4_47 hP.1 (v := .ref (p + 23)) rfl ?_
    refine v_aload hx DX4_compareRests_49 0 rfl ?_
    refine v_get hx DX4_compareRests_50 FLRX4_38 hP.1 (v := .ref (p + 17)) rfl ?_
    refine v_aload hx DX4_compareRests_53 0 rfl ?_
    refine v_get hx DX4_compareRests_54 FLRX4_31 hP.1 (v := .ref (p + 13)) rfl ?_
    refine v_cVv hx DX4_compareRests_57 CVRX4_85 [.ref (p + 17), .ref (p + 13)] (s_product l G Λ sz μ12 hP.2.2.2.2.2.1.2.2.2.2.2 hP.2.2.2.2.2.1.2.2.1 hP.2.2.2.2.2.1.1 (by omega) (by omega) (AB.get (A := π12 (p + 23)) hA12 hP.2.2.2.2.2.1.2.2.2.2.2 rfl) (AB.get (A := PS.mul (π (f + 1)) (π (q + 3))) hA12 hP.2.2.2.2.2.1.2.2.1 v12_6) (AB.get (A := π (p + 13)) hA12 hP.2.2.2.2.2.1.1 v12_4) (by omega)) hP.2.2.2.2.2.1.2.2.2.2.2.1 rfl rfl (Nat.le_of_ble_eq_true rfl) (by decide) ⟨Nat.le_refl _, Nat.le_refl _⟩ (fun μ13 hμ13 => ?_)
    obtain ⟨π13, hc13, he13, ho13⟩ := Chg.one (S := fun c => c = p + 17 ∨ c = p + 19 ∨ c = p + 21 ∨ c = p + 23) (R := PS.mul (PS.mul (π (f + 1)) (π (q + 3))) (π (p + 13))) hA12 hP.2.2.2.2.2.1.2.2.2.2.2 (by first | omega | (dsimp only; omega)) hμ13
    have hA13 := hc13.1
    have hch13 := hch12.trans hc13
    have v13_0 : π13 (f + 1) = π (f + 1) := (ho13 (f + 1) (by omega)).trans v12_0
    have v13_1 : π13 (f + 3) = π (f + 3) := (ho13 (f + 3) (by omega)).trans v12_1
    have v13_2 : π13 (q + 1) = π (q + 1) := (ho13 (q + 1) (by omega)).trans v12_2
    have v13_3 : π13 (q + 3) = π (q + 3) := (ho13 (q + 3) (by omega)).trans v12_3
    have v13_4 : π13 (p + 13) = π (p + 13) := (ho13 (p + 13) (by omega)).trans v12_4
    have v13_5 : π13 (p + 15) = π (p + 15) := (ho13 (p + 15) (by omega)).trans v12_5
    have v13_6 : π13 (p + 17) = PS.mul (π (f + 1)) (π (q + 3)) := (ho13 (p + 17) (by omega)).trans v12_6
    have v13_7 : π13 (p + 19) = PS.mul (π (q + 1)) (π (f + 3)) := (ho13 (p + 19) (by omega)).trans v12_7
    have v13_8 : π13 (p + 21) = PS.zero := (ho13 (p + 21) (by omega)).trans he12
    refine v_aload hx DX4_compareRests_60 0 rfl ?_
    refine v_get hx DX4_compareRests_61 FLRX4_38 hP.1 (v := .ref (p + 17)) rfl ?_
    refine v_aload hx DX4_compareRests_64 0 rfl ?_
    refine v_get hx DX4_compareRests_65 FLRX4_47 hP.1 (v := .ref (p + 23)) rfl ?_
    refine v_cVv hx DX4_compareRests_68 CVRX4_138 [.ref (p + 23)] (s_become l G Λ sz μ13 hP.2.2.2.2.2.1.2.2.1 hP.2.2.2.2.2.1.2.2.2.2.2 (by omega) (AB.get (A := PS.mul (π (f + 1)) (π (q + 3))) hA13 hP.2.2.2.2.2.1.2.2.1 v13_6) (AB.get (A := PS.mul (PS.mul (π (f + 1)) (π (q + 3))) (π (p + 13))) hA13 hP.2.2.2.2.2.1.2.2.2.2.2 he13)) hP.2.2.2.2.2.1.2.2.1.1 rfl rfl (Nat.le_of_ble_eq_true rfl) (by decide) ⟨Nat.le_refl _, Nat.le_refl _⟩ (fun μ14 hμ14 => ?_)
    obtain ⟨π14, hc14, he14, ho14⟩ := Chg.one (S := fun c => c = p + 17 ∨ c = p + 19 ∨ c = p + 21 ∨ c = p + 23) (R := PS.mul (PS.mul (π (f + 1)) (π (q + 3))) (π (p + 13))) hA13 hP.2.2.2.2.2.1.2.2.1 (by first | omega | (dsimp only; omega)) hμ14
    have hA14 := hc14.1
    have hch14 := hch13.trans hc14
    have v14_0 : π14 (f + 1) = π (f + 1) := (ho14 (f + 1) (by omega)).trans v13_0
    have v14_1 : π14 (f + 3) = π (f + 3) := (ho14 (f + 3) (by omega)).trans v13_1
    have v14_2 : π14 (q + 1) = π (q + 1) := (ho14 (q + 1) (by omega)).trans v13_2
    have v14_3 : π14 (q + 3) = π (q + 3) := (ho14 (q + 3) (by omega)).trans v13_3
    have v14_4 : π14 (p + 13) = π (p + 13) := (ho14 (p + 13) (by omega)).trans v13_4
    have v14_5 : π14 (p + 15) = π (p + 15) := (ho14 (p + 15) (by omega)).trans v13_5
    have v14_7 : π14 (p + 19) = PS.mul (π (q + 1)) (π (f + 3)) := (ho14 (p + 19) (by omega)).trans v13_7
    have v14_8 : π14 (p + 21) = PS.zero := (ho14 (p + 21) (by omega)).trans v13_8
    have v14_9 : π14 (p + 23) = PS.mul (PS.mul (π (f + 1)) (π (q + 3))) (π (p + 13)) := (ho14 (p + 23) (by omega)).trans he13
    refine v_aload hx DX4_compareRests_71 0 rfl ?_
    refine v_get hx DX4_compareRests_72 FLRX4_47 hP.1 (v := .ref (p + 23)) rfl ?_
    refine v_aload hx DX4_compareRests_75 0 rfl ?_
    refine v_get hx DX4_compareRests_76 FLRX4_41 hP.1 (v := .ref (p + 19)) rfl ?_
    refine v_aload hx DX4_compareRests_79 0 rfl ?_
    refine v_get hx DX4_compareRests_80 FLRX4_31 hP.1 (v := .ref (p + 13)) rfl ?_
    refine v_cVv hx DX4_compareRests_83 CVRX4_85 [.ref (p + 19), .ref (p + 13)] (s_product l G Λ sz μ14 hP.2.2.2.2.2.1.2.2.2.2.2 hP.2.2.2.2.2.1.2.2.2.1 hP.2.2.2.2.2.1.1 (by omega) (by omega) (AB.get (A := PS.mul (PS.mul (π (f + 1)) (π (q + 3))) (π (p + 13))) hA14 hP.2.2.2.2.2.1.2.2.2.2.2 v14_9) (AB.get (A := PS.mul (π (q + 1)) (π (f + 3))) hA14 hP.2.2.2.2.2.1.2.2.2.1 v14_7) (AB.get (A := π (p + 13)) hA14 hP.2.2.2.2.2.1.1 v14_4) (by omega)) hP.2.2.2.2.2.1.2.2.2.2.2.1 rfl rfl (Nat.le_of_ble_eq_true rfl) (by decide) ⟨Nat.le_refl _, Nat.le_refl _⟩ (fun μ15 hμ15 => ?_)
    obtain ⟨π15, hc15, he15, ho15⟩ := Chg.one (S := fun c => c = p + 17 ∨ c = p + 19 ∨ c = p + 21 ∨ c = p + 23) (R := PS.mul (PS.mul (π (q + 1)) (π (f + 3))) (π (p + 13))) hA14 hP.2.2.2.2.2.1.2.2.2.2.2 (by first | omega | (dsimp only; omega)) hμ15
    have hA15 := hc15.1
    have hch15 := hch14.trans hc15
    have v15_0 : π15 (f + 1) = π (f + 1) := (ho15 (f + 1) (by omega)).trans v14_0
    have v15_1 : π15 (f + 3) = π (f + 3) := (ho15 (f + 3) (by omega)).trans v14_1
    have v15_2 : π15 (q + 1) = π (q + 1) := (ho15 (q + 1) (by omega)).trans v14_2
    have v15_3 : π15 (q + 3) = π (q + 3) := (ho15 (q + 3) (by omega)).trans v14_3
    have v15_4 : π15 (p + 13) = π (p + 13) := (ho15 (p + 13) (by omega)).trans v14_4
    have v15_5 : π15 (p + 15) = π (p + 15) := (ho15 (p + 15) (by omega)).trans v14_5
    have v15_6 : π15 (p + 19) = PS.mul (π (q + 1)) (π (f + 3)) := (ho15 (p + 19) (by omega)).trans v14_7
    have v15_7 : π15 (p + 21) = PS.zero := (ho15 (p + 21) (by omega)).trans v14_8
    have v15_9 : π15 (p + 17) = PS.mul (PS.mul (π (f + 1)) (π (q + 3))) (π (p + 13)) := (ho15 (p + 17) (by omega)).trans he14
    refine v_aload hx DX4_compareRests_86 0 rfl ?_
    refine v_get hx DX4_compareRests_87 FLRX4_41 hP.1 (v := .ref (p + 19)) rfl ?_
    refine v_aload hx DX4_compareRests_90 0 rfl ?_
    refine v_get hx DX4_compareRests_91 FLRX4_47 hP.1 (v := .ref (p + 23)) rfl ?_
    refine v_cVv hx DX4_compareRests_94 CVRX4_138 [.ref (p + 23)] (s_become l G Λ sz μ15 hP.2.2.2.2.2.1.2.2.2.1 hP.2.2.2.2.2.1.2.2.2.2.2 (by omega) (AB.get (A := PS.mul (π (q + 1)) (π (f + 3))) hA15 hP.2.2.2.2.2.1.2.2.2.1 v15_6) (AB.get (A := PS.mul (PS.mul (π (q + 1)) (π (f + 3))) (π (p + 13))) hA15 hP.2.2.2.2.2.1.2.2.2.2.2 he15)) hP.2.2.2.2.2.1.2.2.2.1.1 rfl rfl (Nat.le_of_ble_eq_true rfl) (by decide) ⟨Nat.le_refl _, Nat.le_refl _⟩ (fun μ16 hμ16 => ?_)
    obtain ⟨π16, hc16, he16, ho16⟩ := Chg.one (S := fun c => c = p + 17 ∨ c = p + 19 ∨ c = p + 21 ∨ c = p + 23) (R := PS.mul (PS.mul (π (q + 1)) (π (f + 3))) (π (p + 13))) hA15 hP.2.2.2.2.2.1.2.2.2.1 (by first | omega | (dsimp only; omega)) hμ16
    have hA16 := hc16.1
    have hch16 := hch15.trans hc16
    have v16_0 : π16 (f + 1) = π (f + 1) := (ho16 (f + 1) (by omega)).trans v15_0
    have v16_1 : π16 (f + 3) = π (f + 3) := (ho16 (f + 3) (by omega)).trans v15_1
    have v16_2 : π16 (q + 1) = π (q + 1) := (ho16 (q + 1) (by omega)).trans v15_2
    have v16_3 : π16 (q + 3) = π (q + 3) := (ho16 (q + 3) (by omega)).trans v15_3
    have v16_4 : π16 (p + 13) = π (p + 13) := (ho16 (p + 13) (by omega)).trans v15_4
    have v16_5 : π16 (p + 15) = π (p + 15) := (ho16 (p + 15) (by omega)).trans v15_5
    have v16_7 : π16 (p + 21) = PS.zero := (ho16 (p + 21) (by omega)).trans v15_7
    have v16_8 : π16 (p + 17) = PS.mul (PS.mul (π (f + 1)) (π (q + 3))) (π (p + 13)) := (ho16 (p + 17) (by omega)).trans v15_9
    have v16_9 : π16 (p + 23) = PS.mul (PS.mul (π (q + 1)) (π (f + 3))) (π (p + 13)) := (ho16 (p + 23) (by omega)).trans he15
    refine v_aload hx DX4_compareRests_97 0 rfl ?_
    refine v_get hx DX4_compareRests_98 FLRX4_47 hP.1 (v := .ref (p + 23)) rfl ?_
    refine v_aload hx DX4_compareRests_101 1 rfl ?_
    refine v_get hx DX4_compareRests_102 FLRX4_99 hF.1 (v := .ref (f + 3)) rfl ?_
    refine v_aload hx DX4_compareRests_105 2 rfl ?_
    refine v_get hx DX4_compareRests_106 FLRX4_99 hQ.1 (v := .ref (q + 3)) rfl ?_
    refine v_cVv hx DX4_compareRests_109 CVRX4_85 [.ref (f + 3), .ref (q + 3)] (s_product l G Λ sz μ16 hP.2.2.2.2.2.1.2.2.2.2.2 hF.2.2 hQ.2.2 (by omega) (by omega) (AB.get (A := PS.mul (PS.mul (π (q + 1)) (π (f + 3))) (π (p + 13))) hA16 hP.2.2.2.2.2.1.2.2.2.2.2 v16_9) (AB.get (A := π (f + 3)) hA16 hF.2.2 v16_1) (AB.get (A := π (q + 3)) hA16 hQ.2.2 v16_3) (by omega)) hP.2.2.2.2.2.1.2.2.2.2.2.1 rfl rfl (Nat.le_of_ble_eq_true rfl) (by decide) ⟨Nat.le_refl _, Nat.le_refl _⟩ (fun μ17 hμ17 => ?_)
    obtain ⟨π17, hc17, he17, ho17⟩ := Chg.one (S := fun c => c = p + 17 ∨ c = p + 19 ∨ c = p + 21 ∨ c = p + 23) (R := PS.mul (π (f + 3)) (π (q + 3))) hA16 hP.2.2.2.2.2.1.2.2.2.2.2 (by first | omega | (dsimp only; omega)) hμ17
    have hA17 := hc17.1
    have hch17 := hch16.trans hc17
    have v17_0 : π17 (f + 1) = π (f + 1) := (ho17 (f + 1) (by omega)).trans v16_0
    have v17_1 : π17 (f + 3) = π (f + 3) := (ho17 (f + 3) (by omega)).trans v16_1
    have v17_2 : π17 (q + 1) = π (q + 1) := (ho17 (q + 1) (by omega)).trans v16_2
    have v17_3 : π17 (q + 3) = π (q + 3) := (ho17 (q + 3) (by omega)).trans v16_3
    have v17_4 : π17 (p + 13) = π (p + 13) := (ho17 (p + 13) (by omega)).trans v16_4
    have v17_5 : π17 (p + 15) = π (p + 15) := (ho17 (p + 15) (by omega)).trans v16_5
    have v17_6 : π17 (p + 21) = PS.zero := (ho17 (p + 21) (by omega)).trans v16_7
    have v17_7 : π17 (p + 17) = PS.mul (PS.mul (π (f + 1)) (π (q + 3))) (π (p + 13)) := (ho17 (p + 17) (by omega)).trans v16_8
    have v17_9 : π17 (p + 19) = PS.mul (PS.mul (π (q + 1)) (π (f + 3))) (π (p + 13)) := (ho17 (p + 19) (by omega)).trans he16
    refine v_aload hx DX4_compareRests_112 0 rfl ?_
    refine v_get hx DX4_compareRests_113 FLRX4_44 hP.1 (v := .ref (p + 21)) rfl ?_
    refine v_aload hx DX4_compareRests_116 0 rfl ?_
    refine v_get hx DX4_compareRests_117 FLRX4_47 hP.1 (v := .ref (p + 23)) rfl ?_
    refine v_aload hx DX4_compareRests_120 0 rfl ?_
    refine v_get hx DX4_compareRests_121 FLRX4_35 hP.1 (v := .ref (p + 15)) rfl ?_
    refine v_cVv hx DX4_compareRests_124 CVRX4_85 [.ref (p + 23), .ref (p + 15)] (s_product l G Λ sz μ17 hP.2.2.2.2.2.1.2.2.2.2.1 hP.2.2.2.2.2.1.2.2.2.2.2 hP.2.2.2.2.2.1.2.1 (by omega) (by omega) (AB.get (A := PS.zero) hA17 hP.2.2.2.2.2.1.2.2.2.2.1 v17_6) (AB.get (A := PS.mul (π (f + 3)) (π (q + 3))) hA17 hP.2.2.2.2.2.1.2.2.2.2.2 he17) (AB.get (A := π (p + 15)) hA17 hP.2.2.2.2.2.1.2.1 v17_5) (by omega)) hP.2.2.2.2.2.1.2.2.2.2.1.1 rfl rfl (Nat.le_of_ble_eq_true rfl) (by decide) ⟨Nat.le_refl _, Nat.le_refl _⟩ (fun μ18 hμ18 => ?_)
    obtain ⟨π18, hc18, he18, ho18⟩ := Chg.one (S := fun c => c = p + 17 ∨ c = p + 19 ∨ c = p + 21 ∨ c = p + 23) (R := PS.mul (PS.mul (π (f + 3)) (π (q + 3))) (π (p + 15))) hA17 hP.2.2.2.2.2.1.2.2.2.2.1 (by first | omega | (dsimp only; omega)) hμ18
    have hA18 := hc18.1
    have hch18 := hch17.trans hc18
    have v18_0 : π18 (f + 1) = π (f + 1) := (ho18 (f + 1) (by omega)).trans v17_0
    have v18_1 : π18 (f + 3) = π (f + 3) := (ho18 (f + 3) (by omega)).trans v17_1
    have v18_2 : π18 (q + 1) = π (q + 1) := (ho18 (q + 1) (by omega)).trans v17_2
    have v18_3 : π18 (q + 3) = π (q + 3) := (ho18 (q + 3) (by omega)).trans v17_3
    have v18_4 : π18 (p + 13) = π (p + 13) := (ho18 (p + 13) (by omega)).trans v17_4
    have v18_5 : π18 (p + 15) = π (p + 15) := (ho18 (p + 15) (by omega)).trans v17_5
    have v18_7 : π18 (p + 17) = PS.mul (PS.mul (π (f + 1)) (π (q + 3))) (π (p + 13)) := (ho18 (p + 17) (by omega)).trans v17_7
    have v18_8 : π18 (p + 19) = PS.mul (PS.mul (π (q + 1)) (π (f + 3))) (π (p + 13)) := (ho18 (p + 19) (by omega)).trans v17_9
    have v18_9 : π18 (p + 23) = PS.mul (π (f + 3)) (π (q + 3)) := (ho18 (p + 23) (by omega)).trans he17
    have o1 : π18 (p + 17) = (if kd = 2 then ((π (f + 1)).mul (π (q + 3))).mul (π (p + 13)) else (π (f + 1)).mul (π (q + 3))) := (v18_7).trans (if_pos (by omega)).symm
    have o2 : π18 (p + 19) = (if kd = 2 then ((π (q + 1)).mul (π (f + 3))).mul (π (p + 13)) else (π (q + 1)).mul (π (f + 3))) := (v18_8).trans (if_pos (by omega)).symm
    have o3 : π18 (p + 21) = (if kd = 2 then ((π (f + 3)).mul (π (q + 3))).mul (π (p + 15)) else PS.zero) := (he18).trans (if_pos (by omega)).symm
    refine v_push hx DX4_compareRests_127 ?_
    refine v_istore hx DX4_compareRests_128 [(3, iv 0), (0, .ref p), (1, .ref f), (2, .ref q)] rfl (by decide) ?_
    exact v_sub [0, 1, 2, 3] _ rfl (L129 200 0 μ18 (μ.1 (p + 25)) π18 (by omega) hch18 v18_0 v18_1 v18_2 v18_3 v18_4 v18_5 o1 o2 o3 (by omega) (hw0.trans (cmK_0 kd (π (f + 1)) (π (f + 3)) (π (q + 1)) (π (q + 3)) (π (p + 13)) (π (p + 15)) w0).symm))
theorem c_compare (l : Launch) (G : Gl) (Λ : Lay) (sz : Nat) (μ : Mem) {π : Nat → PS} {p q κ σ : Nat} {kd : Int} (hA : AB Λ μ π) (hI : INV G Λ) (hK : kitK Λ κ) (hP : partK Λ p κ σ) (hQ : partK Λ q κ σ) (hkd : μ.1 p 13 = kd ∧ 0 ≤ kd ∧ kd ≤ 2) (hord : κ + 16 < p ∧ p + 80 < q) (hz : ∀ j : Int, -2 ≤ j → j ≤ 2 → cmL p q π j) : Sp l G yX4_compare cX4_compare 3 none 5 [.ref p, .ref q] Λ sz μ (pV (fun μ' => ∃ π' w, ChgX Λ (fun c => c = p + 17 ∨ c = p + 19 ∨ c = p + 21 ∨ c = p + 23) (p + 25) w μ μ' π π' ∧ bit1 w ∧ ∀ c : Int, 0 ≤ c → c < 101 → (w c = 1 ↔ ∀ j : Int, -2 ≤ j → j ≤ 2 → j ≠ 0 → 0 ≤ cJ kd p q π j c))) := by
  refine Sp.intro (by decide) (Nat.le_of_ble_eq_true rfl) (fun x hx hBD => ?_)
  refine v_lv [(0, .ref p), (1, .ref q)] rfl ?_
  have hoff := hP.off25
  have hoffp := hP.off
  have hch0 : ChgX Λ (fun c => c = p + 17 ∨ c = p + 19 ∨ c = p + 21 ∨ c = p + 23) (p + 25) (μ.1 (p + 25)) μ μ π π := ChgX.rf hA hoff
  have L27 : ∀ (nf : Nat) (i : Int) (m : Mem) (w : Int → Int) (πk : Nat → PS), (3 - i < (nf : Int)) → (ChgX Λ (fun c => c = p + 17 ∨ c = p + 19 ∨ c = p + 21 ∨ c = p + 23) (p + 25) w μ m π πk) → (-2 ≤ i ∧ i ≤ 3) → (bit1 w) → (∀ c : Int, 0 ≤ c → c < 101 → (w c = 1 ↔ ∀ j : Int, -2 ≤ j → j < i → j ≠ 0 → 0 ≤ cJ kd p q π j c)) → V G x (0, 0) Λ sz m 27 [(2, iv i), (0, .ref p), (1, .ref q)] [] := by
    intro nf
    induction nf with
    | zero => intro i m w πk hm hchπk hi hb hw; exact absurd hm (by omega)
    | succ nf ih =>
      intro i m w πk hm hchπk hi hb hw
      have hAπk := hchπk.1
      have hFp : i ≤ 2 → fracK Λ (p + 56 + 5 * (i + 2).toNat) := fun q => hP.2.2.2.2.2.2.2 (i + 2).toNat (by omega)
      have hFq : i ≤ 2 → fracK Λ (q + 56 + 5 * (i + 2).toNat) := fun q => hQ.2.2.2.2.2.2.2 (i + 2).toNat (by omega)
      refine v_iload hx DX4_compare_27 0 rfl ?_
      refine v_push hx DX4_compare_28 ?_
      refine v_icmp_gt hx DX4_compare_29 (by omega) (by decide) (fun c29 => ?_) (fun c29 => ?_)
      · skip
        exact v_rv hx hBD DX4_compare_56 (⟨πk, w, hchπk, hb, fun c h0 h1 => (hw c h0 h1).trans ⟨fun t j h2 h3 h4 => t j h2 (by omega) h4, fun t j h2 h3 h4 => t j h2 (by omega) h4⟩⟩)
      · skip
        refine v_iload hx DX4_compare_32 0 rfl ?_
        refine v_if_eq hx DX4_compare_33 (by omega) (fun c33 => ?_) (fun c33 => ?_)
        · skip
          refine v_iinc hx DX4_compare_50 0 rfl [(2, iv (i + 1)), (0, .ref p), (1, .ref q)] rfl (by decide) ?_
          refine v_goto hx DX4_compare_53 ?_
          exact v_sub [0, 1, 2] _ rfl (ih (i + 1) m w πk (by omega) hchπk (by omega) hb (fun c h0 h1 => (hw c h0 h1).trans ⟨fun t j h2 h3 h4 => t j h2 (by omega) h4, fun t j h2 h3 h4 => t j h2 (by omega) h4⟩))
        · skip
          have hFp := hFp (by omega)
          have hFq := hFq (by omega)
          refine v_aload hx DX4_compare_36 1 rfl ?_
          refine v_aload hx DX4_compare_37 1 rfl ?_
          refine v_iload hx DX4_compare_38 0 rfl ?_
          refine v_cVr hx DX4_compare_39 CVRX4_144 [iv i] (c_rest (i := i) l G Λ sz m hP (by omega)) hP.1 rfl rfl (Nat.le_of_ble_eq_true rfl) (by decide) ⟨Nat.le_refl _, Nat.le_refl _⟩ (fun z2 μ1 hμ1 => ?_)
          obtain ⟨ea, em⟩ := hμ1
          rw [ea, em]
          refine v_aload hx DX4_compare_42 2 rfl ?_
          refine v_iload hx DX4_compare_43 0 rfl ?_
          refine v_cVr hx DX4_compare_44 CVRX4_144 [iv i] (c_rest (i := i) l G Λ sz m hQ (by omega)) hQ.1 rfl rfl (Nat.le_of_ble_eq_true rfl) (by decide) ⟨Nat.le_refl _, Nat.le_refl _⟩ (fun z4 μ3 hμ3 => ?_)
          obtain ⟨ea, em⟩ := hμ3
          rw [ea, em]
          refine v_cVv hx DX4_compare_47 CVRX4_167 [.ref (p + 56 + 5 * (i + 2).toNat), .ref (q + 56 + 5 * (i + 2).toNat)] (c_compareRests (kd := kd) (w0 := w) l G Λ sz m hAπk hI hK hP hFp hFq ⟨by rw [hchπk.2.2.1.1 p hoffp (by omega)]; exact hkd.1, hkd.2⟩ hchπk.2.2.2.1 hb (by omega) (cmL_at hchπk (hz i (by omega) (by omega)) (by omega) (by omega)).1 (cmL_at hchπk (hz i (by omega) (by omega)) (by omega) (by omega)).2.1 (cmL_at hchπk (hz i (by omega) (by omega)) (by omega) (by omega)).2.2.1 (cmL_at hchπk (hz i (by omega) (by omega)) (by omega) (by omega)).2.2.2.1) hP.1 rfl rfl (Nat.le_of_ble_eq_true rfl) (by decide) ⟨Nat.le_refl _, Nat.le_refl _⟩ (fun μ5 hμ5 => ?_)
          obtain ⟨πz, cz⟩ := hμ5
          have hAz := cz.1
          have hchz := hchπk.tx cz
          refine v_iinc hx DX4_compare_50 0 rfl [(2, iv (i + 1)), (0, .ref p), (1, .ref q)] rfl (by decide) ?_
          refine v_goto hx DX4_compare_53 ?_
          exact v_sub [0, 1, 2] _ rfl (ih (i + 1) μ5 (cmZ kd (πk ((p + 56 + 5 * (i + 2).toNat) + 1)) (πk ((p + 56 + 5 * (i + 2).toNat) + 3)) (πk ((q + 56 + 5 * (i + 2).toNat) + 1)) (πk ((q + 56 + 5 * (i + 2).toNat) + 3)) (πk (p + 13)) (πk (p + 15)) w) πz (by omega) hchz (by omega) (hb.z _ _ _ _ _ _ _) (fun c h0 h1 => cmZ_iff hb h0 h1 (hw c h0 h1) (by omega) (cmL_at hchπk (hz i (by omega) (by omega)) (by omega) (by omega)).2.2.2.2))
  have L2 : ∀ (nf : Nat) (k : Int) (m : Mem) (w : Int → Int) (πa : Nat → PS), (101 - k < (nf : Int)) → (ChgX Λ (fun c => c = p + 17 ∨ c = p + 19 ∨ c = p + 21 ∨ c = p + 23) (p + 25) w μ m π πa) → (0 ≤ k ∧ k ≤ 101) → (∀ c : Int, 0 ≤ c → c < k → w c = 1) → V G x (0, 0) Λ sz m 2 [(2, iv k), (0, .ref p), (1, .ref q)] [] := by
    intro nf
    induction nf with
    | zero => intro k m w πa hm hchπa hk hw; exact absurd hm (by omega)
    | succ nf ih =>
      intro k m w πa hm hchπa hk hw
      have hAπa := hchπa.1
      refine v_iload hx DX4_compare_2 0 rfl ?_
      refine v_aload hx DX4_compare_3 1 rfl ?_
      refine v_get hx DX4_compare_4 FLRX4_50 hP.1 (v := .ref (p + 25)) rfl ?_
      refine v_alenI hx DX4_compare_7 hP.2.2.2.1 (by decide) (z := 101) rfl ?_
      refine v_icmp_ge hx DX4_compare_8 (by omega) (by decide) (fun c8 => ?_) (fun c8 => ?_)
      · skip
        refine v_push hx DX4_compare_24 ?_
        refine v_istore hx DX4_compare_26 [(2, iv (-2)), (0, .ref p), (1, .ref q)] rfl (by decide) ?_
        exact v_sub [0, 1, 2] _ rfl (L27 20 (-2) m w πa (by omega) hchπa (by omega) (fun c h0 h1 => Or.inr (hw c h0 (by omega))) (fun c h0 h1 => ⟨fun _ j h2 h3 => absurd h3 (by omega), fun _ => hw c h0 (by omega)⟩))
      · skip
        refine v_aload hx DX4_compare_11 1 rfl ?_
        refine v_get hx DX4_compare_12 FLRX4_50 hP.1 (v := .ref (p + 25)) rfl ?_
        refine v_iload hx DX4_compare_15 0 rfl ?_
        refine v_push hx DX4_compare_16 ?_
        refine v_zast hx DX4_compare_17 hP.2.2.2.1 (by omega) (by decide) (by omega) (v_mem (fun μ7 eμ7 => ?_))
        have hA8 : AB Λ μ7 πa := by rw [eμ7]; exact hAπa.mI hoff
        have hch8 : ChgX Λ (fun c => c = p + 17 ∨ c = p + 19 ∨ c = p + 21 ∨ c = p + 23) (p + 25) (rw1 w k 1) μ μ7 π πa := by rw [eμ7]; exact hchπa.put
        refine v_iinc hx DX4_compare_18 0 rfl [(2, iv (k + 1)), (0, .ref p), (1, .ref q)] rfl (by decide) ?_
        refine v_goto hx DX4_compare_21 ?_
        exact v_sub [0, 1, 2] _ rfl (ih (k + 1) μ7 (rw1 w k 1) πa (by omega) hch8 (by omega) (fun c h0 h1 => rw1_fill hw c h0 h1))
  refine v_push hx DX4_compare_0 ?_
  refine v_istore hx DX4_compare_1 [(2, iv 0), (0, .ref p), (1, .ref q)] rfl (by decide) ?_
  exact v_sub [0, 1, 2] _ rfl (L2 200 0 μ (μ.1 (p + 25)) π (by omega) hch0 (by omega) (fun c h0 h1 => absurd h1 (by omega)))
