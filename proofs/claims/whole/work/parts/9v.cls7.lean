/-! ===== the class: compute ===== -/
theorem BA.cx {Λ : Lay} {S : Nat → Prop} {p β : Nat} {w : Int → Int} {μ μ' : Mem} {π π' : Nat → PS} {b : Bd} (h : BA μ β b) (hK : boardK Λ β) (hc : ChgX Λ S p w μ μ' π π') (hne : β + 2 < p ∨ p < β) : BA μ' β b := by
  obtain ⟨o1, o2, o3⟩ := hK.off
  refine ⟨h.1, fun j h0 h1 => ?_, fun j h0 h1 => ?_, ?_, ?_⟩
  · rw [hc.2.2.1.1 _ o2 (by omega)]; exact h.2.1 j h0 h1
  · rw [hc.2.2.1.1 _ o3 (by omega)]; exact h.2.2.1 j h0 h1
  · rw [hc.2.2.1.1 _ o1 (by omega)]; exact h.2.2.2.1
  · rw [hc.2.2.1.1 _ o1 (by omega)]; exact h.2.2.2.2
/-- the term that the class splits, and with what -/
noncomputable def clT (b : Bd) (f i : Int) : FP2 := if b.2.2.1 = 2 ∧ 0 ≤ i then fpl (b.tm (5 * f + i + 2)) (frd (((igQ b (fnJ b f) (i + 1)).1.mul b.uP.der).sm (fi (i + 1))) ((igQ b (fnJ b f) (i + 1)).2.mul b.uP)) (fi 100) else b.tm (5 * f + i + 2)
noncomputable def clW (b : Bd) (i : Int) : PS := if b.2.2.1 = 2 then PS.zero else b.uP.der.sm (fi i)
theorem clW_ok (b : Bd) (i : Int) : (clW b i).fin ∧ (clW b i).size ≤ 4 := by
  unfold clW
  have z := b.uP_sz
  split
  · exact ⟨PS.fin_zero, by rw [PS.zero_sz]; omega⟩
  · have f : b.uP.der.fin := PS.fin_der ⟨_, b.uP_lt⟩
    exact ⟨PS.fin_sm _ f, Nat.le_trans (PS.size_le (PS.lt_sm _ (PS.flt f))) (by omega)⟩
theorem tm_spl {b : Bd} {f i : Int} (hb : b.good) (hf : 0 ≤ f ∧ f < 3) (hi : -2 ≤ i ∧ i ≤ 2) : SplOK (b.tm (5 * f + i + 2)) 7 5 := ⟨hb.tm (by omega), (fnJ_ok hb hf i hi.1 hi.2).2⟩
theorem cls_q2 {b : Bd} {f i : Int} (hb : b.good) (hf : 0 ≤ f ∧ f < 3) (hk : b.2.2.1 = 2) (hi : 0 ≤ i ∧ i ≤ 2) : FOK (igQ b (fnJ b f) (i + 1)) 18 13 ∧ SplOK (igT b (fnJ b f) (2 - i).toNat) 24 20 := by
  have q := cls_ig hb hf hk
  have : i = 0 ∨ i = 1 ∨ i = 2 := by omega
  rcases this with rfl | rfl | rfl
  · exact ⟨q.2.2.2.2.1.1.mono (by omega) (by omega), q.2.2.2.2.2.2.1⟩
  · exact ⟨q.2.1.1.mono (by omega) (by omega), ⟨q.2.2.2.1.1.mono (by omega) (by omega), q.2.2.2.1.2⟩⟩
  · exact ⟨FOK.zero.mono (by omega) (by omega), ⟨q.1.1.mono (by omega) (by omega), q.1.2⟩⟩
theorem clT_log {b : Bd} {f i : Int} (hb : b.good) (hf : 0 ≤ f ∧ f < 3) (hk : b.2.2.1 = 2) (hi : 0 ≤ i ∧ i ≤ 2) : clT b f i = igT b (fnJ b f) (2 - i).toNat := by
  have u := Bd.us hb (by omega)
  have z := b.uP_sz
  unfold clT igT
  rw [if_pos ⟨hk, hi.1⟩, if_pos hk, show (2 : Int) - ((2 - i).toNat : Int) = i by omega]
  have e : igQ b (fnJ b f) (i + 1) = (igN b (fnJ b f) (2 - i).toNat).1 := by unfold igQ; rw [show 3 - (i + 1) = 2 - i by omega]
  rw [← e]
  exact sum_same (tm_spl hb hf (by omega)).1 (cls_q2 hb hf hk hi).1 u.1 u.2.1 u.2.2.1 (by omega) (by omega) (by omega) (by rw [show (fi 100 : F) = fi (-1) from rfl, ← fi_mul]; congr 1; omega)
theorem clT_ok {b : Bd} {f i : Int} (hb : b.good) (hf : 0 ≤ f ∧ f < 3) (hi : -2 ≤ i ∧ i ≤ 2) : SplOK (clT b f i) 24 20 := by
  by_cases k : b.2.2.1 = 2 ∧ 0 ≤ i
  · rw [clT_log hb hf k.1 ⟨k.2, hi.2⟩]; exact (cls_q2 hb hf k.1 ⟨k.2, hi.2⟩).2
  · unfold clT; rw [if_neg k]
    have q := tm_spl hb hf hi
    exact ⟨q.1.mono (by omega) (by omega), q.2⟩
theorem cls_step {b : Bd} {f i : Int} (hb : b.good) (hf : 0 ≤ f ∧ f < 3) (hi : -2 ≤ i ∧ i ≤ 2) (hk : b.fit f ≠ 0) : sp2 (clT b f i) (clW b i) = (igQ b (fnJ b f) i, igR b (fnJ b f) i) := by
  have e := ig_step b (fnJ b f) hi
  rw [show (igQ b (fnJ b f) i, igR b (fnJ b f) i) = igS b (fnJ b f) i (igQ b (fnJ b f) (i + 1)) from Prod.ext e.1 e.2]
  have kr : 0 ≤ b.2.2.1 ∧ b.2.2.1 ≤ 2 := hb.1.2.2.1
  by_cases k2 : b.2.2.1 = 2
  · by_cases i0 : 0 ≤ i
    · rw [clT_log hb hf k2 ⟨i0, hi.2⟩]
      have e2 : igQ b (fnJ b f) (i + 1) = (igN b (fnJ b f) (2 - i).toNat).1 := by unfold igQ; rw [show 3 - (i + 1) = 2 - i by omega]
      unfold igT igS clW
      rw [if_pos k2, if_pos k2, if_neg (by omega), if_pos (by omega), if_pos k2, show (2 : Int) - ((2 - i).toNat : Int) = i by omega, e2]
    · have z := fit_zero (i := i) hb hf hi hk (Or.inr ⟨k2, by omega⟩)
      unfold clT igS clW
      rw [if_neg (by omega), z, if_pos k2, if_neg (by omega), if_neg (by omega), sp2_zero PS.fin_zero]
  · by_cases k1 : b.2.2.1 = 1
    · unfold clT igS clW
      rw [if_neg (by omega), if_neg k2, if_pos k1]
      rfl
    · have k0 : b.2.2.1 = 0 := by omega
      by_cases i0 : i = 0
      · unfold clT igS clW
        have uz : b.uP = PS.zero := by
          funext n
          by_cases c : n < 4
          · have := Bd.uP_cf hb.1 (k := (n : Int)) (by omega)
            rw [hb.2.2.1 k0 n (by omega) (by omega)] at this
            exact cf_zero.mp this
          · exact b.uP_lt n (by omega)
        have dz : b.uP.der.sm (fi i) = PS.zero := by
          rw [uz, PS.der_zero]; funext n; show fi i * (0 : F) = 0; grind
        rw [if_neg (by omega), if_neg k2, if_neg k1, if_pos (Or.inl i0), if_neg k2, dz]
        rfl
      · have z := fit_zero (i := i) hb hf hi hk (Or.inl ⟨k0, i0⟩)
        unfold clT igS
        rw [if_neg (by omega), z, if_neg k1, if_neg (by omega), sp2_zero (clW_ok b i).1]
theorem cls_ok {b : Bd} {f i : Int} (hb : b.good) (hf : 0 ≤ f ∧ f < 3) (hi : -2 ≤ i ∧ i ≤ 2) (hk : b.fit f ≠ 0) : FOK (igQ b (fnJ b f) i) 25 19 ∧ FOK (igR b (fnJ b f) i) 24 20 := by
  have q := sp2_ok (W := clW b i) (clT_ok hb hf hi) (clW_ok b i).1 (clW_ok b i).2 (by omega) (by omega)
  rw [cls_step hb hf hi hk] at q
  exact ⟨q.1.mono (by omega) (by omega), q.2.2.mono (by omega) (by omega)⟩
theorem cls_q {b : Bd} {f i : Int} (hb : b.good) (hf : 0 ≤ f ∧ f < 3) (hi : -2 ≤ i ∧ i ≤ 3) (hk : b.fit f ≠ 0) : FOK (igQ b (fnJ b f) i) 25 19 := by
  by_cases c : i = 3
  · rw [c]; exact FOK.zero.mono (by omega) (by omega)
  · exact (cls_ok hb hf (by omega) hk).1
theorem clT_run {b : Bd} {f i : Int} (hb : b.good) (hf : 0 ≤ f ∧ f < 3) (hi : -2 ≤ i ∧ i ≤ 2) : (clT b f i).2 ≠ PS.zero ∧ (clT b f i).2.mnc ∧ Hid ((clT b f i).2.size ≤ 20 ∧ (clT b f i).1.size ≤ 40 ∧ (clW b i).size ≤ 4 ∧ gdI (clT b f i).1 (clT b f i).2 (clW b i) ≤ 10) ∧ ((clT b f i).1 = PS.zero → (clT b f i).2 = PS.one) := by
  have q := clT_ok hb hf hi
  have w := clW_ok b i
  refine ⟨q.1.1.2.2.1, q.1.1.2.2.2.1, ?_, fun e => ?_⟩
  · have g : gdI (clT b f i).1 (clT b f i).2 (clW b i) ≤ 10 := by
      unfold gdI
      rcases q.2 with t | t
      · rw [t, PS.zero_sz]; omega
      · omega
    have z1 := q.1.2.1
    have z2 := q.1.2.2
    exact (show _ ∧ _ ∧ _ ∧ _ from ⟨by omega, by omega, w.2, g⟩)
  · have r := q.1.1
    rw [e] at r
    exact r.z
