/-! ===== the class: residues ===== -/
def resK (Λ : Lay) (r κ : Nat) : Prop := Λ r = some (.inl (7, [some (.ref κ), some (.ref (r + 1)), some (.ref (r + 3)), some (.ref (r + 5)), some (.ref (r + 7)), some (.ref (r + 9)), some (.ref (r + 11)), some (.ref (r + 13)), some (.ref (r + 15)), some (.ref (r + 17))])) ∧
  polyK Λ (r + 1) ∧ polyK Λ (r + 3) ∧ polyK Λ (r + 5) ∧ polyK Λ (r + 7) ∧ polyK Λ (r + 9) ∧ polyK Λ (r + 11) ∧ polyK Λ (r + 13) ∧ polyK Λ (r + 15) ∧ polyK Λ (r + 17)
theorem am_xs (q : PS) : PS.am PS.zero q (fi 1) (Int.toNat 1) = q.xs := PS.ext fun n => by
  rw [PS.am_at]
  show (if n < 1 then (0 : F) else 0 + fi 1 * q (n - 1)) = (if n < 1 then 0 else q (n - 1))
  split
  · rfl
  · rw [fi_1]; grind
theorem mo_nx {s W : PS} {n : Nat} {k : Int} (hs : s.isz (n + 1)) (hW : W.fin) (hk : 0 ≤ k) : ((((PS.mo k.toNat).mul W).md s).xs).md s = ((PS.mo (k + 1).toNat).mul W).md s := by
  have f : ((PS.mo k.toNat).mul W).fin := PS.fin_mul ⟨_, PS.mo_lt _⟩ hW
  have m1 : (PS.mo 1).fin := ⟨_, PS.mo_lt 1⟩
  rw [xs_eq, PS.mul_comm (PS.mo 1), md_mul hs f m1, show (k + 1).toNat = k.toNat + 1 by omega]
  congr 1
  have e : PS.mo (k.toNat + 1) = (PS.mo 1).mul (PS.mo k.toNat) := by
    rw [← xs_eq]
    exact PS.ext fun m => by
      show (if m = k.toNat + 1 then (1 : F) else 0) = (if m < 1 then 0 else (if m - 1 = k.toNat then 1 else 0))
      by_cases c : m < 1
      · rw [if_pos c, if_neg (by omega)]
      · rw [if_neg c]
        by_cases d : m = k.toNat + 1
        · rw [if_pos d, if_pos (by omega)]
        · rw [if_neg d, if_neg (by omega)]
  rw [e]
  generalize PS.mo k.toNat = a
  generalize PS.mo 1 = y
  letI := psRing
  show a * W * y = y * a * W
  grind
theorem mo_0 {s W : PS} {n : Nat} (hs : s.isz (n + 1)) (hW : W.lt n) : W = ((PS.mo (Int.toNat 0)).mul W).md s := by
  have e : PS.mo (Int.toNat 0) = PS.one := PS.ext fun k => rfl
  rw [e, PS.one_mul]
  exact (md_un hs hW ⟨n, hW⟩ ⟨PS.zero, PS.fin_zero, PS.ext fun k => by
    rw [PS.zero_eq, PS.C_mul]; show W k - W k = 0 * s k; grind⟩).symm
theorem rs_one {a s : PS} (h : s.size = 1) : PS.C (fi 1) = rsP a s := by
  unfold rsP
  rw [h, show 1 - 1 + 1 = 1 by omega, rsK_one]
  exact PS.ext fun k => by show (if k = 0 then fi 1 else 0) = (if k = 1 - 1 then 1 else 0); rw [fi_1]
theorem nwt_at {S : Nat → F} {n : Nat} {k j : Int} (hk : 1 ≤ k ∧ k ≤ n) (hj : 1 ≤ j ∧ j ≤ k) : fi (ca (rsK S n k.toNat) ((n : Int) - k + j)) = nw S (k.toNat - ((j - 1).toNat + 1)) := by
  rw [ca_of (by omega), fi_cf]
  show (if _ then _ else _) = _
  rw [if_pos ⟨by omega, by omega⟩]
  congr 1; omega
theorem nwt_end {S : Nat → F} {n : Nat} {k v : Int} (hk : 1 ≤ k ∧ k ≤ n) (hf : fi v = fsum (fun i => nw S (k.toNat - (i + 1)) * S (i + 1)) k.toNat) : (rsK S n k.toNat).putc ((n : Int) - k) (fi (100 * (v % 101) % 101 * ivI k)) = rsK S n (k + 1).toNat := by
  obtain ⟨j, rfl⟩ : ∃ j : Nat, k = ((j + 1 : Nat) : Int) := ⟨k.toNat - 1, by omega⟩
  unfold PS.putc
  rw [if_neg (by omega), show ((n : Int) - ((j + 1 : Nat) : Int)).toNat = n - (j + 1) by omega, show (((j + 1 : Nat) : Int) + 1).toNat = j + 1 + 1 by omega, Int.toNat_natCast, ← rsK_set S (k := j + 1) (by omega)]
  congr 1
  rw [nw_rec, fi_mul, fi_ivI, fi_mod, fi_mul, fi_mod, hf, Int.toNat_natCast, show (fi 100 : F) = -1 from rfl, show ((j + 1 : Nat) : Int) = (j : Int) + 1 by omega]
  grind
theorem PS.zero_put1 {n : Int} (h : 0 ≤ n) : PS.zero.putc n (fi 1) = PS.mo n.toNat := by
  unfold PS.putc
  rw [if_neg (by omega), fi_1]; rfl
theorem rs_put {a s T : PS} {n : Nat} {k : Int} (hk : 1 ≤ k ∧ k ≤ n + 1) (hn1 : s.size = n + 1) (hT : ∀ j : Nat, 1 ≤ j → (j : Int) < k → T j = rsS a s j) (j : Nat) (h0 : 1 ≤ j) (h1 : (j : Int) < k + 1) : T.putc k (fi ((trc s n (pkP a s k.toNat)).val : Int)) j = rsS a s j := by
  unfold PS.putc
  rw [if_neg (by omega)]
  show (if j = k.toNat then _ else T j) = _
  by_cases c : j = k.toNat
  · rw [if_pos c, fi_of, c]; unfold rsS; rw [hn1]; rfl
  · rw [if_neg c]; exact hT j h0 (by omega)
/-- zeros of P below n -/
noncomputable def zrN (P : PS) : Nat → Int
  | 0 => 0
  | n + 1 => zrN P n + (if evI P (n : Int) 0 = 0 then 1 else 0)
theorem zrN_rng (P : PS) (n : Nat) : 0 ≤ zrN P n ∧ zrN P n ≤ n := by
  induction n with
  | zero => exact ⟨Int.le_refl 0, Int.le_refl 0⟩
  | succ n ih => rw [zrN]; split <;> omega
theorem zrN_st {P : PS} {c : Int} (h : 0 ≤ c) : zrN P (c + 1).toNat = zrN P c.toNat + (if evI P c 0 = 0 then 1 else 0) := by
  rw [show (c + 1).toNat = c.toNat + 1 by omega, zrN, Int.toNat_of_nonneg h]
/-- zero j of P, or -1 -/
noncomputable def zrF (P : PS) (j : Int) : Nat → Int
  | 0 => -1
  | n + 1 => if zrF P j n ≠ -1 then zrF P j n else if evI P (n : Int) 0 = 0 ∧ zrN P n = j then (n : Int) else -1
theorem zrF_st {P : PS} {j : Int} {n : Nat} (h : zrF P j n ≠ -1) (m : Nat) : zrF P j (n + m) = zrF P j n := by
  induction m with
  | zero => rfl
  | succ m ih => show zrF P j (n + m + 1) = _; rw [zrF, if_pos (by rw [ih]; exact h), ih]
theorem zrF_yes {P : PS} {j c : Int} (hc : 0 ≤ c ∧ c < 101) (h : zrF P j c.toNat = -1) (he : evI P c 0 = 0) (hb : zrN P c.toNat = j) : c = zrF P j 101 := by
  have e : zrF P j (c.toNat + 1) = c := by
    rw [zrF, if_neg (by rw [h]; exact fun q => q rfl), if_pos ⟨by rw [Int.toNat_of_nonneg hc.1]; exact he, hb⟩, Int.toNat_of_nonneg hc.1]
  have z := zrF_st (P := P) (j := j) (n := c.toNat + 1) (by rw [e]; omega) (101 - (c.toNat + 1))
  rw [show c.toNat + 1 + (101 - (c.toNat + 1)) = 101 by omega, e] at z
  exact z.symm
theorem zrF_no {P : PS} {j c : Int} (hc : 0 ≤ c) (h : zrF P j c.toNat = -1) (hb : ¬ (evI P c 0 = 0 ∧ zrN P c.toNat = j)) : zrF P j (c + 1).toNat = -1 := by
  rw [show (c + 1).toNat = c.toNat + 1 by omega, zrF, if_neg (by rw [h]; exact fun q => q rfl), if_neg (by rw [Int.toNat_of_nonneg hc]; exact hb)]
/-- what is open -/
noncomputable def opN (P : PS) (L : Int → PS) (d : Int) : Nat → Int
  | 0 => d
  | n + 1 => opN P L d n - (if evI P (n : Int) 0 = 0 then ((L (n : Int)).size : Int) - 1 else 0)
theorem opN_st {P : PS} {L : Int → PS} {d c : Int} (h : 0 ≤ c) : opN P L d (c + 1).toNat = opN P L d c.toNat - (if evI P c 0 = 0 then ((L c).size : Int) - 1 else 0) := by
  rw [show (c + 1).toNat = c.toNat + 1 by omega, opN, Int.toNat_of_nonneg h]
/-- the argument, as the class has it -/
noncomputable def lgC (a s : PS) (c : Int) : PS := (a.add ((s.der).sm (fi (101 - c)))).gcd s
theorem c_rraise (l : Launch) (G : Gl) (Λ : Lay) (sz : Nat) (μ : Mem) {π : Nat → PS} {r κ : Nat} (hA : AB Λ μ π) (hI : INV G Λ) (hK : kitK Λ κ) (hS : resK Λ r κ) (hord : κ + 16 < r) (hz : (π (r + 11)).size ≤ 47) (h0 : π (r + 3) ≠ PS.zero) : Sp l G yX7_raise cX7_raise 1 none 2 [.ref r] Λ sz μ (pV (fun μ' => ∃ π', Chg Λ (fun c => c = r + 11 ∨ c = r + 13) μ μ' π π' ∧ π' (r + 11) = ((π (r + 11)).xs).md (π (r + 3)))) := by
  refine Sp.intro (by decide) (Nat.le_of_ble_eq_true rfl) (fun x hx hBD => ?_)
  refine v_lv [(0, .ref r)] rfl ?_
  have hch0 : Chg Λ (fun c => c = r + 11 ∨ c = r + 13) μ μ π π := Chg.rf hA
  refine v_aload hx DX7_raise_0 0 rfl ?_
  refine v_get hx DX7_raise_1 FLRX7_33 hS.1 (v := .ref (r + 13)) rfl ?_
  refine v_cVv hx DX7_raise_4 CVRX7_81 [] (s_clear l G Λ sz μ hS.2.2.2.2.2.2.2.1 (AB.get (A := π (r + 13)) hA hS.2.2.2.2.2.2.2.1 rfl)) hS.2.2.2.2.2.2.2.1.1 rfl rfl (Nat.le_of_ble_eq_true rfl) (by decide) ⟨Nat.le_refl _, Nat.le_refl _⟩ (fun μ1 hμ1 => ?_)
  obtain ⟨π1, hc1, he1, ho1⟩ := Chg.one (S := fun c => c = r + 11 ∨ c = r + 13) (R := PS.zero) hA hS.2.2.2.2.2.2.2.1 (by first | omega | (dsimp only; omega)) hμ1
  have hA1 := hc1.1
  have hch1 := hch0.trans hc1
  have v1_0 : π1 (r + 3) = π (r + 3) := (ho1 (r + 3) (by omega)).trans rfl
  have v1_1 : π1 (r + 11) = π (r + 11) := (ho1 (r + 11) (by omega)).trans rfl
  refine v_aload hx DX7_raise_7 0 rfl ?_
  refine v_get hx DX7_raise_8 FLRX7_33 hS.1 (v := .ref (r + 13)) rfl ?_
  refine v_aload hx DX7_raise_11 0 rfl ?_
  refine v_get hx DX7_raise_12 FLRX7_30 hS.1 (v := .ref (r + 11)) rfl ?_
  refine v_push hx DX7_raise_15 ?_
  refine v_push hx DX7_raise_16 ?_
  refine v_cVv hx DX7_raise_17 CVRX7_102 [.ref (r + 11), iv 1, iv 1] (s_addMultiple l G Λ sz μ1 hS.2.2.2.2.2.2.2.1 hS.2.2.2.2.2.2.1 (by omega) (AB.get (A := PS.zero) hA1 hS.2.2.2.2.2.2.2.1 he1) (AB.get (A := π (r + 11)) hA1 hS.2.2.2.2.2.2.1 v1_1) (by omega) (by omega) (by have : Int.toNat 1 = 1 := rfl; omega)) hS.2.2.2.2.2.2.2.1.1 rfl rfl (Nat.le_of_ble_eq_true rfl) (by decide) ⟨Nat.le_refl _, Nat.le_refl _⟩ (fun μ2 hμ2 => ?_)
  obtain ⟨π2, hc2, he2, ho2⟩ := Chg.one (S := fun c => c = r + 11 ∨ c = r + 13) (R := PS.am PS.zero (π (r + 11)) (fi 1) (Int.toNat 1)) hA1 hS.2.2.2.2.2.2.2.1 (by first | omega | (dsimp only; omega)) hμ2
  have hA2 := hc2.1
  have hch2 := hch1.trans hc2
  have v2_0 : π2 (r + 3) = π (r + 3) := (ho2 (r + 3) (by omega)).trans v1_0
  have v2_1 : π2 (r + 11) = π (r + 11) := (ho2 (r + 11) (by omega)).trans v1_1
  have w3 : π2 (r + 13) = (π (r + 11)).xs := he2.trans (am_xs _)
  refine v_aload hx DX7_raise_20 0 rfl ?_
  refine v_get hx DX7_raise_21 FLRX7_33 hS.1 (v := .ref (r + 13)) rfl ?_
  refine v_aload hx DX7_raise_24 0 rfl ?_
  refine v_get hx DX7_raise_25 FLRX7_18 hS.1 (v := .ref (r + 3)) rfl ?_
  refine v_cVv hx DX7_raise_28 CVRX7_78 [.ref (r + 3)] (s_reduceBy l G Λ sz μ2 hI hS.2.2.2.2.2.2.2.1 hS.2.2.1 (by omega) (AB.get (A := (π (r + 11)).xs) hA2 hS.2.2.2.2.2.2.2.1 w3) (AB.get (A := π (r + 3)) hA2 hS.2.2.1 v2_0) h0) hS.2.2.2.2.2.2.2.1.1 rfl rfl (Nat.le_of_ble_eq_true rfl) (by decide) ⟨Nat.le_refl _, Nat.le_refl _⟩ (fun μ4 hμ4 => ?_)
  obtain ⟨π4, hc4, he4, ho4⟩ := Chg.one (S := fun c => c = r + 11 ∨ c = r + 13) (R := PS.md ((π (r + 11)).xs) (π (r + 3))) hA2 hS.2.2.2.2.2.2.2.1 (by first | omega | (dsimp only; omega)) hμ4
  have hA4 := hc4.1
  have hch4 := hch2.trans hc4
  have v4_0 : π4 (r + 3) = π (r + 3) := (ho4 (r + 3) (by omega)).trans v2_0
  have v4_1 : π4 (r + 11) = π (r + 11) := (ho4 (r + 11) (by omega)).trans v2_1
  refine v_aload hx DX7_raise_31 0 rfl ?_
  refine v_get hx DX7_raise_32 FLRX7_30 hS.1 (v := .ref (r + 11)) rfl ?_
  refine v_aload hx DX7_raise_35 0 rfl ?_
  refine v_get hx DX7_raise_36 FLRX7_33 hS.1 (v := .ref (r + 13)) rfl ?_
  refine v_cVv hx DX7_raise_39 CVRX7_51 [.ref (r + 13)] (s_become l G Λ sz μ4 hS.2.2.2.2.2.2.1 hS.2.2.2.2.2.2.2.1 (by omega) (AB.get (A := π (r + 11)) hA4 hS.2.2.2.2.2.2.1 v4_1) (AB.get (A := PS.md ((π (r + 11)).xs) (π (r + 3))) hA4 hS.2.2.2.2.2.2.2.1 he4)) hS.2.2.2.2.2.2.1.1 rfl rfl (Nat.le_of_ble_eq_true rfl) (by decide) ⟨Nat.le_refl _, Nat.le_refl _⟩ (fun μ5 hμ5 => ?_)
  obtain ⟨π5, hc5, he5, ho5⟩ := Chg.one (S := fun c => c = r + 11 ∨ c = r + 13) (R := PS.md ((π (r + 11)).xs) (π (r + 3))) hA4 hS.2.2.2.2.2.2.1 (by first | omega | (dsimp only; omega)) hμ5
  have hA5 := hc5.1
  have hch5 := hch4.trans hc5
  have v5_0 : π5 (r + 3) = π (r + 3) := (ho5 (r + 3) (by omega)).trans v4_0
  have v5_2 : π5 (r + 13) = PS.md ((π (r + 11)).xs) (π (r + 3)) := (ho5 (r + 13) (by omega)).trans he4
  exact v_rv hx hBD DX7_raise_42 (⟨π5, hch5, he5⟩)
theorem c_rtrace (l : Launch) (G : Gl) (Λ : Lay) (sz : Nat) (μ : Mem) {π : Nat → PS} {r κ n : Nat} (hA : AB Λ μ π) (hI : INV G Λ) (hK : kitK Λ κ) (hS : resK Λ r κ) (hord : κ + 16 < r) (hs : (π (r + 3)).isz (n + 1)) (hm : (π (r + 3)) n = 1) (hn : 1 ≤ n ∧ n ≤ 40) (hw : (π (r + 11)).lt n) : Sp l G yX7_trace cX7_trace 3 (some FieldType.int) 3 [.ref r] Λ sz μ (pI (fun z μ' => ∃ π', Chg Λ (fun c => c = r + 11 ∨ c = r + 13) μ μ' π π' ∧ z = ((trc (π (r + 3)) n (π (r + 11))).val : Int))) := by
  refine Sp.intro (by decide) (Nat.le_of_ble_eq_true rfl) (fun x hx hBD => ?_)
  refine v_lv [(0, .ref r)] rfl ?_
  have esz : (π (r + 3)).size = n + 1 := PS.size_eq hs
  have s0 : π (r + 3) ≠ PS.zero := PS.ne_of_size (by omega)
  have wf : (π (r + 11)).fin := ⟨n, hw⟩
  have hch0 : Chg Λ (fun c => c = r + 11 ∨ c = r + 13) μ μ π π := Chg.rf hA
  have L4 : ∀ (nf : Nat) (k v : Int) (m : Mem) (πk : Nat → PS), ((n : Int) - k < (nf : Int)) → (Chg Λ (fun c => c = r + 11 ∨ c = r + 13) μ m π πk) → (πk (r + 3) = π (r + 3)) → (πk (r + 11) = ((PS.mo k.toNat).mul (π (r + 11))).md (π (r + 3))) → (0 ≤ k ∧ k ≤ n) → (0 ≤ v ∧ v ≤ 100 * k) → (fi v = fsum (fun j => cm (π (r + 3)) j ((PS.mo j).mul (π (r + 11)))) k.toNat) → V G x (0, 0) Λ sz m 4 [(2, iv k), (1, iv v), (0, .ref r)] [] := by
    intro nf
    induction nf with
    | zero => intro k v m πk hm hchπk vπk_0 vπk_1 hk hv hf; exact absurd hm (by omega)
    | succ nf ih =>
      intro k v m πk hm hchπk vπk_0 vπk_1 hk hv hf
      have hAπk := hchπk.1
      have kr := ca_rng (((PS.mo k.toNat).mul (π (r + 11))).md (π (r + 3))) k
      have kf : ((PS.mo k.toNat).mul (π (r + 11))).fin := PS.fin_mul ⟨_, PS.mo_lt _⟩ wf
      have kz := PS.size_le (md_dvd hs kf).2
      refine v_iload hx DX7_trace_4 0 rfl ?_
      refine v_aload hx DX7_trace_5 2 rfl ?_
      refine v_get hx DX7_trace_6 FLRX7_18 hS.1 (v := .ref (r + 3)) rfl ?_
      refine v_get hx DX7_trace_9 FLRX7_64 hS.2.2.1.1 (fv_i rfl ((AB.get (A := π (r + 3)) hAπk hS.2.2.1 vπk_0).2) : _ = iv (((π (r + 3)).size : Int) - 1)) ?_
      refine v_icmp_ge hx DX7_trace_12 (by omega) (by omega) (fun c12 => ?_) (fun c12 => ?_)
      · skip
        refine v_iload hx DX7_trace_36 1 rfl ?_
        refine v_push hx DX7_trace_37 ?_
        refine v_irem hx (by omega) (by decide) DX7_trace_39 ?_
        exact v_ri hx hBD DX7_trace_40 (⟨πk, hchπk, by rw [← fi_val, hf, show k.toNat = n by omega]; rfl⟩)
      · skip
        refine v_iload hx DX7_trace_15 1 rfl ?_
        refine v_aload hx DX7_trace_16 2 rfl ?_
        refine v_get hx DX7_trace_17 FLRX7_30 hS.1 (v := .ref (r + 11)) rfl ?_
        refine v_iload hx DX7_trace_20 0 rfl ?_
        refine v_cVp hx DX7_trace_21 CVRX7_95 [iv k] (s_at l G Λ sz m hS.2.2.2.2.2.2.1 (AB.get (A := ((PS.mo k.toNat).mul (π (r + 11))).md (π (r + 3))) hAπk hS.2.2.2.2.2.2.1 vπk_1) (by omega)) hS.2.2.2.2.2.2.1.1 rfl rfl (Nat.le_of_ble_eq_true rfl) (by decide) ⟨Nat.le_refl _, Nat.le_refl _⟩ ?_
        refine v_iadd hx DX7_trace_24 ?_
        refine v_istore hx DX7_trace_25 [(1, iv (v + (ca (((PS.mo k.toNat).mul (π (r + 11))).md (π (r + 3))) k))), (2, iv k), (0, .ref r)] rfl (by decide) ?_
        refine v_aload hx DX7_trace_26 2 rfl ?_
        refine v_cVv hx DX7_trace_27 CVRX7_99 [] (c_rraise l G Λ sz m hAπk hI hK hS hord (by rw [vπk_1]; omega) (by rw [vπk_0]; exact s0)) hS.1 rfl rfl (Nat.le_of_ble_eq_true rfl) (by decide) ⟨Nat.le_refl _, Nat.le_refl _⟩ (fun μ2 hμ2 => ?_)
        obtain ⟨π2, hc2, he2_0⟩ := hμ2
        have hA2 := hc2.1
        have hch2 := hchπk.trans (hc2.mono (fun c hc => by first | omega | (dsimp only at hc ⊢; omega)))
        have v2_0 : π2 (r + 3) = π (r + 3) := (hc2.2.1 (r + 3) (by first | omega | (dsimp only; omega))).trans vπk_0
        have g2_0 : π2 (r + 11) = ((PS.mo (k + 1).toNat).mul (π (r + 11))).md (π (r + 3)) := he2_0.trans (by rw [vπk_1, vπk_0]; exact mo_nx hs wf hk.1)
        refine v_iinc hx DX7_trace_30 1 rfl [(2, iv (k + 1)), (1, iv (v + (ca (((PS.mo k.toNat).mul (π (r + 11))).md (π (r + 3))) k))), (0, .ref r)] rfl (by decide) ?_
        refine v_goto hx DX7_trace_33 ?_
        exact v_sub [0, 1, 2] _ rfl (ih (k + 1) (v + (ca (((PS.mo k.toNat).mul (π (r + 11))).md (π (r + 3))) k)) μ2 π2 (by omega) hch2 v2_0 g2_0 (by omega) (by omega) (by rw [show (k + 1).toNat = k.toNat + 1 by omega, fi_add, hf, ca_of (by omega), fi_cf]; rfl))
  refine v_push hx DX7_trace_0 ?_
  refine v_istore hx DX7_trace_1 [(1, iv 0), (0, .ref r)] rfl (by decide) ?_
  refine v_push hx DX7_trace_2 ?_
  refine v_istore hx DX7_trace_3 [(2, iv 0), (1, iv 0), (0, .ref r)] rfl (by decide) ?_
  exact v_sub [0, 1, 2] _ rfl (L4 100 0 0 μ π (by omega) hch0 rfl (mo_0 hs hw) (by omega) (by omega) (by rw [fi_0]; rfl))
theorem c_newton (l : Launch) (G : Gl) (Λ : Lay) (sz : Nat) (μ : Mem) {π : Nat → PS} {r κ n : Nat} {S : Nat → F} (hA : AB Λ μ π) (hI : INV G Λ) (hK : kitK Λ κ) (hS : resK Λ r κ) (hord : κ + 16 < r) (hs : (π (r + 3)).size = n + 1) (hn : 1 ≤ n ∧ n ≤ 40) (hT : ∀ j : Nat, 1 ≤ j → j ≤ n → (π (r + 15)) j = S j) : Sp l G yX7_applyNewton cX7_applyNewton 5 none 2 [.ref r] Λ sz μ (pV (fun μ' => ∃ π', Chg Λ (fun c => c = r + 17) μ μ' π π' ∧ π' (r + 17) = rsK S n (n + 1))) := by
  refine Sp.intro (by decide) (Nat.le_of_ble_eq_true rfl) (fun x hx hBD => ?_)
  refine v_lv [(0, .ref r)] rfl ?_
  have hch0 : Chg Λ (fun c => c = r + 17) μ μ π π := Chg.rf hA
  have L36 : ∀ (nf : Nat) (k j v : Int) (m : Mem), (k + 1 - j < (nf : Int)) → (PA m (r + 17) (rsK S n k.toNat)) → (PA m (r + 15) (π (r + 15))) → (1 ≤ k ∧ k ≤ n) → (1 ≤ j ∧ j ≤ k + 1) → (0 ≤ v ∧ v ≤ 10000 * (j - 1)) → (fi v = fsum (fun i => nw S (k.toNat - (i + 1)) * S (i + 1)) (j - 1).toNat) → (∀ (v2 : Int), (0 ≤ v2 ∧ v2 ≤ 10000 * k) → (fi v2 = fsum (fun i => nw S (k.toNat - (i + 1)) * S (i + 1)) k.toNat) → V G x (0, 0) Λ sz m 74 [(3, iv v2), (2, iv k), (1, iv (n : Int)), (0, .ref r)] []) → V G x (0, 0) Λ sz m 36 [(4, iv j), (3, iv v), (2, iv k), (1, iv (n : Int)), (0, .ref r)] [] := by
    intro nf
    induction nf with
    | zero => intro k j v m hm hPr hPs hk2 hj hv hf hC; exact absurd hm (by omega)
    | succ nf ih =>
      intro k j v m hm hPr hPs hk2 hj hv hf hC
      have r1 := ca_rng (rsK S n k.toNat) ((n : Int) - k + j)
      have r2 := ca_rng (π (r + 15)) j
      have rb := mulb r1.1 r1.2 r2.1 r2.2
      refine v_iload hx DX7_applyNewton_36 0 rfl ?_
      refine v_iload hx DX7_applyNewton_38 2 rfl ?_
      refine v_icmp_gt hx DX7_applyNewton_39 (by omega) (by omega) (fun c39 => ?_) (fun c39 => ?_)
      · skip
        exact v_sub [1, 2, 3, 4] _ rfl (hC v (by omega) (by rw [hf, show (j - 1).toNat = k.toNat by omega]))
      · skip
        refine v_iload hx DX7_applyNewton_42 1 rfl ?_
        refine v_aload hx DX7_applyNewton_43 4 rfl ?_
        refine v_get hx DX7_applyNewton_44 FLRX7_39 hS.1 (v := .ref (r + 17)) rfl ?_
        refine v_iload hx DX7_applyNewton_47 3 rfl ?_
        refine v_iload hx DX7_applyNewton_48 2 rfl ?_
        refine v_isub hx DX7_applyNewton_49 ?_
        refine v_iload hx DX7_applyNewton_50 0 rfl ?_
        refine v_iadd hx DX7_applyNewton_52 ?_
        refine v_cVp hx DX7_applyNewton_53 CVRX7_95 [iv (((n : Int) - k) + j)] (s_at l G Λ sz m hS.2.2.2.2.2.2.2.2.2 hPr (by omega)) hS.2.2.2.2.2.2.2.2.2.1 rfl rfl (Nat.le_of_ble_eq_true rfl) (by decide) ⟨Nat.le_refl _, Nat.le_refl _⟩ ?_
        refine v_aload hx DX7_applyNewton_56 4 rfl ?_
        refine v_get hx DX7_applyNewton_57 FLRX7_36 hS.1 (v := .ref (r + 15)) rfl ?_
        refine v_iload hx DX7_applyNewton_60 0 rfl ?_
        refine v_cVp hx DX7_applyNewton_62 CVRX7_95 [iv j] (s_at l G Λ sz m hS.2.2.2.2.2.2.2.2.1 hPs (by omega)) hS.2.2.2.2.2.2.2.2.1.1 rfl rfl (Nat.le_of_ble_eq_true rfl) (by decide) ⟨Nat.le_refl _, Nat.le_refl _⟩ ?_
        refine v_imul hx DX7_applyNewton_65 ?_
        refine v_iadd hx DX7_applyNewton_66 ?_
        refine v_istore hx DX7_applyNewton_67 [(3, iv (v + ((ca (rsK S n k.toNat) ((n : Int) - k + j)) * (ca (π (r + 15)) j)))), (4, iv j), (2, iv k), (1, iv (n : Int)), (0, .ref r)] rfl (by decide) ?_
        refine v_iinc hx DX7_applyNewton_68 1 rfl [(4, iv (j + 1)), (3, iv (v + ((ca (rsK S n k.toNat) ((n : Int) - k + j)) * (ca (π (r + 15)) j)))), (2, iv k), (1, iv (n : Int)), (0, .ref r)] rfl (by decide) ?_
        refine v_goto hx DX7_applyNewton_71 ?_
        exact v_sub [0, 1, 2, 3, 4] _ rfl (ih k (j + 1) (v + ((ca (rsK S n k.toNat) ((n : Int) - k + j)) * (ca (π (r + 15)) j))) m (by omega) hPr hPs hk2 (by omega) (by omega) (by rw [show (j + 1 - 1).toNat = (j - 1).toNat + 1 by omega, fi_add, fi_mul, hf, nwt_at hk2 (by omega), ca_of (p := π (r + 15)) (by omega), fi_cf, hT j.toNat (by omega) (by omega), show j.toNat = (j - 1).toNat + 1 by omega]; rfl) hC)
  have L26 : ∀ (nf : Nat) (k : Int) (m : Mem) (πk : Nat → PS), ((n : Int) - k + 1 < (nf : Int)) → (Chg Λ (fun c => c = r + 17) μ m π πk) → (πk (r + 3) = π (r + 3)) → (πk (r + 15) = π (r + 15)) → (πk (r + 17) = rsK S n k.toNat) → (1 ≤ k ∧ k ≤ n + 1) → V G x (0, 0) Λ sz m 26 [(2, iv k), (1, iv (n : Int)), (0, .ref r)] [] := by
    intro nf
    induction nf with
    | zero => intro k m πk hm hchπk vπk_0 vπk_1 vπk_2 hk; exact absurd hm (by omega)
    | succ nf ih =>
      intro k m πk hm hchπk vπk_0 vπk_1 vπk_2 hk
      have hAπk := hchπk.1
      refine v_iload hx DX7_applyNewton_26 0 rfl ?_
      refine v_iload hx DX7_applyNewton_27 1 rfl ?_
      refine v_icmp_gt hx DX7_applyNewton_28 (by omega) (by omega) (fun c28 => ?_) (fun c28 => ?_)
      · skip
        exact v_rv hx hBD DX7_applyNewton_105 (⟨πk, hchπk, vπk_2.trans (by rw [show k.toNat = n + 1 by omega])⟩)
      · skip
        refine v_push hx DX7_applyNewton_31 ?_
        refine v_istore hx DX7_applyNewton_32 [(3, iv 0), (2, iv k), (1, iv (n : Int)), (0, .ref r)] rfl (by decide) ?_
        refine v_push hx DX7_applyNewton_33 ?_
        refine v_istore hx DX7_applyNewton_34 [(4, iv 1), (3, iv 0), (2, iv k), (1, iv (n : Int)), (0, .ref r)] rfl (by decide) ?_
        refine v_sub [0, 1, 2, 3, 4] _ rfl (L36 100 k 1 0 m (by omega) (AB.get (A := rsK S n k.toNat) hAπk hS.2.2.2.2.2.2.2.2.2 vπk_2) (AB.get (A := π (r + 15)) hAπk hS.2.2.2.2.2.2.2.2.1 vπk_1) (by omega) (by omega) (by omega) (by rw [fi_0]; rfl) (fun v2 hv2 hf2 => ?_))
        refine v_aload hx DX7_applyNewton_74 3 rfl ?_
        refine v_get hx DX7_applyNewton_75 FLRX7_39 hS.1 (v := .ref (r + 17)) rfl ?_
        refine v_iload hx DX7_applyNewton_78 2 rfl ?_
        refine v_iload hx DX7_applyNewton_79 1 rfl ?_
        refine v_isub hx DX7_applyNewton_80 ?_
        refine v_push hx DX7_applyNewton_81 ?_
        refine v_iload hx DX7_applyNewton_83 0 rfl ?_
        refine v_push hx DX7_applyNewton_84 ?_
        refine v_irem hx (by omega) (by decide) DX7_applyNewton_86 ?_
        refine v_imul hx DX7_applyNewton_87 ?_
        refine v_push hx DX7_applyNewton_88 ?_
        refine v_irem hx (by omega) (by decide) DX7_applyNewton_90 ?_
        refine v_iload hx DX7_applyNewton_91 1 rfl ?_
        have ir := ivI_rng k
        have ib := mulb (a := 100 * (v2 % 101) % 101) (b := ivI k) (A := 100) (B := 100) (by omega) (by omega) (by omega) (by omega)
        refine v_cNp hx DX7_applyNewton_92 CSRX7_106 [iv k] (s_inverse l G Λ sz m hI (by omega)) rfl rfl (Nat.le_of_ble_eq_true rfl) (by decide) ⟨Nat.le_refl _, Nat.le_refl _⟩ ?_
        refine v_imul hx DX7_applyNewton_95 ?_
        refine v_cVv hx DX7_applyNewton_96 CVRX7_88 [iv ((n : Int) - k), iv (((100 * (v2 % 101)) % 101) * (ivI k))] (s_put l G Λ sz m hS.2.2.2.2.2.2.2.2.2 (AB.get (A := rsK S n k.toNat) hAπk hS.2.2.2.2.2.2.2.2.2 vπk_2) (by omega) (by omega)) hS.2.2.2.2.2.2.2.2.2.1 rfl rfl (Nat.le_of_ble_eq_true rfl) (by decide) ⟨Nat.le_refl _, Nat.le_refl _⟩ (fun μ7 hμ7 => ?_)
        obtain ⟨π7, hc7, he7, ho7⟩ := Chg.one (S := fun c => c = r + 17) (R := PS.putc (rsK S n k.toNat) ((n : Int) - k) (fi (((100 * (v2 % 101)) % 101) * (ivI k)))) hAπk hS.2.2.2.2.2.2.2.2.2 (by first | omega | (dsimp only; omega)) hμ7
        have hA7 := hc7.1
        have hch7 := hchπk.trans hc7
        have v7_0 : π7 (r + 3) = π (r + 3) := (ho7 (r + 3) (by omega)).trans vπk_0
        have v7_1 : π7 (r + 15) = π (r + 15) := (ho7 (r + 15) (by omega)).trans vπk_1
        have w8 : π7 (r + 17) = rsK S n (k + 1).toNat := he7.trans (nwt_end (by omega) hf2)
        refine v_iinc hx DX7_applyNewton_99 1 rfl [(2, iv (k + 1)), (3, iv v2), (1, iv (n : Int)), (0, .ref r)] rfl (by decide) ?_
        refine v_goto hx DX7_applyNewton_102 ?_
        exact v_sub [0, 2, 3] _ rfl (ih (k + 1) μ7 π7 (by omega) hch7 v7_0 v7_1 w8 (by omega))
  refine v_aload hx DX7_applyNewton_0 0 rfl ?_
  refine v_get hx DX7_applyNewton_1 FLRX7_18 hS.1 (v := .ref (r + 3)) rfl ?_
  refine v_get hx DX7_applyNewton_4 FLRX7_64 hS.2.2.1.1 (fv_i rfl ((AB.get (A := π (r + 3)) hA hS.2.2.1 rfl).2) : _ = iv (((π (r + 3)).size : Int) - 1)) ?_
  refine v_top (z' := (n : Int)) (by omega) ?_
  refine v_istore hx DX7_applyNewton_7 [(1, iv (n : Int)), (0, .ref r)] rfl (by decide) ?_
  refine v_aload hx DX7_applyNewton_8 1 rfl ?_
  refine v_get hx DX7_applyNewton_9 FLRX7_39 hS.1 (v := .ref (r + 17)) rfl ?_
  refine v_cVv hx DX7_applyNewton_12 CVRX7_81 [] (s_clear l G Λ sz μ hS.2.2.2.2.2.2.2.2.2 (AB.get (A := π (r + 17)) hA hS.2.2.2.2.2.2.2.2.2 rfl)) hS.2.2.2.2.2.2.2.2.2.1 rfl rfl (Nat.le_of_ble_eq_true rfl) (by decide) ⟨Nat.le_refl _, Nat.le_refl _⟩ (fun μ9 hμ9 => ?_)
  obtain ⟨π9, hc9, he9, ho9⟩ := Chg.one (S := fun c => c = r + 17) (R := PS.zero) hA hS.2.2.2.2.2.2.2.2.2 (by first | omega | (dsimp only; omega)) hμ9
  have hA9 := hc9.1
  have hch9 := hch0.trans hc9
  have v9_0 : π9 (r + 3) = π (r + 3) := (ho9 (r + 3) (by omega)).trans rfl
  have v9_1 : π9 (r + 15) = π (r + 15) := (ho9 (r + 15) (by omega)).trans rfl
  refine v_aload hx DX7_applyNewton_15 1 rfl ?_
  refine v_get hx DX7_applyNewton_16 FLRX7_39 hS.1 (v := .ref (r + 17)) rfl ?_
  refine v_iload hx DX7_applyNewton_19 0 rfl ?_
  refine v_push hx DX7_applyNewton_20 ?_
  refine v_cVv hx DX7_applyNewton_21 CVRX7_88 [iv (n : Int), iv 1] (s_put l G Λ sz μ9 hS.2.2.2.2.2.2.2.2.2 (AB.get (A := PS.zero) hA9 hS.2.2.2.2.2.2.2.2.2 he9) (by omega) (by omega)) hS.2.2.2.2.2.2.2.2.2.1 rfl rfl (Nat.le_of_ble_eq_true rfl) (by decide) ⟨Nat.le_refl _, Nat.le_refl _⟩ (fun μ10 hμ10 => ?_)
  obtain ⟨π10, hc10, he10, ho10⟩ := Chg.one (S := fun c => c = r + 17) (R := PS.putc PS.zero (n : Int) (fi 1)) hA9 hS.2.2.2.2.2.2.2.2.2 (by first | omega | (dsimp only; omega)) hμ10
  have hA10 := hc10.1
  have hch10 := hch9.trans hc10
  have v10_0 : π10 (r + 3) = π (r + 3) := (ho10 (r + 3) (by omega)).trans v9_0
  have v10_1 : π10 (r + 15) = π (r + 15) := (ho10 (r + 15) (by omega)).trans v9_1
  have w11 : π10 (r + 17) = rsK S n (1 : Int).toNat := he10.trans (by rw [PS.zero_put1 (by omega)]; exact (rsK_one S n).symm)
  refine v_push hx DX7_applyNewton_24 ?_
  refine v_istore hx DX7_applyNewton_25 [(2, iv 1), (1, iv (n : Int)), (0, .ref r)] rfl (by decide) ?_
  exact v_sub [0, 1, 2] _ rfl (L26 100 1 μ10 π10 (by omega) hch10 v10_0 v10_1 w11 (by omega))
theorem c_rcompute (l : Launch) (G : Gl) (Λ : Lay) (sz : Nat) (μ : Mem) {π : Nat → PS} {r κ f : Nat} (hA : AB Λ μ π) (hI : INV G Λ) (hK : kitK Λ κ) (hS : resK Λ r κ) (hord : κ + 16 < r) (hF : fracK Λ f) (hof : κ + 16 < f ∧ f + 4 < r) (hD : RDP (π (f + 1)) (π (f + 3))) (hz : (π (f + 1)).size ≤ 24 ∧ (π (f + 3)).size ≤ 20) (hsq : ∀ P : PS, P.irr → P.dvd (π (f + 3)) → ¬ P.dvd (π (f + 3)).der) : Sp l G yX7_compute cX7_compute 3 none 4 [.ref r, .ref f] Λ sz μ (pV (fun μ' => ∃ π', Chg Λ (fun c => (r < c ∧ c < r + 19) ∨ (κ < c ∧ c < κ + 17)) μ μ' π π' ∧ π' (r + 1) = π (f + 1) ∧ π' (r + 3) = π (f + 3) ∧ π' (r + 5) = (π (f + 3)).der ∧ π' (r + 17) = rsP (π (f + 1)) (π (f + 3)))) := by
  refine Sp.intro (by decide) (Nat.le_of_ble_eq_true rfl) (fun x hx hBD => ?_)
  refine v_lv [(0, .ref r), (1, .ref f)] rfl ?_
  obtain ⟨fa, fs, s0, smn, -⟩ := hD
  obtain ⟨n, hn1⟩ : ∃ n, (π (f + 3)).size = n + 1 := ⟨(π (f + 3)).size - 1, by have := PS.fpos fs s0; omega⟩
  have zs : (π (f + 3)).isz (n + 1) := by have := PS.fisz fs; rw [hn1] at this; exact this
  have hm1 : (π (f + 3)) n = 1 := by have := smn; unfold PS.mnc at this; rw [hn1] at this; exact this
  have rz := PS.size_le (rt_lt zs fa s0)
  have hch0 : Chg Λ (fun c => (r < c ∧ c < r + 19) ∨ (κ < c ∧ c < κ + 17)) μ μ π π := Chg.rf hA
  have L115 : ∀ (nf : Nat) (k : Int) (T : PS) (m : Mem) (πk : Nat → PS), ((n : Int) - k + 1 < (nf : Int)) → (Chg Λ (fun c => (r < c ∧ c < r + 19) ∨ (κ < c ∧ c < κ + 17)) μ m π πk) → (πk (f + 1) = π (f + 1)) → (πk (f + 3) = π (f + 3)) → (πk (r + 1) = π (f + 1)) → (πk (r + 3) = π (f + 3)) → (πk (r + 5) = (π (f + 3)).der) → (πk (r + 7) = rtP (π (f + 1)) (π (f + 3))) → (πk (r + 9) = pkP (π (f + 1)) (π (f + 3)) (k - 1).toNat) → (πk (r + 15) = T) → (1 ≤ k ∧ k ≤ n + 1) → (1 ≤ n) → (∀ j : Nat, 1 ≤ j → (j : Int) < k → T j = rsS (π (f + 1)) (π (f + 3)) j) → V G x (0, 0) Λ sz m 115 [(2, iv k), (0, .ref r), (1, .ref f)] [] := by
    intro nf
    induction nf with
    | zero => intro k T m πk hm hchπk vπk_0 vπk_1 vπk_2 vπk_3 vπk_4 vπk_5 vπk_6 vπk_7 hk hn2 hT; exact absurd hm (by omega)
    | succ nf ih =>
      intro k T m πk hm hchπk vπk_0 vπk_1 vπk_2 vπk_3 vπk_4 vπk_5 vπk_6 vπk_7 hk hn2 hT
      have hAπk := hchπk.1
      have pz := PS.size_le (pkP_lt zs fa s0 hn2 (k - 1).toNat)
      refine v_iload hx DX7_compute_115 0 rfl ?_
      refine v_aload hx DX7_compute_116 1 rfl ?_
      refine v_get hx DX7_compute_117 FLRX7_18 hS.1 (v := .ref (r + 3)) rfl ?_
      refine v_get hx DX7_compute_120 FLRX7_64 hS.2.2.1.1 (fv_i rfl ((AB.get (A := π (f + 3)) hAπk hS.2.2.1 vπk_3).2) : _ = iv (((π (f + 3)).size : Int) - 1)) ?_
      refine v_icmp_gt hx DX7_compute_123 (by omega) (by omega) (fun c123 => ?_) (fun c123 => ?_)
      · skip
        refine v_aload hx DX7_compute_181 1 rfl ?_
        refine v_cVv hx DX7_compute_182 CVRX7_92 [] (c_newton (n := n) (S := rsS (π (f + 1)) (π (f + 3))) l G Λ sz m hAπk hI hK hS hord (by rw [vπk_3]; exact hn1) (by omega) (fun j h0 h1 => by rw [vπk_7]; exact hT j h0 (by omega))) hS.1 rfl rfl (Nat.le_of_ble_eq_true rfl) (by decide) ⟨Nat.le_refl _, Nat.le_refl _⟩ (fun μ1 hμ1 => ?_)
        obtain ⟨π1, hc1, he1_0⟩ := hμ1
        have hA1 := hc1.1
        have hch1 := hchπk.trans (hc1.mono (fun c hc => by first | omega | (dsimp only at hc ⊢; omega)))
        have v1_0 : π1 (f + 1) = π (f + 1) := (hc1.2.1 (f + 1) (by first | omega | (dsimp only; omega))).trans vπk_0
        have v1_1 : π1 (f + 3) = π (f + 3) := (hc1.2.1 (f + 3) (by first | omega | (dsimp only; omega))).trans vπk_1
        have v1_2 : π1 (r + 1) = π (f + 1) := (hc1.2.1 (r + 1) (by first | omega | (dsimp only; omega))).trans vπk_2
        have v1_3 : π1 (r + 3) = π (f + 3) := (hc1.2.1 (r + 3) (by first | omega | (dsimp only; omega))).trans vπk_3
        have v1_4 : π1 (r + 5) = (π (f + 3)).der := (hc1.2.1 (r + 5) (by first | omega | (dsimp only; omega))).trans vπk_4
        have v1_5 : π1 (r + 7) = rtP (π (f + 1)) (π (f + 3)) := (hc1.2.1 (r + 7) (by first | omega | (dsimp only; omega))).trans vπk_5
        have v1_6 : π1 (r + 9) = pkP (π (f + 1)) (π (f + 3)) (k - 1).toNat := (hc1.2.1 (r + 9) (by first | omega | (dsimp only; omega))).trans vπk_6
        have v1_7 : π1 (r + 15) = T := (hc1.2.1 (r + 15) (by first | omega | (dsimp only; omega))).trans vπk_7
        have g1_0 : π1 (r + 17) = rsP (π (f + 1)) (π (f + 3)) := he1_0.trans (by unfold rsP; rw [hn1]; rfl)
        exact v_rv hx hBD DX7_compute_185 (⟨π1, hch1, v1_2, v1_3, v1_4, g1_0⟩)
      · skip
        refine v_aload hx DX7_compute_126 1 rfl ?_
        refine v_get hx DX7_compute_127 FLRX7_30 hS.1 (v := .ref (r + 11)) rfl ?_
        refine v_aload hx DX7_compute_130 1 rfl ?_
        refine v_get hx DX7_compute_131 FLRX7_27 hS.1 (v := .ref (r + 9)) rfl ?_
        refine v_aload hx DX7_compute_134 1 rfl ?_
        refine v_get hx DX7_compute_135 FLRX7_24 hS.1 (v := .ref (r + 7)) rfl ?_
        refine v_cVv hx DX7_compute_138 CVRX7_74 [.ref (r + 9), .ref (r + 7)] (s_product l G Λ sz m hS.2.2.2.2.2.2.1 hS.2.2.2.2.2.1 hS.2.2.2.2.1 (by omega) (by omega) (AB.get (A := πk (r + 11)) hAπk hS.2.2.2.2.2.2.1 rfl) (AB.get (A := pkP (π (f + 1)) (π (f + 3)) (k - 1).toNat) hAπk hS.2.2.2.2.2.1 vπk_6) (AB.get (A := rtP (π (f + 1)) (π (f + 3))) hAπk hS.2.2.2.2.1 vπk_5) (by omega)) hS.2.2.2.2.2.2.1.1 rfl rfl (Nat.le_of_ble_eq_true rfl) (by decide) ⟨Nat.le_refl _, Nat.le_refl _⟩ (fun μ2 hμ2 => ?_)
        obtain ⟨π2, hc2, he2, ho2⟩ := Chg.one (S := fun c => (r < c ∧ c < r + 19) ∨ (κ < c ∧ c < κ + 17)) (R := PS.mul (pkP (π (f + 1)) (π (f + 3)) (k - 1).toNat) (rtP (π (f + 1)) (π (f + 3)))) hAπk hS.2.2.2.2.2.2.1 (by first | omega | (dsimp only; omega)) hμ2
        have hA2 := hc2.1
        have hch2 := hchπk.trans hc2
        have v2_0 : π2 (f + 1) = π (f + 1) := (ho2 (f + 1) (by omega)).trans vπk_0
        have v2_1 : π2 (f + 3) = π (f + 3) := (ho2 (f + 3) (by omega)).trans vπk_1
        have v2_2 : π2 (r + 1) = π (f + 1) := (ho2 (r + 1) (by omega)).trans vπk_2
        have v2_3 : π2 (r + 3) = π (f + 3) := (ho2 (r + 3) (by omega)).trans vπk_3
        have v2_4 : π2 (r + 5) = (π (f + 3)).der := (ho2 (r + 5) (by omega)).trans vπk_4
        have v2_5 : π2 (r + 7) = rtP (π (f + 1)) (π (f + 3)) := (ho2 (r + 7) (by omega)).trans vπk_5
        have v2_6 : π2 (r + 9) = pkP (π (f + 1)) (π (f + 3)) (k - 1).toNat := (ho2 (r + 9) (by omega)).trans vπk_6
        have v2_7 : π2 (r + 15) = T := (ho2 (r + 15) (by omega)).trans vπk_7
        refine v_aload hx DX7_compute_141 1 rfl ?_
        refine v_get hx DX7_compute_142 FLRX7_30 hS.1 (v := .ref (r + 11)) rfl ?_
        refine v_aload hx DX7_compute_145 1 rfl ?_
        refine v_get hx DX7_compute_146 FLRX7_18 hS.1 (v := .ref (r + 3)) rfl ?_
        refine v_cVv hx DX7_compute_149 CVRX7_78 [.ref (r + 3)] (s_reduceBy l G Λ sz μ2 hI hS.2.2.2.2.2.2.1 hS.2.2.1 (by omega) (AB.get (A := PS.mul (pkP (π (f + 1)) (π (f + 3)) (k - 1).toNat) (rtP (π (f + 1)) (π (f + 3)))) hA2 hS.2.2.2.2.2.2.1 he2) (AB.get (A := π (f + 3)) hA2 hS.2.2.1 v2_3) s0) hS.2.2.2.2.2.2.1.1 rfl rfl (Nat.le_of_ble_eq_true rfl) (by decide) ⟨Nat.le_refl _, Nat.le_refl _⟩ (fun μ3 hμ3 => ?_)
        obtain ⟨π3, hc3, he3, ho3⟩ := Chg.one (S := fun c => (r < c ∧ c < r + 19) ∨ (κ < c ∧ c < κ + 17)) (R := PS.md (PS.mul (pkP (π (f + 1)) (π (f + 3)) (k - 1).toNat) (rtP (π (f + 1)) (π (f + 3)))) (π (f + 3))) hA2 hS.2.2.2.2.2.2.1 (by first | omega | (dsimp only; omega)) hμ3
        have hA3 := hc3.1
        have hch3 := hch2.trans hc3
        have v3_0 : π3 (f + 1) = π (f + 1) := (ho3 (f + 1) (by omega)).trans v2_0
        have v3_1 : π3 (f + 3) = π (f + 3) := (ho3 (f + 3) (by omega)).trans v2_1
        have v3_2 : π3 (r + 1) = π (f + 1) := (ho3 (r + 1) (by omega)).trans v2_2
        have v3_3 : π3 (r + 3) = π (f + 3) := (ho3 (r + 3) (by omega)).trans v2_3
        have v3_4 : π3 (r + 5) = (π (f + 3)).der := (ho3 (r + 5) (by omega)).trans v2_4
        have v3_5 : π3 (r + 7) = rtP (π (f + 1)) (π (f + 3)) := (ho3 (r + 7) (by omega)).trans v2_5
        have v3_6 : π3 (r + 9) = pkP (π (f + 1)) (π (f + 3)) (k - 1).toNat := (ho3 (r + 9) (by omega)).trans v2_6
        have v3_7 : π3 (r + 15) = T := (ho3 (r + 15) (by omega)).trans v2_7
        have w4 : π3 (r + 11) = pkP (π (f + 1)) (π (f + 3)) k.toNat := he3.trans (by rw [show k.toNat = (k - 1).toNat + 1 by omega]; rfl)
        refine v_aload hx DX7_compute_152 1 rfl ?_
        refine v_get hx DX7_compute_153 FLRX7_27 hS.1 (v := .ref (r + 9)) rfl ?_
        refine v_aload hx DX7_compute_156 1 rfl ?_
        refine v_get hx DX7_compute_157 FLRX7_30 hS.1 (v := .ref (r + 11)) rfl ?_
        refine v_cVv hx DX7_compute_160 CVRX7_51 [.ref (r + 11)] (s_become l G Λ sz μ3 hS.2.2.2.2.2.1 hS.2.2.2.2.2.2.1 (by omega) (AB.get (A := pkP (π (f + 1)) (π (f + 3)) (k - 1).toNat) hA3 hS.2.2.2.2.2.1 v3_6) (AB.get (A := pkP (π (f + 1)) (π (f + 3)) k.toNat) hA3 hS.2.2.2.2.2.2.1 w4)) hS.2.2.2.2.2.1.1 rfl rfl (Nat.le_of_ble_eq_true rfl) (by decide) ⟨Nat.le_refl _, Nat.le_refl _⟩ (fun μ5 hμ5 => ?_)
        obtain ⟨π5, hc5, he5, ho5⟩ := Chg.one (S := fun c => (r < c ∧ c < r + 19) ∨ (κ < c ∧ c < κ + 17)) (R := pkP (π (f + 1)) (π (f + 3)) k.toNat) hA3 hS.2.2.2.2.2.1 (by first | omega | (dsimp only; omega)) hμ5
        have hA5 := hc5.1
        have hch5 := hch3.trans hc5
        have v5_0 : π5 (f + 1) = π (f + 1) := (ho5 (f + 1) (by omega)).trans v3_0
        have v5_1 : π5 (f + 3) = π (f + 3) := (ho5 (f + 3) (by omega)).trans v3_1
        have v5_2 : π5 (r + 1) = π (f + 1) := (ho5 (r + 1) (by omega)).trans v3_2
        have v5_3 : π5 (r + 3) = π (f + 3) := (ho5 (r + 3) (by omega)).trans v3_3
        have v5_4 : π5 (r + 5) = (π (f + 3)).der := (ho5 (r + 5) (by omega)).trans v3_4
        have v5_5 : π5 (r + 7) = rtP (π (f + 1)) (π (f + 3)) := (ho5 (r + 7) (by omega)).trans v3_5
        have v5_7 : π5 (r + 15) = T := (ho5 (r + 15) (by omega)).trans v3_7
        have v5_8 : π5 (r + 11) = pkP (π (f + 1)) (π (f + 3)) k.toNat := (ho5 (r + 11) (by omega)).trans w4
        refine v_aload hx DX7_compute_163 1 rfl ?_
        refine v_get hx DX7_compute_164 FLRX7_36 hS.1 (v := .ref (r + 15)) rfl ?_
        refine v_iload hx DX7_compute_167 0 rfl ?_
        refine v_aload hx DX7_compute_168 1 rfl ?_
        refine v_cVi hx DX7_compute_169 CVRX7_84 [] (c_rtrace (n := n) l G Λ sz μ5 hA5 hI hK hS hord (by rw [v5_3]; exact zs) (by rw [v5_3]; exact hm1) (by omega) (by rw [v5_8]; exact pkP_lt zs fa s0 (by omega) _)) hS.1 rfl rfl (Nat.le_of_ble_eq_true rfl) (by decide) ⟨Nat.le_refl _, Nat.le_refl _⟩ (fun z6 μ6 hμ6 => ?_)
        obtain ⟨π6, hc6, hzz⟩ := hμ6
        have hA6 := hc6.1
        have hch6 := hch5.trans (hc6.mono (fun c hc => by first | omega | (dsimp only at hc ⊢; omega)))
        have v6_0 : π6 (f + 1) = π (f + 1) := (hc6.2.1 (f + 1) (by first | omega | (dsimp only; omega))).trans v5_0
        have v6_1 : π6 (f + 3) = π (f + 3) := (hc6.2.1 (f + 3) (by first | omega | (dsimp only; omega))).trans v5_1
        have v6_2 : π6 (r + 1) = π (f + 1) := (hc6.2.1 (r + 1) (by first | omega | (dsimp only; omega))).trans v5_2
        have v6_3 : π6 (r + 3) = π (f + 3) := (hc6.2.1 (r + 3) (by first | omega | (dsimp only; omega))).trans v5_3
        have v6_4 : π6 (r + 5) = (π (f + 3)).der := (hc6.2.1 (r + 5) (by first | omega | (dsimp only; omega))).trans v5_4
        have v6_5 : π6 (r + 7) = rtP (π (f + 1)) (π (f + 3)) := (hc6.2.1 (r + 7) (by first | omega | (dsimp only; omega))).trans v5_5
        have v6_6 : π6 (r + 15) = T := (hc6.2.1 (r + 15) (by first | omega | (dsimp only; omega))).trans v5_7
        have v6_8 : π6 (r + 9) = pkP (π (f + 1)) (π (f + 3)) k.toNat := (hc6.2.1 (r + 9) (by first | omega | (dsimp only; omega))).trans he5
        rw [hzz, v5_8, v5_3]
        have tv := (trc (π (f + 3)) n (pkP (π (f + 1)) (π (f + 3)) k.toNat)).isLt
        refine v_cVv hx DX7_compute_172 CVRX7_88 [iv k, iv ((trc (π (f + 3)) n (pkP (π (f + 1)) (π (f + 3)) k.toNat)).val : Int)] (s_put l G Λ sz μ6 hS.2.2.2.2.2.2.2.2.1 (AB.get (A := T) hA6 hS.2.2.2.2.2.2.2.2.1 v6_6) (by omega) (by omega)) hS.2.2.2.2.2.2.2.2.1.1 rfl rfl (Nat.le_of_ble_eq_true rfl) (by decide) ⟨Nat.le_refl _, Nat.le_refl _⟩ (fun μ7 hμ7 => ?_)
        obtain ⟨π7, hc7, he7, ho7⟩ := Chg.one (S := fun c => (r < c ∧ c < r + 19) ∨ (κ < c ∧ c < κ + 17)) (R := PS.putc T k (fi ((trc (π (f + 3)) n (pkP (π (f + 1)) (π (f + 3)) k.toNat)).val : Int))) hA6 hS.2.2.2.2.2.2.2.2.1 (by first | omega | (dsimp only; omega)) hμ7
        have hA7 := hc7.1
        have hch7 := hch6.trans hc7
        have v7_0 : π7 (f + 1) = π (f + 1) := (ho7 (f + 1) (by omega)).trans v6_0
        have v7_1 : π7 (f + 3) = π (f + 3) := (ho7 (f + 3) (by omega)).trans v6_1
        have v7_2 : π7 (r + 1) = π (f + 1) := (ho7 (r + 1) (by omega)).trans v6_2
        have v7_3 : π7 (r + 3) = π (f + 3) := (ho7 (r + 3) (by omega)).trans v6_3
        have v7_4 : π7 (r + 5) = (π (f + 3)).der := (ho7 (r + 5) (by omega)).trans v6_4
        have v7_5 : π7 (r + 7) = rtP (π (f + 1)) (π (f + 3)) := (ho7 (r + 7) (by omega)).trans v6_5
        have v7_7 : π7 (r + 9) = pkP (π (f + 1)) (π (f + 3)) k.toNat := (ho7 (r + 9) (by omega)).trans v6_8
        refine v_iinc hx DX7_compute_175 0 rfl [(2, iv (k + 1)), (0, .ref r), (1, .ref f)] rfl (by decide) ?_
        refine v_goto hx DX7_compute_178 ?_
        exact v_sub [0, 1, 2] _ rfl (ih (k + 1) (PS.putc T k (fi ((trc (π (f + 3)) n (pkP (π (f + 1)) (π (f + 3)) k.toNat)).val : Int))) μ7 π7 (by omega) hch7 v7_0 v7_1 v7_2 v7_3 v7_4 v7_5 (v7_7.trans (by rw [show k.toNat = (k + 1 - 1).toNat by omega])) he7 (by omega) hn2 (fun j h0 h1 => rs_put hk hn1 hT j h0 h1))
  refine v_aload hx DX7_compute_0 0 rfl ?_
  refine v_get hx DX7_compute_1 FLRX7_12 hS.1 (v := .ref (r + 1)) rfl ?_
  refine v_aload hx DX7_compute_4 1 rfl ?_
  refine v_get hx DX7_compute_5 FLRX7_46 hF.1 (v := .ref (f + 1)) rfl ?_
  refine v_cVv hx DX7_compute_8 CVRX7_51 [.ref (f + 1)] (s_become l G Λ sz μ hS.2.1 hF.2.1 (by omega) (AB.get (A := π (r + 1)) hA hS.2.1 rfl) (AB.get (A := π (f + 1)) hA hF.2.1 rfl)) hS.2.1.1 rfl rfl (Nat.le_of_ble_eq_true rfl) (by decide) ⟨Nat.le_refl _, Nat.le_refl _⟩ (fun μ8 hμ8 => ?_)
  obtain ⟨π8, hc8, he8, ho8⟩ := Chg.one (S := fun c => (r < c ∧ c < r + 19) ∨ (κ < c ∧ c < κ + 17)) (R := π (f + 1)) hA hS.2.1 (by first | omega | (dsimp only; omega)) hμ8
  have hA8 := hc8.1
  have hch8 := hch0.trans hc8
  have v8_0 : π8 (f + 1) = π (f + 1) := (ho8 (f + 1) (by omega)).trans rfl
  have v8_1 : π8 (f + 3) = π (f + 3) := (ho8 (f + 3) (by omega)).trans rfl
  refine v_aload hx DX7_compute_11 0 rfl ?_
  refine v_get hx DX7_compute_12 FLRX7_18 hS.1 (v := .ref (r + 3)) rfl ?_
  refine v_aload hx DX7_compute_15 1 rfl ?_
  refine v_get hx DX7_compute_16 FLRX7_55 hF.1 (v := .ref (f + 3)) rfl ?_
  refine v_cVv hx DX7_compute_19 CVRX7_51 [.ref (f + 3)] (s_become l G Λ sz μ8 hS.2.2.1 hF.2.2 (by omega) (AB.get (A := π8 (r + 3)) hA8 hS.2.2.1 rfl) (AB.get (A := π (f + 3)) hA8 hF.2.2 v8_1)) hS.2.2.1.1 rfl rfl (Nat.le_of_ble_eq_true rfl) (by decide) ⟨Nat.le_refl _, Nat.le_refl _⟩ (fun μ9 hμ9 => ?_)
  obtain ⟨π9, hc9, he9, ho9⟩ := Chg.one (S := fun c => (r < c ∧ c < r + 19) ∨ (κ < c ∧ c < κ + 17)) (R := π (f + 3)) hA8 hS.2.2.1 (by first | omega | (dsimp only; omega)) hμ9
  have hA9 := hc9.1
  have hch9 := hch8.trans hc9
  have v9_0 : π9 (f + 1) = π (f + 1) := (ho9 (f + 1) (by omega)).trans v8_0
  have v9_1 : π9 (f + 3) = π (f + 3) := (ho9 (f + 3) (by omega)).trans v8_1
  have v9_2 : π9 (r + 1) = π (f + 1) := (ho9 (r + 1) (by omega)).trans he8
  refine v_aload hx DX7_compute_22 0 rfl ?_
  refine v_get hx DX7_compute_23 FLRX7_21 hS.1 (v := .ref (r + 5)) rfl ?_
  refine v_aload hx DX7_compute_26 0 rfl ?_
  refine v_get hx DX7_compute_27 FLRX7_18 hS.1 (v := .ref (r + 3)) rfl ?_
  refine v_cVv hx DX7_compute_30 CVRX7_58 [.ref (r + 3)] (s_slope l G Λ sz μ9 hS.2.2.2.1 hS.2.2.1 (by omega) (AB.get (A := π9 (r + 5)) hA9 hS.2.2.2.1 rfl) (AB.get (A := π (f + 3)) hA9 hS.2.2.1 he9)) hS.2.2.2.1.1 rfl rfl (Nat.le_of_ble_eq_true rfl) (by decide) ⟨Nat.le_refl _, Nat.le_refl _⟩ (fun μ10 hμ10 => ?_)
  obtain ⟨π10, hc10, he10, ho10⟩ := Chg.one (S := fun c => (r < c ∧ c < r + 19) ∨ (κ < c ∧ c < κ + 17)) (R := PS.der (π (f + 3))) hA9 hS.2.2.2.1 (by first | omega | (dsimp only; omega)) hμ10
  have hA10 := hc10.1
  have hch10 := hch9.trans hc10
  have v10_0 : π10 (f + 1) = π (f + 1) := (ho10 (f + 1) (by omega)).trans v9_0
  have v10_1 : π10 (f + 3) = π (f + 3) := (ho10 (f + 3) (by omega)).trans v9_1
  have v10_2 : π10 (r + 1) = π (f + 1) := (ho10 (r + 1) (by omega)).trans v9_2
  have v10_3 : π10 (r + 3) = π (f + 3) := (ho10 (r + 3) (by omega)).trans he9
  refine v_aload hx DX7_compute_33 0 rfl ?_
  refine v_get hx DX7_compute_34 FLRX7_39 hS.1 (v := .ref (r + 17)) rfl ?_
  refine v_push hx DX7_compute_37 ?_
  refine v_cVv hx DX7_compute_38 CVRX7_60 [iv 1] (s_setNumber l G Λ sz μ10 hS.2.2.2.2.2.2.2.2.2 (AB.get (A := π10 (r + 17)) hA10 hS.2.2.2.2.2.2.2.2.2 rfl) (by omega)) hS.2.2.2.2.2.2.2.2.2.1 rfl rfl (Nat.le_of_ble_eq_true rfl) (by decide) ⟨Nat.le_refl _, Nat.le_refl _⟩ (fun μ11 hμ11 => ?_)
  obtain ⟨π11, hc11, he11, ho11⟩ := Chg.one (S := fun c => (r < c ∧ c < r + 19) ∨ (κ < c ∧ c < κ + 17)) (R := PS.C (fi 1)) hA10 hS.2.2.2.2.2.2.2.2.2 (by first | omega | (dsimp only; omega)) hμ11
  have hA11 := hc11.1
  have hch11 := hch10.trans hc11
  have v11_0 : π11 (f + 1) = π (f + 1) := (ho11 (f + 1) (by omega)).trans v10_0
  have v11_1 : π11 (f + 3) = π (f + 3) := (ho11 (f + 3) (by omega)).trans v10_1
  have v11_2 : π11 (r + 1) = π (f + 1) := (ho11 (r + 1) (by omega)).trans v10_2
  have v11_3 : π11 (r + 3) = π (f + 3) := (ho11 (r + 3) (by omega)).trans v10_3
  have v11_4 : π11 (r + 5) = PS.der (π (f + 3)) := (ho11 (r + 5) (by omega)).trans he10
  refine v_aload hx DX7_compute_41 0 rfl ?_
  refine v_get hx DX7_compute_42 FLRX7_18 hS.1 (v := .ref (r + 3)) rfl ?_
  refine v_get hx DX7_compute_45 FLRX7_64 hS.2.2.1.1 (fv_i rfl ((AB.get (A := π (f + 3)) hA11 hS.2.2.1 v11_3).2) : _ = iv (((π (f + 3)).size : Int) - 1)) ?_
  refine v_push hx DX7_compute_48 ?_
  refine v_icmp_ge hx DX7_compute_49 (by omega) (by decide) (fun c49 => ?_) (fun c49 => ?_)
  · skip
    refine v_aload hx DX7_compute_53 0 rfl ?_
    refine v_get hx DX7_compute_54 FLRX7_42 hS.1 (v := .ref κ) rfl ?_
    refine v_aload hx DX7_compute_57 0 rfl ?_
    refine v_get hx DX7_compute_58 FLRX7_21 hS.1 (v := .ref (r + 5)) rfl ?_
    refine v_aload hx DX7_compute_61 0 rfl ?_
    refine v_get hx DX7_compute_62 FLRX7_18 hS.1 (v := .ref (r + 3)) rfl ?_
    refine v_aload hx DX7_compute_65 0 rfl ?_
    refine v_get hx DX7_compute_66 FLRX7_30 hS.1 (v := .ref (r + 11)) rfl ?_
    refine v_cVv hx DX7_compute_69 CVRX7_68 [.ref (r + 5), .ref (r + 3), .ref (r + 11)] (q_invert l G Λ sz μ11 hA11 hI hK hS.2.2.2.1 hS.2.2.1 hS.2.2.2.2.2.2.1 (by omega) (by omega) (by omega) (by rw [v11_3]; omega)) hK.1 rfl rfl (Nat.le_of_ble_eq_true rfl) (by decide) ⟨Nat.le_refl _, Nat.le_refl _⟩ (fun μ12 hμ12 => ?_)
    obtain ⟨π12, hc12, he12_0⟩ := hμ12
    have hA12 := hc12.1
    have hch12 := hch11.trans (hc12.mono (fun c hc => by first | omega | (dsimp only at hc ⊢; omega)))
    have v12_0 : π12 (f + 1) = π (f + 1) := (hc12.2.1 (f + 1) (by first | omega | (dsimp only; omega))).trans v11_0
    have v12_1 : π12 (f + 3) = π (f + 3) := (hc12.2.1 (f + 3) (by first | omega | (dsimp only; omega))).trans v11_1
    have v12_2 : π12 (r + 1) = π (f + 1) := (hc12.2.1 (r + 1) (by first | omega | (dsimp only; omega))).trans v11_2
    have v12_3 : π12 (r + 3) = π (f + 3) := (hc12.2.1 (r + 3) (by first | omega | (dsimp only; omega))).trans v11_3
    have v12_4 : π12 (r + 5) = PS.der (π (f + 3)) := (hc12.2.1 (r + 5) (by first | omega | (dsimp only; omega))).trans v11_4
    have v12_5 : π12 (r + 17) = PS.C (fi 1) := (hc12.2.1 (r + 17) (by first | omega | (dsimp only; omega))).trans he11
    have g12_0 : π12 (r + 11) = ((π (f + 3)).der).inv (π (f + 3)) := he12_0.trans (by rw [v11_4, v11_3])
    refine v_aload hx DX7_compute_72 0 rfl ?_
    refine v_get hx DX7_compute_73 FLRX7_24 hS.1 (v := .ref (r + 7)) rfl ?_
    refine v_aload hx DX7_compute_76 0 rfl ?_
    refine v_get hx DX7_compute_77 FLRX7_12 hS.1 (v := .ref (r + 1)) rfl ?_
    refine v_aload hx DX7_compute_80 0 rfl ?_
    refine v_get hx DX7_compute_81 FLRX7_30 hS.1 (v := .ref (r + 11)) rfl ?_
    refine v_cVv hx DX7_compute_84 CVRX7_74 [.ref (r + 1), .ref (r + 11)] (s_product l G Λ sz μ12 hS.2.2.2.2.1 hS.2.1 hS.2.2.2.2.2.2.1 (by omega) (by omega) (AB.get (A := π12 (r + 7)) hA12 hS.2.2.2.2.1 rfl) (AB.get (A := π (f + 1)) hA12 hS.2.1 v12_2) (AB.get (A := ((π (f + 3)).der).inv (π (f + 3))) hA12 hS.2.2.2.2.2.2.1 g12_0) (by have := PS.size_le (PS.inv_spec fs (PS.fin_der fs) (by omega) (by omega) hsq).1; omega)) hS.2.2.2.2.1.1 rfl rfl (Nat.le_of_ble_eq_true rfl) (by decide) ⟨Nat.le_refl _, Nat.le_refl _⟩ (fun μ13 hμ13 => ?_)
    obtain ⟨π13, hc13, he13, ho13⟩ := Chg.one (S := fun c => (r < c ∧ c < r + 19) ∨ (κ < c ∧ c < κ + 17)) (R := PS.mul (π (f + 1)) (((π (f + 3)).der).inv (π (f + 3)))) hA12 hS.2.2.2.2.1 (by first | omega | (dsimp only; omega)) hμ13
    have hA13 := hc13.1
    have hch13 := hch12.trans hc13
    have v13_0 : π13 (f + 1) = π (f + 1) := (ho13 (f + 1) (by omega)).trans v12_0
    have v13_1 : π13 (f + 3) = π (f + 3) := (ho13 (f + 3) (by omega)).trans v12_1
    have v13_2 : π13 (r + 1) = π (f + 1) := (ho13 (r + 1) (by omega)).trans v12_2
    have v13_3 : π13 (r + 3) = π (f + 3) := (ho13 (r + 3) (by omega)).trans v12_3
    have v13_4 : π13 (r + 5) = PS.der (π (f + 3)) := (ho13 (r + 5) (by omega)).trans v12_4
    have v13_5 : π13 (r + 17) = PS.C (fi 1) := (ho13 (r + 17) (by omega)).trans v12_5
    have v13_6 : π13 (r + 11) = ((π (f + 3)).der).inv (π (f + 3)) := (ho13 (r + 11) (by omega)).trans g12_0
    refine v_aload hx DX7_compute_87 0 rfl ?_
    refine v_get hx DX7_compute_88 FLRX7_24 hS.1 (v := .ref (r + 7)) rfl ?_
    refine v_aload hx DX7_compute_91 0 rfl ?_
    refine v_get hx DX7_compute_92 FLRX7_18 hS.1 (v := .ref (r + 3)) rfl ?_
    refine v_cVv hx DX7_compute_95 CVRX7_78 [.ref (r + 3)] (s_reduceBy l G Λ sz μ13 hI hS.2.2.2.2.1 hS.2.2.1 (by omega) (AB.get (A := PS.mul (π (f + 1)) (((π (f + 3)).der).inv (π (f + 3)))) hA13 hS.2.2.2.2.1 he13) (AB.get (A := π (f + 3)) hA13 hS.2.2.1 v13_3) s0) hS.2.2.2.2.1.1 rfl rfl (Nat.le_of_ble_eq_true rfl) (by decide) ⟨Nat.le_refl _, Nat.le_refl _⟩ (fun μ14 hμ14 => ?_)
    obtain ⟨π14, hc14, he14, ho14⟩ := Chg.one (S := fun c => (r < c ∧ c < r + 19) ∨ (κ < c ∧ c < κ + 17)) (R := PS.md (PS.mul (π (f + 1)) (((π (f + 3)).der).inv (π (f + 3)))) (π (f + 3))) hA13 hS.2.2.2.2.1 (by first | omega | (dsimp only; omega)) hμ14
    have hA14 := hc14.1
    have hch14 := hch13.trans hc14
    have v14_0 : π14 (f + 1) = π (f + 1) := (ho14 (f + 1) (by omega)).trans v13_0
    have v14_1 : π14 (f + 3) = π (f + 3) := (ho14 (f + 3) (by omega)).trans v13_1
    have v14_2 : π14 (r + 1) = π (f + 1) := (ho14 (r + 1) (by omega)).trans v13_2
    have v14_3 : π14 (r + 3) = π (f + 3) := (ho14 (r + 3) (by omega)).trans v13_3
    have v14_4 : π14 (r + 5) = PS.der (π (f + 3)) := (ho14 (r + 5) (by omega)).trans v13_4
    have v14_5 : π14 (r + 17) = PS.C (fi 1) := (ho14 (r + 17) (by omega)).trans v13_5
    have v14_6 : π14 (r + 11) = ((π (f + 3)).der).inv (π (f + 3)) := (ho14 (r + 11) (by omega)).trans v13_6
    have w15 : π14 (r + 7) = rtP (π (f + 1)) (π (f + 3)) := he14.trans rfl
    refine v_aload hx DX7_compute_98 0 rfl ?_
    refine v_get hx DX7_compute_99 FLRX7_27 hS.1 (v := .ref (r + 9)) rfl ?_
    refine v_push hx DX7_compute_102 ?_
    refine v_cVv hx DX7_compute_103 CVRX7_60 [iv 1] (s_setNumber l G Λ sz μ14 hS.2.2.2.2.2.1 (AB.get (A := π14 (r + 9)) hA14 hS.2.2.2.2.2.1 rfl) (by omega)) hS.2.2.2.2.2.1.1 rfl rfl (Nat.le_of_ble_eq_true rfl) (by decide) ⟨Nat.le_refl _, Nat.le_refl _⟩ (fun μ16 hμ16 => ?_)
    obtain ⟨π16, hc16, he16, ho16⟩ := Chg.one (S := fun c => (r < c ∧ c < r + 19) ∨ (κ < c ∧ c < κ + 17)) (R := PS.C (fi 1)) hA14 hS.2.2.2.2.2.1 (by first | omega | (dsimp only; omega)) hμ16
    have hA16 := hc16.1
    have hch16 := hch14.trans hc16
    have v16_0 : π16 (f + 1) = π (f + 1) := (ho16 (f + 1) (by omega)).trans v14_0
    have v16_1 : π16 (f + 3) = π (f + 3) := (ho16 (f + 3) (by omega)).trans v14_1
    have v16_2 : π16 (r + 1) = π (f + 1) := (ho16 (r + 1) (by omega)).trans v14_2
    have v16_3 : π16 (r + 3) = π (f + 3) := (ho16 (r + 3) (by omega)).trans v14_3
    have v16_4 : π16 (r + 5) = PS.der (π (f + 3)) := (ho16 (r + 5) (by omega)).trans v14_4
    have v16_5 : π16 (r + 17) = PS.C (fi 1) := (ho16 (r + 17) (by omega)).trans v14_5
    have v16_6 : π16 (r + 11) = ((π (f + 3)).der).inv (π (f + 3)) := (ho16 (r + 11) (by omega)).trans v14_6
    have v16_7 : π16 (r + 7) = rtP (π (f + 1)) (π (f + 3)) := (ho16 (r + 7) (by omega)).trans w15
    have w17 : π16 (r + 9) = pkP (π (f + 1)) (π (f + 3)) ((1 : Int) - 1).toNat := he16.trans PS.C1
    refine v_aload hx DX7_compute_106 0 rfl ?_
    refine v_get hx DX7_compute_107 FLRX7_36 hS.1 (v := .ref (r + 15)) rfl ?_
    refine v_cVv hx DX7_compute_110 CVRX7_81 [] (s_clear l G Λ sz μ16 hS.2.2.2.2.2.2.2.2.1 (AB.get (A := π16 (r + 15)) hA16 hS.2.2.2.2.2.2.2.2.1 rfl)) hS.2.2.2.2.2.2.2.2.1.1 rfl rfl (Nat.le_of_ble_eq_true rfl) (by decide) ⟨Nat.le_refl _, Nat.le_refl _⟩ (fun μ18 hμ18 => ?_)
    obtain ⟨π18, hc18, he18, ho18⟩ := Chg.one (S := fun c => (r < c ∧ c < r + 19) ∨ (κ < c ∧ c < κ + 17)) (R := PS.zero) hA16 hS.2.2.2.2.2.2.2.2.1 (by first | omega | (dsimp only; omega)) hμ18
    have hA18 := hc18.1
    have hch18 := hch16.trans hc18
    have v18_0 : π18 (f + 1) = π (f + 1) := (ho18 (f + 1) (by omega)).trans v16_0
    have v18_1 : π18 (f + 3) = π (f + 3) := (ho18 (f + 3) (by omega)).trans v16_1
    have v18_2 : π18 (r + 1) = π (f + 1) := (ho18 (r + 1) (by omega)).trans v16_2
    have v18_3 : π18 (r + 3) = π (f + 3) := (ho18 (r + 3) (by omega)).trans v16_3
    have v18_4 : π18 (r + 5) = PS.der (π (f + 3)) := (ho18 (r + 5) (by omega)).trans v16_4
    have v18_5 : π18 (r + 17) = PS.C (fi 1) := (ho18 (r + 17) (by omega)).trans v16_5
    have v18_6 : π18 (r + 11) = ((π (f + 3)).der).inv (π (f + 3)) := (ho18 (r + 11) (by omega)).trans v16_6
    have v18_7 : π18 (r + 7) = rtP (π (f + 1)) (π (f + 3)) := (ho18 (r + 7) (by omega)).trans v16_7
    have v18_8 : π18 (r + 9) = pkP (π (f + 1)) (π (f + 3)) ((1 : Int) - 1).toNat := (ho18 (r + 9) (by omega)).trans w17
    refine v_push hx DX7_compute_113 ?_
    refine v_istore hx DX7_compute_114 [(2, iv 1), (0, .ref r), (1, .ref f)] rfl (by decide) ?_
    exact v_sub [0, 1, 2] _ rfl (L115 100 1 PS.zero μ18 π18 (by omega) hch18 v18_0 v18_1 v18_2 v18_3 v18_4 v18_7 v18_8 he18 (by omega) (by omega) (fun j h0 h1 => absurd h1 (by omega)))
  · skip
    exact v_rv hx hBD DX7_compute_52 (⟨π11, hch11, v11_2, v11_3, v11_4, he11.trans (rs_one (by omega))⟩)
theorem c_logarithms (l : Launch) (G : Gl) (Λ : Lay) (sz : Nat) (μ : Mem) {r κ : Nat} {P : PS} (hI : INV G Λ) (hK : kitK Λ κ) (hS : resK Λ r κ) (hord : κ + 16 < r) (hPr : PA μ (r + 17) P) : Sp l G yX7_logarithms cX7_logarithms 3 (some FieldType.int) 2 [.ref r] Λ sz μ (pP μ (zrN P 101)) := by
  refine Sp.intro (by decide) (Nat.le_of_ble_eq_true rfl) (fun x hx hBD => ?_)
  refine v_lv [(0, .ref r)] rfl ?_
  have L4 : ∀ (nf : Nat) (c z : Int), (101 - c < (nf : Int)) → (0 ≤ c ∧ c ≤ 101) → (z = zrN P c.toNat) → V G x (0, 0) Λ sz μ 4 [(2, iv c), (1, iv z), (0, .ref r)] [] := by
    intro nf
    induction nf with
    | zero => intro c z hm hc hz; exact absurd hm (by omega)
    | succ nf ih =>
      intro c z hm hc hz
      have zr := zrN_rng P c.toNat
      have er := evI_rng P c 0
      refine v_iload hx DX7_logarithms_4 0 rfl ?_
      refine v_push hx DX7_logarithms_5 ?_
      refine v_icmp_ge hx DX7_logarithms_7 (by omega) (by decide) (fun c7 => ?_) (fun c7 => ?_)
      · skip
        refine v_iload hx DX7_logarithms_35 1 rfl ?_
        exact v_ri hx hBD DX7_logarithms_36 (⟨rfl, by rw [hz, show c.toNat = 101 by omega]⟩)
      · skip
        refine v_iload hx DX7_logarithms_10 1 rfl ?_
        refine v_aload hx DX7_logarithms_11 2 rfl ?_
        refine v_get hx DX7_logarithms_12 FLRX7_39 hS.1 (v := .ref (r + 17)) rfl ?_
        refine v_iload hx DX7_logarithms_15 0 rfl ?_
        refine v_cVp hx DX7_logarithms_16 CVRX7_109 [iv c] (s_valueAt l G Λ sz μ hS.2.2.2.2.2.2.2.2.2 hPr (by omega)) hS.2.2.2.2.2.2.2.2.2.1 rfl rfl (Nat.le_of_ble_eq_true rfl) (by decide) ⟨Nat.le_refl _, Nat.le_refl _⟩ ?_
        refine v_if_ne hx DX7_logarithms_19 (by omega) (fun c19 => ?_) (fun c19 => ?_)
        · skip
          refine v_push hx DX7_logarithms_26 ?_
          refine v_iadd hx DX7_logarithms_27 ?_
          refine v_istore hx DX7_logarithms_28 [(1, iv (z + 0)), (2, iv c), (0, .ref r)] rfl (by decide) ?_
          refine v_iinc hx DX7_logarithms_29 1 rfl [(2, iv (c + 1)), (1, iv (z + 0)), (0, .ref r)] rfl (by decide) ?_
          refine v_goto hx DX7_logarithms_32 ?_
          exact v_sub [0, 1, 2] _ rfl (ih (c + 1) (z + 0) (by omega) (by omega) (by rw [zrN_st hc.1, hz]; first | (rw [if_pos (by omega)]) | (rw [if_neg (by omega)])))
        · skip
          refine v_push hx DX7_logarithms_22 ?_
          refine v_goto hx DX7_logarithms_23 ?_
          refine v_iadd hx DX7_logarithms_27 ?_
          refine v_istore hx DX7_logarithms_28 [(1, iv (z + 1)), (2, iv c), (0, .ref r)] rfl (by decide) ?_
          refine v_iinc hx DX7_logarithms_29 1 rfl [(2, iv (c + 1)), (1, iv (z + 1)), (0, .ref r)] rfl (by decide) ?_
          refine v_goto hx DX7_logarithms_32 ?_
          exact v_sub [0, 1, 2] _ rfl (ih (c + 1) (z + 1) (by omega) (by omega) (by rw [zrN_st hc.1, hz]; first | (rw [if_pos (by omega)]) | (rw [if_neg (by omega)])))
  refine v_push hx DX7_logarithms_0 ?_
  refine v_istore hx DX7_logarithms_1 [(1, iv 0), (0, .ref r)] rfl (by decide) ?_
  refine v_push hx DX7_logarithms_2 ?_
  refine v_istore hx DX7_logarithms_3 [(2, iv 0), (1, iv 0), (0, .ref r)] rfl (by decide) ?_
  exact v_sub [0, 1, 2] _ rfl (L4 200 0 0 (by omega) (by omega) rfl)
theorem c_number (l : Launch) (G : Gl) (Λ : Lay) (sz : Nat) (μ : Mem) {r κ : Nat} {j : Int} {P : PS} (hI : INV G Λ) (hK : kitK Λ κ) (hS : resK Λ r κ) (hord : κ + 16 < r) (hPr : PA μ (r + 17) P) (hj : 0 ≤ j ∧ j ≤ 2147483647) : Sp l G yX7_number cX7_number 4 (some FieldType.int) 2 [.ref r, iv j] Λ sz μ (pP μ (zrF P j 101)) := by
  refine Sp.intro (by decide) (Nat.le_of_ble_eq_true rfl) (fun x hx hBD => ?_)
  refine v_lv [(0, .ref r), (1, iv j)] rfl ?_
  have L4 : ∀ (nf : Nat) (c z : Int), (101 - c < (nf : Int)) → (0 ≤ c ∧ c ≤ 101) → (z = zrN P c.toNat) → (zrF P j c.toNat = -1) → V G x (0, 0) Λ sz μ 4 [(3, iv c), (2, iv z), (0, .ref r), (1, iv j)] [] := by
    intro nf
    induction nf with
    | zero => intro c z hm hc hz hn; exact absurd hm (by omega)
    | succ nf ih =>
      intro c z hm hc hz hn
      have zr := zrN_rng P c.toNat
      have er := evI_rng P c 0
      refine v_iload hx DX7_number_4 0 rfl ?_
      refine v_push hx DX7_number_5 ?_
      refine v_icmp_ge hx DX7_number_7 (by omega) (by decide) (fun c7 => ?_) (fun c7 => ?_)
      · skip
        refine v_push hx DX7_number_37 ?_
        exact v_ri hx hBD DX7_number_38 (⟨rfl, by rw [← hn, show c.toNat = 101 by omega]⟩)
      · skip
        refine v_aload hx DX7_number_10 2 rfl ?_
        refine v_get hx DX7_number_11 FLRX7_39 hS.1 (v := .ref (r + 17)) rfl ?_
        refine v_iload hx DX7_number_14 0 rfl ?_
        refine v_cVp hx DX7_number_15 CVRX7_109 [iv c] (s_valueAt l G Λ sz μ hS.2.2.2.2.2.2.2.2.2 hPr (by omega)) hS.2.2.2.2.2.2.2.2.2.1 rfl rfl (Nat.le_of_ble_eq_true rfl) (by decide) ⟨Nat.le_refl _, Nat.le_refl _⟩ ?_
        refine v_if_ne hx DX7_number_18 (by omega) (fun c18 => ?_) (fun c18 => ?_)
        · skip
          refine v_iinc hx DX7_number_31 0 rfl [(3, iv (c + 1)), (2, iv z), (0, .ref r), (1, iv j)] rfl (by decide) ?_
          refine v_goto hx DX7_number_34 ?_
          exact v_sub [0, 1, 2, 3] _ rfl (ih (c + 1) z (by omega) (by omega) (by rw [zrN_st hc.1, hz]; first | (rw [if_pos (by omega)]) | (rw [if_neg (by omega)]; omega)) (zrF_no hc.1 hn (by omega)))
        · skip
          refine v_iload hx DX7_number_21 1 rfl ?_
          refine v_iload hx DX7_number_22 3 rfl ?_
          refine v_icmp_ne hx DX7_number_23 (by omega) (by omega) (fun c23 => ?_) (fun c23 => ?_)
          · skip
            refine v_iinc hx DX7_number_28 1 rfl [(2, iv (z + 1)), (3, iv c), (0, .ref r), (1, iv j)] rfl (by decide) ?_
            refine v_iinc hx DX7_number_31 1 rfl [(3, iv (c + 1)), (2, iv (z + 1)), (0, .ref r), (1, iv j)] rfl (by decide) ?_
            refine v_goto hx DX7_number_34 ?_
            exact v_sub [0, 1, 2, 3] _ rfl (ih (c + 1) (z + 1) (by omega) (by omega) (by rw [zrN_st hc.1, hz]; first | (rw [if_pos (by omega)]) | (rw [if_neg (by omega)]; omega)) (zrF_no hc.1 hn (by omega)))
          · skip
            refine v_iload hx DX7_number_26 0 rfl ?_
            exact v_ri hx hBD DX7_number_27 (⟨rfl, zrF_yes (by omega) hn (by omega) (by omega)⟩)
  refine v_push hx DX7_number_0 ?_
  refine v_istore hx DX7_number_1 [(2, iv 0), (0, .ref r), (1, iv j)] rfl (by decide) ?_
  refine v_push hx DX7_number_2 ?_
  refine v_istore hx DX7_number_3 [(3, iv 0), (2, iv 0), (0, .ref r), (1, iv j)] rfl (by decide) ?_
  exact v_sub [0, 1, 2, 3] _ rfl (L4 200 0 0 (by omega) (by omega) rfl rfl)
theorem c_argument (l : Launch) (G : Gl) (Λ : Lay) (sz : Nat) (μ : Mem) {π : Nat → PS} {r κ o : Nat} {c : Int} (hA : AB Λ μ π) (hI : INV G Λ) (hK : kitK Λ κ) (hS : resK Λ r κ) (hord : κ + 16 < r) (hko : polyK Λ o) (ho : (o < κ ∨ κ + 16 < o) ∧ o ≠ r + 11 ∧ o ≠ r + 3) (hc : 0 ≤ c ∧ c ≤ 100) (hz : (π (r + 5)).size ≤ 48) : Sp l G yX7_argument cX7_argument 3 none 3 [.ref r, iv c, .ref o] Λ sz μ (pV (fun μ' => ∃ π', Chg Λ (fun c => c = o ∨ c = r + 11 ∨ (κ < c ∧ c < κ + 17)) μ μ' π π' ∧ π' o = ((π (r + 1)).add ((π (r + 5)).sm (fi (101 - c)))).gcd (π (r + 3)))) := by
  refine Sp.intro (by decide) (Nat.le_of_ble_eq_true rfl) (fun x hx hBD => ?_)
  refine v_lv [(0, .ref r), (1, iv c), (2, .ref o)] rfl ?_
  have hch0 : Chg Λ (fun c => c = o ∨ c = r + 11 ∨ (κ < c ∧ c < κ + 17)) μ μ π π := Chg.rf hA
  refine v_aload hx DX7_argument_0 0 rfl ?_
  refine v_get hx DX7_argument_1 FLRX7_30 hS.1 (v := .ref (r + 11)) rfl ?_
  refine v_aload hx DX7_argument_4 0 rfl ?_
  refine v_get hx DX7_argument_5 FLRX7_12 hS.1 (v := .ref (r + 1)) rfl ?_
  refine v_cVv hx DX7_argument_8 CVRX7_51 [.ref (r + 1)] (s_become l G Λ sz μ hS.2.2.2.2.2.2.1 hS.2.1 (by omega) (AB.get (A := π (r + 11)) hA hS.2.2.2.2.2.2.1 rfl) (AB.get (A := π (r + 1)) hA hS.2.1 rfl)) hS.2.2.2.2.2.2.1.1 rfl rfl (Nat.le_of_ble_eq_true rfl) (by decide) ⟨Nat.le_refl _, Nat.le_refl _⟩ (fun μ1 hμ1 => ?_)
  obtain ⟨π1, hc1, he1, ho1⟩ := Chg.one (S := fun c => c = o ∨ c = r + 11 ∨ (κ < c ∧ c < κ + 17)) (R := π (r + 1)) hA hS.2.2.2.2.2.2.1 (by first | omega | (dsimp only; omega)) hμ1
  have hA1 := hc1.1
  have hch1 := hch0.trans hc1
  have v1_0 : π1 (r + 1) = π (r + 1) := (ho1 (r + 1) (by omega)).trans rfl
  have v1_1 : π1 (r + 3) = π (r + 3) := (ho1 (r + 3) (by omega)).trans rfl
  have v1_2 : π1 (r + 5) = π (r + 5) := (ho1 (r + 5) (by omega)).trans rfl
  refine v_aload hx DX7_argument_11 0 rfl ?_
  refine v_get hx DX7_argument_12 FLRX7_30 hS.1 (v := .ref (r + 11)) rfl ?_
  refine v_aload hx DX7_argument_15 0 rfl ?_
  refine v_get hx DX7_argument_16 FLRX7_21 hS.1 (v := .ref (r + 5)) rfl ?_
  refine v_push hx DX7_argument_19 ?_
  refine v_iload hx DX7_argument_21 1 rfl ?_
  refine v_isub hx DX7_argument_22 ?_
  refine v_push hx DX7_argument_23 ?_
  refine v_cVv hx DX7_argument_24 CVRX7_102 [.ref (r + 5), iv (101 - c), iv 0] (s_addMultiple l G Λ sz μ1 hS.2.2.2.2.2.2.1 hS.2.2.2.1 (by omega) (AB.get (A := π (r + 1)) hA1 hS.2.2.2.2.2.2.1 he1) (AB.get (A := π (r + 5)) hA1 hS.2.2.2.1 v1_2) (by omega) (by omega) (by have : Int.toNat 0 = 0 := rfl; omega)) hS.2.2.2.2.2.2.1.1 rfl rfl (Nat.le_of_ble_eq_true rfl) (by decide) ⟨Nat.le_refl _, Nat.le_refl _⟩ (fun μ2 hμ2 => ?_)
  obtain ⟨π2, hc2, he2, ho2⟩ := Chg.one (S := fun c => c = o ∨ c = r + 11 ∨ (κ < c ∧ c < κ + 17)) (R := PS.am (π (r + 1)) (π (r + 5)) (fi (101 - c)) (Int.toNat 0)) hA1 hS.2.2.2.2.2.2.1 (by first | omega | (dsimp only; omega)) hμ2
  have hA2 := hc2.1
  have hch2 := hch1.trans hc2
  have v2_0 : π2 (r + 1) = π (r + 1) := (ho2 (r + 1) (by omega)).trans v1_0
  have v2_1 : π2 (r + 3) = π (r + 3) := (ho2 (r + 3) (by omega)).trans v1_1
  have v2_2 : π2 (r + 5) = π (r + 5) := (ho2 (r + 5) (by omega)).trans v1_2
  have w3 : π2 (r + 11) = (π (r + 1)).add ((π (r + 5)).sm (fi (101 - c))) := he2.trans (PS.am0 _ _ _)
  refine v_aload hx DX7_argument_27 0 rfl ?_
  refine v_get hx DX7_argument_28 FLRX7_42 hS.1 (v := .ref κ) rfl ?_
  refine v_aload hx DX7_argument_31 0 rfl ?_
  refine v_get hx DX7_argument_32 FLRX7_30 hS.1 (v := .ref (r + 11)) rfl ?_
  refine v_aload hx DX7_argument_35 0 rfl ?_
  refine v_get hx DX7_argument_36 FLRX7_18 hS.1 (v := .ref (r + 3)) rfl ?_
  refine v_aload hx DX7_argument_39 2 rfl ?_
  refine v_cVv hx DX7_argument_40 CVRX7_112 [.ref (r + 11), .ref (r + 3), .ref o] (q_divisor l G Λ sz μ2 hA2 hI hK hS.2.2.2.2.2.2.1 hS.2.2.1 hko (by omega) (by omega) (by omega)) hK.1 rfl rfl (Nat.le_of_ble_eq_true rfl) (by decide) ⟨Nat.le_refl _, Nat.le_refl _⟩ (fun μ4 hμ4 => ?_)
  obtain ⟨π4, hc4, he4_0⟩ := hμ4
  have hA4 := hc4.1
  have hch4 := hch2.trans (hc4.mono (fun c hc => by first | omega | (dsimp only at hc ⊢; omega)))
  have v4_1 : π4 (r + 3) = π (r + 3) := (hc4.2.1 (r + 3) (by first | omega | (dsimp only; omega))).trans v2_1
  have v4_3 : π4 (r + 11) = (π (r + 1)).add ((π (r + 5)).sm (fi (101 - c))) := (hc4.2.1 (r + 11) (by first | omega | (dsimp only; omega))).trans w3
  have g4_0 : π4 o = ((π (r + 1)).add ((π (r + 5)).sm (fi (101 - c)))).gcd (π (r + 3)) := he4_0.trans (by rw [w3, v2_1])
  exact v_rv hx hBD DX7_argument_43 (⟨π4, hch4, g4_0⟩)
theorem c_openDegree (l : Launch) (G : Gl) (Λ : Lay) (sz : Nat) (μ : Mem) {π : Nat → PS} {r κ : Nat} {a s P : PS} (hA : AB Λ μ π) (hI : INV G Λ) (hK : kitK Λ κ) (hS : resK Λ r κ) (hord : κ + 16 < r) (h1 : π (r + 1) = a) (h3 : π (r + 3) = s) (h5 : π (r + 5) = s.der) (h17 : π (r + 17) = P) (hs0 : s.fin ∧ s ≠ PS.zero ∧ s.size ≤ 40) : Sp l G yX7_openDegree cX7_openDegree 3 (some FieldType.int) 4 [.ref r] Λ sz μ (pI (fun z μ' => ∃ π', Chg Λ (fun c => c = r + 9 ∨ c = r + 11 ∨ (κ < c ∧ c < κ + 17)) μ μ' π π' ∧ z = opN P (lgC a s) ((s.size : Int) - 1) 101)) := by
  refine Sp.intro (by decide) (Nat.le_of_ble_eq_true rfl) (fun x hx hBD => ?_)
  refine v_lv [(0, .ref r)] rfl ?_
  have dz := PS.der_size hs0.1
  have hch0 : Chg Λ (fun c => c = r + 9 ∨ c = r + 11 ∨ (κ < c ∧ c < κ + 17)) μ μ π π := Chg.rf hA
  have L10 : ∀ (nf : Nat) (c z : Int) (m : Mem) (πk : Nat → PS), (101 - c < (nf : Int)) → (Chg Λ (fun c => c = r + 9 ∨ c = r + 11 ∨ (κ < c ∧ c < κ + 17)) μ m π πk) → (πk (r + 1) = a) → (πk (r + 3) = s) → (πk (r + 5) = s.der) → (πk (r + 17) = P) → (0 ≤ c ∧ c ≤ 101) → (z = opN P (lgC a s) ((s.size : Int) - 1) c.toNat) → V G x (0, 0) Λ sz m 10 [(2, iv c), (1, iv z), (0, .ref r)] [] := by
    intro nf
    induction nf with
    | zero => intro c z m πk hm hchπk vπk_0 vπk_1 vπk_2 vπk_3 hc hz; exact absurd hm (by omega)
    | succ nf ih =>
      intro c z m πk hm hchπk vπk_0 vπk_1 vπk_2 vπk_3 hc hz
      have hAπk := hchπk.1
      have er := evI_rng P c 0
      refine v_iload hx DX7_openDegree_10 0 rfl ?_
      refine v_push hx DX7_openDegree_11 ?_
      refine v_icmp_ge hx DX7_openDegree_13 (by omega) (by decide) (fun c13 => ?_) (fun c13 => ?_)
      · skip
        refine v_iload hx DX7_openDegree_52 1 rfl ?_
        exact v_ri hx hBD DX7_openDegree_53 (⟨πk, hchπk, by rw [hz, show c.toNat = 101 by omega]⟩)
      · skip
        refine v_aload hx DX7_openDegree_16 2 rfl ?_
        refine v_get hx DX7_openDegree_17 FLRX7_39 hS.1 (v := .ref (r + 17)) rfl ?_
        refine v_iload hx DX7_openDegree_20 0 rfl ?_
        refine v_cVp hx DX7_openDegree_21 CVRX7_109 [iv c] (s_valueAt l G Λ sz m hS.2.2.2.2.2.2.2.2.2 (AB.get (A := P) hAπk hS.2.2.2.2.2.2.2.2.2 vπk_3) (by omega)) hS.2.2.2.2.2.2.2.2.2.1 rfl rfl (Nat.le_of_ble_eq_true rfl) (by decide) ⟨Nat.le_refl _, Nat.le_refl _⟩ ?_
        refine v_if_ne hx DX7_openDegree_24 (by omega) (fun c24 => ?_) (fun c24 => ?_)
        · skip
          refine v_iinc hx DX7_openDegree_46 0 rfl [(2, iv (c + 1)), (1, iv z), (0, .ref r)] rfl (by decide) ?_
          refine v_goto hx DX7_openDegree_49 ?_
          exact v_sub [0, 1, 2] _ rfl (ih (c + 1) z m πk (by omega) hchπk vπk_0 vπk_1 vπk_2 vπk_3 (by omega) (by rw [opN_st hc.1, hz]; first | (rw [if_pos (by omega)]) | (rw [if_neg (by omega)]; omega)))
        · skip
          refine v_aload hx DX7_openDegree_27 2 rfl ?_
          refine v_iload hx DX7_openDegree_28 0 rfl ?_
          refine v_aload hx DX7_openDegree_29 2 rfl ?_
          refine v_get hx DX7_openDegree_30 FLRX7_27 hS.1 (v := .ref (r + 9)) rfl ?_
          refine v_cVv hx DX7_openDegree_33 CVRX7_115 [iv c, .ref (r + 9)] (c_argument (c := c) l G Λ sz m hAπk hI hK hS hord hS.2.2.2.2.2.1 (by omega) (by omega) (by rw [vπk_2]; omega)) hS.1 rfl rfl (Nat.le_of_ble_eq_true rfl) (by decide) ⟨Nat.le_refl _, Nat.le_refl _⟩ (fun μ2 hμ2 => ?_)
          obtain ⟨π2, hc2, he2_0⟩ := hμ2
          have hA2 := hc2.1
          have hch2 := hchπk.trans (hc2.mono (fun c hc => by first | omega | (dsimp only at hc ⊢; omega)))
          have v2_0 : π2 (r + 1) = a := (hc2.2.1 (r + 1) (by first | omega | (dsimp only; omega))).trans vπk_0
          have v2_1 : π2 (r + 3) = s := (hc2.2.1 (r + 3) (by first | omega | (dsimp only; omega))).trans vπk_1
          have v2_2 : π2 (r + 5) = s.der := (hc2.2.1 (r + 5) (by first | omega | (dsimp only; omega))).trans vπk_2
          have v2_3 : π2 (r + 17) = P := (hc2.2.1 (r + 17) (by first | omega | (dsimp only; omega))).trans vπk_3
          have g2_0 : π2 (r + 9) = lgC a s c := he2_0.trans (by rw [vπk_0, vπk_1, vπk_2]; rfl)
          refine v_iload hx DX7_openDegree_36 1 rfl ?_
          refine v_aload hx DX7_openDegree_37 2 rfl ?_
          refine v_get hx DX7_openDegree_38 FLRX7_27 hS.1 (v := .ref (r + 9)) rfl ?_
          refine v_get hx DX7_openDegree_41 FLRX7_64 hS.2.2.2.2.2.1.1 (fv_i rfl ((AB.get (A := lgC a s c) hA2 hS.2.2.2.2.2.1 g2_0).2) : _ = iv (((lgC a s c).size : Int) - 1)) ?_
          refine v_isub hx DX7_openDegree_44 ?_
          refine v_istore hx DX7_openDegree_45 [(1, iv (z - (((lgC a s c).size : Int) - 1))), (2, iv c), (0, .ref r)] rfl (by decide) ?_
          refine v_iinc hx DX7_openDegree_46 1 rfl [(2, iv (c + 1)), (1, iv (z - (((lgC a s c).size : Int) - 1))), (0, .ref r)] rfl (by decide) ?_
          refine v_goto hx DX7_openDegree_49 ?_
          exact v_sub [0, 1, 2] _ rfl (ih (c + 1) (z - (((lgC a s c).size : Int) - 1)) μ2 π2 (by omega) hch2 v2_0 v2_1 v2_2 v2_3 (by omega) (by rw [opN_st hc.1, hz]; first | (rw [if_pos (by omega)]) | (rw [if_neg (by omega)]; omega)))
  refine v_aload hx DX7_openDegree_0 0 rfl ?_
  refine v_get hx DX7_openDegree_1 FLRX7_18 hS.1 (v := .ref (r + 3)) rfl ?_
  refine v_get hx DX7_openDegree_4 FLRX7_64 hS.2.2.1.1 (fv_i rfl ((AB.get (A := s) hA hS.2.2.1 h3).2) : _ = iv (((s).size : Int) - 1)) ?_
  refine v_istore hx DX7_openDegree_7 [(1, iv (((s).size : Int) - 1)), (0, .ref r)] rfl (by decide) ?_
  refine v_push hx DX7_openDegree_8 ?_
  refine v_istore hx DX7_openDegree_9 [(2, iv 0), (1, iv (((s).size : Int) - 1)), (0, .ref r)] rfl (by decide) ?_
  exact v_sub [0, 1, 2] _ rfl (L10 200 0 (((s).size : Int) - 1) μ π (by omega) hch0 h1 h3 h5 h17 (by omega) rfl)
