/-! ===== the class: multiplyTerms, divideTerms, keepResults, join ===== -/
def okN (J : Int → FP2) (k : Int) : Prop := ∀ s : Int, -4 ≤ s → s < k → isT (J s).1 (J s).2 = 1 ∧ ((s < -2 ∨ 2 < s) → (J s).1 = PS.zero)
theorem okN_5 {J : Int → FP2} : okN J 5 ↔ okJ J := ⟨fun h s h0 h1 => h s h0 (by omega), fun h s h0 h1 => h s h0 (by omega)⟩
theorem isT_z {a : FP2} (h : RDP a.1 a.2) (z : a.1 = PS.zero) : isT a.1 a.2 = 1 := by
  have e : a.2 = PS.one := by have r := h; rw [z] at r; exact r.z
  rw [z, e]; exact isT_00
/-- what keepTerm says -/
theorem okN_st {J : Int → FP2} {k z : Int} (hk : -4 ≤ k ∧ k ≤ 4) (hr : RDP (J k).1 (J k).2) (e : z = (if -2 ≤ k ∧ k ≤ 2 then isT (J k).1 (J k).2 else bz ((J k).1 = PS.zero))) : (z = 0 → ¬ okJ J) ∧ (z ≠ 0 → okN J k → okN J (k + 1)) ∧ (0 ≤ z ∧ z ≤ 1) := by
  have it := isT_rng (J k).1 (J k).2
  have br := bz_rng ((J k).1 = PS.zero)
  by_cases c : -2 ≤ k ∧ k ≤ 2
  · rw [if_pos c] at e
    refine ⟨fun q h => ?_, fun q h s h0 h1 => ?_, by omega⟩
    · have := (h k hk.1 hk.2).1; omega
    · by_cases d : s = k
      · rw [d]; exact ⟨by omega, fun t => absurd t (by omega)⟩
      · exact h s h0 (by omega)
  · rw [if_neg c] at e
    refine ⟨fun q h => ?_, fun q h s h0 h1 => ?_, by omega⟩
    · have := (h k hk.1 hk.2).2 (by omega)
      rw [bz_pos this] at e; omega
    · by_cases d : s = k
      · have t : (J k).1 = PS.zero := bzt (by omega)
        rw [d]; exact ⟨isT_z hr t, fun _ => t⟩
      · exact h s h0 (by omega)
theorem jn_mul (b : Bd) (f1 f2 s : Int) : jn b 2 f1 f2 s = cv b f1 f2 s 5 := if_pos rfl
theorem cv_yes {b : Bd} {f1 f2 k i : Int} (hi : -2 ≤ i ∧ i ≤ 2) (h : -2 ≤ k - i ∧ k - i ≤ 2) : cv b f1 f2 k (i + 1 + 2).toNat = fpl (cv b f1 f2 k (i + 2).toNat) (fml (b.tm (5 * f1 + i + 2)) (b.tm (5 * f2 + (k - i) + 2))) (fi 1) := by
  rw [show (i + 1 + 2).toNat = (i + 2).toNat + 1 by omega, cv, show (((i + 2).toNat : Nat) : Int) - 2 = i by omega, if_pos h, show 5 * f1 + (((i + 2).toNat : Nat) : Int) = 5 * f1 + i + 2 by omega]
theorem cv_no {b : Bd} {f1 f2 k i : Int} (hi : -2 ≤ i ∧ i ≤ 2) (h : ¬ (-2 ≤ k - i ∧ k - i ≤ 2)) : cv b f1 f2 k (i + 1 + 2).toNat = cv b f1 f2 k (i + 2).toNat := by
  rw [show (i + 1 + 2).toNat = (i + 2).toNat + 1 by omega, cv, show (((i + 2).toNat : Nat) : Int) - 2 = i by omega, if_neg h]
def dvT (al f1 k : Int) : Int := if -2 ≤ k + al ∧ k + al ≤ 2 then 5 * f1 + (k + al) + 2 else -1
theorem dvT_eq {al f1 k : Int} (hf : 0 ≤ f1 ∧ f1 ≤ 2) : (if bz (isTO f1 (k + al)) = 1 then 5 * f1 + (k + al) + 2 else -1) = dvT al f1 k := by
  unfold dvT
  by_cases c : -2 ≤ k + al ∧ k + al ≤ 2
  · rw [if_pos c, if1 ⟨by omega, by omega, by omega, by omega⟩]
  · rw [if_neg c, if0 (fun q => by have := q.n; omega)]
noncomputable def dvA (b : Bd) (f1 f2 k : Int) : FP2 := (b.num (dvT (aln b f2) f1 k), b.den (dvT (aln b f2) f1 k))
theorem tm_neg {b : Bd} : b.num (-1) = PS.zero ∧ b.den (-1) = PS.one := by
  constructor
  · funext k
    show (if k < 7 then fi (b.cell (-1) k) else 0) = 0
    split
    · unfold Bd.cell; rw [if_neg (by omega), fi_0]
    · rfl
  · funext k
    show (if 0 ≤ (-1 : Int) ∧ (-1 : Int) < 15 then _ else PS.one k) = PS.one k
    rw [if_neg (by omega)]
theorem dvA_ok {b : Bd} {f1 f2 k : Int} (hb : b.good) (h1 : 0 ≤ f1 ∧ f1 ≤ 2) (h2 : 0 ≤ f2 ∧ f2 ≤ 2) : FOK (dvA b f1 f2 k) 7 5 := by
  unfold dvA dvT
  by_cases c : -2 ≤ k + aln b f2 ∧ k + aln b f2 ≤ 2
  · rw [if_pos c]; exact hb.tm (t := 5 * f1 + (k + aln b f2) + 2) (by omega)
  · rw [if_neg c, tm_neg.1, tm_neg.2]; exact FOK.zero.mono (by omega) (by omega)
theorem jn_div {b : Bd} {f1 f2 k : Int} : jn b 3 f1 f2 k = fdv (dvA b f1 f2 k) (b.tm (5 * f2 + aln b f2 + 2)) := by
  unfold jn dvA dvT
  rw [if_neg (by decide), if_pos rfl]
  by_cases c : -2 ≤ k + aln b f2 ∧ k + aln b f2 ≤ 2
  · rw [if_pos c, if_pos c, show 5 * f1 + (k + aln b f2) + 2 = 5 * f1 + (k + aln b f2) + 2 from rfl]; rfl
  · rw [if_neg c, if_neg c, tm_neg.1, tm_neg.2]
    unfold fdv
    dsimp only
    rw [PS.zero_mul]
    exact (Prod.ext (rd_zero _).1 (rd_zero _).2).symm
theorem fl_bits5 (b : Bd) (f : Int) : b.fl f 5 = (if bz (b.num (5 * f) = PS.zero) = 1 then 0 else 1) + (if bz (b.num (5 * f + 1) = PS.zero) = 1 then 0 else 2) + (if bz (b.num (5 * f + 2) = PS.zero) = 1 then 0 else 4) + (if bz (b.num (5 * f + 3) = PS.zero) = 1 then 0 else 8) + (if bz (b.num (5 * f + 4) = PS.zero) = 1 then 0 else 16) := by
  simp only [Bd.fl]
  rw [show f * 5 + ((0 : Nat) : Int) = 5 * f by omega, show f * 5 + ((1 : Nat) : Int) = 5 * f + 1 by omega, show f * 5 + ((2 : Nat) : Int) = 5 * f + 2 by omega, show f * 5 + ((3 : Nat) : Int) = 5 * f + 3 by omega, show f * 5 + ((4 : Nat) : Int) = 5 * f + 4 by omega]
  simp
theorem fl_aln {b : Bd} {f : Int} (h : oneB (b.fl f 5)) : b.fl f 5 = 2 ^ (aln b f + 2).toNat := by
  unfold oneB at h
  rw [fl_bits5] at h ⊢
  unfold aln
  have r0 := bz_rng (b.num (5 * f) = PS.zero)
  have r1 := bz_rng (b.num (5 * f + 1) = PS.zero)
  have r2 := bz_rng (b.num (5 * f + 2) = PS.zero)
  have r3 := bz_rng (b.num (5 * f + 3) = PS.zero)
  have r4 := bz_rng (b.num (5 * f + 4) = PS.zero)
  revert h r0 r1 r2 r3 r4
  generalize bz (b.num (5 * f) = PS.zero) = x0
  generalize bz (b.num (5 * f + 1) = PS.zero) = x1
  generalize bz (b.num (5 * f + 2) = PS.zero) = x2
  generalize bz (b.num (5 * f + 3) = PS.zero) = x3
  generalize bz (b.num (5 * f + 4) = PS.zero) = x4
  intro h r0 r1 r2 r3 r4
  have c0 : x0 = 0 ∨ x0 = 1 := by omega
  have c1 : x1 = 0 ∨ x1 = 1 := by omega
  have c2 : x2 = 0 ∨ x2 = 1 := by omega
  have c3 : x3 = 0 ∨ x3 = 1 := by omega
  have c4 : x4 = 0 ∨ x4 = 1 := by omega
  rcases c0 with rfl | rfl <;> rcases c1 with rfl | rfl <;> rcases c2 with rfl | rfl <;> rcases c3 with rfl | rfl <;> rcases c4 with rfl | rfl <;> simp at h ⊢ <;> first | rfl | decide
theorem aln_ne {b : Bd} {f : Int} (h : oneB (b.fl f 5)) : b.num (5 * f + aln b f + 2) ≠ PS.zero := by
  unfold oneB at h
  rw [fl_bits5] at h
  unfold aln
  by_cases c0 : b.num (5 * f) = PS.zero
  · rw [bz_pos c0] at h ⊢
    by_cases c1 : b.num (5 * f + 1) = PS.zero
    · rw [bz_pos c1] at h ⊢
      by_cases c2 : b.num (5 * f + 2) = PS.zero
      · rw [bz_pos c2] at h ⊢
        by_cases c3 : b.num (5 * f + 3) = PS.zero
        · rw [bz_pos c3] at h ⊢
          by_cases c4 : b.num (5 * f + 4) = PS.zero
          · rw [bz_pos c4] at h; simp at h
          · simp only [if_neg (show ¬ (1 : Int) = 0 by decide)]; rw [show 5 * f + 2 + 2 = 5 * f + 4 by omega]; exact c4
        · rw [bz_neg c3]; simp only [if_neg (show ¬ (1 : Int) = 0 by decide), if_true]; rw [show 5 * f + 1 + 2 = 5 * f + 3 by omega]; exact c3
      · rw [bz_neg c2]; simp only [if_neg (show ¬ (1 : Int) = 0 by decide), if_true]; rw [show 5 * f + 0 + 2 = 5 * f + 2 by omega]; exact c2
    · rw [bz_neg c1]; simp only [if_neg (show ¬ (1 : Int) = 0 by decide), if_true]; rw [show 5 * f + -1 + 2 = 5 * f + 1 by omega]; exact c1
  · rw [bz_neg c0, if_pos rfl, show 5 * f + -2 + 2 = 5 * f by omega]; exact c0
theorem j_ntzA (l : Launch) (G : Gl) (Λ : Lay) (sz : Nat) (μ : Mem) {v a : Int} (ha : -2 ≤ a ∧ a ≤ 2) (hv : v = 2 ^ (a + 2).toNat) : Sp l G yJ6_numberOfTrailingZeros_0f7a4 cJ6_numberOfTrailingZeros_0f7a4 2 (some FieldType.int) 0 [iv v] Λ sz μ (pP μ (a + 2)) := by
  have : a = -2 ∨ a = -1 ∨ a = 0 ∨ a = 1 ∨ a = 2 := by omega
  rcases this with rfl | rfl | rfl | rfl | rfl
  · obtain rfl : v = 1 := hv
    exact j_ntz_0 l G Λ sz μ
  · obtain rfl : v = 2 := hv
    exact j_ntz_1 l G Λ sz μ
  · obtain rfl : v = 4 := hv
    exact j_ntz_2 l G Λ sz μ
  · obtain rfl : v = 8 := hv
    exact j_ntz_3 l G Λ sz μ
  · obtain rfl : v = 16 := hv
    exact j_ntz_4 l G Λ sz μ
theorem p_multiplyTerms (l : Launch) (G : Gl) (Λ : Lay) (sz : Nat) (μ : Mem) {g : Nat} {π : Nat → PS} {b : Bd} {f1 f2 : Int} (hG : GK Λ g) (hA : AB Λ μ π) (hb : BA μ (g + 1) b) (hI : INV G Λ) (hgd : b.good) (h1 : 0 ≤ f1 ∧ f1 ≤ 2) (h2 : 0 ≤ f2 ∧ f2 ≤ 2) : Sp l G yX11_multiplyTerms cX11_multiplyTerms 5 (some FieldType.boolean) 5 [.ref g, iv f1, iv f2] Λ sz μ (pI (fun z μ' => z = bz (okJ (jn b 2 f1 f2)) ∧ ∃ π', Chg Λ (fun c => (g + 350 < c ∧ c < g + 366) ∨ (g + 375 < c ∧ c < g + 401) ∨ (g + 48 < c ∧ c < g + 65)) μ μ' π π' ∧ (okJ (jn b 2 f1 f2) → ∀ s : Int, -2 ≤ s → s ≤ 2 → s < 5 → π' ((g + 376 + 5 * (s + 2).toNat) + 1) = ((jn b 2 f1 f2) s).1 ∧ π' ((g + 376 + 5 * (s + 2).toNat) + 3) = ((jn b 2 f1 f2) s).2))) := by
  refine Sp.intro (by decide) (Nat.le_of_ble_eq_true rfl) (fun x hx hBD => ?_)
  refine v_lv [(0, .ref g), (1, iv f1), (2, iv f2)] rfl ?_
  have hGG := hG
  obtain ⟨hG0, ⟨kB, kH, kB2, kH2⟩, ⟨kSh, kRs⟩, ⟨kK, kSp, kP, kQ, kRe, kRd, kW⟩, ⟨kGi, kSe, kTo, kAn⟩, kS4, kR5, kOut⟩ := hG
  have hG := hGG
  have hch0 : Chg Λ (fun c => (g + 350 < c ∧ c < g + 366) ∨ (g + 375 < c ∧ c < g + 401) ∨ (g + 48 < c ∧ c < g + 65)) μ μ π π := Chg.rf hA
  have L20 : ∀ (nf : Nat) (k i : Int) (m : Mem) (πi : Nat → PS), (3 - i < (nf : Int)) → (Chg Λ (fun c => (g + 350 < c ∧ c < g + 366) ∨ (g + 375 < c ∧ c < g + 401) ∨ (g + 48 < c ∧ c < g + 65)) μ m π πi) → (πi (g + 361 + 1) = (cv b f1 f2 k (i + 2).toNat).1) → (πi (g + 361 + 3) = (cv b f1 f2 k (i + 2).toNat).2) → (-4 ≤ k ∧ k ≤ 4) → (-2 ≤ i ∧ i ≤ 3) → (∀ s : Int, -2 ≤ s → s ≤ 2 → s < k → πi ((g + 376 + 5 * (s + 2).toNat) + 1) = ((jn b 2 f1 f2) s).1 ∧ πi ((g + 376 + 5 * (s + 2).toNat) + 3) = ((jn b 2 f1 f2) s).2) → (∀ (m2 : Mem) (π2 : Nat → PS), (Chg Λ (fun c => (g + 350 < c ∧ c < g + 366) ∨ (g + 375 < c ∧ c < g + 401) ∨ (g + 48 < c ∧ c < g + 65)) μ m2 π π2) → (π2 (g + 361 + 1) = (cv b f1 f2 k 5).1) → (π2 (g + 361 + 3) = (cv b f1 f2 k 5).2) → (∀ s : Int, -2 ≤ s → s ≤ 2 → s < k → π2 ((g + 376 + 5 * (s + 2).toNat) + 1) = ((jn b 2 f1 f2) s).1 ∧ π2 ((g + 376 + 5 * (s + 2).toNat) + 3) = ((jn b 2 f1 f2) s).2) → V G x (0, 0) Λ sz m2 120 [(3, iv k), (0, .ref g), (1, iv f1), (2, iv f2)] []) → V G x (0, 0) Λ sz m 20 [(4, iv i), (3, iv k), (0, .ref g), (1, iv f1), (2, iv f2)] [] := by
    intro nf
    induction nf with
    | zero => intro k i m πi hm hchπi vπi_0 vπi_1 hk hi hR hC; exact absurd hm (by omega)
    | succ nf ih =>
      intro k i m πi hm hchπi vπi_0 vπi_1 hk hi hR hC
      have hAπi := hchπi.1
      refine v_iload hx DX11_multiplyTerms_20 0 rfl ?_
      refine v_push hx DX11_multiplyTerms_22 ?_
      refine v_icmp_gt hx DX11_multiplyTerms_23 (by omega) (by decide) (fun c23 => ?_) (fun c23 => ?_)
      · skip
        exact v_sub [1, 2, 3, 4] _ rfl (hC m πi hchπi (by rw [show 5 = (i + 2).toNat by omega]; exact vπi_0) (by rw [show 5 = (i + 2).toNat by omega]; exact vπi_1) hR)
      · skip
        refine v_iload hx DX11_multiplyTerms_26 1 rfl ?_
        refine v_iload hx DX11_multiplyTerms_27 0 rfl ?_
        refine v_isub hx DX11_multiplyTerms_29 ?_
        refine v_push hx DX11_multiplyTerms_30 ?_
        refine v_push hx DX11_multiplyTerms_32 ?_
        refine v_cSp hx DX11_multiplyTerms_33 CSRX11_117 [iv (k - i), iv (-2), iv 2] (c_within l G Λ sz m (by omega) (by omega) (by omega)) rfl rfl (Nat.le_of_ble_eq_true rfl) (by decide) ⟨Nat.le_refl _, Nat.le_refl _⟩ ?_
        have br33 := bz_rng ((-2) ≤ k - i ∧ k - i ≤ 2)
        refine v_if_eq hx DX11_multiplyTerms_36 (by omega) (fun c36 => ?_) (fun c36 => ?_)
        · skip
          have d36 := bzf c36
          have nv1 : πi (g + 361 + 1) = (cv b f1 f2 k (i + 1 + 2).toNat).1 := (vπi_0).trans (by rw [cv_no (by omega) d36])
          have nv3 : πi (g + 361 + 3) = (cv b f1 f2 k (i + 1 + 2).toNat).2 := (vπi_1).trans (by rw [cv_no (by omega) d36])
          have fr : ∀ a : Nat, (g + 375 < a ∧ a < g + 401) → πi a = πi a := fun a _ => rfl
          refine v_iinc hx DX11_multiplyTerms_114 0 rfl [(4, iv (i + 1)), (3, iv k), (0, .ref g), (1, iv f1), (2, iv f2)] rfl (by decide) ?_
          refine v_goto hx DX11_multiplyTerms_117 ?_
          exact v_sub [0, 1, 2, 3, 4] _ rfl (ih k (i + 1) m πi (by omega) hchπi nv1 nv3 hk (by omega) (fun s h0 h1 h2 => ⟨(fr _ (by omega)).trans (hR s h0 h1 h2).1, (fr _ (by omega)).trans (hR s h0 h1 h2).2⟩) hC)
        · skip
          have d36 := bzt c36
          have t1 := hgd.tm (t := 5 * f1 + i + 2) (by omega)
          have t2 := hgd.tm (t := 5 * f2 + (k - i) + 2) (by omega)
          have z1 := PS.size_le (b.num_lt (5 * f1 + i + 2))
          have z2 := PS.size_le (b.den_lt (5 * f1 + i + 2))
          have z3 := PS.size_le (b.num_lt (5 * f2 + (k - i) + 2))
          have z4 := PS.size_le (b.den_lt (5 * f2 + (k - i) + 2))
          have cvk := cv_ok (s := k) hgd (by omega : 0 ≤ f1 ∧ f1 < 3) (by omega : 0 ≤ f2 ∧ f2 < 3) (i + 2).toNat (by omega)
          have cv1 := cvk.2.1
          have cv2 := cvk.2.2
          have mlk := FOK.ml (k := 13) (q := 9) t1 t2 (by omega) (by omega) (by omega)
          have ml1 := mlk.2.1
          have ml2 := mlk.2.2
          refine v_aload hx DX11_multiplyTerms_39 2 rfl ?_
          refine v_get hx DX11_multiplyTerms_40 FLRX11_12 hG.1 (v := .ref (g + 1)) rfl ?_
          refine v_iload hx DX11_multiplyTerms_43 3 rfl ?_
          refine v_iload hx DX11_multiplyTerms_44 0 rfl ?_
          refine v_cSp hx DX11_multiplyTerms_46 CSRX11_113 [iv f1, iv i] (c_termOf l G Λ sz m (by omega) (by omega)) rfl rfl (Nat.le_of_ble_eq_true rfl) (by decide) ⟨Nat.le_refl _, Nat.le_refl _⟩ ?_
          refine v_top (z' := (5 * f1 + i + 2)) (if1 ⟨by omega, by omega, by omega, by omega⟩) ?_
          refine v_aload hx DX11_multiplyTerms_49 2 rfl ?_
          refine v_get hx DX11_multiplyTerms_50 FLRX11_95 hG.1 (v := .ref (g + 351)) rfl ?_
          refine v_cVv hx DX11_multiplyTerms_53 CVRX11_124 [iv (5 * f1 + i + 2), .ref (g + 351)] (b_load (t := 5 * f1 + i + 2) l G Λ sz m hAπi kB (hb.oth2 kB hchπi) kGi (by omega)) kB.1 rfl rfl (Nat.le_of_ble_eq_true rfl) (by decide) ⟨Nat.le_refl _, Nat.le_refl _⟩ (fun μ5 hμ5 => ?_)
          obtain ⟨π5, hc5, he5_0, he5_1⟩ := hμ5
          have hA5 := hc5.1
          have hch5 := hchπi.trans (hc5.mono (fun c hc => by first | omega | (dsimp only at hc ⊢; omega)))
          have v5_0 : π5 (g + 361 + 1) = (cv b f1 f2 k (i + 2).toNat).1 := (hc5.2.1 (g + 361 + 1) (by first | omega | (dsimp only; omega))).trans vπi_0
          have v5_1 : π5 (g + 361 + 3) = (cv b f1 f2 k (i + 2).toNat).2 := (hc5.2.1 (g + 361 + 3) (by first | omega | (dsimp only; omega))).trans vπi_1
          refine v_aload hx DX11_multiplyTerms_56 2 rfl ?_
          refine v_get hx DX11_multiplyTerms_57 FLRX11_12 hG.1 (v := .ref (g + 1)) rfl ?_
          refine v_iload hx DX11_multiplyTerms_60 4 rfl ?_
          refine v_iload hx DX11_multiplyTerms_61 1 rfl ?_
          refine v_iload hx DX11_multiplyTerms_62 0 rfl ?_
          refine v_isub hx DX11_multiplyTerms_64 ?_
          refine v_cSp hx DX11_multiplyTerms_65 CSRX11_113 [iv f2, iv (k - i)] (c_termOf l G Λ sz μ5 (by omega) (by omega)) rfl rfl (Nat.le_of_ble_eq_true rfl) (by decide) ⟨Nat.le_refl _, Nat.le_refl _⟩ ?_
          refine v_top (z' := (5 * f2 + (k - i) + 2)) (if1 ⟨by omega, by omega, by omega, by omega⟩) ?_
          refine v_aload hx DX11_multiplyTerms_68 2 rfl ?_
          refine v_get hx DX11_multiplyTerms_69 FLRX11_99 hG.1 (v := .ref (g + 356)) rfl ?_
          refine v_cVv hx DX11_multiplyTerms_72 CVRX11_124 [iv (5 * f2 + (k - i) + 2), .ref (g + 356)] (b_load (t := 5 * f2 + (k - i) + 2) l G Λ sz μ5 hA5 kB (hb.oth2 kB hch5) kSe (by omega)) kB.1 rfl rfl (Nat.le_of_ble_eq_true rfl) (by decide) ⟨Nat.le_refl _, Nat.le_refl _⟩ (fun μ8 hμ8 => ?_)
          obtain ⟨π8, hc8, he8_0, he8_1⟩ := hμ8
          have hA8 := hc8.1
          have hch8 := hch5.trans (hc8.mono (fun c hc => by first | omega | (dsimp only at hc ⊢; omega)))
          have v8_0 : π8 (g + 361 + 1) = (cv b f1 f2 k (i + 2).toNat).1 := (hc8.2.1 (g + 361 + 1) (by first | omega | (dsimp only; omega))).trans v5_0
          have v8_1 : π8 (g + 361 + 3) = (cv b f1 f2 k (i + 2).toNat).2 := (hc8.2.1 (g + 361 + 3) (by first | omega | (dsimp only; omega))).trans v5_1
          have v8_2 : π8 (g + 351 + 1) = b.num (5 * f1 + i + 2) := (hc8.2.1 (g + 351 + 1) (by first | omega | (dsimp only; omega))).trans he5_0
          have v8_3 : π8 (g + 351 + 3) = b.den (5 * f1 + i + 2) := (hc8.2.1 (g + 351 + 3) (by first | omega | (dsimp only; omega))).trans he5_1
          refine v_aload hx DX11_multiplyTerms_75 2 rfl ?_
          refine v_get hx DX11_multiplyTerms_76 FLRX11_42 hG.1 (v := .ref (g + 48)) rfl ?_
          refine v_aload hx DX11_multiplyTerms_79 2 rfl ?_
          refine v_get hx DX11_multiplyTerms_80 FLRX11_95 hG.1 (v := .ref (g + 351)) rfl ?_
          refine v_aload hx DX11_multiplyTerms_83 2 rfl ?_
          refine v_get hx DX11_multiplyTerms_84 FLRX11_95 hG.1 (v := .ref (g + 351)) rfl ?_
          refine v_aload hx DX11_multiplyTerms_87 2 rfl ?_
          refine v_get hx DX11_multiplyTerms_88 FLRX11_99 hG.1 (v := .ref (g + 356)) rfl ?_
          refine v_cVv hx DX11_multiplyTerms_91 CVRX11_377 [.ref (g + 351), .ref (g + 351), .ref (g + 356)] (q_times l G Λ sz μ8 hA8 hI kK kGi kGi kSe (by omega) (by omega) (by omega) (by omega) (by omega) (by rw [v8_2, he8_0]; omega) (by rw [v8_3, he8_1]; omega) (by rw [v8_3, he8_1]; exact PS.fmul_ne t1.1.2.1 t2.1.2.1 t1.1.2.2.1 t2.1.2.2.1)) kK.1 rfl rfl (Nat.le_of_ble_eq_true rfl) (by decide) ⟨Nat.le_refl _, Nat.le_refl _⟩ (fun μ9 hμ9 => ?_)
          obtain ⟨π9, hc9, he9_0, he9_1⟩ := hμ9
          have hA9 := hc9.1
          have hch9 := hch8.trans (hc9.mono (fun c hc => by first | omega | (dsimp only at hc ⊢; omega)))
          have v9_0 : π9 (g + 361 + 1) = (cv b f1 f2 k (i + 2).toNat).1 := (hc9.2.1 (g + 361 + 1) (by first | omega | (dsimp only; omega))).trans v8_0
          have v9_1 : π9 (g + 361 + 3) = (cv b f1 f2 k (i + 2).toNat).2 := (hc9.2.1 (g + 361 + 3) (by first | omega | (dsimp only; omega))).trans v8_1
          have v9_4 : π9 (g + 356 + 1) = b.num (5 * f2 + (k - i) + 2) := (hc9.2.1 (g + 356 + 1) (by first | omega | (dsimp only; omega))).trans he8_0
          have v9_5 : π9 (g + 356 + 3) = b.den (5 * f2 + (k - i) + 2) := (hc9.2.1 (g + 356 + 3) (by first | omega | (dsimp only; omega))).trans he8_1
          have g9_0 : π9 (g + 351 + 1) = (fml (b.tm (5 * f1 + i + 2)) (b.tm (5 * f2 + (k - i) + 2))).1 := he9_0.trans (by rw [v8_2, v8_3, he8_0, he8_1]; rfl)
          have g9_1 : π9 (g + 351 + 3) = (fml (b.tm (5 * f1 + i + 2)) (b.tm (5 * f2 + (k - i) + 2))).2 := he9_1.trans (by rw [v8_2, v8_3, he8_0, he8_1]; rfl)
          refine v_aload hx DX11_multiplyTerms_94 2 rfl ?_
          refine v_get hx DX11_multiplyTerms_95 FLRX11_42 hG.1 (v := .ref (g + 48)) rfl ?_
          refine v_aload hx DX11_multiplyTerms_98 2 rfl ?_
          refine v_get hx DX11_multiplyTerms_99 FLRX11_102 hG.1 (v := .ref (g + 361)) rfl ?_
          refine v_aload hx DX11_multiplyTerms_102 2 rfl ?_
          refine v_get hx DX11_multiplyTerms_103 FLRX11_102 hG.1 (v := .ref (g + 361)) rfl ?_
          refine v_aload hx DX11_multiplyTerms_106 2 rfl ?_
          refine v_get hx DX11_multiplyTerms_107 FLRX11_95 hG.1 (v := .ref (g + 351)) rfl ?_
          refine v_push hx DX11_multiplyTerms_110 ?_
          refine v_cVv hx DX11_multiplyTerms_111 CVRX11_369 [.ref (g + 361), .ref (g + 361), .ref (g + 351), iv 1] (q_sum (f := 1) l G Λ sz μ9 hA9 hI kK kTo kTo kGi (by omega) (by omega) (by omega) (by omega) (by omega) (by omega) (by rw [v9_0, g9_1]; omega) (by rw [g9_0, v9_1]; omega) (by rw [v9_1, g9_1]; omega) (by rw [v9_1, g9_1]; exact PS.fmul_ne cvk.1.2.1 mlk.1.2.1 cvk.1.2.2.1 mlk.1.2.2.1)) kK.1 rfl rfl (Nat.le_of_ble_eq_true rfl) (by decide) ⟨Nat.le_refl _, Nat.le_refl _⟩ (fun μ10 hμ10 => ?_)
          obtain ⟨π10, hc10, he10_0, he10_1⟩ := hμ10
          have hA10 := hc10.1
          have hch10 := hch9.trans (hc10.mono (fun c hc => by first | omega | (dsimp only at hc ⊢; omega)))
          have v10_2 : π10 (g + 356 + 1) = b.num (5 * f2 + (k - i) + 2) := (hc10.2.1 (g + 356 + 1) (by first | omega | (dsimp only; omega))).trans v9_4
          have v10_3 : π10 (g + 356 + 3) = b.den (5 * f2 + (k - i) + 2) := (hc10.2.1 (g + 356 + 3) (by first | omega | (dsimp only; omega))).trans v9_5
          have v10_4 : π10 (g + 351 + 1) = (fml (b.tm (5 * f1 + i + 2)) (b.tm (5 * f2 + (k - i) + 2))).1 := (hc10.2.1 (g + 351 + 1) (by first | omega | (dsimp only; omega))).trans g9_0
          have v10_5 : π10 (g + 351 + 3) = (fml (b.tm (5 * f1 + i + 2)) (b.tm (5 * f2 + (k - i) + 2))).2 := (hc10.2.1 (g + 351 + 3) (by first | omega | (dsimp only; omega))).trans g9_1
          have g10_0 : π10 (g + 361 + 1) = (cv b f1 f2 k (i + 1 + 2).toNat).1 := he10_0.trans (by rw [g9_0, g9_1, v9_0, v9_1, cv_yes (by omega) d36, PS.am0]; rfl)
          have g10_1 : π10 (g + 361 + 3) = (cv b f1 f2 k (i + 1 + 2).toNat).2 := he10_1.trans (by rw [g9_0, g9_1, v9_0, v9_1, cv_yes (by omega) d36, PS.am0]; rfl)
          have fr : ∀ a : Nat, (g + 375 < a ∧ a < g + 401) → π10 a = πi a := fun a ha => ((hc10.2.1 a (by first | omega | (dsimp only; omega))).trans ((hc9.2.1 a (by first | omega | (dsimp only; omega))).trans ((hc8.2.1 a (by first | omega | (dsimp only; omega))).trans (hc5.2.1 a (by first | omega | (dsimp only; omega))))))
          refine v_iinc hx DX11_multiplyTerms_114 0 rfl [(4, iv (i + 1)), (3, iv k), (0, .ref g), (1, iv f1), (2, iv f2)] rfl (by decide) ?_
          refine v_goto hx DX11_multiplyTerms_117 ?_
          exact v_sub [0, 1, 2, 3, 4] _ rfl (ih k (i + 1) μ10 π10 (by omega) hch10 g10_0 g10_1 hk (by omega) (fun s h0 h1 h2 => ⟨(fr _ (by omega)).trans (hR s h0 h1 h2).1, (fr _ (by omega)).trans (hR s h0 h1 h2).2⟩) hC)
  have L3 : ∀ (nf : Nat) (k : Int) (m : Mem) (πk : Nat → PS), (5 - k < (nf : Int)) → (Chg Λ (fun c => (g + 350 < c ∧ c < g + 366) ∨ (g + 375 < c ∧ c < g + 401) ∨ (g + 48 < c ∧ c < g + 65)) μ m π πk) → (-4 ≤ k ∧ k ≤ 5) → (∀ s : Int, -2 ≤ s → s ≤ 2 → s < k → πk ((g + 376 + 5 * (s + 2).toNat) + 1) = ((jn b 2 f1 f2) s).1 ∧ πk ((g + 376 + 5 * (s + 2).toNat) + 3) = ((jn b 2 f1 f2) s).2) → (okN (jn b 2 f1 f2) k) → V G x (0, 0) Λ sz m 3 [(3, iv k), (0, .ref g), (1, iv f1), (2, iv f2)] [] := by
    intro nf
    induction nf with
    | zero => intro k m πk hm hchπk hk hR ht; exact absurd hm (by omega)
    | succ nf ih =>
      intro k m πk hm hchπk hk hR ht
      have hAπk := hchπk.1
      refine v_iload hx DX11_multiplyTerms_3 0 rfl ?_
      refine v_push hx DX11_multiplyTerms_4 ?_
      refine v_icmp_gt hx DX11_multiplyTerms_5 (by omega) (by decide) (fun c5 => ?_) (fun c5 => ?_)
      · skip
        refine v_push hx DX11_multiplyTerms_140 ?_
        exact v_rz hx hBD (by omega) DX11_multiplyTerms_141 (⟨(bz_pos (okN_5.mp (by rw [show (5 : Int) = k by omega]; exact ht))).symm, πk, hchπk, fun _ s h0 h1 h2 => hR s h0 h1 (by omega)⟩)
      · skip
        refine v_aload hx DX11_multiplyTerms_8 1 rfl ?_
        refine v_get hx DX11_multiplyTerms_9 FLRX11_102 hG.1 (v := .ref (g + 361)) rfl ?_
        refine v_push hx DX11_multiplyTerms_12 ?_
        refine v_cVv hx DX11_multiplyTerms_13 CVRX11_373 [iv 0] (q_fset (v := 0) l G Λ sz m hAπk kTo (by omega)) kTo.1 rfl rfl (Nat.le_of_ble_eq_true rfl) (by decide) ⟨Nat.le_refl _, Nat.le_refl _⟩ (fun μ11 hμ11 => ?_)
        obtain ⟨π11, hc11, he11_0, he11_1⟩ := hμ11
        have hA11 := hc11.1
        have hch11 := hchπk.trans (hc11.mono (fun c hc => by first | omega | (dsimp only at hc ⊢; omega)))
        have g11_0 : π11 (g + 361 + 1) = (cv b f1 f2 k ((-2 : Int) + 2).toNat).1 := he11_0.trans (by rw [fi_0, ← PS.zero_eq]; rfl)
        have g11_1 : π11 (g + 361 + 3) = (cv b f1 f2 k ((-2 : Int) + 2).toNat).2 := he11_1.trans rfl
        refine v_push hx DX11_multiplyTerms_16 ?_
        refine v_istore hx DX11_multiplyTerms_18 [(4, iv (-2)), (3, iv k), (0, .ref g), (1, iv f1), (2, iv f2)] rfl (by decide) ?_
        refine v_sub [0, 1, 2, 3, 4] _ rfl (L20 20 k (-2) μ11 π11 (by omega) hch11 g11_0 g11_1 (by omega) (by omega) (fun s h0 h1 h2 => ⟨(hc11.2.1 _ (by omega)).trans (hR s h0 h1 h2).1, (hc11.2.1 _ (by omega)).trans (hR s h0 h1 h2).2⟩) (fun m2 π2 hch2 e1 e3 hR2 => ?_))
        have hA2 := hch2.1
        have c5k := cv_ok (s := k) hgd (by omega : 0 ≤ f1 ∧ f1 < 3) (by omega : 0 ≤ f2 ∧ f2 < 3) 5 (by omega)
        refine v_aload hx DX11_multiplyTerms_120 1 rfl ?_
        refine v_iload hx DX11_multiplyTerms_121 0 rfl ?_
        refine v_aload hx DX11_multiplyTerms_122 1 rfl ?_
        refine v_get hx DX11_multiplyTerms_123 FLRX11_102 hG.1 (v := .ref (g + 361)) rfl ?_
        refine v_cVi hx DX11_multiplyTerms_126 CVRX11_381 [iv k, .ref (g + 361)] (p_keepTerm (b := b) (k := k) (t := g + 361) (A := cv b f1 f2 k 5) l G Λ sz m2 hG hA2 kTo (by omega) (by omega) e1 e3 c5k.1.1) hG.1 rfl rfl (Nat.le_of_ble_eq_true rfl) (by decide) ⟨Nat.le_refl _, Nat.le_refl _⟩ (fun z13 μ12 hμ12 => ?_)
        obtain ⟨ez, πz, cz, fz⟩ := hμ12
        obtain ⟨kz, hkz⟩ : ∃ kz, kz = z13 := ⟨_, rfl⟩
        rw [← hkz] at ez ⊢
        have hAz := cz.1
        have hchz := hch2.trans (cz.mono (S' := fun c => (g + 350 < c ∧ c < g + 366) ∨ (g + 375 < c ∧ c < g + 401) ∨ (g + 48 < c ∧ c < g + 65)) (fun c hc => by first | omega | (dsimp only at hc ⊢; omega)))
        have os := okN_st (J := jn b 2 f1 f2) (k := k) (z := kz) (by omega) (by rw [jn_mul]; exact c5k.1) (by rw [jn_mul]; exact ez)
        refine v_if_ne hx DX11_multiplyTerms_129 (by omega) (fun c129 => ?_) (fun c129 => ?_)
        · skip
          refine v_iinc hx DX11_multiplyTerms_134 0 rfl [(3, iv (k + 1)), (0, .ref g), (1, iv f1), (2, iv f2)] rfl (by decide) ?_
          refine v_goto hx DX11_multiplyTerms_137 ?_
          exact v_sub [0, 1, 2, 3] _ rfl (ih (k + 1) μ12 πz (by omega) hchz (by omega) (fun s h0 h1 h2 => Classical.byCases (fun q : s = k => by subst q; rw [jn_mul]; exact fz (by omega)) (fun q => ⟨(cz.2.1 _ (by first | omega | (dsimp only; omega))).trans (hR2 s h0 h1 (by omega)).1, (cz.2.1 _ (by first | omega | (dsimp only; omega))).trans (hR2 s h0 h1 (by omega)).2⟩)) (os.2.1 (by omega) ht))
        · skip
          refine v_push hx DX11_multiplyTerms_132 ?_
          exact v_rz hx hBD (by omega) DX11_multiplyTerms_133 (⟨(bz_neg (os.1 (by omega))).symm, πz, hchz, fun q => absurd q (os.1 (by omega))⟩)
  refine v_push hx DX11_multiplyTerms_0 ?_
  refine v_istore hx DX11_multiplyTerms_2 [(3, iv (-4)), (0, .ref g), (1, iv f1), (2, iv f2)] rfl (by decide) ?_
  exact v_sub [0, 1, 2, 3] _ rfl (L3 20 (-4) μ π (by omega) hch0 (by omega) (fun s h0 h1 h2 => absurd h2 (by omega)) (fun s h0 h1 => absurd h1 (by omega)))
theorem p_divideTerms (l : Launch) (G : Gl) (Λ : Lay) (sz : Nat) (μ : Mem) {g : Nat} {π : Nat → PS} {b : Bd} {f1 f2 : Int} (hG : GK Λ g) (hA : AB Λ μ π) (hb : BA μ (g + 1) b) (hI : INV G Λ) (hgd : b.good) (h1 : 0 ≤ f1 ∧ f1 ≤ 2) (h2 : 0 ≤ f2 ∧ f2 ≤ 2) (h1b : oneB (b.fl f2 5)) : Sp l G yX11_divideTerms cX11_divideTerms 5 (some FieldType.boolean) 5 [.ref g, iv f1, iv f2] Λ sz μ (pI (fun z μ' => z = bz (okJ (jn b 3 f1 f2)) ∧ ∃ π', Chg Λ (fun c => (g + 350 < c ∧ c < g + 366) ∨ (g + 375 < c ∧ c < g + 401) ∨ (g + 48 < c ∧ c < g + 65)) μ μ' π π' ∧ (okJ (jn b 3 f1 f2) → ∀ s : Int, -2 ≤ s → s ≤ 2 → s < 5 → π' ((g + 376 + 5 * (s + 2).toNat) + 1) = ((jn b 3 f1 f2) s).1 ∧ π' ((g + 376 + 5 * (s + 2).toNat) + 3) = ((jn b 3 f1 f2) s).2))) := by
  refine Sp.intro (by decide) (Nat.le_of_ble_eq_true rfl) (fun x hx hBD => ?_)
  refine v_lv [(0, .ref g), (1, iv f1), (2, iv f2)] rfl ?_
  have hGG := hG
  obtain ⟨hG0, ⟨kB, kH, kB2, kH2⟩, ⟨kSh, kRs⟩, ⟨kK, kSp, kP, kQ, kRe, kRd, kW⟩, ⟨kGi, kSe, kTo, kAn⟩, kS4, kR5, kOut⟩ := hG
  have hG := hGG
  have ar := aln_rng b f2
  have fa := fl_aln h1b
  have na := aln_ne h1b
  have hch0 : Chg Λ (fun c => (g + 350 < c ∧ c < g + 366) ∨ (g + 375 < c ∧ c < g + 401) ∨ (g + 48 < c ∧ c < g + 65)) μ μ π π := Chg.rf hA
  have L34 : ∀ (nf : Nat) (k : Int) (m : Mem) (πk : Nat → PS), (5 - k < (nf : Int)) → (Chg Λ (fun c => (g + 350 < c ∧ c < g + 366) ∨ (g + 375 < c ∧ c < g + 401) ∨ (g + 48 < c ∧ c < g + 65)) μ m π πk) → (πk (g + 356 + 1) = b.num (5 * f2 + aln b f2 + 2)) → (πk (g + 356 + 3) = b.den (5 * f2 + aln b f2 + 2)) → (-4 ≤ k ∧ k ≤ 5) → (∀ s : Int, -2 ≤ s → s ≤ 2 → s < k → πk ((g + 376 + 5 * (s + 2).toNat) + 1) = ((jn b 3 f1 f2) s).1 ∧ πk ((g + 376 + 5 * (s + 2).toNat) + 3) = ((jn b 3 f1 f2) s).2) → (okN (jn b 3 f1 f2) k) → V G x (0, 0) Λ sz m 34 [(4, iv k), (3, iv (aln b f2 + 2 - 2)), (0, .ref g), (1, iv f1), (2, iv f2)] [] := by
    intro nf
    induction nf with
    | zero => intro k m πk hm hchπk vπk_0 vπk_1 hk hR ht; exact absurd hm (by omega)
    | succ nf ih =>
      intro k m πk hm hchπk vπk_0 vπk_1 hk hR ht
      have hAπk := hchπk.1
      refine v_iload hx DX11_divideTerms_34 0 rfl ?_
      refine v_push hx DX11_divideTerms_36 ?_
      refine v_icmp_gt hx DX11_divideTerms_37 (by omega) (by decide) (fun c37 => ?_) (fun c37 => ?_)
      · skip
        refine v_push hx DX11_divideTerms_99 ?_
        exact v_rz hx hBD (by omega) DX11_divideTerms_100 (⟨(bz_pos (okN_5.mp (by rw [show (5 : Int) = k by omega]; exact ht))).symm, πk, hchπk, fun _ s h0 h1 h2 => hR s h0 h1 (by omega)⟩)
      · skip
        have t2 := hgd.tm (t := 5 * f2 + aln b f2 + 2) (by omega)
        have z3 := PS.size_le (b.num_lt (5 * f2 + aln b f2 + 2))
        have z4 := PS.size_le (b.den_lt (5 * f2 + aln b f2 + 2))
        have da := dvA_ok (f1 := f1) (f2 := f2) (k := k) hgd (by omega) (by omega)
        have da1 := da.2.1
        have da2 := da.2.2
        have jk : FOK (jn b 3 f1 f2 k) 11 11 := by
          rw [jn_div]
          exact FOK.dv da t2 na (by omega) (by omega) (by omega)
        refine v_aload hx DX11_divideTerms_40 2 rfl ?_
        refine v_get hx DX11_divideTerms_41 FLRX11_12 hG.1 (v := .ref (g + 1)) rfl ?_
        refine v_iload hx DX11_divideTerms_44 3 rfl ?_
        refine v_iload hx DX11_divideTerms_45 0 rfl ?_
        refine v_iload hx DX11_divideTerms_47 1 rfl ?_
        refine v_iadd hx DX11_divideTerms_48 ?_
        refine v_cSp hx DX11_divideTerms_49 CSRX11_113 [iv f1, iv (k + (aln b f2 + 2 - 2))] (c_termOf l G Λ sz m (by omega) (by omega)) rfl rfl (Nat.le_of_ble_eq_true rfl) (by decide) ⟨Nat.le_refl _, Nat.le_refl _⟩ ?_
        refine v_top (z' := (dvT (aln b f2) f1 k)) (by rw [show k + (aln b f2 + 2 - 2) = k + aln b f2 by omega]; exact dvT_eq (by omega)) ?_
        refine v_aload hx DX11_divideTerms_52 2 rfl ?_
        refine v_get hx DX11_divideTerms_53 FLRX11_95 hG.1 (v := .ref (g + 351)) rfl ?_
        refine v_cVv hx DX11_divideTerms_56 CVRX11_124 [iv (dvT (aln b f2) f1 k), .ref (g + 351)] (b_load (t := dvT (aln b f2) f1 k) l G Λ sz m hAπk kB (hb.oth2 kB hchπk) kGi (by unfold dvT; split <;> omega)) kB.1 rfl rfl (Nat.le_of_ble_eq_true rfl) (by decide) ⟨Nat.le_refl _, Nat.le_refl _⟩ (fun μ3 hμ3 => ?_)
        obtain ⟨π3, hc3, he3_0, he3_1⟩ := hμ3
        have hA3 := hc3.1
        have hch3 := hchπk.trans (hc3.mono (fun c hc => by first | omega | (dsimp only at hc ⊢; omega)))
        have v3_0 : π3 (g + 356 + 1) = b.num (5 * f2 + aln b f2 + 2) := (hc3.2.1 (g + 356 + 1) (by first | omega | (dsimp only; omega))).trans vπk_0
        have v3_1 : π3 (g + 356 + 3) = b.den (5 * f2 + aln b f2 + 2) := (hc3.2.1 (g + 356 + 3) (by first | omega | (dsimp only; omega))).trans vπk_1
        have g3_0 : π3 (g + 351 + 1) = (dvA b f1 f2 k).1 := he3_0.trans rfl
        have g3_1 : π3 (g + 351 + 3) = (dvA b f1 f2 k).2 := he3_1.trans rfl
        refine v_aload hx DX11_divideTerms_59 2 rfl ?_
        refine v_get hx DX11_divideTerms_60 FLRX11_42 hG.1 (v := .ref (g + 48)) rfl ?_
        refine v_aload hx DX11_divideTerms_63 2 rfl ?_
        refine v_get hx DX11_divideTerms_64 FLRX11_95 hG.1 (v := .ref (g + 351)) rfl ?_
        refine v_aload hx DX11_divideTerms_67 2 rfl ?_
        refine v_get hx DX11_divideTerms_68 FLRX11_95 hG.1 (v := .ref (g + 351)) rfl ?_
        refine v_aload hx DX11_divideTerms_71 2 rfl ?_
        refine v_get hx DX11_divideTerms_72 FLRX11_99 hG.1 (v := .ref (g + 356)) rfl ?_
        refine v_cVv hx DX11_divideTerms_75 CVRX11_388 [.ref (g + 351), .ref (g + 351), .ref (g + 356)] (q_over l G Λ sz μ3 hA3 hI kK kGi kGi kSe (by omega) (by omega) (by omega) (by omega) (by omega) (by rw [g3_0, v3_1]; omega) (by rw [g3_1, v3_0]; omega) (by rw [g3_1, v3_0]; exact PS.fmul_ne da.1.2.1 t2.1.1 da.1.2.2.1 na)) kK.1 rfl rfl (Nat.le_of_ble_eq_true rfl) (by decide) ⟨Nat.le_refl _, Nat.le_refl _⟩ (fun μ4 hμ4 => ?_)
        obtain ⟨π4, hc4, he4_0, he4_1⟩ := hμ4
        have hA4 := hc4.1
        have hch4 := hch3.trans (hc4.mono (fun c hc => by first | omega | (dsimp only at hc ⊢; omega)))
        have v4_0 : π4 (g + 356 + 1) = b.num (5 * f2 + aln b f2 + 2) := (hc4.2.1 (g + 356 + 1) (by first | omega | (dsimp only; omega))).trans v3_0
        have v4_1 : π4 (g + 356 + 3) = b.den (5 * f2 + aln b f2 + 2) := (hc4.2.1 (g + 356 + 3) (by first | omega | (dsimp only; omega))).trans v3_1
        have g4_0 : π4 (g + 351 + 1) = (jn b 3 f1 f2 k).1 := he4_0.trans (by rw [g3_0, g3_1, v3_0, v3_1, jn_div]; rfl)
        have g4_1 : π4 (g + 351 + 3) = (jn b 3 f1 f2 k).2 := he4_1.trans (by rw [g3_0, g3_1, v3_0, v3_1, jn_div]; rfl)
        refine v_aload hx DX11_divideTerms_78 2 rfl ?_
        refine v_iload hx DX11_divideTerms_79 0 rfl ?_
        refine v_aload hx DX11_divideTerms_81 2 rfl ?_
        refine v_get hx DX11_divideTerms_82 FLRX11_95 hG.1 (v := .ref (g + 351)) rfl ?_
        refine v_cVi hx DX11_divideTerms_85 CVRX11_381 [iv k, .ref (g + 351)] (p_keepTerm (b := b) (k := k) (t := g + 351) (A := jn b 3 f1 f2 k) l G Λ sz μ4 hG hA4 kGi (by omega) (by omega) g4_0 g4_1 jk.1.1) hG.1 rfl rfl (Nat.le_of_ble_eq_true rfl) (by decide) ⟨Nat.le_refl _, Nat.le_refl _⟩ (fun z6 μ5 hμ5 => ?_)
        obtain ⟨ez, πz, cz, fz⟩ := hμ5
        obtain ⟨kz, hkz⟩ : ∃ kz, kz = z6 := ⟨_, rfl⟩
        rw [← hkz] at ez ⊢
        have hAz := cz.1
        have sz1 := (cz.2.1 (g + 356 + 1) (by first | omega | (dsimp only; omega))).trans v4_0
        have sz3 := (cz.2.1 (g + 356 + 3) (by first | omega | (dsimp only; omega))).trans v4_1
        have hchz := hch4.trans (cz.mono (S' := fun c => (g + 350 < c ∧ c < g + 366) ∨ (g + 375 < c ∧ c < g + 401) ∨ (g + 48 < c ∧ c < g + 65)) (fun c hc => by first | omega | (dsimp only at hc ⊢; omega)))
        have os := okN_st (J := jn b 3 f1 f2) (k := k) (z := kz) (by omega) jk.1 ez
        refine v_if_ne hx DX11_divideTerms_88 (by omega) (fun c88 => ?_) (fun c88 => ?_)
        · skip
          have fr : ∀ a : Nat, (g + 375 < a ∧ a < g + 376 + 5 * (min k 3 + 2).toNat) → πz a = πk a := fun a ha => ((cz.2.1 a (by first | omega | (dsimp only; omega))).trans ((hc4.2.1 a (by first | omega | (dsimp only; omega))).trans (hc3.2.1 a (by first | omega | (dsimp only; omega)))))
          refine v_iinc hx DX11_divideTerms_93 0 rfl [(4, iv (k + 1)), (3, iv (aln b f2 + 2 - 2)), (0, .ref g), (1, iv f1), (2, iv f2)] rfl (by decide) ?_
          refine v_goto hx DX11_divideTerms_96 ?_
          exact v_sub [0, 1, 2, 3, 4] _ rfl (ih (k + 1) μ5 πz (by omega) hchz sz1 sz3 (by omega) (fun s h0 h1 h2 => Classical.byCases (fun q : s = k => by subst q; exact fz (by omega)) (fun q => ⟨(fr _ (by omega)).trans (hR s h0 h1 (by omega)).1, (fr _ (by omega)).trans (hR s h0 h1 (by omega)).2⟩)) (os.2.1 (by omega) ht))
        · skip
          refine v_push hx DX11_divideTerms_91 ?_
          exact v_rz hx hBD (by omega) DX11_divideTerms_92 (⟨(bz_neg (os.1 (by omega))).symm, πz, hchz, fun q => absurd q (os.1 (by omega))⟩)
  refine v_aload hx DX11_divideTerms_0 0 rfl ?_
  refine v_get hx DX11_divideTerms_1 FLRX11_12 hG.1 (v := .ref (g + 1)) rfl ?_
  refine v_iload hx DX11_divideTerms_4 2 rfl ?_
  refine v_cVp hx DX11_divideTerms_5 CVRX11_143 [iv f2] (b_filled l G Λ sz μ kB hb (by omega)) kB.1 rfl rfl (Nat.le_of_ble_eq_true rfl) (by decide) ⟨Nat.le_refl _, Nat.le_refl _⟩ ?_
  refine v_cSp hx DX11_divideTerms_8 CSRX11_385 [iv (b.fl f2 5)] (j_ntzA l G Λ sz μ (by omega) fa) rfl rfl (Nat.le_of_ble_eq_true rfl) (by decide) ⟨Nat.le_refl _, Nat.le_refl _⟩ ?_
  refine v_push hx DX11_divideTerms_11 ?_
  refine v_isub hx DX11_divideTerms_12 ?_
  refine v_istore hx DX11_divideTerms_13 [(3, iv ((aln b f2 + 2) - 2)), (0, .ref g), (1, iv f1), (2, iv f2)] rfl (by decide) ?_
  refine v_aload hx DX11_divideTerms_14 1 rfl ?_
  refine v_get hx DX11_divideTerms_15 FLRX11_12 hG.1 (v := .ref (g + 1)) rfl ?_
  refine v_iload hx DX11_divideTerms_18 3 rfl ?_
  refine v_iload hx DX11_divideTerms_19 0 rfl ?_
  refine v_cSp hx DX11_divideTerms_20 CSRX11_113 [iv f2, iv ((aln b f2 + 2) - 2)] (c_termOf l G Λ sz μ (by omega) (by omega)) rfl rfl (Nat.le_of_ble_eq_true rfl) (by decide) ⟨Nat.le_refl _, Nat.le_refl _⟩ ?_
  refine v_top (z' := (5 * f2 + aln b f2 + 2)) (by rw [show aln b f2 + 2 - 2 = aln b f2 by omega]; exact if1 ⟨by omega, by omega, by omega, by omega⟩) ?_
  refine v_aload hx DX11_divideTerms_23 1 rfl ?_
  refine v_get hx DX11_divideTerms_24 FLRX11_99 hG.1 (v := .ref (g + 356)) rfl ?_
  refine v_cVv hx DX11_divideTerms_27 CVRX11_124 [iv (5 * f2 + aln b f2 + 2), .ref (g + 356)] (b_load (t := 5 * f2 + aln b f2 + 2) l G Λ sz μ hA kB (hb.oth2 kB hch0) kSe (by omega)) kB.1 rfl rfl (Nat.le_of_ble_eq_true rfl) (by decide) ⟨Nat.le_refl _, Nat.le_refl _⟩ (fun μ13 hμ13 => ?_)
  obtain ⟨π13, hc13, he13_0, he13_1⟩ := hμ13
  have hA13 := hc13.1
  have hch13 := hch0.trans (hc13.mono (fun c hc => by first | omega | (dsimp only at hc ⊢; omega)))
  refine v_push hx DX11_divideTerms_30 ?_
  refine v_istore hx DX11_divideTerms_32 [(4, iv (-4)), (3, iv ((aln b f2 + 2) - 2)), (0, .ref g), (1, iv f1), (2, iv f2)] rfl (by decide) ?_
  exact v_sub [0, 1, 2, 3, 4] _ rfl (L34 20 (-4) μ13 π13 (by omega) hch13 he13_0 he13_1 (by omega) (fun s h0 h1 h2 => absurd h2 (by omega)) (fun s h0 h1 => absurd h1 (by omega)))
