/-! ===== the class: lay, seen ===== -/
theorem n32 {w : Int64} (h : isN w) : w.toInt32.toInt = w.toInt := by
  unfold isN at h
  rw [l2i_n, ofI_int ⟨by omega, by omega⟩]
theorem s_numN (l : Launch) (G : Gl) (Λ : Lay) (sz : Nat) (μ : Mem) {σ : Nat} {s : Sht} {i : Int} (hS : sheetK Λ σ) (hs : SA μ σ s) (hi : 0 ≤ i ∧ i < 24) (hn : isN (s.2.2 i)) : Sp l G yX8_number cX8_number 2 (some FieldType.int) 0 [.ref σ, iv i] Λ sz μ (pP μ ((s.2.2 i).toInt)) := by
  have q := s_number l G Λ sz μ hS hs hi
  rwa [n32 hn] at q
theorem s_holdN (l : Launch) (G : Gl) (Λ : Lay) (sz : Nat) (μ : Mem) {σ : Nat} {s : Sht} {i k : Int} (hS : sheetK Λ σ) (hs : SA μ σ s) (hi : 0 ≤ i ∧ 0 ≤ k ∧ i + k ≤ 24) : Sp l G yX8_holdsNumbers cX8_holdsNumbers 4 (some FieldType.boolean) 1 [.ref σ, iv i, iv k] Λ sz μ (pP μ (bz (allN s i k))) := s_holds l G Λ sz μ hS hs hi
theorem lay_no2 {Λ : Lay} {g : Nat} {μ0 μ : Mem} {b : Bd} {h : Hs} {im : Option (Bd × Hs)} {T : List Int} {S : Int → Sht} {f i k lane a : Int} (c : KS Λ μ0 μ g b h im T S) (n : ¬ layK S f i k lane a) : KS Λ μ0 μ g (layB b S f i k lane a) (layH b h S f i k lane a) im T S := by
  unfold layB layH
  rw [if_neg n, if_neg n]; exact c
theorem layN_put {s : Sht} {a j : Int} (hj : 0 ≤ j ∧ j < 7) (h : isN (s.2.2 (a + j))) : ((layN s a).tr j.toNat).putc j (fi (s.2.2 (a + j)).toInt) = (layN s a).tr (j + 1).toNat := by
  unfold PS.putc
  rw [if_neg (by omega), layN_cf hj h, fi_of, PS.tr_set, show (j + 1).toNat = j.toNat + 1 by omega]
theorem layD_put {s : Sht} {a j : Int} (hj : 0 ≤ j ∧ j < 5) (h : isN (s.2.2 (a + 6 + 1 + j))) : ((layD s a).tr j.toNat).putc j (fi (s.2.2 (a + 6 + 1 + j)).toInt) = (layD s a).tr (j + 1).toNat := by
  have e : a + 6 + 1 + j = a + (7 + j) := by omega
  rw [e] at h ⊢
  unfold PS.putc
  rw [if_neg (by omega), layD_cf (by omega) h, fi_of, show (7 + j - 7).toNat = j.toNat by omega, PS.tr_set, show (j + 1).toNat = j.toNat + 1 by omega]
theorem sn_out {b : Bd} {s : Sht} {i c t j e : Int} (hz : e = bz (∀ q : Nat, (q : Int) < j → (fun q : Nat => b.val t (s.2.2 (i + 2 * (q : Int))).toInt = (s.2.2 (i + 2 * (q : Int) + 1)).toInt) q)) (he : e = 0) (hj : j ≤ c) : e = bz (seenP b s i c t) := by
  rw [he]
  refine (bz_neg (fun q => ?_)).symm
  rw [he] at hz
  rw [bz_pos (fun x hx => q x (by omega))] at hz
  omega
theorem p_lay (l : Launch) (G : Gl) (Λ : Lay) (sz : Nat) (μ : Mem) {g : Nat} {μ0 : Mem} {b : Bd} {h : Hs} {im : Option (Bd × Hs)} {T : List Int} {S : Int → Sht} {f i k lane a : Int} (hG : GK Λ g) (hC : KS Λ μ0 μ g b h im T S) (hI : INV G Λ) (hgd : b.good) (rf : inR f) (ri : inR i) (rk : inR k) (rlane : inR lane) (ra : inR a) : Sp l G yX11_lay cX11_lay 10 (some FieldType.int) 4 [.ref g, iv f, iv i, iv k, iv lane, iv a] Λ sz μ (pI (fun z μ' => z = layA S f i k lane a ∧ KS Λ μ μ' g (layB b S f i k lane a) (layH b h S f i k lane a) im T S)) := by
  refine Sp.intro (by decide) (Nat.le_of_ble_eq_true rfl) (fun x hx hBD => ?_)
  refine v_lv [(0, .ref g), (1, iv f), (2, iv i), (3, iv k), (4, iv lane), (5, iv a)] rfl ?_
  have hGG := hG
  obtain ⟨hG0, ⟨kB, kH, kB2, kH2⟩, ⟨kSh, kRs⟩, ⟨kK, kSp, kP, kQ, kRe, kRd, kW⟩, ⟨kGi, kSe, kTo, kAn⟩, kS4, kR5, kOut⟩ := hG
  have hG := hGG
  have hCs := hC.start
  obtain ⟨⟨π, hA⟩, hb, hh, him, hT, hdg, hSh, hWr, hout⟩ := hC
  have bok := hb.1
  have hch0 : Chg Λ (fun c => c = g + 351 + 1 ∨ c = g + 351 + 3 ∨ (g + 48 < c ∧ c < g + 48 + 17)) μ μ π π := Chg.rf hA
  have L137 : ∀ (nf : Nat) (j : Int) (m : Mem) (πk : Nat → PS), (5 - j < (nf : Int)) → (Chg Λ (fun c => c = g + 351 + 1 ∨ c = g + 351 + 3 ∨ (g + 48 < c ∧ c < g + 48 + 17)) μ m π πk) → (πk (g + 351 + 1) = layN (S k) a) → (πk (g + 351 + 3) = (layD (S k) a).tr j.toNat) → (isTO f i) → (0 ≤ f ∧ f < 3 ∧ -2 ≤ i ∧ i ≤ 2) → (isSh k) → (0 ≤ lane ∧ lane ≤ 3) → ((S k).ref lane a 12 = 0) → (allN (S k) a 12) → (0 ≤ j ∧ j ≤ 5) → V G x (0, 0) Λ sz m 137 [(9, iv j), (7, .ref (g + 368 + 2 * k.toNat)), (6, iv (5 * f + i + 2)), (0, .ref g), (5, iv a)] [] := by
    intro nf
    induction nf with
    | zero => intro j m πk hm hchπk vπk_0 vπk_1 hto hn hv hv2 hrf hal hj; exact absurd hm (by omega)
    | succ nf ih =>
      intro j m πk hm hchπk vπk_0 vπk_1 hto hn hv hv2 hrf hal hj
      have hAπk := hchπk.1
      have hvn := hv
      unfold isSh at hvn
      have kSk : sheetK Λ (g + 368 + 2 * k.toNat) := kS4 k.toNat (by omega)
      have rf := ref_0 hrf
      have kj : KS Λ μ m g b h im T S := hCs.scr hGG (hchπk.fc (X := fun _ => False)) (fun a q => q.elim)
      have hSk := kj.sh (k := k) (by omega)
      have szk := hSk.2.1
      refine v_iload hx DX11_lay_137 0 rfl ?_
      refine v_push hx DX11_lay_139 ?_
      refine v_icmp_gt hx DX11_lay_140 (by omega) (by decide) (fun c140 => ?_) (fun c140 => ?_)
      · skip
        have szd := PS.size_le (layD_lt (S k) a)
        have eD : πk (g + 351 + 3) = layD (S k) a := (vπk_1).trans (by rw [show j.toNat = 5 by omega]; exact PS.tr_end (layD_lt _ _))
        refine v_aload hx DX11_lay_176 3 rfl ?_
        refine v_get hx DX11_lay_177 FLRX11_95 hG.1 (v := .ref (g + 351)) rfl ?_
        refine v_get hx DX11_lay_180 FLRX11_248 kGi.1 (v := .ref (g + 351 + 3)) rfl ?_
        refine v_get hx DX11_lay_183 FLRX11_299 kGi.2.2.1 (fv_i rfl ((AB.get (A := layD (S k) a) hAπk kGi.2.2 eD).2) : _ = iv (((layD (S k) a).size : Int) - 1)) ?_
        refine v_if_ge hx DX11_lay_186 (by omega) (fun c186 => ?_) (fun c186 => ?_)
        · skip
          have nD : layD (S k) a ≠ PS.zero := PS.ne_of_size (by omega)
          refine v_aload hx DX11_lay_192 3 rfl ?_
          refine v_get hx DX11_lay_193 FLRX11_42 hG.1 (v := .ref (g + 48)) rfl ?_
          refine v_aload hx DX11_lay_196 3 rfl ?_
          refine v_get hx DX11_lay_197 FLRX11_95 hG.1 (v := .ref (g + 351)) rfl ?_
          refine v_cVv hx DX11_lay_200 CVRX11_255 [.ref (g + 351)] (q_reduce (f := g + 351) l G Λ sz m hAπk hI kK kGi (by omega) (by rw [eD]; exact nD)) kK.1 rfl rfl (Nat.le_of_ble_eq_true rfl) (by decide) ⟨Nat.le_refl _, Nat.le_refl _⟩ (fun μ1 hμ1 => ?_)
          obtain ⟨π1, hc1, he1_0, he1_1⟩ := hμ1
          have hA1 := hc1.1
          have hch1 := hchπk.trans (hc1.mono (fun c hc => by first | omega | (dsimp only at hc ⊢; omega)))
          have g1_0 : π1 (g + 351 + 1) = rdN (layN (S k) a) (layD (S k) a) := he1_0.trans (by rw [vπk_0, eD])
          have g1_1 : π1 (g + 351 + 3) = rdD (layN (S k) a) (layD (S k) a) := he1_1.trans (by rw [vπk_0, eD])
          refine v_aload hx DX11_lay_203 3 rfl ?_
          refine v_get hx DX11_lay_204 FLRX11_19 hG.1 (v := .ref (g + 4)) rfl ?_
          refine v_aload hx DX11_lay_207 3 rfl ?_
          refine v_get hx DX11_lay_208 FLRX11_12 hG.1 (v := .ref (g + 1)) rfl ?_
          refine v_cVv hx DX11_lay_211 CVRX11_182 [.ref (g + 1)] (h_push l G Λ sz μ1 kH kB (hCs.scr hGG (hch1.fc (X := fun _ => False)) (fun a q => q.elim)).2.2.1 (hCs.scr hGG (hch1.fc (X := fun _ => False)) (fun a q => q.elim)).2.1 (by omega)) kH.1 rfl rfl (Nat.le_of_ble_eq_true rfl) (by decide) ⟨Nat.le_refl _, Nat.le_refl _⟩ (fun μ2 hμ2 => ?_)
          obtain ⟨q1, f1⟩ := hμ2
          have k1 := KS.hst hGG (hCs.scr hGG (hch1.fc (X := fun _ => False)) (fun a q => q.elim)) q1 f1
          have n1 := (AB.get (A := rdN (layN (S k) a) (layD (S k) a)) hA1 kGi.2.1 g1_0).keep (f1.1 _ (by omega)) (f1.1 _ (by omega))
          have d1 := (AB.get (A := rdD (layN (S k) a) (layD (S k) a)) hA1 kGi.2.2 g1_1).keep (f1.1 _ (by omega)) (f1.1 _ (by omega))
          refine v_aload hx DX11_lay_214 3 rfl ?_
          refine v_get hx DX11_lay_215 FLRX11_12 hG.1 (v := .ref (g + 1)) rfl ?_
          refine v_iload hx DX11_lay_218 2 rfl ?_
          refine v_aload hx DX11_lay_220 3 rfl ?_
          refine v_get hx DX11_lay_221 FLRX11_95 hG.1 (v := .ref (g + 351)) rfl ?_
          refine v_cVv hx DX11_lay_224 CVRX11_186 [iv (5 * f + i + 2), .ref (g + 351)] (b_store (t := (5 * f + i + 2)) l G Λ sz μ2 kB k1.2.1 kGi n1 d1 (by omega)) kB.1 rfl rfl (Nat.le_of_ble_eq_true rfl) (by decide) ⟨Nat.le_refl _, Nat.le_refl _⟩ (fun μ4 hμ4 => ?_)
          obtain ⟨q2, f2⟩ := hμ4
          have k2 := k1.brd hGG q2 f2
          refine v_push hx DX11_lay_227 ?_
          exact v_ri hx hBD DX11_lay_228 (⟨by unfold layA; rw [if1 ⟨hto, hv, hv2⟩, if_neg (by omega), if1 ⟨hal, nD⟩], by unfold layB layH; rw [if_pos ⟨⟨hto, hv, hv2⟩, hrf, hal, nD⟩, if_pos ⟨⟨hto, hv, hv2⟩, hrf, hal, nD⟩]; exact k2⟩)
        · skip
          have zD : layD (S k) a = PS.zero := (PS.fsz0 ⟨_, layD_lt _ _⟩).mp (by omega)
          refine v_push hx DX11_lay_189 ?_
          exact v_ri hx hBD DX11_lay_191 (⟨by unfold layA; rw [if1 ⟨hto, hv, hv2⟩, if_neg (by omega), if0 (fun q => q.2 zD)], lay_no2 (hCs.scr hGG (hchπk.fc (X := fun _ => False)) (fun a q => q.elim)) (fun q => q.2.2.2 zD)⟩)
      · skip
        refine v_aload hx DX11_lay_143 3 rfl ?_
        refine v_get hx DX11_lay_144 FLRX11_95 hG.1 (v := .ref (g + 351)) rfl ?_
        refine v_get hx DX11_lay_147 FLRX11_248 kGi.1 (v := .ref (g + 351 + 3)) rfl ?_
        refine v_iload hx DX11_lay_150 0 rfl ?_
        refine v_aload hx DX11_lay_152 1 rfl ?_
        refine v_iload hx DX11_lay_154 4 rfl ?_
        refine v_push hx DX11_lay_156 ?_
        refine v_iadd hx DX11_lay_158 ?_
        refine v_push hx DX11_lay_159 ?_
        refine v_iadd hx DX11_lay_160 ?_
        refine v_iload hx DX11_lay_161 0 rfl ?_
        refine v_iadd hx DX11_lay_163 ?_
        refine v_cVp hx DX11_lay_164 CVRX11_335 [iv (((a + 6) + 1) + j)] (s_numN l G Λ sz m kSk hSk (by omega) (hal (a + 6 + 1 + j) (by omega) (by omega))) kSk.1 rfl rfl (Nat.le_of_ble_eq_true rfl) (by decide) ⟨Nat.le_refl _, Nat.le_refl _⟩ ?_
        have nr := hal (a + 6 + 1 + j) (by omega) (by omega)
        unfold isN at nr
        refine v_cVv hx DX11_lay_167 CVRX11_244 [iv j, iv (((S k).2.2 (a + 6 + 1 + j)).toInt)] (s_put l G Λ sz m kGi.2.2 (AB.get (A := (layD (S k) a).tr j.toNat) hAπk kGi.2.2 vπk_1) (by omega) (by omega)) kGi.2.2.1 rfl rfl (Nat.le_of_ble_eq_true rfl) (by decide) ⟨Nat.le_refl _, Nat.le_refl _⟩ (fun μ8 hμ8 => ?_)
        obtain ⟨π8, hc8, he8, ho8⟩ := Chg.one (S := fun c => c = g + 351 + 1 ∨ c = g + 351 + 3 ∨ (g + 48 < c ∧ c < g + 48 + 17)) (R := PS.putc ((layD (S k) a).tr j.toNat) j (fi (((S k).2.2 (a + 6 + 1 + j)).toInt))) hAπk kGi.2.2 (by first | omega | (dsimp only; omega)) hμ8
        have hA8 := hc8.1
        have hch8 := hchπk.trans hc8
        have v8_0 : π8 (g + 351 + 1) = layN (S k) a := (ho8 (g + 351 + 1) (by omega)).trans vπk_0
        have w9 : π8 (g + 351 + 3) = (layD (S k) a).tr (j + 1).toNat := he8.trans (layD_put (by omega) (hal (a + 6 + 1 + j) (by omega) (by omega)))
        refine v_iinc hx DX11_lay_170 0 rfl [(9, iv (j + 1)), (7, .ref (g + 368 + 2 * k.toNat)), (6, iv (5 * f + i + 2)), (0, .ref g), (5, iv a)] rfl (by decide) ?_
        refine v_goto hx DX11_lay_173 ?_
        exact v_sub [0, 1, 2, 3, 4] _ rfl (ih (j + 1) μ8 π8 (by omega) hch8 v8_0 w9 hto hn hv hv2 hrf hal (by omega))
  have L99 : ∀ (nf : Nat) (j : Int) (m : Mem) (πk : Nat → PS), (7 - j < (nf : Int)) → (Chg Λ (fun c => c = g + 351 + 1 ∨ c = g + 351 + 3 ∨ (g + 48 < c ∧ c < g + 48 + 17)) μ m π πk) → (πk (g + 351 + 1) = (layN (S k) a).tr j.toNat) → (πk (g + 351 + 3) = PS.zero) → (isTO f i) → (0 ≤ f ∧ f < 3 ∧ -2 ≤ i ∧ i ≤ 2) → (isSh k) → (0 ≤ lane ∧ lane ≤ 3) → ((S k).ref lane a 12 = 0) → (allN (S k) a 12) → (0 ≤ j ∧ j ≤ 7) → V G x (0, 0) Λ sz m 99 [(9, iv j), (7, .ref (g + 368 + 2 * k.toNat)), (6, iv (5 * f + i + 2)), (0, .ref g), (5, iv a)] [] := by
    intro nf
    induction nf with
    | zero => intro j m πk hm hchπk vπk_0 vπk_1 hto hn hv hv2 hrf hal hj; exact absurd hm (by omega)
    | succ nf ih =>
      intro j m πk hm hchπk vπk_0 vπk_1 hto hn hv hv2 hrf hal hj
      have hAπk := hchπk.1
      have hvn := hv
      unfold isSh at hvn
      have kSk : sheetK Λ (g + 368 + 2 * k.toNat) := kS4 k.toNat (by omega)
      have rf := ref_0 hrf
      have kj : KS Λ μ m g b h im T S := hCs.scr hGG (hchπk.fc (X := fun _ => False)) (fun a q => q.elim)
      have hSk := kj.sh (k := k) (by omega)
      have szk := hSk.2.1
      refine v_iload hx DX11_lay_99 0 rfl ?_
      refine v_push hx DX11_lay_101 ?_
      refine v_icmp_gt hx DX11_lay_103 (by omega) (by decide) (fun c103 => ?_) (fun c103 => ?_)
      · skip
        refine v_push hx DX11_lay_134 ?_
        refine v_istore hx DX11_lay_135 [(9, iv 0), (7, .ref (g + 368 + 2 * k.toNat)), (6, iv (5 * f + i + 2)), (0, .ref g), (5, iv a)] rfl (by decide) ?_
        exact v_sub [0, 1, 2, 3, 4] _ rfl (L137 20 0 m πk (by omega) hchπk (vπk_0.trans (by rw [show j.toNat = 7 by omega]; exact PS.tr_end (layN_lt _ _))) (vπk_1.trans ((PS.tr_zero _).symm)) hto hn hv hv2 hrf hal (by omega))
      · skip
        refine v_aload hx DX11_lay_106 3 rfl ?_
        refine v_get hx DX11_lay_107 FLRX11_95 hG.1 (v := .ref (g + 351)) rfl ?_
        refine v_get hx DX11_lay_110 FLRX11_238 kGi.1 (v := .ref (g + 351 + 1)) rfl ?_
        refine v_iload hx DX11_lay_113 0 rfl ?_
        refine v_aload hx DX11_lay_115 1 rfl ?_
        refine v_iload hx DX11_lay_117 4 rfl ?_
        refine v_iload hx DX11_lay_119 0 rfl ?_
        refine v_iadd hx DX11_lay_121 ?_
        refine v_cVp hx DX11_lay_122 CVRX11_335 [iv (a + j)] (s_numN l G Λ sz m kSk hSk (by omega) (hal (a + j) (by omega) (by omega))) kSk.1 rfl rfl (Nat.le_of_ble_eq_true rfl) (by decide) ⟨Nat.le_refl _, Nat.le_refl _⟩ ?_
        have nr := hal (a + j) (by omega) (by omega)
        unfold isN at nr
        refine v_cVv hx DX11_lay_125 CVRX11_244 [iv j, iv (((S k).2.2 (a + j)).toInt)] (s_put l G Λ sz m kGi.2.1 (AB.get (A := (layN (S k) a).tr j.toNat) hAπk kGi.2.1 vπk_0) (by omega) (by omega)) kGi.2.1.1 rfl rfl (Nat.le_of_ble_eq_true rfl) (by decide) ⟨Nat.le_refl _, Nat.le_refl _⟩ (fun μ12 hμ12 => ?_)
        obtain ⟨π12, hc12, he12, ho12⟩ := Chg.one (S := fun c => c = g + 351 + 1 ∨ c = g + 351 + 3 ∨ (g + 48 < c ∧ c < g + 48 + 17)) (R := PS.putc ((layN (S k) a).tr j.toNat) j (fi (((S k).2.2 (a + j)).toInt))) hAπk kGi.2.1 (by first | omega | (dsimp only; omega)) hμ12
        have hA12 := hc12.1
        have hch12 := hchπk.trans hc12
        have v12_1 : π12 (g + 351 + 3) = PS.zero := (ho12 (g + 351 + 3) (by omega)).trans vπk_1
        have w13 : π12 (g + 351 + 1) = (layN (S k) a).tr (j + 1).toNat := he12.trans (layN_put (by omega) (hal (a + j) (by omega) (by omega)))
        refine v_iinc hx DX11_lay_128 0 rfl [(9, iv (j + 1)), (7, .ref (g + 368 + 2 * k.toNat)), (6, iv (5 * f + i + 2)), (0, .ref g), (5, iv a)] rfl (by decide) ?_
        refine v_goto hx DX11_lay_131 ?_
        exact v_sub [0, 1, 2, 3, 4] _ rfl (ih (j + 1) μ12 π12 (by omega) hch12 w13 v12_1 hto hn hv hv2 hrf hal (by omega))
  by_cases hto : isTO f i
  · skip
    have hn := hto.n
    refine v_iload hx DX11_lay_0 1 rfl ?_
    refine v_iload hx DX11_lay_1 2 rfl ?_
    refine v_cSp hx DX11_lay_2 CSRX11_113 [iv f, iv i] (c_termOf l G Λ sz μ (by omega) (by omega)) rfl rfl (Nat.le_of_ble_eq_true rfl) (by decide) ⟨Nat.le_refl _, Nat.le_refl _⟩ ?_
    refine v_top (z' := (5 * f + i + 2)) (if1 hto) ?_
    refine v_istore hx DX11_lay_5 [(6, iv (5 * f + i + 2)), (0, .ref g), (1, iv f), (2, iv i), (3, iv k), (4, iv lane), (5, iv a)] rfl (by decide) ?_
    refine v_iload hx DX11_lay_7 0 rfl ?_
    refine v_if_lt hx DX11_lay_9 (by omega) (fun c9 => ?_) (fun c9 => ?_)
    · skip
      refine v_push hx DX11_lay_30 ?_
      exact v_ri hx hBD DX11_lay_31 (⟨by unfold layA; rw [if0 (fun q => by omega)], lay_no2 hCs (fun q => by omega)⟩)
    · skip
      refine v_aload hx DX11_lay_12 1 rfl ?_
      refine v_iload hx DX11_lay_13 4 rfl ?_
      refine v_cVp hx DX11_lay_14 CVRX11_325 [iv k] (p_isSheet l G Λ sz μ hG (by omega)) hG.1 rfl rfl (Nat.le_of_ble_eq_true rfl) (by decide) ⟨Nat.le_refl _, Nat.le_refl _⟩ ?_
      have br14 := bz_rng (isSh k)
      refine v_if_eq hx DX11_lay_17 (by omega) (fun c17 => ?_) (fun c17 => ?_)
      · skip
        have d17 := bzf c17
        refine v_push hx DX11_lay_30 ?_
        exact v_ri hx hBD DX11_lay_31 (⟨by unfold layA; rw [if0 (fun q => by exact d17 q.2.1)], lay_no2 hCs (fun q => by exact d17 q.1.2.1)⟩)
      · skip
        have d17 := bzt c17
        refine v_iload hx DX11_lay_20 5 rfl ?_
        refine v_push hx DX11_lay_22 ?_
        refine v_push hx DX11_lay_23 ?_
        refine v_cSp hx DX11_lay_24 CSRX11_117 [iv lane, iv 0, iv 3] (c_within l G Λ sz μ (by omega) (by omega) (by omega)) rfl rfl (Nat.le_of_ble_eq_true rfl) (by decide) ⟨Nat.le_refl _, Nat.le_refl _⟩ ?_
        have br24 := bz_rng (0 ≤ lane ∧ lane ≤ 3)
        refine v_if_ne hx DX11_lay_27 (by omega) (fun c27 => ?_) (fun c27 => ?_)
        · skip
          have d27 := bzt c27
          have dd17n := d17
          unfold isSh at dd17n
          have kSk : sheetK Λ (g + 368 + 2 * k.toNat) := kS4 k.toNat (by omega)
          have hSk := hCs.sh (k := k) (by omega)
          have srk := hSk.1
          have szk := hSk.2.1
          refine v_aload hx DX11_lay_32 1 rfl ?_
          refine v_get hx DX11_lay_33 FLRX11_35 hG.1 (v := .ref (g + 47)) rfl ?_
          refine v_iload hx DX11_lay_36 4 rfl ?_
          refine v_aald hx DX11_lay_37 kSh (by decide) (by omega) (by decide) (b := g + 368 + 2 * k.toNat) (sh_at (by omega)) ?_
          refine v_astore hx DX11_lay_38 [(7, .ref (g + 368 + 2 * k.toNat)), (6, iv (5 * f + i + 2)), (0, .ref g), (1, iv f), (2, iv i), (3, iv k), (4, iv lane), (5, iv a)] rfl (by decide) ?_
          refine v_aload hx DX11_lay_40 0 rfl ?_
          refine v_iload hx DX11_lay_42 6 rfl ?_
          refine v_iload hx DX11_lay_44 7 rfl ?_
          refine v_push hx DX11_lay_46 ?_
          refine v_cVp hx DX11_lay_48 CVRX11_328 [iv lane, iv a, iv 12] (s_refusal l G Λ sz μ kSk hSk (by omega) (by omega) (by omega)) kSk.1 rfl rfl (Nat.le_of_ble_eq_true rfl) (by decide) ⟨Nat.le_refl _, Nat.le_refl _⟩ ?_
          have rr := (S k).ref_rng lane a 12
          refine v_istore hx DX11_lay_51 [(8, iv ((S k).ref lane a 12)), (7, .ref (g + 368 + 2 * k.toNat)), (6, iv (5 * f + i + 2)), (0, .ref g), (1, iv f), (2, iv i), (3, iv k), (4, iv lane), (5, iv a)] rfl (by decide) ?_
          refine v_iload hx DX11_lay_53 0 rfl ?_
          refine v_if_eq hx DX11_lay_55 (by omega) (fun c55 => ?_) (fun c55 => ?_)
          · skip
            have rf := ref_0 (s := S k) (lane := lane) (i := a) (c := 12) (by omega)
            refine v_aload hx DX11_lay_61 1 rfl ?_
            refine v_iload hx DX11_lay_63 8 rfl ?_
            refine v_push hx DX11_lay_65 ?_
            refine v_cVp hx DX11_lay_67 CVRX11_332 [iv a, iv 12] (s_holdN l G Λ sz μ kSk hSk (by omega)) kSk.1 rfl rfl (Nat.le_of_ble_eq_true rfl) (by decide) ⟨Nat.le_refl _, Nat.le_refl _⟩ ?_
            have br67 := bz_rng (allN (S k) a 12)
            refine v_if_ne hx DX11_lay_70 (by omega) (fun c70 => ?_) (fun c70 => ?_)
            · skip
              have d70 := bzt c70
              refine v_aload hx DX11_lay_76 3 rfl ?_
              refine v_get hx DX11_lay_77 FLRX11_95 hG.1 (v := .ref (g + 351)) rfl ?_
              refine v_get hx DX11_lay_80 FLRX11_238 kGi.1 (v := .ref (g + 351 + 1)) rfl ?_
              refine v_cVv hx DX11_lay_83 CVRX11_241 [] (s_clear l G Λ sz μ kGi.2.1 (AB.get (A := π (g + 351 + 1)) hA kGi.2.1 rfl)) kGi.2.1.1 rfl rfl (Nat.le_of_ble_eq_true rfl) (by decide) ⟨Nat.le_refl _, Nat.le_refl _⟩ (fun μ24 hμ24 => ?_)
              obtain ⟨π24, hc24, he24, ho24⟩ := Chg.one (S := fun c => c = g + 351 + 1 ∨ c = g + 351 + 3 ∨ (g + 48 < c ∧ c < g + 48 + 17)) (R := PS.zero) hA kGi.2.1 (by first | omega | (dsimp only; omega)) hμ24
              have hA24 := hc24.1
              have hch24 := hch0.trans hc24
              refine v_aload hx DX11_lay_86 3 rfl ?_
              refine v_get hx DX11_lay_87 FLRX11_95 hG.1 (v := .ref (g + 351)) rfl ?_
              refine v_get hx DX11_lay_90 FLRX11_248 kGi.1 (v := .ref (g + 351 + 3)) rfl ?_
              refine v_cVv hx DX11_lay_93 CVRX11_241 [] (s_clear l G Λ sz μ24 kGi.2.2 (AB.get (A := π24 (g + 351 + 3)) hA24 kGi.2.2 rfl)) kGi.2.2.1 rfl rfl (Nat.le_of_ble_eq_true rfl) (by decide) ⟨Nat.le_refl _, Nat.le_refl _⟩ (fun μ25 hμ25 => ?_)
              obtain ⟨π25, hc25, he25, ho25⟩ := Chg.one (S := fun c => c = g + 351 + 1 ∨ c = g + 351 + 3 ∨ (g + 48 < c ∧ c < g + 48 + 17)) (R := PS.zero) hA24 kGi.2.2 (by first | omega | (dsimp only; omega)) hμ25
              have hA25 := hc25.1
              have hch25 := hch24.trans hc25
              have v25_0 : π25 (g + 351 + 1) = PS.zero := (ho25 (g + 351 + 1) (by omega)).trans he24
              refine v_push hx DX11_lay_96 ?_
              refine v_istore hx DX11_lay_97 [(9, iv 0), (8, iv ((S k).ref lane a 12)), (7, .ref (g + 368 + 2 * k.toNat)), (6, iv (5 * f + i + 2)), (0, .ref g), (1, iv f), (2, iv i), (3, iv k), (4, iv lane), (5, iv a)] rfl (by decide) ?_
              exact v_sub [0, 2, 3, 4, 9] _ rfl (L99 20 0 μ25 π25 (by omega) hch25 (v25_0.trans ((PS.tr_zero _).symm)) he25 hto (by omega) d17 d27 (by omega) d70 (by omega))
            · skip
              have d70 := bzf c70
              refine v_push hx DX11_lay_73 ?_
              exact v_ri hx hBD DX11_lay_75 (⟨by unfold layA; rw [if1 ⟨hto, d17, d27⟩, if_neg (by omega), if0 (fun q => d70 q.1)], lay_no2 hCs (fun q => d70 q.2.2.1)⟩)
          · skip
            refine v_iload hx DX11_lay_58 0 rfl ?_
            exact v_ri hx hBD DX11_lay_60 (⟨by unfold layA; rw [if1 ⟨hto, d17, d27⟩, if_pos (by omega)], lay_no2 hCs (fun q => by have := q.2.1; omega)⟩)
        · skip
          have d27 := bzf c27
          refine v_push hx DX11_lay_30 ?_
          exact v_ri hx hBD DX11_lay_31 (⟨by unfold layA; rw [if0 (fun q => by exact d27 q.2.2)], lay_no2 hCs (fun q => by exact d27 q.1.2.2)⟩)
  · skip
    refine v_iload hx DX11_lay_0 1 rfl ?_
    refine v_iload hx DX11_lay_1 2 rfl ?_
    refine v_cSp hx DX11_lay_2 CSRX11_113 [iv f, iv i] (c_termOf l G Λ sz μ (by omega) (by omega)) rfl rfl (Nat.le_of_ble_eq_true rfl) (by decide) ⟨Nat.le_refl _, Nat.le_refl _⟩ ?_
    refine v_top (z' := -1) (if0 hto) ?_
    refine v_istore hx DX11_lay_5 [(6, iv (-1)), (0, .ref g), (1, iv f), (2, iv i), (3, iv k), (4, iv lane), (5, iv a)] rfl (by decide) ?_
    refine v_iload hx DX11_lay_7 0 rfl ?_
    refine v_if_lt hx DX11_lay_9 (by decide) (fun c9 => ?_) (fun c9 => ?_)
    · skip
      refine v_push hx DX11_lay_30 ?_
      exact v_ri hx hBD DX11_lay_31 (⟨by unfold layA; rw [if0 (fun q => by exact hto q.1)], lay_no2 hCs (fun q => by exact hto q.1.1)⟩)
    · exact absurd c9 (by decide)
theorem p_seen (l : Launch) (G : Gl) (Λ : Lay) (sz : Nat) (μ : Mem) {g : Nat} {μ0 : Mem} {b : Bd} {h : Hs} {im : Option (Bd × Hs)} {T : List Int} {S : Int → Sht} {k lane i c : Int} (hG : GK Λ g) (hC : KS Λ μ0 μ g b h im T S) (hI : INV G Λ) (hgd : b.good) (rk : inR k) (rlane : inR lane) (ri : inR i) (rc : inR c) : Sp l G yX11_seen cX11_seen 11 (some FieldType.int) 4 [.ref g, iv k, iv lane, iv i, iv c] Λ sz μ (pI (fun z μ' => z = seenA b S k lane i c ∧ KS Λ μ μ' g b h im T S)) := by
  refine Sp.intro (by decide) (Nat.le_of_ble_eq_true rfl) (fun x hx hBD => ?_)
  refine v_lv [(0, .ref g), (1, iv k), (2, iv lane), (3, iv i), (4, iv c)] rfl ?_
  have hGG := hG
  obtain ⟨hG0, ⟨kB, kH, kB2, kH2⟩, ⟨kSh, kRs⟩, ⟨kK, kSp, kP, kQ, kRe, kRd, kW⟩, ⟨kGi, kSe, kTo, kAn⟩, kS4, kR5, kOut⟩ := hG
  have hG := hGG
  have hCs := hC.start
  obtain ⟨⟨π, hA⟩, hb, hh, him, hT, hdg, hSh, hWr, hout⟩ := hC
  have bok := hb.1
  have L94 : ∀ (nf : Nat) (t z j e : Int), (c - j < (nf : Int)) → (isSh k ∧ (1 ≤ c ∧ c ≤ 8) ∧ (0 ≤ i ∧ i + 2 * c ≤ 24) ∧ allN (S k) i (2 * c)) → (0 ≤ t ∧ t < 15) → (0 ≤ j ∧ j ≤ c) → (e = bz (∀ q : Nat, (q : Int) < j → (fun q : Nat => b.val t ((S k).2.2 (i + 2 * (q : Int))).toInt = ((S k).2.2 (i + 2 * (q : Int) + 1)).toInt) q)) → (∀ (e2 : Int), (e2 = bz (seenP b (S k) i c t)) → V G x (0, 0) Λ sz μ 155 [(9, iv e2), (8, iv t), (7, iv z), (5, .ref (g + 368 + 2 * k.toNat)), (0, .ref g), (3, iv i), (4, iv c)] []) → V G x (0, 0) Λ sz μ 94 [(10, iv j), (9, iv e), (8, iv t), (7, iv z), (5, .ref (g + 368 + 2 * k.toNat)), (0, .ref g), (3, iv i), (4, iv c)] [] := by
    intro nf
    induction nf with
    | zero => intro t z j e hm hc2 ht hj hz hC; exact absurd hm (by omega)
    | succ nf ih =>
      intro t z j e hm hc2 ht hj hz hC
      have er := hz.symm ▸ bz_rng _
      have hvn := hc2.1
      unfold isSh at hvn
      have kSk : sheetK Λ (g + 368 + 2 * k.toNat) := kS4 k.toNat (by omega)
      have hSk := hCs.sh (k := k) (by omega)
      obtain ⟨k0, k1, k2, k4⟩ := hc2
      have hc2 : isSh k ∧ (1 ≤ c ∧ c ≤ 8) ∧ (0 ≤ i ∧ i + 2 * c ≤ 24) ∧ allN (S k) i (2 * c) := ⟨k0, k1, k2, k4⟩
      refine v_iload hx DX11_seen_94 0 rfl ?_
      refine v_iload hx DX11_seen_96 7 rfl ?_
      refine v_icmp_ge hx DX11_seen_98 (by omega) (by omega) (fun c98 => ?_) (fun c98 => ?_)
      · skip
        exact v_sub [1, 2, 3, 4, 5, 6, 7] _ rfl (hC e (hz.trans (bz_congr (by rw [show j = c by omega]; exact Iff.rfl))))
      · skip
        refine v_iload hx DX11_seen_101 1 rfl ?_
        refine v_if_eq hx DX11_seen_103 (by omega) (fun c103 => ?_) (fun c103 => ?_)
        · skip
          exact v_sub [1, 2, 3, 4, 5, 6, 7] _ rfl (hC e (sn_out hz (by omega) (by omega)))
        · skip
          refine v_aload hx DX11_seen_106 5 rfl ?_
          refine v_get hx DX11_seen_107 FLRX11_12 hG.1 (v := .ref (g + 1)) rfl ?_
          refine v_iload hx DX11_seen_110 2 rfl ?_
          refine v_aload hx DX11_seen_112 4 rfl ?_
          refine v_iload hx DX11_seen_114 6 rfl ?_
          refine v_push hx DX11_seen_115 ?_
          refine v_iload hx DX11_seen_116 0 rfl ?_
          refine v_imul hx DX11_seen_118 ?_
          refine v_iadd hx DX11_seen_119 ?_
          refine v_cVp hx DX11_seen_120 CVRX11_335 [iv (i + (2 * j))] (s_numN l G Λ sz μ kSk hSk (by omega) (k4 (i + 2 * j) (by omega) (by omega))) kSk.1 rfl rfl (Nat.le_of_ble_eq_true rfl) (by decide) ⟨Nat.le_refl _, Nat.le_refl _⟩ ?_
          have nr := k4 (i + 2 * j) (by omega) (by omega)
          unfold isN at nr
          refine v_cVp hx DX11_seen_123 CVRX11_136 [iv t, iv (((S k).2.2 (i + 2 * j)).toInt)] (b_valueOf l G Λ sz μ hI kB hb (by omega) (by omega)) kB.1 rfl rfl (Nat.le_of_ble_eq_true rfl) (by decide) ⟨Nat.le_refl _, Nat.le_refl _⟩ ?_
          have vr := b.val_rng t ((S k).2.2 (i + 2 * j)).toInt
          refine v_aload hx DX11_seen_126 4 rfl ?_
          refine v_iload hx DX11_seen_128 6 rfl ?_
          refine v_push hx DX11_seen_129 ?_
          refine v_iload hx DX11_seen_130 0 rfl ?_
          refine v_imul hx DX11_seen_132 ?_
          refine v_iadd hx DX11_seen_133 ?_
          refine v_push hx DX11_seen_134 ?_
          refine v_iadd hx DX11_seen_135 ?_
          refine v_cVp hx DX11_seen_136 CVRX11_335 [iv ((i + (2 * j)) + 1)] (s_numN l G Λ sz μ kSk hSk (by omega) (k4 (i + 2 * j + 1) (by omega) (by omega))) kSk.1 rfl rfl (Nat.le_of_ble_eq_true rfl) (by decide) ⟨Nat.le_refl _, Nat.le_refl _⟩ ?_
          have nr2 := k4 (i + 2 * j + 1) (by omega) (by omega)
          unfold isN at nr2
          refine v_icmp_ne hx DX11_seen_139 (by omega) (by omega) (fun c139 => ?_) (fun c139 => ?_)
          · skip
            have hx0 : ¬ (fun q : Nat => b.val t ((S k).2.2 (i + 2 * (q : Int))).toInt = ((S k).2.2 (i + 2 * (q : Int) + 1)).toInt) j.toNat := fun w => by
              have w2 : b.val t ((S k).2.2 (i + 2 * (j.toNat : Int))).toInt = ((S k).2.2 (i + 2 * (j.toNat : Int) + 1)).toInt := w
              rw [Int.toNat_of_nonneg (by omega)] at w2
              omega
            refine v_push hx DX11_seen_146 ?_
            refine v_istore hx DX11_seen_147 [(9, iv 0), (10, iv j), (8, iv t), (7, iv z), (5, .ref (g + 368 + 2 * k.toNat)), (0, .ref g), (3, iv i), (4, iv c)] rfl (by decide) ?_
            refine v_iinc hx DX11_seen_149 1 rfl [(10, iv (j + 1)), (9, iv 0), (8, iv t), (7, iv z), (5, .ref (g + 368 + 2 * k.toNat)), (0, .ref g), (3, iv i), (4, iv c)] rfl (by decide) ?_
            refine v_goto hx DX11_seen_152 ?_
            exact v_sub [0, 1, 2, 3, 4, 5, 6, 7] _ rfl (ih t z (j + 1) 0 (by omega) hc2 (by omega) (by omega) (bz_all1 (by omega) hx0) hC)
          · skip
            have hx1 : (fun q : Nat => b.val t ((S k).2.2 (i + 2 * (q : Int))).toInt = ((S k).2.2 (i + 2 * (q : Int) + 1)).toInt) j.toNat := by
              show b.val t ((S k).2.2 (i + 2 * (j.toNat : Int))).toInt = ((S k).2.2 (i + 2 * (j.toNat : Int) + 1)).toInt
              rw [Int.toNat_of_nonneg (by omega)]
              omega
            refine v_push hx DX11_seen_142 ?_
            refine v_goto hx DX11_seen_143 ?_
            refine v_istore hx DX11_seen_147 [(9, iv 1), (10, iv j), (8, iv t), (7, iv z), (5, .ref (g + 368 + 2 * k.toNat)), (0, .ref g), (3, iv i), (4, iv c)] rfl (by decide) ?_
            refine v_iinc hx DX11_seen_149 1 rfl [(10, iv (j + 1)), (9, iv 1), (8, iv t), (7, iv z), (5, .ref (g + 368 + 2 * k.toNat)), (0, .ref g), (3, iv i), (4, iv c)] rfl (by decide) ?_
            refine v_goto hx DX11_seen_152 ?_
            exact v_sub [0, 1, 2, 3, 4, 5, 6, 7] _ rfl (ih t z (j + 1) 1 (by omega) hc2 (by omega) (by omega) (bz_all2 (by omega) hz c103 hx1) hC)
  have L81 : ∀ (nf : Nat) (t z : Int), (15 - t < (nf : Int)) → (seenA b S k lane i c = seenN b (S k) i c 15) → (isSh k ∧ (1 ≤ c ∧ c ≤ 8) ∧ (0 ≤ i ∧ i + 2 * c ≤ 24) ∧ allN (S k) i (2 * c)) → (0 ≤ t ∧ t ≤ 15) → (z = seenN b (S k) i c t.toNat) → V G x (0, 0) Λ sz μ 81 [(8, iv t), (7, iv z), (5, .ref (g + 368 + 2 * k.toNat)), (0, .ref g), (3, iv i), (4, iv c)] [] := by
    intro nf
    induction nf with
    | zero => intro t z hm hv hc2 ht hz; exact absurd hm (by omega)
    | succ nf ih =>
      intro t z hm hv hc2 ht hz
      have sr := seenN_rng b (S k) i c t.toNat
      have hvn := hc2.1
      unfold isSh at hvn
      have kSk : sheetK Λ (g + 368 + 2 * k.toNat) := kS4 k.toNat (by omega)
      have hSk := hCs.sh (k := k) (by omega)
      obtain ⟨k0, k1, k2, k4⟩ := hc2
      have hc2 : isSh k ∧ (1 ≤ c ∧ c ≤ 8) ∧ (0 ≤ i ∧ i + 2 * c ≤ 24) ∧ allN (S k) i (2 * c) := ⟨k0, k1, k2, k4⟩
      refine v_iload hx DX11_seen_81 0 rfl ?_
      refine v_push hx DX11_seen_83 ?_
      refine v_icmp_ge hx DX11_seen_85 (by omega) (by decide) (fun c85 => ?_) (fun c85 => ?_)
      · skip
        refine v_iload hx DX11_seen_179 1 rfl ?_
        exact v_ri hx hBD DX11_seen_181 (⟨by rw [hv, hz, show t.toNat = 15 by omega], hCs⟩)
      · skip
        refine v_push hx DX11_seen_88 ?_
        refine v_istore hx DX11_seen_89 [(9, iv 1), (8, iv t), (7, iv z), (5, .ref (g + 368 + 2 * k.toNat)), (0, .ref g), (3, iv i), (4, iv c)] rfl (by decide) ?_
        refine v_push hx DX11_seen_91 ?_
        refine v_istore hx DX11_seen_92 [(10, iv 0), (9, iv 1), (8, iv t), (7, iv z), (5, .ref (g + 368 + 2 * k.toNat)), (0, .ref g), (3, iv i), (4, iv c)] rfl (by decide) ?_
        refine v_sub [0, 1, 2, 3, 4, 5, 6, 7] _ rfl (L94 100 t z 0 1 (by omega) hc2 (by omega) (by omega) (bz_pos (fun q hq => by omega)).symm (fun e2 he2 => ?_))
        have e2r := bz_rng (seenP b (S k) i c t)
        refine v_iload hx DX11_seen_155 2 rfl ?_
        refine v_iload hx DX11_seen_157 0 rfl ?_
        refine v_if_eq hx DX11_seen_159 (by omega) (fun c159 => ?_) (fun c159 => ?_)
        · skip
          refine v_push hx DX11_seen_169 ?_
          refine v_ior hx DX11_seen_170 (z := z) (bit_or0 z) ?_
          have hq : z = seenN b (S k) i c t.toNat + (if bz (seenP b (S k) i c t) = 0 then 0 else 2 ^ t.toNat) := by rw [if_pos (by omega), hz]; omega
          refine v_istore hx DX11_seen_171 [(7, iv z), (9, iv e2), (8, iv t), (5, .ref (g + 368 + 2 * k.toNat)), (0, .ref g), (3, iv i), (4, iv c)] rfl (by decide) ?_
          refine v_iinc hx DX11_seen_173 2 rfl [(8, iv (t + 1)), (7, iv z), (9, iv e2), (5, .ref (g + 368 + 2 * k.toNat)), (0, .ref g), (3, iv i), (4, iv c)] rfl (by decide) ?_
          refine v_goto hx DX11_seen_176 ?_
          exact v_sub [0, 1, 3, 4, 5, 6] _ rfl (ih (t + 1) z (by omega) hv hc2 (by omega) (by rw [show (t + 1).toNat = t.toNat + 1 by omega, seenN, Int.toNat_of_nonneg (by omega)]; exact hq))
        · skip
          refine v_push hx DX11_seen_162 ?_
          refine v_iload hx DX11_seen_163 1 rfl ?_
          refine v_ishl hx DX11_seen_165 (z := 2 ^ t.toNat) (bit_shl15 (by omega)) ?_
          refine v_goto hx DX11_seen_166 ?_
          refine v_ior hx DX11_seen_170 (z := z + 2 ^ t.toNat) (bit_or15 (by rw [hz]; exact sr)) ?_
          have hq : z + 2 ^ t.toNat = seenN b (S k) i c t.toNat + (if bz (seenP b (S k) i c t) = 0 then 0 else 2 ^ t.toNat) := by rw [if_neg (by omega), hz]
          refine v_istore hx DX11_seen_171 [(7, iv (z + 2 ^ t.toNat)), (9, iv e2), (8, iv t), (5, .ref (g + 368 + 2 * k.toNat)), (0, .ref g), (3, iv i), (4, iv c)] rfl (by decide) ?_
          refine v_iinc hx DX11_seen_173 2 rfl [(8, iv (t + 1)), (7, iv (z + 2 ^ t.toNat)), (9, iv e2), (5, .ref (g + 368 + 2 * k.toNat)), (0, .ref g), (3, iv i), (4, iv c)] rfl (by decide) ?_
          refine v_goto hx DX11_seen_176 ?_
          exact v_sub [0, 1, 3, 4, 5, 6] _ rfl (ih (t + 1) (z + 2 ^ t.toNat) (by omega) hv hc2 (by omega) (by rw [show (t + 1).toNat = t.toNat + 1 by omega, seenN, Int.toNat_of_nonneg (by omega)]; exact hq))
  refine v_aload hx DX11_seen_0 0 rfl ?_
  refine v_iload hx DX11_seen_1 1 rfl ?_
  refine v_cVp hx DX11_seen_2 CVRX11_325 [iv k] (p_isSheet l G Λ sz μ hG (by omega)) hG.1 rfl rfl (Nat.le_of_ble_eq_true rfl) (by decide) ⟨Nat.le_refl _, Nat.le_refl _⟩ ?_
  have br2 := bz_rng (isSh k)
  refine v_if_eq hx DX11_seen_5 (by omega) (fun c5 => ?_) (fun c5 => ?_)
  · skip
    have d5 := bzf c5
    refine v_push hx DX11_seen_28 ?_
    exact v_ri hx hBD DX11_seen_29 (⟨by unfold seenA; rw [if0 (fun q => by exact d5 q.1)], hCs⟩)
  · skip
    have d5 := bzt c5
    refine v_iload hx DX11_seen_8 2 rfl ?_
    refine v_push hx DX11_seen_9 ?_
    refine v_push hx DX11_seen_10 ?_
    refine v_cSp hx DX11_seen_11 CSRX11_117 [iv lane, iv 0, iv 3] (c_within l G Λ sz μ (by omega) (by omega) (by omega)) rfl rfl (Nat.le_of_ble_eq_true rfl) (by decide) ⟨Nat.le_refl _, Nat.le_refl _⟩ ?_
    have br11 := bz_rng (0 ≤ lane ∧ lane ≤ 3)
    refine v_if_eq hx DX11_seen_14 (by omega) (fun c14 => ?_) (fun c14 => ?_)
    · skip
      have d14 := bzf c14
      refine v_push hx DX11_seen_28 ?_
      exact v_ri hx hBD DX11_seen_29 (⟨by unfold seenA; rw [if0 (fun q => by exact d14 q.2.1)], hCs⟩)
    · skip
      have d14 := bzt c14
      refine v_iload hx DX11_seen_17 4 rfl ?_
      refine v_push hx DX11_seen_19 ?_
      refine v_push hx DX11_seen_20 ?_
      refine v_cSp hx DX11_seen_22 CSRX11_117 [iv c, iv 1, iv 8] (c_within l G Λ sz μ (by omega) (by omega) (by omega)) rfl rfl (Nat.le_of_ble_eq_true rfl) (by decide) ⟨Nat.le_refl _, Nat.le_refl _⟩ ?_
      have br22 := bz_rng (1 ≤ c ∧ c ≤ 8)
      refine v_if_ne hx DX11_seen_25 (by omega) (fun c25 => ?_) (fun c25 => ?_)
      · skip
        have d25 := bzt c25
        have dd5n := d5
        unfold isSh at dd5n
        have kSk : sheetK Λ (g + 368 + 2 * k.toNat) := kS4 k.toNat (by omega)
        have hSk := hCs.sh (k := k) (by omega)
        have srk := hSk.1
        have szk := hSk.2.1
        refine v_aload hx DX11_seen_30 0 rfl ?_
        refine v_get hx DX11_seen_31 FLRX11_35 hG.1 (v := .ref (g + 47)) rfl ?_
        refine v_iload hx DX11_seen_34 1 rfl ?_
        refine v_aald hx DX11_seen_35 kSh (by decide) (by omega) (by decide) (b := g + 368 + 2 * k.toNat) (sh_at (by omega)) ?_
        refine v_astore hx DX11_seen_36 [(5, .ref (g + 368 + 2 * k.toNat)), (0, .ref g), (1, iv k), (2, iv lane), (3, iv i), (4, iv c)] rfl (by decide) ?_
        refine v_aload hx DX11_seen_38 0 rfl ?_
        refine v_iload hx DX11_seen_40 3 rfl ?_
        refine v_iload hx DX11_seen_41 4 rfl ?_
        refine v_push hx DX11_seen_42 ?_
        refine v_iload hx DX11_seen_43 5 rfl ?_
        refine v_imul hx DX11_seen_45 ?_
        refine v_cVp hx DX11_seen_46 CVRX11_328 [iv lane, iv i, iv (2 * c)] (s_refusal l G Λ sz μ kSk hSk (by omega) (by omega) (by omega)) kSk.1 rfl rfl (Nat.le_of_ble_eq_true rfl) (by decide) ⟨Nat.le_refl _, Nat.le_refl _⟩ ?_
        have rr := (S k).ref_rng lane i (2 * c)
        refine v_istore hx DX11_seen_49 [(6, iv ((S k).ref lane i (2 * c))), (5, .ref (g + 368 + 2 * k.toNat)), (0, .ref g), (1, iv k), (2, iv lane), (3, iv i), (4, iv c)] rfl (by decide) ?_
        refine v_iload hx DX11_seen_51 0 rfl ?_
        refine v_if_eq hx DX11_seen_53 (by omega) (fun c53 => ?_) (fun c53 => ?_)
        · skip
          have rf := ref_0 (s := S k) (lane := lane) (i := i) (c := 2 * c) (by omega)
          refine v_aload hx DX11_seen_59 1 rfl ?_
          refine v_iload hx DX11_seen_61 5 rfl ?_
          refine v_push hx DX11_seen_62 ?_
          refine v_iload hx DX11_seen_63 6 rfl ?_
          refine v_imul hx DX11_seen_65 ?_
          refine v_cVp hx DX11_seen_66 CVRX11_332 [iv i, iv (2 * c)] (s_holdN l G Λ sz μ kSk hSk (by omega)) kSk.1 rfl rfl (Nat.le_of_ble_eq_true rfl) (by decide) ⟨Nat.le_refl _, Nat.le_refl _⟩ ?_
          have br66 := bz_rng (allN (S k) i (2 * c))
          refine v_if_ne hx DX11_seen_69 (by omega) (fun c69 => ?_) (fun c69 => ?_)
          · skip
            have d69 := bzt c69
            refine v_push hx DX11_seen_75 ?_
            refine v_istore hx DX11_seen_76 [(7, iv 0), (6, iv ((S k).ref lane i (2 * c))), (5, .ref (g + 368 + 2 * k.toNat)), (0, .ref g), (1, iv k), (2, iv lane), (3, iv i), (4, iv c)] rfl (by decide) ?_
            refine v_push hx DX11_seen_78 ?_
            refine v_istore hx DX11_seen_79 [(8, iv 0), (7, iv 0), (6, iv ((S k).ref lane i (2 * c))), (5, .ref (g + 368 + 2 * k.toNat)), (0, .ref g), (1, iv k), (2, iv lane), (3, iv i), (4, iv c)] rfl (by decide) ?_
            exact v_sub [0, 1, 3, 4, 7, 8] _ rfl (L81 100 0 0 (by omega) (by unfold seenA; rw [if1 ⟨d5, d14, d25⟩, if_neg (by omega), if1 d69]) ⟨d5, by omega, by omega, d69⟩ (by omega) rfl)
          · skip
            have d69 := bzf c69
            refine v_push hx DX11_seen_72 ?_
            exact v_ri hx hBD DX11_seen_74 (⟨by unfold seenA; rw [if1 ⟨d5, d14, d25⟩, if_neg (by omega), if0 d69], hCs⟩)
        · skip
          refine v_iload hx DX11_seen_56 0 rfl ?_
          exact v_ri hx hBD DX11_seen_58 (⟨by unfold seenA; rw [if1 ⟨d5, d14, d25⟩, if_pos (by omega)], hCs⟩)
      · skip
        have d25 := bzf c25
        refine v_push hx DX11_seen_28 ?_
        exact v_ri hx hBD DX11_seen_29 (⟨by unfold seenA; rw [if0 (fun q => by exact d25 q.2.2)], hCs⟩)
