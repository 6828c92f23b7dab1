/-! ===== the class: coef, letter, value, told, count, seed, undo, image, restore ===== -/
theorem let_fin {b : Bd} {f i k : Int} (ht : isTO f i) (hk : 0 ≤ k) (z : Int) (e : z = (if 0 ≤ k ∧ k < ((ftxt (b.num (5 * f + i + 2)) (b.den (5 * f + i + 2))).length : Int) then (ftxt (b.num (5 * f + i + 2)) (b.den (5 * f + i + 2))).getD k.toNat 0 else -1)) : (z < 0 → -4 = letA b f i k) ∧ (¬ z < 0 → z = letA b f i k) := by
  unfold letA Bd.txt
  rw [if1 ⟨ht, hk⟩]
  by_cases c : k < ((ftxt (b.num (5 * f + i + 2)) (b.den (5 * f + i + 2))).length : Int)
  · rw [if_pos ⟨hk, c⟩] at e
    rw [if_pos c]
    have := ftxt_at (N := b.num (5 * f + i + 2)) (D := b.den (5 * f + i + 2)) (k := k.toNat) (by omega)
    exact ⟨fun q => by omega, fun _ => e⟩
  · rw [if_neg (by omega)] at e
    rw [if_neg c]
    exact ⟨fun _ => rfl, fun q => by omega⟩
def sedB (b : Bd) (v : Int) : Bd := if v < 0 then b else (b.1, b.2.1, b.2.2.1, v)
theorem BA.sed {m m' : Mem} {β : Nat} {b : Bd} {v : Int} (h : BA m β b) (hv : 0 ≤ v ∧ v ≤ 2147483647) (e : m' = mI m β 3 v) : BA m' β (b.1, b.2.1, b.2.2.1, v) ∧ FrB β m m' :=
  ⟨⟨⟨h.1.1, h.1.2.1, h.1.2.2.1, hv⟩, fun j h0 h1 => by rw [e, mI_ne (by omega)]; exact h.2.1 j h0 h1, fun j h0 h1 => by rw [e, mI_ne (by omega)]; exact h.2.2.1 j h0 h1, by rw [e, mI_at, if_neg (by decide)]; exact h.2.2.2.1, by rw [e, mI_at, if_pos rfl]⟩, by rw [e]; exact Fr.mI (by simp)⟩
def undB (b : Bd) (h : Hs) : Bd := if h.1 = 0 then b else h.2 0
def undH (h : Hs) : Hs := if h.1 = 0 then h else h.pop
theorem KS.und {Λ : Lay} {g : Nat} {μ0 μ m μ' : Mem} {b b' : Bd} {h h' : Hs} {im : Option (Bd × Hs)} {T : List Int} {S : Int → Sht} (hK : GK Λ g) (c : KS Λ μ0 μ g b h im T S) (hh : HA μ' (g + 4) h') (hb : BA μ' (g + 1) b') (f1 : FrI (g + 4) (g + 4) μ m) (f2 : FrB (g + 1) m μ') : KS Λ μ0 μ' g b' h' im T S := by
  obtain ⟨⟨π, hA⟩, c2, c3, c4, c5, c6, c7, cw, c8⟩ := c
  have bo := hK.2.1.1.off
  have fc1 : FC Λ (fun a => g + 1 ≤ a ∧ a ≤ g + 4) μ m := f1.fc (fun a h0 h1 => hK.2.1.2.1.off a h0 (by omega)) hA (fun a h0 h1 => ⟨by omega, by omega⟩)
  obtain ⟨π1, hA1⟩ := fc1.2
  have fc2 : FC Λ (fun a => g + 1 ≤ a ∧ a ≤ g + 4) m μ' := f2.i.fc (fun a h0 h1 => by
    have : a = g + 1 ∨ a = g + 1 + 1 ∨ a = g + 1 + 2 := by omega
    rcases this with rfl | rfl | rfl
    · exact bo.1
    · exact bo.2.1
    · exact bo.2.2) hA1 (fun a h0 h1 => ⟨h0, by omega⟩)
  have fc := fc1.trans fc2
  have rk := hK.2.2.2.1.2.2.2.2.2.1
  have e := (fc.1 (g + 263) rk.off.1 (by omega)).1
  exact ⟨fc.2, hb, hh, c4.fc hK fc ⟨by omega, fun a h0 h1 => by omega⟩, c5.fc rk fc ⟨by omega, by omega⟩, by rw [e]; exact c6, fun k hk => (c7 k hk).fc (hK.2.2.2.2.2.1 k hk) fc ⟨by omega, by omega⟩, WA.fc cw hK.2.2.2.1.2.2.2.2.2.2 fc ⟨by omega, by omega⟩, fc.out hK (fun a q => by omega) c8⟩
theorem numT_le6 (v : Int) : ∀ z ∈ numT v, z ≤ 126 := by
  intro z hz
  unfold numT at hz
  rcases List.mem_append.mp hz with h | h
  · rcases List.mem_append.mp h with h | h
    · split at h
      · rw [List.mem_singleton.mp h]; omega
      · exact absurd h (by simp)
    · split at h
      · rw [List.mem_singleton.mp h]; omega
      · exact absurd h (by simp)
  · rw [List.mem_singleton.mp h]; omega
theorem termT_le6 (c k : Int) : ∀ z ∈ termT c k, z ≤ 126 := by
  intro z hz
  unfold termT at hz
  rcases List.mem_append.mp hz with h | h
  · rcases List.mem_append.mp h with h | h
    · split at h
      · rcases List.mem_append.mp h with h | h
        · exact numT_le6 c z h
        · split at h
          · rw [List.mem_singleton.mp h]; omega
          · exact absurd h (by simp)
      · exact absurd h (by simp)
    · split at h
      · rw [List.mem_singleton.mp h]; omega
      · exact absurd h (by simp)
  · split at h
    · rcases List.mem_cons.mp h with h | h
      · omega
      · exact numT_le6 k z h
    · exact absurd h (by simp)
theorem polyT_le6 (p : PS) (d : Int) : ∀ (n : Nat), ∀ z ∈ polyT p d n, z ≤ 126 := by
  intro n
  induction n with
  | zero => intro z hz; exact absurd hz (by simp [polyT])
  | succ n ih =>
    intro z hz
    rw [polyT] at hz
    rcases List.mem_append.mp hz with h | h
    · split at h
      · exact absurd h (by simp)
      · rcases List.mem_append.mp h with h | h
        · split at h
          · rw [List.mem_singleton.mp h]; omega
          · exact absurd h (by simp)
        · exact termT_le6 _ _ z h
    · exact ih z h
theorem ptxt_le6 (p : PS) : ∀ z ∈ ptxt p, z ≤ 126 := by
  intro z hz
  unfold ptxt at hz
  split at hz
  · rw [List.mem_singleton.mp hz]; omega
  · exact polyT_le6 _ _ _ z hz
theorem ftxt_le6 (N D : PS) : ∀ z ∈ ftxt N D, z ≤ 126 := by
  intro z hz
  unfold ftxt at hz
  split at hz
  · exact ptxt_le6 N z hz
  · simp only [List.mem_append, List.mem_cons, List.not_mem_nil, or_false] at hz
    rcases hz with (((h | h) | h) | h) | h
    · omega
    · exact ptxt_le6 N z h
    · omega
    · exact ptxt_le6 D z h
    · omega
theorem ftxt_at6 {N D : PS} {k : Nat} (h : k < (ftxt N D).length) : (ftxt N D).getD k 0 ≤ 126 := by
  refine ftxt_le6 N D _ ?_
  rw [List.getD_eq_getElem?_getD, List.getElem?_eq_getElem h]
  exact List.getElem_mem _
theorem sgn_rng (N D : PS) (k : Int) : -1 ≤ (if 0 ≤ k ∧ k < ((ftxt N D).length : Int) then (ftxt N D).getD k.toNat 0 else -1) ∧ (if 0 ≤ k ∧ k < ((ftxt N D).length : Int) then (ftxt N D).getD k.toNat 0 else -1) ≤ 2147483647 := by
  split
  · rename_i c
    have := ftxt_at (N := N) (D := D) (k := k.toNat) (by omega)
    have t := ftxt_at6 (N := N) (D := D) (k := k.toNat) (by omega)
    exact ⟨by omega, by omega⟩
  · omega
theorem p_coef (l : Launch) (G : Gl) (Λ : Lay) (sz : Nat) (μ : Mem) {g : Nat} {μ0 : Mem} {b : Bd} {h : Hs} {im : Option (Bd × Hs)} {T : List Int} {S : Int → Sht} {f i w k : Int} (hG : GK Λ g) (hC : KS Λ μ0 μ g b h im T S) (hI : INV G Λ) (hgd : b.good) (rf : inR f) (ri : inR i) (rw : inR w) (rk : inR k) : Sp l G yX11_coef cX11_coef 7 (some FieldType.int) 2 [.ref g, iv f, iv i, iv w, iv k] Λ sz μ (pI (fun z μ' => z = coefA b f i w k ∧ KS Λ μ μ' g b h im T S)) := by
  refine Sp.intro (by decide) (Nat.le_of_ble_eq_true rfl) (fun x hx hBD => ?_)
  refine v_lv [(0, .ref g), (1, iv f), (2, iv i), (3, iv w), (4, iv k)] rfl ?_
  have hGG := hG
  obtain ⟨hG0, ⟨kB, kH, kB2, kH2⟩, ⟨kSh, kRs⟩, ⟨kK, kSp, kP, kQ, kRe, kRd, kW⟩, ⟨kGi, kSe, kTo, kAn⟩, kS4, kR5, kOut⟩ := hG
  have hG := hGG
  have hCs := hC.start
  obtain ⟨⟨π, hA⟩, hb, hh, him, hT, hdg, hSh, hWr, hout⟩ := hC
  have bok := hb.1
  by_cases hto : isTO f i
  · skip
    have hn := hto.n
    refine v_iload hx DX11_coef_0 1 rfl ?_
    refine v_iload hx DX11_coef_1 2 rfl ?_
    refine v_cSp hx DX11_coef_2 CSRX11_113 [iv f, iv i] (c_termOf l G Λ sz μ (by omega) (by omega)) rfl rfl (Nat.le_of_ble_eq_true rfl) (by decide) ⟨Nat.le_refl _, Nat.le_refl _⟩ ?_
    refine v_top (z' := (5 * f + i + 2)) (if1 hto) ?_
    refine v_istore hx DX11_coef_5 [(5, iv (5 * f + i + 2)), (0, .ref g), (1, iv f), (2, iv i), (3, iv w), (4, iv k)] rfl (by decide) ?_
    refine v_iload hx DX11_coef_7 0 rfl ?_
    refine v_if_lt hx DX11_coef_9 (by omega) (fun c9 => ?_) (fun c9 => ?_)
    · skip
      refine v_push hx DX11_coef_26 ?_
      exact v_ri hx hBD DX11_coef_27 (⟨by unfold coefA; rw [if0 (fun q => by have := q.2.2; omega)], hCs⟩)
    · skip
      refine v_iload hx DX11_coef_12 4 rfl ?_
      refine v_push hx DX11_coef_13 ?_
      refine v_push hx DX11_coef_14 ?_
      refine v_cSp hx DX11_coef_15 CSRX11_117 [iv w, iv 0, iv 1] (c_within l G Λ sz μ (by omega) (by omega) (by omega)) rfl rfl (Nat.le_of_ble_eq_true rfl) (by decide) ⟨Nat.le_refl _, Nat.le_refl _⟩ ?_
      have br15 := bz_rng (0 ≤ w ∧ w ≤ 1)
      refine v_if_eq hx DX11_coef_18 (by omega) (fun c18 => ?_) (fun c18 => ?_)
      · skip
        have d18 := bzf c18
        refine v_push hx DX11_coef_26 ?_
        exact v_ri hx hBD DX11_coef_27 (⟨by unfold coefA; rw [if0 (fun q => by exact d18 q.2.1)], hCs⟩)
      · skip
        have d18 := bzt c18
        refine v_iload hx DX11_coef_21 5 rfl ?_
        refine v_if_ge hx DX11_coef_23 (by omega) (fun c23 => ?_) (fun c23 => ?_)
        · skip
          refine v_iload hx DX11_coef_28 4 rfl ?_
          refine v_if_ne hx DX11_coef_29 (by omega) (fun c29 => ?_) (fun c29 => ?_)
          · skip
            refine v_push hx DX11_coef_37 ?_
            refine v_istore hx DX11_coef_38 [(6, iv 4), (5, iv (5 * f + i + 2)), (0, .ref g), (1, iv f), (2, iv i), (3, iv w), (4, iv k)] rfl (by decide) ?_
            refine v_iload hx DX11_coef_40 6 rfl ?_
            refine v_iload hx DX11_coef_42 0 rfl ?_
            refine v_icmp_le hx DX11_coef_44 (by omega) (by decide) (fun c44 => ?_) (fun c44 => ?_)
            · skip
              refine v_aload hx DX11_coef_51 2 rfl ?_
              refine v_get hx DX11_coef_52 FLRX11_12 hG.1 (v := .ref (g + 1)) rfl ?_
              refine v_iload hx DX11_coef_55 1 rfl ?_
              refine v_iload hx DX11_coef_57 5 rfl ?_
              refine v_if_ne hx DX11_coef_58 (by omega) (fun c58 => ?_) (fun c58 => ?_)
              · skip
                refine v_push hx DX11_coef_66 ?_
                refine v_iload hx DX11_coef_68 6 rfl ?_
                refine v_iadd hx DX11_coef_70 ?_
                refine v_cVp hx DX11_coef_71 CVRX11_121 [iv (5 * f + i + 2), iv (7 + k)] (b_cell l G Λ sz μ kB hb (by omega) (by omega)) kB.1 rfl rfl (Nat.le_of_ble_eq_true rfl) (by decide) ⟨Nat.le_refl _, Nat.le_refl _⟩ ?_
                exact v_ri hx hBD DX11_coef_74 (⟨by unfold coefA; rw [if1 ⟨hto, d18, by omega⟩, if_neg (by omega)]; rw [ca_of (by omega), Bd.den_cf bok (by omega) (by omega) (by omega)], hCs⟩)
              · exact absurd c58 (by omega)
            · skip
              refine v_push hx DX11_coef_47 ?_
              refine v_goto hx DX11_coef_48 ?_
              exact v_ri hx hBD DX11_coef_74 (⟨by unfold coefA; rw [if1 ⟨hto, d18, by omega⟩, if_neg (by omega)]; rw [ca_big (b.den_lt _) (by have := PS.size_le (b.den_lt (5 * f + i + 2)); omega)], hCs⟩)
          · skip
            refine v_push hx DX11_coef_32 ?_
            refine v_goto hx DX11_coef_34 ?_
            refine v_istore hx DX11_coef_38 [(6, iv 6), (5, iv (5 * f + i + 2)), (0, .ref g), (1, iv f), (2, iv i), (3, iv w), (4, iv k)] rfl (by decide) ?_
            refine v_iload hx DX11_coef_40 6 rfl ?_
            refine v_iload hx DX11_coef_42 0 rfl ?_
            refine v_icmp_le hx DX11_coef_44 (by omega) (by decide) (fun c44 => ?_) (fun c44 => ?_)
            · skip
              refine v_aload hx DX11_coef_51 2 rfl ?_
              refine v_get hx DX11_coef_52 FLRX11_12 hG.1 (v := .ref (g + 1)) rfl ?_
              refine v_iload hx DX11_coef_55 1 rfl ?_
              refine v_iload hx DX11_coef_57 5 rfl ?_
              refine v_if_ne hx DX11_coef_58 (by omega) (fun c58 => ?_) (fun c58 => ?_)
              · exact absurd c58 (by omega)
              · skip
                refine v_iload hx DX11_coef_61 6 rfl ?_
                refine v_goto hx DX11_coef_63 ?_
                refine v_cVp hx DX11_coef_71 CVRX11_121 [iv (5 * f + i + 2), iv k] (b_cell l G Λ sz μ kB hb (by omega) (by omega)) kB.1 rfl rfl (Nat.le_of_ble_eq_true rfl) (by decide) ⟨Nat.le_refl _, Nat.le_refl _⟩ ?_
                exact v_ri hx hBD DX11_coef_74 (⟨by unfold coefA; rw [if1 ⟨hto, d18, by omega⟩, if_pos (by omega)]; rw [ca_of (by omega), Bd.num_cf bok (by omega) (by omega)], hCs⟩)
            · skip
              refine v_push hx DX11_coef_47 ?_
              refine v_goto hx DX11_coef_48 ?_
              exact v_ri hx hBD DX11_coef_74 (⟨by unfold coefA; rw [if1 ⟨hto, d18, by omega⟩, if_pos (by omega)]; rw [ca_big (b.num_lt _) (by have := PS.size_le (b.num_lt (5 * f + i + 2)); omega)], hCs⟩)
        · skip
          refine v_push hx DX11_coef_26 ?_
          exact v_ri hx hBD DX11_coef_27 (⟨by unfold coefA; rw [if0 (fun q => by have := q.2.2; omega)], hCs⟩)
  · skip
    refine v_iload hx DX11_coef_0 1 rfl ?_
    refine v_iload hx DX11_coef_1 2 rfl ?_
    refine v_cSp hx DX11_coef_2 CSRX11_113 [iv f, iv i] (c_termOf l G Λ sz μ (by omega) (by omega)) rfl rfl (Nat.le_of_ble_eq_true rfl) (by decide) ⟨Nat.le_refl _, Nat.le_refl _⟩ ?_
    refine v_top (z' := -1) (if0 hto) ?_
    refine v_istore hx DX11_coef_5 [(5, iv (-1)), (0, .ref g), (1, iv f), (2, iv i), (3, iv w), (4, iv k)] rfl (by decide) ?_
    refine v_iload hx DX11_coef_7 0 rfl ?_
    refine v_if_lt hx DX11_coef_9 (by decide) (fun c9 => ?_) (fun c9 => ?_)
    · skip
      refine v_push hx DX11_coef_26 ?_
      exact v_ri hx hBD DX11_coef_27 (⟨by unfold coefA; rw [if0 (fun q => by exact hto q.1)], hCs⟩)
    · exact absurd c9 (by decide)
theorem p_value (l : Launch) (G : Gl) (Λ : Lay) (sz : Nat) (μ : Mem) {g : Nat} {μ0 : Mem} {b : Bd} {h : Hs} {im : Option (Bd × Hs)} {T : List Int} {S : Int → Sht} {f i v : Int} (hG : GK Λ g) (hC : KS Λ μ0 μ g b h im T S) (hI : INV G Λ) (hgd : b.good) (rf : inR f) (ri : inR i) (rv : inR v) : Sp l G yX11_value cX11_value 5 (some FieldType.int) 4 [.ref g, iv f, iv i, iv v] Λ sz μ (pI (fun z μ' => z = valA b f i v ∧ KS Λ μ μ' g b h im T S)) := by
  refine Sp.intro (by decide) (Nat.le_of_ble_eq_true rfl) (fun x hx hBD => ?_)
  refine v_lv [(0, .ref g), (1, iv f), (2, iv i), (3, iv v)] rfl ?_
  have hGG := hG
  obtain ⟨hG0, ⟨kB, kH, kB2, kH2⟩, ⟨kSh, kRs⟩, ⟨kK, kSp, kP, kQ, kRe, kRd, kW⟩, ⟨kGi, kSe, kTo, kAn⟩, kS4, kR5, kOut⟩ := hG
  have hG := hGG
  have hCs := hC.start
  obtain ⟨⟨π, hA⟩, hb, hh, him, hT, hdg, hSh, hWr, hout⟩ := hC
  have bok := hb.1
  by_cases hto : isTO f i
  · skip
    have hn := hto.n
    refine v_iload hx DX11_value_0 1 rfl ?_
    refine v_iload hx DX11_value_1 2 rfl ?_
    refine v_cSp hx DX11_value_2 CSRX11_113 [iv f, iv i] (c_termOf l G Λ sz μ (by omega) (by omega)) rfl rfl (Nat.le_of_ble_eq_true rfl) (by decide) ⟨Nat.le_refl _, Nat.le_refl _⟩ ?_
    refine v_top (z' := (5 * f + i + 2)) (if1 hto) ?_
    refine v_istore hx DX11_value_5 [(4, iv (5 * f + i + 2)), (0, .ref g), (1, iv f), (2, iv i), (3, iv v)] rfl (by decide) ?_
    refine v_iload hx DX11_value_7 0 rfl ?_
    refine v_if_lt hx DX11_value_9 (by omega) (fun c9 => ?_) (fun c9 => ?_)
    · skip
      refine v_push hx DX11_value_22 ?_
      exact v_ri hx hBD DX11_value_23 (⟨by unfold valA; rw [if0 (fun q => by omega)], hCs⟩)
    · skip
      refine v_iload hx DX11_value_12 4 rfl ?_
      refine v_push hx DX11_value_13 ?_
      refine v_push hx DX11_value_14 ?_
      refine v_cSp hx DX11_value_16 CSRX11_117 [iv v, iv 0, iv 100] (c_within l G Λ sz μ (by omega) (by omega) (by omega)) rfl rfl (Nat.le_of_ble_eq_true rfl) (by decide) ⟨Nat.le_refl _, Nat.le_refl _⟩ ?_
      have br16 := bz_rng (0 ≤ v ∧ v ≤ 100)
      refine v_if_ne hx DX11_value_19 (by omega) (fun c19 => ?_) (fun c19 => ?_)
      · skip
        have d19 := bzt c19
        refine v_aload hx DX11_value_24 1 rfl ?_
        refine v_get hx DX11_value_25 FLRX11_12 hG.1 (v := .ref (g + 1)) rfl ?_
        refine v_iload hx DX11_value_28 0 rfl ?_
        refine v_iload hx DX11_value_30 4 rfl ?_
        refine v_cVp hx DX11_value_31 CVRX11_136 [iv (5 * f + i + 2), iv v] (b_valueOf l G Λ sz μ hI kB hb (by omega) (by omega)) kB.1 rfl rfl (Nat.le_of_ble_eq_true rfl) (by decide) ⟨Nat.le_refl _, Nat.le_refl _⟩ ?_
        exact v_ri hx hBD DX11_value_34 (⟨by unfold valA; rw [if1 ⟨hto, d19⟩], hCs⟩)
      · skip
        have d19 := bzf c19
        refine v_push hx DX11_value_22 ?_
        exact v_ri hx hBD DX11_value_23 (⟨by unfold valA; rw [if0 (fun q => by exact d19 q.2)], hCs⟩)
  · skip
    refine v_iload hx DX11_value_0 1 rfl ?_
    refine v_iload hx DX11_value_1 2 rfl ?_
    refine v_cSp hx DX11_value_2 CSRX11_113 [iv f, iv i] (c_termOf l G Λ sz μ (by omega) (by omega)) rfl rfl (Nat.le_of_ble_eq_true rfl) (by decide) ⟨Nat.le_refl _, Nat.le_refl _⟩ ?_
    refine v_top (z' := -1) (if0 hto) ?_
    refine v_istore hx DX11_value_5 [(4, iv (-1)), (0, .ref g), (1, iv f), (2, iv i), (3, iv v)] rfl (by decide) ?_
    refine v_iload hx DX11_value_7 0 rfl ?_
    refine v_if_lt hx DX11_value_9 (by decide) (fun c9 => ?_) (fun c9 => ?_)
    · skip
      refine v_push hx DX11_value_22 ?_
      exact v_ri hx hBD DX11_value_23 (⟨by unfold valA; rw [if0 (fun q => by exact hto q.1)], hCs⟩)
    · exact absurd c9 (by decide)
theorem p_told (l : Launch) (G : Gl) (Λ : Lay) (sz : Nat) (μ : Mem) {g : Nat} {μ0 : Mem} {b : Bd} {h : Hs} {im : Option (Bd × Hs)} {T : List Int} {S : Int → Sht} {f w : Int} (hG : GK Λ g) (hC : KS Λ μ0 μ g b h im T S) (hI : INV G Λ) (hgd : b.good) (rf : inR f) (rw : inR w) : Sp l G yX11_told cX11_told 3 (some FieldType.int) 5 [.ref g, iv f, iv w] Λ sz μ (pI (fun z μ' => z = tldA b f w ∧ KS Λ μ μ' g b h im T S)) := by
  refine Sp.intro (by decide) (Nat.le_of_ble_eq_true rfl) (fun x hx hBD => ?_)
  refine v_lv [(0, .ref g), (1, iv f), (2, iv w)] rfl ?_
  have hGG := hG
  obtain ⟨hG0, ⟨kB, kH, kB2, kH2⟩, ⟨kSh, kRs⟩, ⟨kK, kSp, kP, kQ, kRe, kRd, kW⟩, ⟨kGi, kSe, kTo, kAn⟩, kS4, kR5, kOut⟩ := hG
  have hG := hGG
  have hCs := hC.start
  obtain ⟨⟨π, hA⟩, hb, hh, him, hT, hdg, hSh, hWr, hout⟩ := hC
  have bok := hb.1
  refine v_iload hx DX11_told_0 1 rfl ?_
  refine v_cSp hx DX11_told_1 CSRX11_139 [iv f] (c_isFunction l G Λ sz μ (by omega)) rfl rfl (Nat.le_of_ble_eq_true rfl) (by decide) ⟨Nat.le_refl _, Nat.le_refl _⟩ ?_
  have br1 := bz_rng (0 ≤ f ∧ f ≤ 2)
  refine v_if_eq hx DX11_told_4 (by omega) (fun c4 => ?_) (fun c4 => ?_)
  · skip
    have d4 := bzf c4
    refine v_push hx DX11_told_16 ?_
    exact v_ri hx hBD DX11_told_17 (⟨by unfold tldA; rw [if0 (fun q => by exact d4 q.1)], hCs⟩)
  · skip
    have d4 := bzt c4
    refine v_iload hx DX11_told_7 2 rfl ?_
    refine v_push hx DX11_told_8 ?_
    refine v_push hx DX11_told_9 ?_
    refine v_cSp hx DX11_told_10 CSRX11_117 [iv w, iv 0, iv 3] (c_within l G Λ sz μ (by omega) (by omega) (by omega)) rfl rfl (Nat.le_of_ble_eq_true rfl) (by decide) ⟨Nat.le_refl _, Nat.le_refl _⟩ ?_
    have br10 := bz_rng (0 ≤ w ∧ w ≤ 3)
    refine v_if_ne hx DX11_told_13 (by omega) (fun c13 => ?_) (fun c13 => ?_)
    · skip
      have d13 := bzt c13
      refine v_iload hx DX11_told_18 2 rfl ?_
      by_cases t19_0 : w = 0
      · skip
        refine v_tabIn hx DX11_told_19 (by omega) (by omega) (off := 25) (tgt := 44) (by rw [t19_0]; rfl) (by decide) ?_
        refine v_aload hx DX11_told_44 0 rfl ?_
        refine v_get hx DX11_told_45 FLRX11_12 hG.1 (v := .ref (g + 1)) rfl ?_
        refine v_iload hx DX11_told_48 1 rfl ?_
        refine v_cVp hx DX11_told_49 CVRX11_143 [iv f] (b_filled l G Λ sz μ kB hb (by omega)) kB.1 rfl rfl (Nat.le_of_ble_eq_true rfl) (by decide) ⟨Nat.le_refl _, Nat.le_refl _⟩ ?_
        exact v_ri hx hBD DX11_told_52 (⟨by unfold tldA; rw [if1 ⟨d4, d13⟩, if_pos (by omega)], hCs⟩)
      by_cases t19_1 : w = 1
      · skip
        refine v_tabIn hx DX11_told_19 (by omega) (by omega) (off := 34) (tgt := 53) (by rw [t19_1]; rfl) (by decide) ?_
        refine v_aload hx DX11_told_53 0 rfl ?_
        refine v_get hx DX11_told_54 FLRX11_12 hG.1 (v := .ref (g + 1)) rfl ?_
        refine v_iload hx DX11_told_57 1 rfl ?_
        refine v_cVp hx DX11_told_58 CVRX11_146 [iv f] (b_denominators l G Λ sz μ kB hb (by omega)) kB.1 rfl rfl (Nat.le_of_ble_eq_true rfl) (by decide) ⟨Nat.le_refl _, Nat.le_refl _⟩ ?_
        exact v_ri hx hBD DX11_told_61 (⟨by unfold tldA; rw [if1 ⟨d4, d13⟩, if_neg (by omega), if_pos (by omega)], hCs⟩)
      by_cases t19_2 : w = 2
      · skip
        refine v_tabIn hx DX11_told_19 (by omega) (by omega) (off := 43) (tgt := 62) (by rw [t19_2]; rfl) (by decide) ?_
        refine v_aload hx DX11_told_62 0 rfl ?_
        refine v_get hx DX11_told_63 FLRX11_12 hG.1 (v := .ref (g + 1)) rfl ?_
        refine v_iload hx DX11_told_66 1 rfl ?_
        refine v_cVi hx DX11_told_67 CVRX11_149 [iv f] (b_leastTwin l G Λ sz μ kB hb (by omega)) kB.1 rfl rfl (Nat.le_of_ble_eq_true rfl) (by decide) ⟨Nat.le_refl _, Nat.le_refl _⟩ (fun z10 μ9 hμ9 => ?_)
        obtain ⟨em, z0, z1, z2, z3⟩ := hμ9
        have ez := Bd.tw_of (by omega) z0 z1 z2 z3
        subst em
        exact v_ri hx hBD DX11_told_70 (⟨by unfold tldA; rw [if1 ⟨d4, d13⟩, if_neg (by omega), if_neg (by omega), if_neg (by omega)]; exact ez, hCs⟩)
      refine v_tabOut hx DX11_told_19 (by omega) (by omega) (tgt := 71) (by decide) ?_
      refine v_aload hx DX11_told_71 0 rfl ?_
      refine v_get hx DX11_told_72 FLRX11_12 hG.1 (v := .ref (g + 1)) rfl ?_
      refine v_iload hx DX11_told_75 1 rfl ?_
      refine v_cVp hx DX11_told_76 CVRX11_152 [iv f] (b_fits l G Λ sz μ kB hb (by omega)) kB.1 rfl rfl (Nat.le_of_ble_eq_true rfl) (by decide) ⟨Nat.le_refl _, Nat.le_refl _⟩ ?_
      have ftr := b.fit_rng f
      refine v_if_eq hx DX11_told_79 (by omega) (fun c79 => ?_) (fun c79 => ?_)
      · skip
        refine v_push hx DX11_told_86 ?_
        exact v_ri hx hBD DX11_told_87 (⟨by unfold tldA; rw [if1 ⟨d4, d13⟩, if_neg (by omega), if_neg (by omega), if_pos (by omega)]; omega, hCs⟩)
      · skip
        refine v_push hx DX11_told_82 ?_
        refine v_goto hx DX11_told_83 ?_
        exact v_ri hx hBD DX11_told_87 (⟨by unfold tldA; rw [if1 ⟨d4, d13⟩, if_neg (by omega), if_neg (by omega), if_pos (by omega)]; omega, hCs⟩)
    · skip
      have d13 := bzf c13
      refine v_push hx DX11_told_16 ?_
      exact v_ri hx hBD DX11_told_17 (⟨by unfold tldA; rw [if0 (fun q => by exact d13 q.2)], hCs⟩)
theorem p_count (l : Launch) (G : Gl) (Λ : Lay) (sz : Nat) (μ : Mem) {g : Nat} {μ0 : Mem} {b : Bd} {h : Hs} {im : Option (Bd × Hs)} {T : List Int} {S : Int → Sht} {w : Int} (hG : GK Λ g) (hC : KS Λ μ0 μ g b h im T S) (hI : INV G Λ) (hgd : b.good) (rw : inR w) : Sp l G yX11_count cX11_count 2 (some FieldType.int) 1 [.ref g, iv w] Λ sz μ (pI (fun z μ' => z = cntA b h w ∧ KS Λ μ μ' g b h im T S)) := by
  refine Sp.intro (by decide) (Nat.le_of_ble_eq_true rfl) (fun x hx hBD => ?_)
  refine v_lv [(0, .ref g), (1, iv w)] rfl ?_
  have hGG := hG
  obtain ⟨hG0, ⟨kB, kH, kB2, kH2⟩, ⟨kSh, kRs⟩, ⟨kK, kSp, kP, kQ, kRe, kRd, kW⟩, ⟨kGi, kSe, kTo, kAn⟩, kS4, kR5, kOut⟩ := hG
  have hG := hGG
  have hCs := hC.start
  obtain ⟨⟨π, hA⟩, hb, hh, him, hT, hdg, hSh, hWr, hout⟩ := hC
  have bok := hb.1
  refine v_iload hx DX11_count_0 1 rfl ?_
  refine v_push hx DX11_count_1 ?_
  refine v_push hx DX11_count_2 ?_
  refine v_cSp hx DX11_count_3 CSRX11_117 [iv w, iv 0, iv 5] (c_within l G Λ sz μ (by omega) (by omega) (by omega)) rfl rfl (Nat.le_of_ble_eq_true rfl) (by decide) ⟨Nat.le_refl _, Nat.le_refl _⟩ ?_
  have br3 := bz_rng (0 ≤ w ∧ w ≤ 5)
  refine v_if_ne hx DX11_count_6 (by omega) (fun c6 => ?_) (fun c6 => ?_)
  · skip
    have d6 := bzt c6
    refine v_iload hx DX11_count_11 1 rfl ?_
    refine v_if_ne hx DX11_count_12 (by omega) (fun c12 => ?_) (fun c12 => ?_)
    · skip
      refine v_iload hx DX11_count_23 1 rfl ?_
      refine v_push hx DX11_count_24 ?_
      refine v_icmp_ne hx DX11_count_25 (by omega) (by decide) (fun c25 => ?_) (fun c25 => ?_)
      · skip
        refine v_aload hx DX11_count_38 0 rfl ?_
        refine v_get hx DX11_count_39 FLRX11_12 hG.1 (v := .ref (g + 1)) rfl ?_
        refine v_iload hx DX11_count_42 1 rfl ?_
        refine v_push hx DX11_count_43 ?_
        refine v_isub hx DX11_count_44 ?_
        refine v_cVp hx DX11_count_45 CVRX11_162 [iv (w - 1)] (b_uAt l G Λ sz μ kB hb (by omega)) kB.1 rfl rfl (Nat.le_of_ble_eq_true rfl) (by decide) ⟨Nat.le_refl _, Nat.le_refl _⟩ ?_
        exact v_ri hx hBD DX11_count_48 (⟨by unfold cntA; rw [if_pos (by omega), if_neg (by omega), if_pos (by omega)], hCs⟩)
      · skip
        refine v_aload hx DX11_count_28 0 rfl ?_
        refine v_get hx DX11_count_29 FLRX11_19 hG.1 (v := .ref (g + 4)) rfl ?_
        refine v_get hx DX11_count_32 FLRX11_159 kH.1 (fv_i rfl (by obtain ⟨B, nx, h1, h2, h3, h4, h5, h6⟩ := hh; exact h3) : _ = iv (h.1 : Int)) ?_
        refine v_goto hx DX11_count_35 ?_
        exact v_ri hx hBD DX11_count_48 (⟨by unfold cntA; rw [if_neg (by omega), if_neg (by omega), if_pos (by omega)], hCs⟩)
    · skip
      refine v_aload hx DX11_count_15 0 rfl ?_
      refine v_get hx DX11_count_16 FLRX11_12 hG.1 (v := .ref (g + 1)) rfl ?_
      refine v_get hx DX11_count_19 FLRX11_155 kB.1 (fv_i rfl hb.2.2.2.1 : _ = iv b.2.2.1) ?_
      exact v_ri hx hBD DX11_count_22 (⟨by unfold cntA; rw [if_pos (by omega)], hCs⟩)
  · skip
    have d6 := bzf c6
    refine v_push hx DX11_count_9 ?_
    exact v_ri hx hBD DX11_count_10 (⟨by unfold cntA; rw [if_neg (by omega), if_neg (by omega), if_neg (by omega)], hCs⟩)
theorem p_letter (l : Launch) (G : Gl) (Λ : Lay) (sz : Nat) (μ : Mem) {g : Nat} {μ0 : Mem} {b : Bd} {h : Hs} {im : Option (Bd × Hs)} {T : List Int} {S : Int → Sht} {f i k : Int} (hG : GK Λ g) (hC : KS Λ μ0 μ g b h im T S) (hI : INV G Λ) (hgd : b.good) (rf : inR f) (ri : inR i) (rk : inR k) : Sp l G yX11_letter cX11_letter 6 (some FieldType.int) 5 [.ref g, iv f, iv i, iv k] Λ sz μ (pI (fun z μ' => z = letA b f i k ∧ KS Λ μ μ' g b h im T S)) := by
  refine Sp.intro (by decide) (Nat.le_of_ble_eq_true rfl) (fun x hx hBD => ?_)
  refine v_lv [(0, .ref g), (1, iv f), (2, iv i), (3, iv k)] rfl ?_
  have hGG := hG
  obtain ⟨hG0, ⟨kB, kH, kB2, kH2⟩, ⟨kSh, kRs⟩, ⟨kK, kSp, kP, kQ, kRe, kRd, kW⟩, ⟨kGi, kSe, kTo, kAn⟩, kS4, kR5, kOut⟩ := hG
  have hG := hGG
  have hCs := hC.start
  obtain ⟨⟨π, hA⟩, hb, hh, him, hT, hdg, hSh, hWr, hout⟩ := hC
  have bok := hb.1
  have hch0 : Chg Λ (fun c => c = g + 351 + 1 ∨ c = g + 351 + 3) μ μ π π := Chg.rf hA
  by_cases hto : isTO f i
  · skip
    have hn := hto.n
    refine v_iload hx DX11_letter_0 1 rfl ?_
    refine v_iload hx DX11_letter_1 2 rfl ?_
    refine v_cSp hx DX11_letter_2 CSRX11_113 [iv f, iv i] (c_termOf l G Λ sz μ (by omega) (by omega)) rfl rfl (Nat.le_of_ble_eq_true rfl) (by decide) ⟨Nat.le_refl _, Nat.le_refl _⟩ ?_
    refine v_top (z' := (5 * f + i + 2)) (if1 hto) ?_
    refine v_istore hx DX11_letter_5 [(4, iv (5 * f + i + 2)), (0, .ref g), (1, iv f), (2, iv i), (3, iv k)] rfl (by decide) ?_
    refine v_iload hx DX11_letter_7 0 rfl ?_
    refine v_if_lt hx DX11_letter_9 (by omega) (fun c9 => ?_) (fun c9 => ?_)
    · skip
      refine v_push hx DX11_letter_16 ?_
      exact v_ri hx hBD DX11_letter_17 (⟨by unfold letA; rw [if0 (fun q => by have := q.2; omega)], hCs⟩)
    · skip
      refine v_iload hx DX11_letter_12 4 rfl ?_
      refine v_if_ge hx DX11_letter_13 (by omega) (fun c13 => ?_) (fun c13 => ?_)
      · skip
        refine v_aload hx DX11_letter_18 1 rfl ?_
        refine v_get hx DX11_letter_19 FLRX11_12 hG.1 (v := .ref (g + 1)) rfl ?_
        refine v_iload hx DX11_letter_22 0 rfl ?_
        refine v_aload hx DX11_letter_24 1 rfl ?_
        refine v_get hx DX11_letter_25 FLRX11_95 hG.1 (v := .ref (g + 351)) rfl ?_
        refine v_cVv hx DX11_letter_28 CVRX11_124 [iv (5 * f + i + 2), .ref (g + 351)] (b_load (t := 5 * f + i + 2) l G Λ sz μ hA kB hb kGi (by omega)) kB.1 rfl rfl (Nat.le_of_ble_eq_true rfl) (by decide) ⟨Nat.le_refl _, Nat.le_refl _⟩ (fun μ3 hμ3 => ?_)
        obtain ⟨π3, hc3, he3_0, he3_1⟩ := hμ3
        have hA3 := hc3.1
        have hch3 := hch0.trans (hc3.mono (fun c hc => by first | omega | (dsimp only at hc ⊢; omega)))
        have k1 : KS Λ μ μ3 g b h im T S := hCs.scr hGG (hch3.fc (X := fun _ => False)) (fun a q => q.elim)
        obtain ⟨W0, hW0⟩ := k1.2.2.2.2.2.2.2.1
        refine v_aload hx DX11_letter_31 1 rfl ?_
        refine v_get hx DX11_letter_32 FLRX11_84 hG.1 (v := .ref (g + 348)) rfl ?_
        refine v_aload hx DX11_letter_35 1 rfl ?_
        refine v_get hx DX11_letter_36 FLRX11_95 hG.1 (v := .ref (g + 351)) rfl ?_
        refine v_cVv hx DX11_letter_39 CVRX11_128 [.ref (g + 351)] (w_frac (T := W0) l G Λ sz μ3 kW hW0 kGi (AB.get (A := b.num (5 * f + i + 2)) hA3 kGi.2.1 he3_0) (AB.get (A := b.den (5 * f + i + 2)) hA3 kGi.2.2 he3_1) (PS.size_le (b.num_lt _)) (PS.size_le (b.den_lt _))) kW.1 rfl rfl (Nat.le_of_ble_eq_true rfl) (by decide) ⟨Nat.le_refl _, Nat.le_refl _⟩ (fun μ4 hμ4 => ?_)
        obtain ⟨hw, fw⟩ := hμ4
        have k2 : KS Λ μ μ4 g b h im T S := k1.wri hGG hw fw
        refine v_aload hx DX11_letter_42 1 rfl ?_
        refine v_get hx DX11_letter_43 FLRX11_84 hG.1 (v := .ref (g + 348)) rfl ?_
        refine v_iload hx DX11_letter_46 4 rfl ?_
        refine v_cVp hx DX11_letter_47 CVRX11_132 [iv k] (w_sign l G Λ sz μ4 kW hw (by omega)) kW.1 rfl rfl (Nat.le_of_ble_eq_true rfl) (by decide) ⟨Nat.le_refl _, Nat.le_refl _⟩ ?_
        refine v_istore hx DX11_letter_50 [(5, iv (if 0 ≤ k ∧ k < ((ftxt (b.num (5 * f + i + 2)) (b.den (5 * f + i + 2))).length : Int) then (ftxt (b.num (5 * f + i + 2)) (b.den (5 * f + i + 2))).getD k.toNat 0 else -1)), (4, iv (5 * f + i + 2)), (0, .ref g), (1, iv f), (2, iv i), (3, iv k)] rfl (by decide) ?_
        have sgr : -1 ≤ (if 0 ≤ k ∧ k < ((ftxt (b.num (5 * f + i + 2)) (b.den (5 * f + i + 2))).length : Int) then (ftxt (b.num (5 * f + i + 2)) (b.den (5 * f + i + 2))).getD k.toNat 0 else -1) ∧ (if 0 ≤ k ∧ k < ((ftxt (b.num (5 * f + i + 2)) (b.den (5 * f + i + 2))).length : Int) then (ftxt (b.num (5 * f + i + 2)) (b.den (5 * f + i + 2))).getD k.toNat 0 else -1) ≤ 2147483647 := sgn_rng _ _ _
        refine v_iload hx DX11_letter_52 0 rfl ?_
        refine v_if_ge hx DX11_letter_54 (by omega) (fun c54 => ?_) (fun c54 => ?_)
        · skip
          refine v_iload hx DX11_letter_62 0 rfl ?_
          exact v_ri hx hBD DX11_letter_64 (⟨(let_fin hto (by omega) _ rfl).2 (by omega), k2⟩)
        · skip
          refine v_push hx DX11_letter_57 ?_
          refine v_goto hx DX11_letter_59 ?_
          exact v_ri hx hBD DX11_letter_64 (⟨(let_fin hto (by omega) _ rfl).1 (by omega), k2⟩)
      · skip
        refine v_push hx DX11_letter_16 ?_
        exact v_ri hx hBD DX11_letter_17 (⟨by unfold letA; rw [if0 (fun q => by have := q.2; omega)], hCs⟩)
  · skip
    refine v_iload hx DX11_letter_0 1 rfl ?_
    refine v_iload hx DX11_letter_1 2 rfl ?_
    refine v_cSp hx DX11_letter_2 CSRX11_113 [iv f, iv i] (c_termOf l G Λ sz μ (by omega) (by omega)) rfl rfl (Nat.le_of_ble_eq_true rfl) (by decide) ⟨Nat.le_refl _, Nat.le_refl _⟩ ?_
    refine v_top (z' := -1) (if0 hto) ?_
    refine v_istore hx DX11_letter_5 [(4, iv (-1)), (0, .ref g), (1, iv f), (2, iv i), (3, iv k)] rfl (by decide) ?_
    refine v_iload hx DX11_letter_7 0 rfl ?_
    refine v_if_lt hx DX11_letter_9 (by decide) (fun c9 => ?_) (fun c9 => ?_)
    · skip
      refine v_push hx DX11_letter_16 ?_
      exact v_ri hx hBD DX11_letter_17 (⟨by unfold letA; rw [if0 (fun q => by exact hto q.1)], hCs⟩)
    · exact absurd c9 (by decide)
theorem p_seed (l : Launch) (G : Gl) (Λ : Lay) (sz : Nat) (μ : Mem) {g : Nat} {μ0 : Mem} {b : Bd} {h : Hs} {im : Option (Bd × Hs)} {T : List Int} {S : Int → Sht} {v : Int} (hG : GK Λ g) (hC : KS Λ μ0 μ g b h im T S) (hI : INV G Λ) (hgd : b.good) (rv : inR v) : Sp l G yX11_seed cX11_seed 3 (some FieldType.int) 0 [.ref g, iv v] Λ sz μ (pI (fun z μ' => z = (if v < 0 then -1 else b.2.2.2) ∧ KS Λ μ μ' g (sedB b v) h im T S)) := by
  refine Sp.intro (by decide) (Nat.le_of_ble_eq_true rfl) (fun x hx hBD => ?_)
  refine v_lv [(0, .ref g), (1, iv v)] rfl ?_
  have hGG := hG
  obtain ⟨hG0, ⟨kB, kH, kB2, kH2⟩, ⟨kSh, kRs⟩, ⟨kK, kSp, kP, kQ, kRe, kRd, kW⟩, ⟨kGi, kSe, kTo, kAn⟩, kS4, kR5, kOut⟩ := hG
  have hG := hGG
  have hCs := hC.start
  obtain ⟨⟨π, hA⟩, hb, hh, him, hT, hdg, hSh, hWr, hout⟩ := hC
  have bok := hb.1
  refine v_iload hx DX11_seed_0 1 rfl ?_
  refine v_if_ge hx DX11_seed_1 (by omega) (fun c1 => ?_) (fun c1 => ?_)
  · skip
    refine v_aload hx DX11_seed_6 0 rfl ?_
    refine v_get hx DX11_seed_7 FLRX11_12 hG.1 (v := .ref (g + 1)) rfl ?_
    refine v_get hx DX11_seed_10 FLRX11_262 kB.1 (fv_i rfl hb.2.2.2.2 : _ = iv b.2.2.2) ?_
    refine v_istore hx DX11_seed_13 [(2, iv b.2.2.2), (0, .ref g), (1, iv v)] rfl (by decide) ?_
    refine v_aload hx DX11_seed_14 1 rfl ?_
    refine v_get hx DX11_seed_15 FLRX11_12 hG.1 (v := .ref (g + 1)) rfl ?_
    refine v_iload hx DX11_seed_18 2 rfl ?_
    refine v_pI hx DX11_seed_19 FPRX11_262 kB.1 rfl (ki := 3) rfl (fun μ1 eμ1 => ?_)
    refine v_iload hx DX11_seed_22 0 rfl ?_
    exact v_ri hx hBD DX11_seed_23 (⟨by rw [if_neg (by omega)], by unfold sedB; rw [if_neg (by omega)]; exact hCs.brd hGG (hb.sed (by omega) eμ1).1 (hb.sed (by omega) eμ1).2⟩)
  · skip
    refine v_push hx DX11_seed_4 ?_
    exact v_ri hx hBD DX11_seed_5 (⟨by rw [if_pos (by omega)], by unfold sedB; rw [if_pos (by omega)]; exact hCs⟩)
theorem p_undo (l : Launch) (G : Gl) (Λ : Lay) (sz : Nat) (μ : Mem) {g : Nat} {μ0 : Mem} {b : Bd} {h : Hs} {im : Option (Bd × Hs)} {T : List Int} {S : Int → Sht} (hG : GK Λ g) (hC : KS Λ μ0 μ g b h im T S) (hI : INV G Λ) (hgd : b.good) : Sp l G yX11_undo cX11_undo 1 (some FieldType.int) 3 [.ref g] Λ sz μ (pI (fun z μ' => z = (if h.1 = 0 then -4 else (h.pop.1 : Int)) ∧ KS Λ μ μ' g (undB b h) (undH h) im T S)) := by
  refine Sp.intro (by decide) (Nat.le_of_ble_eq_true rfl) (fun x hx hBD => ?_)
  refine v_lv [(0, .ref g)] rfl ?_
  have hGG := hG
  obtain ⟨hG0, ⟨kB, kH, kB2, kH2⟩, ⟨kSh, kRs⟩, ⟨kK, kSp, kP, kQ, kRe, kRd, kW⟩, ⟨kGi, kSe, kTo, kAn⟩, kS4, kR5, kOut⟩ := hG
  have hG := hGG
  have hCs := hC.start
  obtain ⟨⟨π, hA⟩, hb, hh, him, hT, hdg, hSh, hWr, hout⟩ := hC
  have bok := hb.1
  refine v_aload hx DX11_undo_0 0 rfl ?_
  refine v_get hx DX11_undo_1 FLRX11_19 hG.1 (v := .ref (g + 4)) rfl ?_
  refine v_aload hx DX11_undo_4 0 rfl ?_
  refine v_get hx DX11_undo_5 FLRX11_12 hG.1 (v := .ref (g + 1)) rfl ?_
  refine v_cVi hx DX11_undo_8 CVRX11_258 [.ref (g + 1)] (h_pop l G Λ sz μ kH kB hh hb (by omega)) kH.1 rfl rfl (Nat.le_of_ble_eq_true rfl) (by decide) ⟨Nat.le_refl _, Nat.le_refl _⟩ (fun z2 μ1 hμ1 => ?_)
  have hp := hμ1
  have zr : z2 = 0 ∨ z2 = 1 := by rcases hp with q | q; (· exact Or.inl q.1); (· exact Or.inr q.1)
  have hp1 : z2 ≠ 0 → (z2 = 1 ∧ h.1 ≠ 0 ∧ HA μ1 (g + 4) h.pop ∧ BA μ1 (g + 1) (h.2 0) ∧ ∃ m, FrI (g + 4) (g + 4) μ m ∧ FrB (g + 1) m μ1) := fun q => hp.resolve_left (fun t => q t.1)
  have hp0 : z2 = 0 → (h.1 = 0 ∧ μ1 = μ) := fun q => hp.elim (fun t => t.2) (fun t => absurd q (by omega))
  refine v_if_eq hx DX11_undo_11 (by omega) (fun c11 => ?_) (fun c11 => ?_)
  · skip
    refine v_push hx DX11_undo_24 ?_
    exact v_ri hx hBD DX11_undo_26 (⟨by rw [if_pos (hp0 (by omega)).1], by unfold undB undH; rw [if_pos (hp0 (by omega)).1, if_pos (hp0 (by omega)).1]; rw [(hp0 (by omega)).2]; exact hCs⟩)
  · skip
    obtain ⟨-, q2, q3, q4, mm, q5, q6⟩ := hp1 (by omega)
    refine v_aload hx DX11_undo_14 0 rfl ?_
    refine v_get hx DX11_undo_15 FLRX11_19 hG.1 (v := .ref (g + 4)) rfl ?_
    refine v_get hx DX11_undo_18 FLRX11_159 kH.1 (fv_i rfl (by obtain ⟨B, nx, h1, h2, h3, h4, h5, h6⟩ := q3; exact h3) : _ = iv (h.pop.1 : Int)) ?_
    refine v_goto hx DX11_undo_21 ?_
    exact v_ri hx hBD DX11_undo_26 (⟨by rw [if_neg q2], by unfold undB undH; rw [if_neg q2, if_neg q2]; exact hCs.und hGG q3 q4 q5 q6⟩)
