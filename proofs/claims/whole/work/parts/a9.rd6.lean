/-! ===== the class: reader, third part ===== -/
noncomputable def cmR (T : List Int) (dg : Int) : Int × List Int := crun T 92 0 0 [] [] 0 dg
theorem TPA.snoc {m m1 m2 : Mem} {r : Nat} {T : List Int} {c : Int} (h : TPA m r T) (hl : T.length < 90) (hc : 32 ≤ c ∧ c ≤ 126) (e1 : m1 = mI m (r + 1) (T.length : Int) c) {z : Int} (e2 : m2 = mI m1 r 2 z) (hz : z = (T.length : Int) + 1) : TPA m2 r (T ++ [c]) ∧ FrN r [r + 1] [2] m m2 := by
  refine ⟨⟨by rw [List.length_append]; show T.length + 1 ≤ 90; omega, by rw [e2, mI_at, if_pos rfl, hz, List.length_append]; show _ = ((T.length + 1 : Nat) : Int); omega, fun i hi => ?_, fun x hx => ?_⟩, (by rw [e1]; exact FrN.wI (by simp) (by omega) : FrN r [r + 1] [2] m m1).trans (by rw [e2]; exact FrN.wJ (by simp))⟩
  · rw [e2, mI_ne (by omega), e1, mI_at]
    rw [List.length_append] at hi
    have hi : i < T.length + 1 := hi
    rw [List.getD_eq_getElem?_getD]
    by_cases q : i = T.length
    · rw [if_pos (by omega), q, List.getElem?_append_right (Nat.le_refl _), Nat.sub_self]; rfl
    · rw [if_neg (by omega), List.getElem?_append_left (by omega), ← List.getD_eq_getElem?_getD]; exact h.2.2.1 i (by omega)
  · rw [List.mem_append] at hx
    rcases hx with t | t
    · exact h.2.2.2 x t
    · rw [List.mem_singleton] at t; rw [t]; exact hc
theorem TPA.nil {m m' : Mem} {r : Nat} (e : m' = mI m r 2 0) : TPA m' r [] := ⟨by decide, by rw [e, mI_at, if_pos rfl]; rfl, fun i hi => absurd hi (by simp), fun c hc => absurd hc (by simp)⟩
theorem cr_bad {T : List Int} {n : Nat} {k st dp dg : Int} {C W : List Int} {A : Int × List Int} (he : crun T (n + 1) k st C W dp dg = A) (hk : k < T.length) (h : (cch st (chT T k) C W dp dg).1 = 5) : -20 - k = A.1 := by
  rw [← he, crun, if_neg (by omega), if_pos h]
theorem cr_go {T : List Int} {n : Nat} {k st dp dg : Int} {C W : List Int} {A : Int × List Int} (he : crun T (n + 1) k st C W dp dg = A) (hk : k < T.length) (h : ¬ (cch st (chT T k) C W dp dg).1 = 5) : crun T n (k + 1) (cch st (chT T k) C W dp dg).1 (cch st (chT T k) C W dp dg).2.1 (cch st (chT T k) C W dp dg).2.2.1 (cch st (chT T k) C W dp dg).2.2.2.1 (cch st (chT T k) C W dp dg).2.2.2.2 = A := by
  rw [← he, crun, if_neg (by omega), if_neg h]
theorem cch_sp {st c dp dg : Int} {C W : List Int} (h : c = 32) : cch st c C W dp dg = ((if st = 1 then 2 else st), C, W, dp, dg) := by unfold cch; rw [if_pos h]
theorem d_append (l : Launch) (G : Gl) (Λ : Lay) (sz : Nat) (μ : Mem) {r κ : Nat} {T : List Int} {c : Int} (hS : rdK Λ r κ) (hT : TPA μ r T) (hc : 32 ≤ c ∧ c ≤ 126) : Sp l G yX6_append cX6_append 2 (some FieldType.boolean) 0 [.ref r, iv c] Λ sz μ (pI (fun z μ' => z = (if T.length = 90 then 0 else 1) ∧ TPA μ' r (if T.length = 90 then T else T ++ [c]) ∧ FrN r [r + 1] [2] μ μ')) := by
  refine Sp.intro (by decide) (Nat.le_of_ble_eq_true rfl) (fun x hx hBD => ?_)
  refine v_lv [(0, .ref r), (1, iv c)] rfl ?_
  have h90 := hT.1
  refine v_aload hx DX6_append_0 0 rfl ?_
  refine v_get hx DX6_append_1 FLRX6_15 hS.1 (fv_i rfl hT.2.1 : _ = iv (T.length : Int)) ?_
  refine v_if_lt hx DX6_append_4 (by omega) (fun c4 => ?_) (fun c4 => ?_)
  · exact absurd c4 (by omega)
  · skip
    refine v_aload hx DX6_append_7 0 rfl ?_
    refine v_get hx DX6_append_8 FLRX6_15 hS.1 (fv_i rfl hT.2.1 : _ = iv (T.length : Int)) ?_
    refine v_aload hx DX6_append_11 0 rfl ?_
    refine v_get hx DX6_append_12 FLRX6_9 hS.1 (v := .ref (r + 1)) rfl ?_
    refine v_alenI hx DX6_append_15 hS.2.1 (by decide) (z := 90) rfl ?_
    refine v_icmp_lt hx DX6_append_16 (by omega) (by decide) (fun c16 => ?_) (fun c16 => ?_)
    · skip
      refine v_aload hx DX6_append_21 0 rfl ?_
      refine v_get hx DX6_append_22 FLRX6_9 hS.1 (v := .ref (r + 1)) rfl ?_
      refine v_aload hx DX6_append_25 0 rfl ?_
      refine v_get hx DX6_append_26 FLRX6_15 hS.1 (fv_i rfl hT.2.1 : _ = iv (T.length : Int)) ?_
      refine v_iload hx DX6_append_29 1 rfl ?_
      refine v_iastm hx DX6_append_30 hS.2.1 (by omega) (by decide) (fun μ1 eμ1 => ?_)
      refine v_aload hx DX6_append_31 0 rfl ?_
      refine v_dup hx DX6_append_32 rfl ?_
      refine v_get hx DX6_append_33 FLRX6_15 hS.1 (fv_i rfl (by rw [eμ1, mI_ne (by omega)]; exact hT.2.1) : _ = iv (T.length : Int)) ?_
      refine v_push hx DX6_append_36 ?_
      refine v_iadd hx DX6_append_37 ?_
      refine v_pI hx DX6_append_38 FPRX6_15 hS.1 rfl (ki := 2) rfl (fun μ2 eμ2 => ?_)
      refine v_push hx DX6_append_41 ?_
      exact v_rz hx hBD (by omega) DX6_append_42 (⟨by rw [if_neg (by omega)], by rw [if_neg (by omega)]; exact (hT.snoc (by omega) hc eμ1 eμ2 rfl).1, (hT.snoc (by omega) hc eμ1 eμ2 rfl).2⟩)
    · skip
      refine v_push hx DX6_append_19 ?_
      exact v_rz hx hBD (by omega) DX6_append_20 (⟨by rw [if_pos (by omega)], by rw [if_pos (by omega)]; exact hT, FrN.rf⟩)
theorem d_empty (l : Launch) (G : Gl) (Λ : Lay) (sz : Nat) (μ : Mem) {r κ : Nat} (hS : rdK Λ r κ) : Sp l G yX6_empty cX6_empty 1 none 0 [.ref r] Λ sz μ (pV (fun μ' => TPA μ' r [] ∧ FrN r [] [2] μ μ')) := by
  refine Sp.intro (by decide) (Nat.le_of_ble_eq_true rfl) (fun x hx hBD => ?_)
  refine v_lv [(0, .ref r)] rfl ?_
  refine v_aload hx DX6_empty_0 0 rfl ?_
  refine v_push hx DX6_empty_1 ?_
  refine v_pI hx DX6_empty_2 FPRX6_15 hS.1 rfl (ki := 2) rfl (fun μ1 eμ1 => ?_)
  exact v_rv hx hBD DX6_empty_5 (⟨TPA.nil eμ1, FrN.mI0 eμ1⟩)
theorem d_compile (l : Launch) (G : Gl) (Λ : Lay) (sz : Nat) (μ : Mem) {r κ : Nat} {T : List Int} {dg0 : Int} (hS : rdK Λ r κ) (hT : TPA μ r T) (hd0 : μ.1 r 8 = dg0 ∧ 0 ≤ dg0 ∧ dg0 ≤ 3) : Sp l G yX6_compile cX6_compile 3 (some FieldType.int) 4 [.ref r] Λ sz μ (pI (fun z μ' => z = (cmR T dg0).1 ∧ (z = 0 → CDA μ' r (cmR T dg0).2) ∧ (0 ≤ μ'.1 r 8 ∧ μ'.1 r 8 ≤ 3) ∧ FrN r [r + 2, r + 3] [4, 6, 7, 8] μ μ')) := by
  refine Sp.intro (by decide) (Nat.le_of_ble_eq_true rfl) (fun x hx hBD => ?_)
  refine v_lv [(0, .ref r)] rfl ?_
  have h90 := hT.1
  have L19 : ∀ (nf : Nat) (k st : Int) (C W : List Int) (dp dg : Int) (n : Nat) (m : Mem), ((T.length : Int) - k < (nf : Int)) → (0 ≤ k ∧ k ≤ (T.length : Int)) → (0 ≤ st ∧ st ≤ 4) → (RDA m r C W dp dg) → (WK W dp) → ((C.length : Int) + (W.length : Int) ≤ k) → (st = 1 → C ≠ []) → ((T.length : Int) < k + (n : Nat)) → (crun T n k st C W dp dg = cmR T dg0) → (FrN r [r + 2, r + 3] [4, 6, 7, 8] μ m) → V G x (0, 0) Λ sz m 19 [(2, iv k), (1, iv st), (0, .ref r)] [] := by
    intro nf
    induction nf with
    | zero => intro k st C W dp dg n m hm hk hst hR hW hl h1 hn he hf; exact absurd hm (by omega)
    | succ nf ih =>
      intro k st C W dp dg n m hm hk hst hR hW hl h1 hn he hf
      have hTm := hT.frN hf (by simp) (by simp)
      obtain ⟨n1, rfl⟩ : ∃ n1, n = n1 + 1 := ⟨n - 1, by omega⟩
      have ok := fun c => cch_ok (c := c) hst h1 hW hR.2.2.1.2 hR.2.2.2.2
      have dpr := hR.2.2.1.2
      have dgr := hR.2.2.2.2
      refine v_iload hx DX6_compile_19 0 rfl ?_
      refine v_aload hx DX6_compile_20 2 rfl ?_
      refine v_get hx DX6_compile_21 FLRX6_15 hS.1 (fv_i rfl hTm.2.1 : _ = iv (T.length : Int)) ?_
      refine v_icmp_ge hx DX6_compile_24 (by omega) (by omega) (fun c24 => ?_) (fun c24 => ?_)
      · skip
        refine v_iload hx DX6_compile_85 1 rfl ?_
        refine v_if_eq hx DX6_compile_86 (by omega) (fun c86 => ?_) (fun c86 => ?_)
        · skip
          refine v_push hx DX6_compile_101 ?_
          refine v_aload hx DX6_compile_103 2 rfl ?_
          refine v_get hx DX6_compile_104 FLRX6_15 hS.1 (fv_i rfl hTm.2.1 : _ = iv (T.length : Int)) ?_
          refine v_isub hx DX6_compile_107 ?_
          exact v_ri hx hBD DX6_compile_108 (⟨by rw [← he, crun, if_pos (by omega), if_pos (by omega)], fun t => absurd t (by omega), ⟨by rw [hR.2.2.2.1]; exact dgr.1, by rw [hR.2.2.2.1]; exact dgr.2⟩, hf⟩)
        · skip
          refine v_iload hx DX6_compile_89 1 rfl ?_
          refine v_push hx DX6_compile_90 ?_
          refine v_icmp_eq hx DX6_compile_91 (by omega) (by decide) (fun c91 => ?_) (fun c91 => ?_)
          · skip
            refine v_push hx DX6_compile_101 ?_
            refine v_aload hx DX6_compile_103 2 rfl ?_
            refine v_get hx DX6_compile_104 FLRX6_15 hS.1 (fv_i rfl hTm.2.1 : _ = iv (T.length : Int)) ?_
            refine v_isub hx DX6_compile_107 ?_
            exact v_ri hx hBD DX6_compile_108 (⟨by rw [← he, crun, if_pos (by omega), if_pos (by omega)], fun t => absurd t (by omega), ⟨by rw [hR.2.2.2.1]; exact dgr.1, by rw [hR.2.2.2.1]; exact dgr.2⟩, hf⟩)
          · skip
            refine v_aload hx DX6_compile_94 2 rfl ?_
            refine v_get hx DX6_compile_95 FLRX6_31 hS.1 (fv_i rfl hR.2.2.1.1 : _ = iv dp) ?_
            refine v_if_le hx DX6_compile_98 (by omega) (fun c98 => ?_) (fun c98 => ?_)
            · skip
              refine v_aload hx DX6_compile_109 2 rfl ?_
              refine v_push hx DX6_compile_110 ?_
              refine v_cVv hx DX6_compile_111 CVRX6_59 [iv 1] (d_release (q := 1) (C := C) (W := W) l G Λ sz m hS hR.1 hR.2.1 (by omega) (by omega) hW.rng) hS.1 rfl rfl (Nat.le_of_ble_eq_true rfl) (by decide) ⟨Nat.le_refl _, Nat.le_refl _⟩ (fun μ1 hμ1 => ?_)
              obtain ⟨k1, k2, f1⟩ := hμ1
              refine v_push hx DX6_compile_114 ?_
              exact v_ri hx hBD DX6_compile_115 (⟨by rw [← he, crun, if_pos (by omega), if_neg (by omega)], fun _ => by rw [← he, crun, if_pos (by omega), if_neg (by omega)]; exact k1, ⟨by rw [f1.2.1 8 (by simp), hR.2.2.2.1]; exact dgr.1, by rw [f1.2.1 8 (by simp), hR.2.2.2.1]; exact dgr.2⟩, hf.trans (f1.mono (by simp) (by simp))⟩)
            · skip
              refine v_push hx DX6_compile_101 ?_
              refine v_aload hx DX6_compile_103 2 rfl ?_
              refine v_get hx DX6_compile_104 FLRX6_15 hS.1 (fv_i rfl hTm.2.1 : _ = iv (T.length : Int)) ?_
              refine v_isub hx DX6_compile_107 ?_
              exact v_ri hx hBD DX6_compile_108 (⟨by rw [← he, crun, if_pos (by omega), if_pos (by omega)], fun t => absurd t (by omega), ⟨by rw [hR.2.2.2.1]; exact dgr.1, by rw [hR.2.2.2.1]; exact dgr.2⟩, hf⟩)
      · skip
        refine v_iload hx DX6_compile_27 0 rfl ?_
        refine v_aload hx DX6_compile_28 2 rfl ?_
        refine v_get hx DX6_compile_29 FLRX6_9 hS.1 (v := .ref (r + 1)) rfl ?_
        refine v_alenI hx DX6_compile_32 hS.2.1 (by decide) (z := 90) rfl ?_
        refine v_icmp_ge hx DX6_compile_33 (by omega) (by decide) (fun c33 => ?_) (fun c33 => ?_)
        · exact absurd c33 (by omega)
        · skip
          have hcm := hT.2.2.2 _ (ch_mem (T := T) (k := k) (by omega))
          refine v_aload hx DX6_compile_36 2 rfl ?_
          refine v_get hx DX6_compile_37 FLRX6_9 hS.1 (v := .ref (r + 1)) rfl ?_
          refine v_iload hx DX6_compile_40 0 rfl ?_
          refine v_iald hx DX6_compile_41 hS.2.1 (by omega) (by decide) (z := chT T k) (by have z := hTm.2.2.1 k.toNat (by omega); rwa [Int.toNat_of_nonneg (by omega)] at z) ?_
          refine v_push hx DX6_compile_42 ?_
          refine v_icmp_eq hx DX6_compile_44 (by omega) (by decide) (fun c44 => ?_) (fun c44 => ?_)
          · skip
            refine v_iload hx DX6_compile_62 1 rfl ?_
            refine v_push hx DX6_compile_63 ?_
            refine v_icmp_ne hx DX6_compile_64 (by omega) (by decide) (fun c64 => ?_) (fun c64 => ?_)
            · skip
              refine v_iload hx DX6_compile_69 1 rfl ?_
              refine v_push hx DX6_compile_70 ?_
              refine v_icmp_ne hx DX6_compile_71 (by omega) (by decide) (fun c71 => ?_) (fun c71 => ?_)
              · skip
                refine v_iinc hx DX6_compile_79 0 rfl [(2, iv (k + 1)), (1, iv st), (0, .ref r)] rfl (by decide) ?_
                refine v_goto hx DX6_compile_82 ?_
                exact v_sub [0, 1, 2] _ rfl (ih (k + 1) st C W dp dg n1 m (by omega) (by omega) (by omega) hR hW (by omega) (fun t => h1 (by omega)) (by omega) (by have e := cr_go he (by omega) (by rw [cch_sp (by omega)]; show ¬ (if st = 1 then 2 else st) = 5; rw [if_neg (by omega)]; omega); rw [cch_sp (by omega)] at e; dsimp only at e; rw [if_neg (by omega)] at e; exact e) hf)
              · skip
                exact absurd c71 (by omega)
            · skip
              refine v_push hx DX6_compile_67 ?_
              refine v_istore hx DX6_compile_68 [(1, iv 2), (2, iv k), (0, .ref r)] rfl (by decide) ?_
              refine v_iload hx DX6_compile_69 0 rfl ?_
              refine v_push hx DX6_compile_70 ?_
              refine v_icmp_ne hx DX6_compile_71 (by decide) (by decide) (fun c71 => ?_) (fun c71 => ?_)
              · skip
                refine v_iinc hx DX6_compile_79 1 rfl [(2, iv (k + 1)), (1, iv 2), (0, .ref r)] rfl (by decide) ?_
                refine v_goto hx DX6_compile_82 ?_
                exact v_sub [0, 1, 2] _ rfl (ih (k + 1) 2 C W dp dg n1 m (by omega) (by omega) (by omega) hR hW (by omega) (fun t => absurd t (by decide)) (by omega) (by have e := cr_go he (by omega) (by rw [cch_sp (by omega)]; show ¬ (if st = 1 then 2 else st) = 5; rw [if_pos (by omega)]; omega); rw [cch_sp (by omega)] at e; dsimp only at e; rw [if_pos (by omega)] at e; exact e) hf)
              · skip
                exact absurd c71 (by omega)
          · skip
            refine v_aload hx DX6_compile_47 2 rfl ?_
            refine v_iload hx DX6_compile_48 1 rfl ?_
            refine v_aload hx DX6_compile_49 2 rfl ?_
            refine v_get hx DX6_compile_50 FLRX6_9 hS.1 (v := .ref (r + 1)) rfl ?_
            refine v_iload hx DX6_compile_53 0 rfl ?_
            refine v_iald hx DX6_compile_54 hS.2.1 (by omega) (by decide) (z := chT T k) (by have z := hTm.2.2.1 k.toNat (by omega); rwa [Int.toNat_of_nonneg (by omega)] at z) ?_
            refine v_cVi hx DX6_compile_55 CVRX6_55 [iv st, iv (chT T k)] (d_step (c := chT T k) l G Λ sz m hS hR (by omega) (by omega) (by omega) hW hst h1) hS.1 rfl rfl (Nat.le_of_ble_eq_true rfl) (by decide) ⟨Nat.le_refl _, Nat.le_refl _⟩ (fun z4 μ3 hμ3 => ?_)
            obtain ⟨ez, rd, f1⟩ := hμ3
            subst ez
            have okr := (ok (chT T k)).2.1
            refine v_istore hx DX6_compile_58 [(1, iv ((cch st (chT T k) C W dp dg).1)), (2, iv k), (0, .ref r)] rfl (by decide) ?_
            refine v_goto hx DX6_compile_59 ?_
            refine v_iload hx DX6_compile_69 0 rfl ?_
            refine v_push hx DX6_compile_70 ?_
            refine v_icmp_ne hx DX6_compile_71 (by omega) (by decide) (fun c71 => ?_) (fun c71 => ?_)
            · skip
              refine v_iinc hx DX6_compile_79 1 rfl [(2, iv (k + 1)), (1, iv ((cch st (chT T k) C W dp dg).1)), (0, .ref r)] rfl (by decide) ?_
              refine v_goto hx DX6_compile_82 ?_
              exact v_sub [0, 1, 2] _ rfl (ih (k + 1) ((cch st (chT T k) C W dp dg).1) ((cch st (chT T k) C W dp dg).2.1) ((cch st (chT T k) C W dp dg).2.2.1) ((cch st (chT T k) C W dp dg).2.2.2.1) ((cch st (chT T k) C W dp dg).2.2.2.2) n1 μ3 (by omega) (by omega) (by have t := (ok (chT T k)).2.1; omega) rd (ok (chT T k)).2.2.2 (by have t := (ok (chT T k)).1; omega) (ok (chT T k)).2.2.1 (by omega) (cr_go he (by omega) (by omega)) (hf.trans f1))
            · skip
              refine v_push hx DX6_compile_74 ?_
              refine v_iload hx DX6_compile_76 1 rfl ?_
              refine v_isub hx DX6_compile_77 ?_
              exact v_ri hx hBD DX6_compile_78 (⟨cr_bad he (by omega) (by omega), fun t => absurd t (by omega), ⟨by rw [rd.2.2.2.1]; exact rd.2.2.2.2.1, by rw [rd.2.2.2.1]; exact rd.2.2.2.2.2⟩, hf.trans f1⟩)
  refine v_aload hx DX6_compile_0 0 rfl ?_
  refine v_push hx DX6_compile_1 ?_
  refine v_pI hx DX6_compile_2 FPRX6_22 hS.1 rfl (ki := 4) rfl (fun μ5 eμ5 => ?_)
  refine v_aload hx DX6_compile_5 0 rfl ?_
  refine v_push hx DX6_compile_6 ?_
  refine v_pI hx DX6_compile_7 FPRX6_28 hS.1 rfl (ki := 6) rfl (fun μ6 eμ6 => ?_)
  refine v_aload hx DX6_compile_10 0 rfl ?_
  refine v_push hx DX6_compile_11 ?_
  refine v_pI hx DX6_compile_12 FPRX6_31 hS.1 rfl (ki := 7) rfl (fun μ7 eμ7 => ?_)
  refine v_push hx DX6_compile_15 ?_
  refine v_istore hx DX6_compile_16 [(1, iv 0), (0, .ref r)] rfl (by decide) ?_
  refine v_push hx DX6_compile_17 ?_
  refine v_istore hx DX6_compile_18 [(2, iv 0), (1, iv 0), (0, .ref r)] rfl (by decide) ?_
  exact v_sub [0, 1, 2] _ rfl (L19 200 0 0 ([]) ([]) 0 dg0 92 μ7 (by omega) (by omega) (by omega) ⟨⟨by rw [eμ7, mI_at, eμ6, mI_at, eμ5, mI_at]; rfl, True.intro⟩, ⟨by rw [eμ7, mI_at, eμ6, mI_at, eμ5, mI_at]; rfl, True.intro⟩, ⟨by rw [eμ7, mI_at, eμ6, mI_at, eμ5, mI_at]; rfl, by omega⟩, ⟨by rw [eμ7, mI_at, eμ6, mI_at, eμ5, mI_at]; exact hd0.1, hd0.2⟩⟩ ⟨fun c hc => absurd hc (by simp), rfl⟩ (by simp) (fun t => absurd t (by decide)) (by omega) rfl ((((FrN.mI0 eμ5).mono (by simp) (by simp) : FrN r [r + 2, r + 3] [4, 6, 7, 8] μ μ5).trans ((FrN.mI0 eμ6).mono (by simp) (by simp) : FrN r [r + 2, r + 3] [4, 6, 7, 8] μ5 μ6)).trans ((FrN.mI0 eμ7).mono (by simp) (by simp) : FrN r [r + 2, r + 3] [4, 6, 7, 8] μ6 μ7)))
