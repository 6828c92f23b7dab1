/-! ===== the class: reader, evaluate ===== -/
theorem snoc_ex : ∀ E : List Int, E ≠ [] → ∃ L b, E = L ++ [b] := by
  intro E
  induction E with
  | nil => intro h; exact absurd rfl h
  | cons c R ih =>
    intro _
    by_cases q : R = []
    · exact ⟨[], c, by rw [q]; rfl⟩
    · obtain ⟨L, b, e⟩ := ih q
      exact ⟨c :: L, b, by rw [e]; rfl⟩
theorem len2 {P : List FP2} (h : 2 ≤ P.length) : ∃ b a R, P = b :: a :: R := by
  match P, h with
  | b :: a :: R, _ => exact ⟨b, a, R, rfl⟩
theorem len1 {P : List FP2} (h : 1 ≤ P.length) : ∃ a R, P = a :: R := by
  match P, h with
  | a :: R, _ => exact ⟨a, R, rfl⟩
theorem x_put : (PS.C (fi 0)).putc 1 (fi 1) = xF.1 := PS.ext fun n => by
  unfold PS.putc
  rw [if_neg (by decide), fi_0, fi_1]
  show (if n = 1 then (1 : F) else (if n = 0 then 0 else 0)) = (if n = 1 then 1 else 0)
  by_cases q : n = 1
  · rw [if_pos q, if_pos q]
  · rw [if_neg q, if_neg q]; split <;> rfl
theorem ev_num {D : List Int} {c : Int} (he : (evC D).1 = 0) (h : c < 1000) : evC (c :: D) = (0, nF c :: (evC D).2) := by
  show cdF (evC D) c = _
  unfold cdF
  rw [if_neg (by rw [he]; decide), if_pos h]
theorem ev_x {D : List Int} {c : Int} (he : (evC D).1 = 0) (h : c = 1120) : evC (c :: D) = (0, xF :: (evC D).2) := by
  show cdF (evC D) c = _
  unfold cdF
  rw [if_neg (by rw [he]; decide), if_neg (by omega), if_pos h]
theorem ev_op {D : List Int} {c : Int} {b a : FP2} {R : List FP2} (he : (evC D).1 = 0) (h : 1000 ≤ c ∧ c < 2000 ∧ c ≠ 1120) (hP : (evC D).2 = b :: a :: R) : evC (c :: D) = (opA (c - 1000) a b, opR (c - 1000) a b :: R) := by
  show cdF (evC D) c = _
  unfold cdF
  rw [if_neg (by rw [he]; decide), if_neg (by omega), if_neg (by omega), if_pos (by omega), hP]
  rfl
theorem ev_pw {D : List Int} {c : Int} {a : FP2} {R : List FP2} (he : (evC D).1 = 0) (h : 2000 ≤ c) (hP : (evC D).2 = a :: R) : evC (c :: D) = (if bz (pwOK a (c - 2000).toNat) = 1 then 0 else -3, pwV a (c - 2000).toNat :: R) := by
  show cdF (evC D) c = _
  unfold cdF
  rw [if_neg (by rw [he]; decide), if_neg (by omega), if_neg (by omega), if_neg (by omega), hP]
  rfl
theorem rw1_len {w : Int → Int} {n : Int} : rw1 w 10 n 10 = n := if_pos rfl
theorem pile15 : ∀ {D : List Int}, wlC D → (evC D).1 = 0 → (evC D).2.length ≤ 15 := by
  intro D
  induction D with
  | nil => intro _ _; show 0 ≤ 15; omega
  | cons c R ih =>
    intro h h0
    have e0 : (evC R).1 = 0 := Classical.byContradiction fun q => by rw [evC_err q] at h0; exact q h0
    have old := ih h.1 e0
    have ok := h.2.2 e0
    have rg := h.2.1
    unfold okC isop at ok
    unfold rgC isop at rg
    by_cases c1 : c < 1000
    · rw [ev_num e0 c1]; show (nF c :: (evC R).2).length ≤ 15; rw [List.length_cons]; omega
    · by_cases c2 : c = 1120
      · rw [ev_x e0 c2]; show (xF :: (evC R).2).length ≤ 15; rw [List.length_cons]; omega
      · by_cases c3 : c < 2000
        · obtain ⟨b, a, Q, hP⟩ := len2 (P := (evC R).2) (by omega)
          rw [ev_op e0 (by omega) hP]; rw [hP] at old; show (opR (c - 1000) a b :: Q).length ≤ 15; simp at old ⊢; omega
        · obtain ⟨a, Q, hP⟩ := len1 (P := (evC R).2) (by omega)
          rw [ev_pw e0 (by omega) hP]; rw [hP] at old; exact old
theorem d_evaluate (l : Launch) (G : Gl) (Λ : Lay) (sz : Nat) (μ : Mem) {π : Nat → PS} {r κ o : Nat} {C : List Int} {v : FP2} (hA : AB Λ μ π) (hI : INV G Λ) (hK : kitK Λ κ) (hS : rdK Λ r κ) (hord : κ + 16 < r) (hF : fracK Λ o) (ho : r + 84 < o) (hC : CDA μ r C) (hw : wlC C) (hl : C.length ≤ 90) (hfin : (evC C).1 = 0 → (evC C).2 = [v]) : Sp l G yX6_evaluate cX6_evaluate 6 (some FieldType.int) 6 [.ref r, .ref o] Λ sz μ (pI (fun z μ' => z = (evC C).1 ∧ ∃ π' w, ChgX Λ (fun c => (r + 5 < c ∧ c < r + 85) ∨ (κ < c ∧ c < κ + 17) ∨ c = o + 1 ∨ c = o + 3) r w μ μ' π π' ∧ (∀ j : Int, j ≠ 10 → w j = μ.1 r j) ∧ (z = 0 → π' (o + 1) = v.1 ∧ π' (o + 3) = v.2))) := by
  refine Sp.intro (by decide) (Nat.le_of_ble_eq_true rfl) (fun x hx hBD => ?_)
  refine v_lv [(0, .ref r), (1, .ref o)] rfl ?_
  have hoffs := hS.off
  have hoff := hoffs.1
  have hF0 : fracK Λ (r + 10) := hS.fr (k := 0) (by omega)
  have hch0 : ChgX Λ (fun c => (r + 5 < c ∧ c < r + 85) ∨ (κ < c ∧ c < κ + 17) ∨ c = o + 1 ∨ c = o + 3) r (μ.1 r) μ μ π π := ChgX.rf hA hoff
  have L7 : ∀ (nf : Nat) (k : Int) (D E : List Int) (m : Mem) (w : Int → Int) (πk : Nat → PS), ((E.length : Int) < (nf : Int)) → (ChgX Λ (fun c => (r + 5 < c ∧ c < r + 85) ∨ (κ < c ∧ c < κ + 17) ∨ c = o + 1 ∨ c = o + 3) r w μ m π πk) → (k = (D.length : Int)) → (C = E ++ D) → ((evC D).1 = 0) → (w 10 = ((evC D).2.length : Int)) → (∀ j : Int, j ≠ 10 → w j = μ.1 r j) → (VPA πk r (evC D).2) → V G x (0, 0) Λ sz m 7 [(2, iv k), (0, .ref r), (1, .ref o)] [] := by
    intro nf
    induction nf with
    | zero => intro k D E m w πk hm hchπk hk hCE he hw10 hwo hv; exact absurd hm (by omega)
    | succ nf ih =>
      intro k D E m w πk hm hchπk hk hCE he hw10 hwo hv
      have hAπk := hchπk.1
      have cl : (C.length : Int) = (E.length : Int) + (D.length : Int) := by rw [hCE, List.length_append]; omega
      refine v_iload hx DX6_evaluate_7 0 rfl ?_
      refine v_aload hx DX6_evaluate_8 1 rfl ?_
      refine v_get hx DX6_evaluate_9 FLRX6_22 hS.1 (fv_i rfl (by rw [hchπk.2.2.2.1]; exact (hwo 4 (by decide)).trans hC.1) : _ = iv (C.length : Int)) ?_
      refine v_icmp_ge hx DX6_evaluate_12 (by omega) (by omega) (fun c12 => ?_) (fun c12 => ?_)
      · skip
        have E0 : E = [] := List.length_eq_zero_iff.mp (by omega)
        have DC : D = C := by rw [hCE, E0]; rfl
        have hP := hfin (by rw [← DC]; exact he)
        rw [← DC] at hP
        have hv2 := hv
        rw [hP] at hv2
        refine v_aload hx DX6_evaluate_128 2 rfl ?_
        refine v_aload hx DX6_evaluate_129 1 rfl ?_
        refine v_push hx DX6_evaluate_130 ?_
        refine v_cVr hx DX6_evaluate_131 CVRX6_109 [iv 1] (d_vtop (n := 1) (k := 1) l G Λ sz m hS (by rw [hchπk.2.2.2.1, hw10, hP]; rfl) (by omega)) hS.1 rfl rfl (Nat.le_of_ble_eq_true rfl) (by decide) ⟨Nat.le_refl _, Nat.le_refl _⟩ (fun z2 μ1 hμ1 => ?_)
        obtain ⟨ea, em⟩ := hμ1
        have ea : z2 = r + 10 := by omega
        rw [ea, em]
        refine v_cVv hx DX6_evaluate_134 CVRX6_113 [.ref (r + 10)] (q_fbecome l G Λ sz m hAπk hF hF0 (by omega)) hF.1 rfl rfl (Nat.le_of_ble_eq_true rfl) (by decide) ⟨Nat.le_refl _, Nat.le_refl _⟩ (fun μ3 hμ3 => ?_)
        obtain ⟨π3, hc3, he3_0, he3_1⟩ := hμ3
        have hA3 := hc3.1
        have hch3 := hchπk.trans (hc3.mono (fun c hc => by first | omega | (dsimp only at hc ⊢; omega)))
        have g3_0 : π3 (o + 1) = v.1 := he3_0.trans hv2.1.1
        have g3_1 : π3 (o + 3) = v.2 := he3_1.trans hv2.1.2
        refine v_push hx DX6_evaluate_137 ?_
        exact v_ri hx hBD DX6_evaluate_138 (⟨by rw [← DC]; exact he.symm, π3, _, hch3, hwo, fun _ => ⟨g3_0, g3_1⟩⟩)
      · skip
        obtain ⟨E2, c, rfl⟩ := snoc_ex E (fun t => by rw [t] at cl; simp at cl; omega)
        have el : ((E2 ++ [c]).length : Int) = (E2.length : Int) + 1 := by rw [List.length_append]; show ((E2.length + 1 : Nat) : Int) = _; omega
        have hCE2 : C = E2 ++ (c :: D) := by rw [hCE, List.append_assoc]; rfl
        have hls : lsA (μ.1 (r + 2)) (c :: D) := lsA.app (E := E2) (by rw [← hCE2]; exact hC.2)
        have hwc : wlC (c :: D) := wlC.app (E := E2) (by rw [← hCE2]; exact hw)
        have rg := hwc.2.1
        unfold rgC isop at rg
        have ok := hwc.2.2 he
        unfold okC isop at ok
        have fk := hwc.1.fok he
        refine v_iload hx DX6_evaluate_15 0 rfl ?_
        refine v_aload hx DX6_evaluate_16 1 rfl ?_
        refine v_get hx DX6_evaluate_17 FLRX6_19 hS.1 (v := .ref (r + 2)) rfl ?_
        refine v_alenI hx DX6_evaluate_20 hS.2.2.1 (by decide) (z := 90) rfl ?_
        refine v_icmp_ge hx DX6_evaluate_21 (by omega) (by decide) (fun c21 => ?_) (fun c21 => ?_)
        · exact absurd c21 (by omega)
        · skip
          refine v_aload hx DX6_evaluate_24 1 rfl ?_
          refine v_get hx DX6_evaluate_25 FLRX6_19 hS.1 (v := .ref (r + 2)) rfl ?_
          refine v_iload hx DX6_evaluate_28 0 rfl ?_
          refine v_iald hx DX6_evaluate_29 hS.2.2.1 (by omega) (by decide) (z := c) (by rw [hchπk.2.2.1.1 (r + 2) hoffs.2.2.1 (by omega), hk]; exact hls.1) ?_
          refine v_istore hx DX6_evaluate_30 [(3, iv c), (2, iv k), (0, .ref r), (1, .ref o)] rfl (by decide) ?_
          refine v_push hx DX6_evaluate_31 ?_
          refine v_istore hx DX6_evaluate_32 [(4, iv 0), (3, iv c), (2, iv k), (0, .ref r), (1, .ref o)] rfl (by decide) ?_
          refine v_iload hx DX6_evaluate_34 1 rfl ?_
          refine v_push hx DX6_evaluate_35 ?_
          refine v_icmp_ge hx DX6_evaluate_38 (by omega) (by decide) (fun c38 => ?_) (fun c38 => ?_)
          · skip
            refine v_iload hx DX6_evaluate_52 1 rfl ?_
            refine v_push hx DX6_evaluate_53 ?_
            refine v_icmp_ne hx DX6_evaluate_56 (by omega) (by decide) (fun c56 => ?_) (fun c56 => ?_)
            · skip
              refine v_iload hx DX6_evaluate_84 1 rfl ?_
              refine v_push hx DX6_evaluate_85 ?_
              refine v_icmp_ge hx DX6_evaluate_88 (by omega) (by decide) (fun c88 => ?_) (fun c88 => ?_)
              · skip
                obtain ⟨a, R, hP⟩ := len1 (P := (evC D).2) (by omega)
                have hv2 := hv
                rw [hP] at hv2
                have pl2 : (evC D).2.length = R.length + 1 := by rw [hP]; rfl
                have p15 := pile15 hwc.1 he
                have ev := ev_pw (c := c) he (by omega) hP
                have ifr : (if bz (pwOK a (c - 2000).toNat) = 1 then (0 : Int) else -3) = 0 ∨ (if bz (pwOK a (c - 2000).toNat) = 1 then (0 : Int) else -3) = -3 := by split <;> omega
                refine v_aload hx DX6_evaluate_103 3 rfl ?_
                refine v_iload hx DX6_evaluate_104 1 rfl ?_
                refine v_push hx DX6_evaluate_105 ?_
                refine v_isub hx DX6_evaluate_108 ?_
                refine v_cVi hx DX6_evaluate_109 CVRX6_106 [iv (c - 2000)] (d_raise (n := R.length) (a := a) (e := c - 2000) l G Λ sz m hAπk hI hK hS hord (by rw [hchπk.2.2.2.1, hw10, hP, List.length_cons]; omega) (by omega) hv2.1.1 hv2.1.2 (fk a (by rw [hP]; simp)) (by omega)) hS.1 rfl rfl (Nat.le_of_ble_eq_true rfl) (by decide) ⟨Nat.le_refl _, Nat.le_refl _⟩ (fun z5 μ4 hμ4 => ?_)
                obtain ⟨ez, πz, cx, fx⟩ := hμ4
                subst ez
                have hAz := cx.1
                have hchz := hchπk.trans (cx.mono (S' := fun c => (r + 5 < c ∧ c < r + 85) ∨ (κ < c ∧ c < κ + 17) ∨ c = o + 1 ∨ c = o + 3) (fun c hc => by first | omega | (dsimp only at hc ⊢; omega)))
                refine v_istore hx DX6_evaluate_112 [(4, iv (if bz (pwOK a (c - 2000).toNat) = 1 then 0 else -3)), (3, iv c), (2, iv k), (0, .ref r), (1, .ref o)] rfl (by decide) ?_
                refine v_iload hx DX6_evaluate_114 0 rfl ?_
                refine v_if_eq hx DX6_evaluate_116 (by omega) (fun c116 => ?_) (fun c116 => ?_)
                · skip
                  have fr : ∀ a : Nat, (r + 10 < a ∧ a < r + 10 + 5 * R.length) → πz a = πk a := fun a ha => (cx.2.1 a (by first | omega | (dsimp only; omega)))
                  refine v_iinc hx DX6_evaluate_122 2 rfl [(2, iv (k + 1)), (4, iv (if bz (pwOK a (c - 2000).toNat) = 1 then 0 else -3)), (3, iv c), (0, .ref r), (1, .ref o)] rfl (by decide) ?_
                  refine v_goto hx DX6_evaluate_125 ?_
                  exact v_sub [0, 3, 4] _ rfl (ih (k + 1) (c :: D) E2 μ4 w πz (by omega) hchz (by rw [List.length_cons]; omega) hCE2 (by rw [ev]; show (if bz (pwOK a (c - 2000).toNat) = 1 then (0 : Int) else -3) = 0; omega) (by rw [ev, hw10, hP]; rfl) hwo (by rw [ev]; exact ⟨⟨(fx (by omega)).1, (fx (by omega)).2⟩, hv2.2.ext (fun a h0 h1 => fr a ⟨h0, h1⟩)⟩))
                · skip
                  refine v_iload hx DX6_evaluate_119 0 rfl ?_
                  exact v_ri hx hBD DX6_evaluate_121 (⟨by rw [hCE2, evC_app (by rw [ev]; show (if bz (pwOK a (c - 2000).toNat) = 1 then 0 else -3) ≠ 0; omega), ev], πz, _, hchz, hwo, fun t => absurd t (by omega)⟩)
              · skip
                obtain ⟨b, a, R, hP⟩ := len2 (P := (evC D).2) (by omega)
                have hv2 := hv
                rw [hP] at hv2
                have pl2 : (evC D).2.length = R.length + 2 := by rw [hP]; rfl
                have p15 := pile15 hwc.1 he
                have ev := ev_op (c := c) he (by omega) hP
                refine v_aload hx DX6_evaluate_91 3 rfl ?_
                refine v_iload hx DX6_evaluate_92 1 rfl ?_
                refine v_push hx DX6_evaluate_93 ?_
                refine v_isub hx DX6_evaluate_96 ?_
                refine v_cVi hx DX6_evaluate_97 CVRX6_103 [iv (c - 1000)] (d_operate (n := R.length) (a := a) (b := b) (sg := c - 1000) l G Λ sz m hAπk hI hK hS hord (by rw [hchπk.2.2.2.1, hw10, hP, List.length_cons, List.length_cons]; omega) (by omega) hv2.2.1.1 hv2.2.1.2 hv2.1.1 hv2.1.2 (fk a (by rw [hP]; simp)) (fk b (by rw [hP]; simp)) (by unfold isop; omega)) hS.1 rfl rfl (Nat.le_of_ble_eq_true rfl) (by decide) ⟨Nat.le_refl _, Nat.le_refl _⟩ (fun z7 μ6 hμ6 => ?_)
                obtain ⟨ez, πz, cx, fx⟩ := hμ6
                subst ez
                have hAz := cx.1
                have oar := opA_rng (c - 1000) a b
                rw [hchπk.2.2.2.1] at cx
                have hchz := hchπk.tx (cx.mono (S' := fun c => (r + 5 < c ∧ c < r + 85) ∨ (κ < c ∧ c < κ + 17) ∨ c = o + 1 ∨ c = o + 3) (fun c hc => by first | omega | (dsimp only at hc ⊢; omega)))
                refine v_goto hx DX6_evaluate_100 ?_
                refine v_istore hx DX6_evaluate_112 [(4, iv (opA (c - 1000) a b)), (3, iv c), (2, iv k), (0, .ref r), (1, .ref o)] rfl (by decide) ?_
                refine v_iload hx DX6_evaluate_114 0 rfl ?_
                refine v_if_eq hx DX6_evaluate_116 (by omega) (fun c116 => ?_) (fun c116 => ?_)
                · skip
                  have fr : ∀ a : Nat, (r + 10 < a ∧ a < r + 10 + 5 * R.length) → πz a = πk a := fun a ha => (cx.2.1 a (by first | omega | (dsimp only; omega)))
                  refine v_iinc hx DX6_evaluate_122 2 rfl [(2, iv (k + 1)), (4, iv (opA (c - 1000) a b)), (3, iv c), (0, .ref r), (1, .ref o)] rfl (by decide) ?_
                  refine v_goto hx DX6_evaluate_125 ?_
                  exact v_sub [0, 3, 4] _ rfl (ih (k + 1) (c :: D) E2 μ6 (rw1 w 10 ((R.length : Int) + 1)) πz (by omega) hchz (by rw [List.length_cons]; omega) hCE2 (by rw [ev]; show opA (c - 1000) a b = 0; omega) (by rw [ev, rw1_len]; show _ = ((opR (c - 1000) a b :: R).length : Int); rw [List.length_cons]; omega) (fun j hj => (if_neg hj).trans (hwo j hj)) (by rw [ev]; exact ⟨⟨(fx (by omega)).1, (fx (by omega)).2⟩, hv2.2.2.ext (fun a h0 h1 => fr a ⟨h0, h1⟩)⟩))
                · skip
                  refine v_iload hx DX6_evaluate_119 0 rfl ?_
                  exact v_ri hx hBD DX6_evaluate_121 (⟨by rw [hCE2, evC_app (by rw [ev]; show (opA (c - 1000) a b) ≠ 0; omega), ev], πz, _, hchz, fun j hj => (if_neg hj).trans (hwo j hj), fun t => absurd t (by omega)⟩)
            · skip
              have ev := ev_x (c := c) he (by omega)
              refine v_aload hx DX6_evaluate_59 3 rfl ?_
              refine v_cVr hx DX6_evaluate_60 CVRX6_86 [] (d_next (n := ((evC D).2.length : Int)) l G Λ sz m hS (by rw [hchπk.2.2.2.1]; exact hw10) (by omega)) hS.1 rfl rfl (Nat.le_of_ble_eq_true rfl) (by decide) ⟨Nat.le_refl _, Nat.le_refl _⟩ (fun z9 μ8 hμ8 => ?_)
              obtain ⟨ea, em⟩ := hμ8
              have ea : z9 = r + 10 + 5 * (evC D).2.length := by omega
              have hFn : fracK Λ (r + 10 + 5 * (evC D).2.length) := hS.fr (by omega)
              rw [ea]
              have hAn : AB Λ μ8 πk := by rw [em]; exact hAπk.mI hoff
              have hchn : ChgX Λ (fun c => (r + 5 < c ∧ c < r + 85) ∨ (κ < c ∧ c < κ + 17) ∨ c = o + 1 ∨ c = o + 3) r (rw1 w 10 (((evC D).2.length : Int) + 1)) μ μ8 π πk := by rw [em]; exact hchπk.put
              refine v_astore hx DX6_evaluate_63 [(5, .ref (r + 10 + 5 * (evC D).2.length)), (4, iv 0), (3, iv c), (2, iv k), (0, .ref r), (1, .ref o)] rfl (by decide) ?_
              refine v_aload hx DX6_evaluate_65 0 rfl ?_
              refine v_push hx DX6_evaluate_67 ?_
              refine v_cVv hx DX6_evaluate_68 CVRX6_90 [iv 0] (q_fset (v := 0) l G Λ sz μ8 hAn hFn (by omega)) hFn.1 rfl rfl (Nat.le_of_ble_eq_true rfl) (by decide) ⟨Nat.le_refl _, Nat.le_refl _⟩ (fun μ10 hμ10 => ?_)
              obtain ⟨π10, hc10, he10_0, he10_1⟩ := hμ10
              have hA10 := hc10.1
              have hch10 := hchn.trans (hc10.mono (fun c hc => by first | omega | (dsimp only at hc ⊢; omega)))
              have g10_1 : π10 ((r + 10 + 5 * (evC D).2.length) + 3) = xF.2 := he10_1.trans rfl
              refine v_aload hx DX6_evaluate_71 0 rfl ?_
              refine v_get hx DX6_evaluate_73 FLRX6_93 hFn.1 (v := .ref ((r + 10 + 5 * (evC D).2.length) + 1)) rfl ?_
              refine v_push hx DX6_evaluate_76 ?_
              refine v_push hx DX6_evaluate_77 ?_
              refine v_cVv hx DX6_evaluate_78 CVRX6_97 [iv 1, iv 1] (s_put l G Λ sz μ10 hFn.2.1 (AB.get (A := PS.C (fi 0)) hA10 hFn.2.1 he10_0) (by omega) (by omega)) hFn.2.1.1 rfl rfl (Nat.le_of_ble_eq_true rfl) (by decide) ⟨Nat.le_refl _, Nat.le_refl _⟩ (fun μ11 hμ11 => ?_)
              obtain ⟨π11, hc11, he11, ho11⟩ := Chg.one (S := fun c => (r + 5 < c ∧ c < r + 85) ∨ (κ < c ∧ c < κ + 17) ∨ c = o + 1 ∨ c = o + 3) (R := PS.putc (PS.C (fi 0)) 1 (fi 1)) hA10 hFn.2.1 (by first | omega | (dsimp only; omega)) hμ11
              have hA11 := hc11.1
              have hch11 := hch10.trans hc11
              have v11_1 : π11 ((r + 10 + 5 * (evC D).2.length) + 3) = xF.2 := (ho11 ((r + 10 + 5 * (evC D).2.length) + 3) (by omega)).trans g10_1
              have w12 : π11 ((r + 10 + 5 * (evC D).2.length) + 1) = xF.1 := he11.trans x_put
              refine v_goto hx DX6_evaluate_81 ?_
              refine v_iload hx DX6_evaluate_114 1 rfl ?_
              refine v_if_eq hx DX6_evaluate_116 (by decide) (fun c116 => ?_) (fun c116 => ?_)
              · skip
                have fr : ∀ a : Nat, (r + 10 < a ∧ a < r + 10 + 5 * (evC D).2.length) → π11 a = πk a := fun a ha => ((ho11 a (by omega)).trans (hc10.2.1 a (by first | omega | (dsimp only; omega))))
                refine v_iinc hx DX6_evaluate_122 3 rfl [(2, iv (k + 1)), (5, .ref (r + 10 + 5 * (evC D).2.length)), (4, iv 0), (3, iv c), (0, .ref r), (1, .ref o)] rfl (by decide) ?_
                refine v_goto hx DX6_evaluate_125 ?_
                exact v_sub [0, 4, 5] _ rfl (ih (k + 1) (c :: D) E2 μ11 (rw1 w 10 (((evC D).2.length : Int) + 1)) π11 (by omega) hch11 (by rw [List.length_cons]; omega) hCE2 (by rw [ev]) (by rw [ev, rw1_len]; show _ = ((_ :: (evC D).2).length : Int); rw [List.length_cons]; omega) (fun j hj => (if_neg hj).trans (hwo j hj)) (by rw [ev]; exact ⟨⟨w12, v11_1⟩, hv.ext (fun a h0 h1 => fr a ⟨h0, h1⟩)⟩))
              · exact absurd c116 (by decide)
          · skip
            have ev := ev_num (c := c) he (by omega)
            refine v_aload hx DX6_evaluate_41 3 rfl ?_
            refine v_cVr hx DX6_evaluate_42 CVRX6_86 [] (d_next (n := ((evC D).2.length : Int)) l G Λ sz m hS (by rw [hchπk.2.2.2.1]; exact hw10) (by omega)) hS.1 rfl rfl (Nat.le_of_ble_eq_true rfl) (by decide) ⟨Nat.le_refl _, Nat.le_refl _⟩ (fun z14 μ13 hμ13 => ?_)
            obtain ⟨ea, em⟩ := hμ13
            have ea : z14 = r + 10 + 5 * (evC D).2.length := by omega
            have hFn : fracK Λ (r + 10 + 5 * (evC D).2.length) := hS.fr (by omega)
            rw [ea]
            have hAn : AB Λ μ13 πk := by rw [em]; exact hAπk.mI hoff
            have hchn : ChgX Λ (fun c => (r + 5 < c ∧ c < r + 85) ∨ (κ < c ∧ c < κ + 17) ∨ c = o + 1 ∨ c = o + 3) r (rw1 w 10 (((evC D).2.length : Int) + 1)) μ μ13 π πk := by rw [em]; exact hchπk.put
            refine v_iload hx DX6_evaluate_45 1 rfl ?_
            refine v_cVv hx DX6_evaluate_46 CVRX6_90 [iv c] (q_fset (v := c) l G Λ sz μ13 hAn hFn (by omega)) hFn.1 rfl rfl (Nat.le_of_ble_eq_true rfl) (by decide) ⟨Nat.le_refl _, Nat.le_refl _⟩ (fun μ15 hμ15 => ?_)
            obtain ⟨π15, hc15, he15_0, he15_1⟩ := hμ15
            have hA15 := hc15.1
            have hch15 := hchn.trans (hc15.mono (fun c hc => by first | omega | (dsimp only at hc ⊢; omega)))
            have g15_0 : π15 ((r + 10 + 5 * (evC D).2.length) + 1) = (nF c).1 := he15_0.trans rfl
            have g15_1 : π15 ((r + 10 + 5 * (evC D).2.length) + 3) = (nF c).2 := he15_1.trans rfl
            refine v_goto hx DX6_evaluate_49 ?_
            refine v_iload hx DX6_evaluate_114 0 rfl ?_
            refine v_if_eq hx DX6_evaluate_116 (by decide) (fun c116 => ?_) (fun c116 => ?_)
            · skip
              have fr : ∀ a : Nat, (r + 10 < a ∧ a < r + 10 + 5 * (evC D).2.length) → π15 a = πk a := fun a ha => (hc15.2.1 a (by first | omega | (dsimp only; omega)))
              refine v_iinc hx DX6_evaluate_122 2 rfl [(2, iv (k + 1)), (4, iv 0), (3, iv c), (0, .ref r), (1, .ref o)] rfl (by decide) ?_
              refine v_goto hx DX6_evaluate_125 ?_
              exact v_sub [0, 3, 4] _ rfl (ih (k + 1) (c :: D) E2 μ15 (rw1 w 10 (((evC D).2.length : Int) + 1)) π15 (by omega) hch15 (by rw [List.length_cons]; omega) hCE2 (by rw [ev]) (by rw [ev, rw1_len]; show _ = ((_ :: (evC D).2).length : Int); rw [List.length_cons]; omega) (fun j hj => (if_neg hj).trans (hwo j hj)) (by rw [ev]; exact ⟨⟨g15_0, g15_1⟩, hv.ext (fun a h0 h1 => fr a ⟨h0, h1⟩)⟩))
            · exact absurd c116 (by decide)
  refine v_aload hx DX6_evaluate_0 0 rfl ?_
  refine v_push hx DX6_evaluate_1 ?_
  refine v_pI hx DX6_evaluate_2 FPRX6_43 hS.1 rfl (ki := 10) rfl (fun μ16 eμ16 => ?_)
  have hA17 : AB Λ μ16 π := by rw [eμ16]; exact hA.mI hoff
  have hch17 : ChgX Λ (fun c => (r + 5 < c ∧ c < r + 85) ∨ (κ < c ∧ c < κ + 17) ∨ c = o + 1 ∨ c = o + 3) r (rw1 (μ.1 r) 10 0) μ μ16 π π := by rw [eμ16]; exact hch0.put
  refine v_push hx DX6_evaluate_5 ?_
  refine v_istore hx DX6_evaluate_6 [(2, iv 0), (0, .ref r), (1, .ref o)] rfl (by decide) ?_
  exact v_sub [0, 1, 2] _ rfl (L7 200 0 ([]) C μ16 (rw1 (μ.1 r) 10 0) π (by omega) hch17 rfl (List.append_nil C).symm rfl (rw1_len) (fun j hj => if_neg hj) True.intro)
