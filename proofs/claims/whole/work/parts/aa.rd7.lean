/-! ===== the class: reader, evaluation ===== -/
theorem vl_at {r : Nat} {z : Int} (h : 0 ≤ z ∧ z < 15) : (vl15 r).getD z.toNat none = some (r + 10 + 5 * z.toNat) := by
  have : z = 0 ∨ z = 1 ∨ z = 2 ∨ z = 3 ∨ z = 4 ∨ z = 5 ∨ z = 6 ∨ z = 7 ∨ z = 8 ∨ z = 9 ∨ z = 10 ∨ z = 11 ∨ z = 12 ∨ z = 13 ∨ z = 14 := by omega
  rcases this with rfl | rfl | rfl | rfl | rfl | rfl | rfl | rfl | rfl | rfl | rfl | rfl | rfl | rfl | rfl <;> rfl
theorem rdK.off {Λ : Lay} {r κ : Nat} (h : rdK Λ r κ) : ¬ polyC Λ r ∧ ¬ polyC Λ (r + 1) ∧ ¬ polyC Λ (r + 2) ∧ ¬ polyC Λ (r + 3) := by
  refine ⟨?_, ?_, ?_, ?_⟩
  · rintro (q | ⟨b, rfl, q⟩)
    · have := h.1.symm.trans q.1; simp at this
    · have := h.1.symm.trans q.2; simp at this
  · rintro (q | ⟨b, e, q⟩)
    · have := h.2.1.symm.trans q.1; simp at this
    · obtain rfl : b = r := by omega
      have := h.1.symm.trans q.1; simp at this
  · rintro (q | ⟨b, e, q⟩)
    · have := h.2.2.1.symm.trans q.1; simp at this
    · obtain rfl : b = r + 1 := by omega
      have := h.2.1.symm.trans q.1; simp at this
  · rintro (q | ⟨b, e, q⟩)
    · have := h.2.2.2.1.symm.trans q.1; simp at this
    · obtain rfl : b = r + 2 := by omega
      have := h.2.2.1.symm.trans q.1; simp at this
theorem rdK.fr {Λ : Lay} {r κ : Nat} (h : rdK Λ r κ) {k : Nat} (hk : k < 15) : fracK Λ (r + 10 + 5 * k) := h.2.2.2.2.2.2 k hk
/-- the pile, the topmost first -/
def VPA (π : Nat → PS) (r : Nat) : List FP2 → Prop
  | [] => True
  | v :: R => (π (r + 10 + 5 * R.length + 1) = v.1 ∧ π (r + 10 + 5 * R.length + 3) = v.2) ∧ VPA π r R
theorem VPA.ext {π π' : Nat → PS} {r : Nat} : ∀ {P : List FP2}, VPA π r P → (∀ a : Nat, r + 10 < a → a < r + 10 + 5 * P.length → π' a = π a) → VPA π' r P := by
  intro P
  induction P with
  | nil => intro _ _; exact True.intro
  | cons v R ih =>
    intro h e
    have l : (v :: R).length = R.length + 1 := rfl
    exact ⟨⟨(e _ (by omega) (by omega)).trans h.1.1, (e _ (by omega) (by omega)).trans h.1.2⟩, ih h.2 (fun a h0 h1 => e a h0 (by omega))⟩
theorem lsA.app {w : Int → Int} : ∀ {E D : List Int}, lsA w (E ++ D) → lsA w D := by
  intro E
  induction E with
  | nil => intro D h; exact h
  | cons c R ih => intro D h; exact ih h.2
theorem wlC.app : ∀ {E D : List Int}, wlC (E ++ D) → wlC D := by
  intro E
  induction E with
  | nil => intro D h; exact h
  | cons c R ih => intro D h; exact ih h.1
theorem evC_app : ∀ {E D : List Int}, (evC D).1 ≠ 0 → evC (E ++ D) = evC D := by
  intro E
  induction E with
  | nil => intro D _; rfl
  | cons c R ih => intro D h; rw [List.cons_append, evC_err (by rw [ih h]; exact h), ih h]
theorem wlC.fok : ∀ {D : List Int}, wlC D → (evC D).1 = 0 → ∀ v ∈ (evC D).2, FOK v 7 5 := by
  intro D
  induction D with
  | nil => intro _ _ v hv; cases hv
  | cons c R ih =>
    intro h h0
    have e0 : (evC R).1 = 0 := Classical.byContradiction fun q => by rw [evC_err q] at h0; exact q h0
    have old := ih h.1 e0
    have ok := h.2.2 e0
    have ec : evC (c :: R) = cdF (evC R) c := rfl
    rw [ec] at h0 ⊢
    unfold cdF at h0 ⊢
    rw [if_neg (by rw [e0]; decide)] at h0 ⊢
    by_cases c1 : c < 1000
    · rw [if_pos c1]
      intro v hv
      cases hv with
      | head => exact nF_ok c
      | tail _ t => exact old v t
    · rw [if_neg c1] at h0 ⊢
      by_cases c2 : c = 1120
      · rw [if_pos c2]
        intro v hv
        cases hv with
        | head => exact xF_ok
        | tail _ t => exact old v t
      · rw [if_neg c2] at h0 ⊢
        revert h0 ok old
        generalize (evC R).2 = P
        intro h0 old ok
        by_cases c3 : c < 2000
        · rw [if_pos c3] at h0 ⊢
          match P, ok, old, h0 with
          | [], _, old, _ => exact old
          | [a], _, old, _ => exact old
          | b :: a :: Q, ok, old, h0 =>
            have h0 : opA (c - 1000) a b = 0 := h0
            intro v hv
            cases hv with
            | head => exact opR_ok (fun _ => old a (by simp)) (old b (by simp)) h0
            | tail _ t => exact old v (List.mem_cons_of_mem _ (List.mem_cons_of_mem _ t))
        · rw [if_neg c3] at h0 ⊢
          match P, ok, old, h0 with
          | [], _, old, _ => exact old
          | a :: Q, ok, old, h0 =>
            have h0 : (if bz (pwOK a (c - 2000).toNat) = 1 then (0 : Int) else -3) = 0 := h0
            have hp : pwOK a (c - 2000).toNat := Classical.byContradiction fun q => by rw [if0 q] at h0; omega
            intro v hv
            cases hv with
            | head => exact pwV_ok (old a (by simp)) _ hp
            | tail _ t => exact old v (List.mem_cons_of_mem _ t)
theorem d_vtop (l : Launch) (G : Gl) (Λ : Lay) (sz : Nat) (μ : Mem) {r κ : Nat} {n k : Int} (hS : rdK Λ r κ) (hn : μ.1 r 10 = n) (hk : 1 ≤ k ∧ k ≤ n ∧ n ≤ 15) : Sp l G yX6_valueFromTop cX6_valueFromTop 3 (some (FieldType.object "FiniteTerms$Frac")) 0 [.ref r, iv k] Λ sz μ (pR (fun a μ' => a = r + 10 + 5 * (n - k).toNat ∧ μ' = μ)) := by
  refine Sp.intro (by decide) (Nat.le_of_ble_eq_true rfl) (fun x hx hBD => ?_)
  refine v_lv [(0, .ref r), (1, iv k)] rfl ?_
  refine v_aload hx DX6_valueFromTop_0 0 rfl ?_
  refine v_get hx DX6_valueFromTop_1 FLRX6_43 hS.1 (fv_i rfl hn : _ = iv n) ?_
  refine v_iload hx DX6_valueFromTop_4 1 rfl ?_
  refine v_isub hx DX6_valueFromTop_5 ?_
  refine v_istore hx DX6_valueFromTop_6 [(2, iv (n - k)), (0, .ref r), (1, iv k)] rfl (by decide) ?_
  refine v_iload hx DX6_valueFromTop_7 0 rfl ?_
  refine v_if_lt hx DX6_valueFromTop_8 (by omega) (fun c8 => ?_) (fun c8 => ?_)
  · exact absurd c8 (by omega)
  · skip
    refine v_iload hx DX6_valueFromTop_11 0 rfl ?_
    refine v_aload hx DX6_valueFromTop_12 1 rfl ?_
    refine v_get hx DX6_valueFromTop_13 FLRX6_39 hS.1 (v := .ref (r + 4)) rfl ?_
    refine v_alenI hx DX6_valueFromTop_16 hS.2.2.2.2.1 (by decide) (z := 15) rfl ?_
    refine v_icmp_ge hx DX6_valueFromTop_17 (by omega) (by decide) (fun c17 => ?_) (fun c17 => ?_)
    · exact absurd c17 (by omega)
    · skip
      refine v_aload hx DX6_valueFromTop_20 1 rfl ?_
      refine v_get hx DX6_valueFromTop_21 FLRX6_39 hS.1 (v := .ref (r + 4)) rfl ?_
      refine v_iload hx DX6_valueFromTop_24 0 rfl ?_
      refine v_aald hx DX6_valueFromTop_25 hS.2.2.2.2.1 (by decide) (by omega) (by decide) (b := r + 10 + 5 * (n - k).toNat) (vl_at (by omega)) ?_
      refine v_goto hx DX6_valueFromTop_26 ?_
      exact v_rr hx hBD DX6_valueFromTop_33 (⟨rfl, rfl⟩)
theorem d_next (l : Launch) (G : Gl) (Λ : Lay) (sz : Nat) (μ : Mem) {r κ : Nat} {n : Int} (hS : rdK Λ r κ) (hn : μ.1 r 10 = n) (hk : 0 ≤ n ∧ n < 15) : Sp l G yX6_next cX6_next 1 (some (FieldType.object "FiniteTerms$Frac")) 1 [.ref r] Λ sz μ (pR (fun a μ' => a = r + 10 + 5 * n.toNat ∧ μ' = mI μ r 10 (n + 1))) := by
  refine Sp.intro (by decide) (Nat.le_of_ble_eq_true rfl) (fun x hx hBD => ?_)
  refine v_lv [(0, .ref r)] rfl ?_
  refine v_aload hx DX6_next_0 0 rfl ?_
  refine v_dup hx DX6_next_1 rfl ?_
  refine v_get hx DX6_next_2 FLRX6_43 hS.1 (fv_i rfl hn : _ = iv n) ?_
  refine v_push hx DX6_next_5 ?_
  refine v_iadd hx DX6_next_6 ?_
  refine v_pI hx DX6_next_7 FPRX6_43 hS.1 rfl (ki := 10) rfl (fun μ1 eμ1 => ?_)
  refine v_aload hx DX6_next_10 0 rfl ?_
  refine v_push hx DX6_next_11 ?_
  refine v_cVr hx DX6_next_12 CVRX6_109 [iv 1] (d_vtop (n := n + 1) (k := 1) l G Λ sz μ1 hS (by rw [eμ1, mI_at, if_pos rfl]) (by omega)) hS.1 rfl rfl (Nat.le_of_ble_eq_true rfl) (by decide) ⟨Nat.le_refl _, Nat.le_refl _⟩ (fun z3 μ2 hμ2 => ?_)
  obtain ⟨ea, em⟩ := hμ2
  have ea : z3 = r + 10 + 5 * n.toNat := by omega
  rw [ea, em]
  exact v_rr hx hBD DX6_next_15 (⟨rfl, eμ1⟩)
theorem d_operate (l : Launch) (G : Gl) (Λ : Lay) (sz : Nat) (μ : Mem) {π : Nat → PS} {r κ n : Nat} {sg : Int} {a b : FP2} (hA : AB Λ μ π) (hI : INV G Λ) (hK : kitK Λ κ) (hS : rdK Λ r κ) (hord : κ + 16 < r) (hcnt : μ.1 r 10 = (n : Int) + 2) (hn : n + 2 ≤ 15) (ha1 : π ((r + 10 + 5 * n) + 1) = a.1) (ha3 : π ((r + 10 + 5 * n) + 3) = a.2) (hb1 : π ((r + 10 + 5 * (n + 1)) + 1) = b.1) (hb3 : π ((r + 10 + 5 * (n + 1)) + 3) = b.2) (fa : FOK a 7 5) (fb : FOK b 7 5) (hsg : isop sg) : Sp l G yX6_operate cX6_operate 4 (some FieldType.int) 5 [.ref r, iv sg] Λ sz μ (pI (fun z μ' => z = opA sg a b ∧ ∃ π', ChgX Λ (fun c => c = (r + 10 + 5 * n) + 1 ∨ c = (r + 10 + 5 * n) + 3 ∨ (κ < c ∧ c < κ + 17)) r (rw1 (μ.1 r) 10 ((n : Int) + 1)) μ μ' π π' ∧ (z = 0 → π' ((r + 10 + 5 * n) + 1) = (opR sg a b).1 ∧ π' ((r + 10 + 5 * n) + 3) = (opR sg a b).2))) := by
  refine Sp.intro (by decide) (Nat.le_of_ble_eq_true rfl) (fun x hx hBD => ?_)
  refine v_lv [(0, .ref r), (1, iv sg)] rfl ?_
  have hoff := hS.off.1
  have hFa : fracK Λ (r + 10 + 5 * n) := hS.fr (by omega)
  have hFb : fracK Λ (r + 10 + 5 * (n + 1)) := hS.fr (by omega)
  unfold isop at hsg
  have za1 := fa.2.1
  have za2 := fa.2.2
  have zb1 := fb.2.1
  have zb2 := fb.2.2
  have itr := isT_rng (opR sg a b).1 (opR sg a b).2
  have hch0 : ChgX Λ (fun c => c = (r + 10 + 5 * n) + 1 ∨ c = (r + 10 + 5 * n) + 3 ∨ (κ < c ∧ c < κ + 17)) r (μ.1 r) μ μ π π := ChgX.rf hA hoff
  refine v_aload hx DX6_operate_0 0 rfl ?_
  refine v_push hx DX6_operate_1 ?_
  refine v_cVr hx DX6_operate_2 CVRX6_109 [iv 2] (d_vtop (n := (n : Int) + 2) (k := 2) l G Λ sz μ hS hcnt (by omega)) hS.1 rfl rfl (Nat.le_of_ble_eq_true rfl) (by decide) ⟨Nat.le_refl _, Nat.le_refl _⟩ (fun z2 μ1 hμ1 => ?_)
  obtain ⟨ea, em⟩ := hμ1
  have ea : z2 = r + 10 + 5 * n := by omega
  rw [ea, em]
  refine v_astore hx DX6_operate_5 [(2, .ref (r + 10 + 5 * n)), (0, .ref r), (1, iv sg)] rfl (by decide) ?_
  refine v_aload hx DX6_operate_6 1 rfl ?_
  refine v_push hx DX6_operate_7 ?_
  refine v_cVr hx DX6_operate_8 CVRX6_109 [iv 1] (d_vtop (n := (n : Int) + 2) (k := 1) l G Λ sz μ hS hcnt (by omega)) hS.1 rfl rfl (Nat.le_of_ble_eq_true rfl) (by decide) ⟨Nat.le_refl _, Nat.le_refl _⟩ (fun z4 μ3 hμ3 => ?_)
  obtain ⟨ea, em⟩ := hμ3
  have ea : z4 = r + 10 + 5 * (n + 1) := by omega
  rw [ea, em]
  refine v_astore hx DX6_operate_11 [(3, .ref (r + 10 + 5 * (n + 1))), (2, .ref (r + 10 + 5 * n)), (0, .ref r), (1, iv sg)] rfl (by decide) ?_
  refine v_aload hx DX6_operate_12 2 rfl ?_
  refine v_dup hx DX6_operate_13 rfl ?_
  refine v_get hx DX6_operate_14 FLRX6_43 hS.1 (fv_i rfl hcnt : _ = iv ((n : Int) + 2)) ?_
  refine v_push hx DX6_operate_17 ?_
  refine v_isub hx DX6_operate_18 ?_
  refine v_pI hx DX6_operate_19 FPRX6_43 hS.1 rfl (ki := 10) rfl (fun μ5 eμ5 => ?_)
  have hA6 : AB Λ μ5 π := by rw [eμ5]; exact hA.mI hoff
  have hch6 : ChgX Λ (fun c => c = (r + 10 + 5 * n) + 1 ∨ c = (r + 10 + 5 * n) + 3 ∨ (κ < c ∧ c < κ + 17)) r (rw1 (μ.1 r) 10 (((n : Int) + 2) - 1)) μ μ5 π π := by rw [eμ5]; exact hch0.put
  refine v_iload hx DX6_operate_22 3 rfl ?_
  refine v_push hx DX6_operate_23 ?_
  refine v_icmp_eq hx DX6_operate_25 (by omega) (by decide) (fun c25 => ?_) (fun c25 => ?_)
  · skip
    refine v_aload hx DX6_operate_34 2 rfl ?_
    refine v_get hx DX6_operate_35 FLRX6_51 hS.1 (v := .ref κ) rfl ?_
    refine v_aload hx DX6_operate_38 1 rfl ?_
    refine v_aload hx DX6_operate_39 1 rfl ?_
    refine v_aload hx DX6_operate_40 0 rfl ?_
    refine v_iload hx DX6_operate_41 3 rfl ?_
    refine v_push hx DX6_operate_42 ?_
    refine v_icmp_ne hx DX6_operate_44 (by omega) (by decide) (fun c44 => ?_) (fun c44 => ?_)
    · exact absurd c44 (by omega)
    · skip
      refine v_push hx DX6_operate_47 ?_
      refine v_goto hx DX6_operate_48 ?_
      refine v_cVv hx DX6_operate_53 CVRX6_117 [.ref (r + 10 + 5 * n), .ref (r + 10 + 5 * n), .ref (r + 10 + 5 * (n + 1)), iv 1] (q_sum (f := 1) l G Λ sz μ5 hA6 hI hK hFa hFa hFb (by omega) (by omega) (by omega) (by omega) (by omega) (by omega) (by rw [ha1, hb3]; omega) (by rw [hb1, ha3]; omega) (by rw [ha3, hb3]; omega) (by rw [ha3, hb3]; exact PS.fmul_ne fa.1.2.1 fb.1.2.1 fa.1.2.2.1 fb.1.2.2.1)) hK.1 rfl rfl (Nat.le_of_ble_eq_true rfl) (by decide) ⟨Nat.le_refl _, Nat.le_refl _⟩ (fun μ7 hμ7 => ?_)
      obtain ⟨π7, hc7, he7_0, he7_1⟩ := hμ7
      have hA7 := hc7.1
      have hch7 := hch6.trans (hc7.mono (fun c hc => by first | omega | (dsimp only at hc ⊢; omega)))
      have v7_2 : π7 ((r + 10 + 5 * (n + 1)) + 1) = b.1 := (hc7.2.1 ((r + 10 + 5 * (n + 1)) + 1) (by first | omega | (dsimp only; omega))).trans hb1
      have v7_3 : π7 ((r + 10 + 5 * (n + 1)) + 3) = b.2 := (hc7.2.1 ((r + 10 + 5 * (n + 1)) + 3) (by first | omega | (dsimp only; omega))).trans hb3
      have g7_0 : π7 ((r + 10 + 5 * n) + 1) = (opR sg a b).1 := he7_0.trans (by rw [ha1, ha3, hb1, hb3]; show _ = (opR sg a b).1; unfold opR; rw [if_neg (by omega), if_neg (by omega), if_neg (by omega), if_pos (by omega)]; unfold fpl; rw [PS.am0]; rfl)
      have g7_1 : π7 ((r + 10 + 5 * n) + 3) = (opR sg a b).2 := he7_1.trans (by rw [ha1, ha3, hb1, hb3]; show _ = (opR sg a b).2; unfold opR; rw [if_neg (by omega), if_neg (by omega), if_neg (by omega), if_pos (by omega)]; unfold fpl; rw [PS.am0]; rfl)
      refine v_goto hx DX6_operate_56 ?_
      refine v_aload hx DX6_operate_101 1 rfl ?_
      refine v_cVp hx DX6_operate_102 CVRX6_133 [] (q_isTerm l G Λ sz μ7 hFa (AB.get (A := (opR sg a b).1) hA7 hFa.2.1 g7_0) (AB.get (A := (opR sg a b).2) hA7 hFa.2.2 g7_1)) hFa.1 rfl rfl (Nat.le_of_ble_eq_true rfl) (by decide) ⟨Nat.le_refl _, Nat.le_refl _⟩ ?_
      refine v_if_eq hx DX6_operate_105 (by omega) (fun c105 => ?_) (fun c105 => ?_)
      · skip
        refine v_push hx DX6_operate_112 ?_
        exact v_ri hx hBD DX6_operate_114 (⟨by unfold opA; rw [if_neg (by omega), if0 (fun t => by omega), if_neg (by omega)], π7, (by have t := hch7; rw [show (n : Int) + 2 - 1 = (n : Int) + 1 by omega] at t; exact t), fun t => absurd t (by decide)⟩)
      · skip
        refine v_push hx DX6_operate_108 ?_
        refine v_goto hx DX6_operate_109 ?_
        exact v_ri hx hBD DX6_operate_114 (⟨by unfold opA; rw [if_neg (by omega), if0 (fun t => by omega), if_pos (by omega)], π7, (by have t := hch7; rw [show (n : Int) + 2 - 1 = (n : Int) + 1 by omega] at t; exact t), fun _ => ⟨g7_0, g7_1⟩⟩)
  · skip
    refine v_iload hx DX6_operate_28 3 rfl ?_
    refine v_push hx DX6_operate_29 ?_
    refine v_icmp_ne hx DX6_operate_31 (by omega) (by decide) (fun c31 => ?_) (fun c31 => ?_)
    · skip
      refine v_iload hx DX6_operate_59 3 rfl ?_
      refine v_push hx DX6_operate_60 ?_
      refine v_icmp_ne hx DX6_operate_62 (by omega) (by decide) (fun c62 => ?_) (fun c62 => ?_)
      · skip
        refine v_aload hx DX6_operate_78 0 rfl ?_
        refine v_get hx DX6_operate_79 FLRX6_93 hFb.1 (v := .ref ((r + 10 + 5 * (n + 1)) + 1)) rfl ?_
        refine v_get hx DX6_operate_82 FLRX6_127 hFb.2.1.1 (fv_i rfl ((AB.get (A := b.1) hA6 hFb.2.1 hb1).2) : _ = iv ((b.1.size : Int) - 1)) ?_
        refine v_if_ge hx DX6_operate_85 (by omega) (fun c85 => ?_) (fun c85 => ?_)
        · skip
          have nb : b.1 ≠ PS.zero := PS.ne_of_size (by omega)
          refine v_aload hx DX6_operate_91 2 rfl ?_
          refine v_get hx DX6_operate_92 FLRX6_51 hS.1 (v := .ref κ) rfl ?_
          refine v_aload hx DX6_operate_95 1 rfl ?_
          refine v_aload hx DX6_operate_96 1 rfl ?_
          refine v_aload hx DX6_operate_97 0 rfl ?_
          refine v_cVv hx DX6_operate_98 CVRX6_130 [.ref (r + 10 + 5 * n), .ref (r + 10 + 5 * n), .ref (r + 10 + 5 * (n + 1))] (q_over l G Λ sz μ5 hA6 hI hK hFa hFa hFb (by omega) (by omega) (by omega) (by omega) (by omega) (by rw [ha1, hb3]; omega) (by rw [ha3, hb1]; omega) (by rw [ha3, hb1]; exact PS.fmul_ne fa.1.2.1 fb.1.1 fa.1.2.2.1 nb)) hK.1 rfl rfl (Nat.le_of_ble_eq_true rfl) (by decide) ⟨Nat.le_refl _, Nat.le_refl _⟩ (fun μ10 hμ10 => ?_)
          obtain ⟨π10, hc10, he10_0, he10_1⟩ := hμ10
          have hA10 := hc10.1
          have hch10 := hch6.trans (hc10.mono (fun c hc => by first | omega | (dsimp only at hc ⊢; omega)))
          have v10_2 : π10 ((r + 10 + 5 * (n + 1)) + 1) = b.1 := (hc10.2.1 ((r + 10 + 5 * (n + 1)) + 1) (by first | omega | (dsimp only; omega))).trans hb1
          have v10_3 : π10 ((r + 10 + 5 * (n + 1)) + 3) = b.2 := (hc10.2.1 ((r + 10 + 5 * (n + 1)) + 3) (by first | omega | (dsimp only; omega))).trans hb3
          have g10_0 : π10 ((r + 10 + 5 * n) + 1) = (opR sg a b).1 := he10_0.trans (by rw [ha1, ha3, hb1, hb3]; show _ = (opR sg a b).1; unfold opR; rw [if_neg (by omega), if_neg (by omega), if_pos (by omega)]; rfl)
          have g10_1 : π10 ((r + 10 + 5 * n) + 3) = (opR sg a b).2 := he10_1.trans (by rw [ha1, ha3, hb1, hb3]; show _ = (opR sg a b).2; unfold opR; rw [if_neg (by omega), if_neg (by omega), if_pos (by omega)]; rfl)
          refine v_aload hx DX6_operate_101 1 rfl ?_
          refine v_cVp hx DX6_operate_102 CVRX6_133 [] (q_isTerm l G Λ sz μ10 hFa (AB.get (A := (opR sg a b).1) hA10 hFa.2.1 g10_0) (AB.get (A := (opR sg a b).2) hA10 hFa.2.2 g10_1)) hFa.1 rfl rfl (Nat.le_of_ble_eq_true rfl) (by decide) ⟨Nat.le_refl _, Nat.le_refl _⟩ ?_
          refine v_if_eq hx DX6_operate_105 (by omega) (fun c105 => ?_) (fun c105 => ?_)
          · skip
            refine v_push hx DX6_operate_112 ?_
            exact v_ri hx hBD DX6_operate_114 (⟨by unfold opA; rw [if_neg (by omega), if0 (fun t => nb t.2), if_neg (by omega)], π10, (by have t := hch10; rw [show (n : Int) + 2 - 1 = (n : Int) + 1 by omega] at t; exact t), fun t => absurd t (by decide)⟩)
          · skip
            refine v_push hx DX6_operate_108 ?_
            refine v_goto hx DX6_operate_109 ?_
            exact v_ri hx hBD DX6_operate_114 (⟨by unfold opA; rw [if_neg (by omega), if0 (fun t => nb t.2), if_pos (by omega)], π10, (by have t := hch10; rw [show (n : Int) + 2 - 1 = (n : Int) + 1 by omega] at t; exact t), fun _ => ⟨g10_0, g10_1⟩⟩)
        · skip
          have zb : b.1 = PS.zero := (PS.fsz0 fb.1.1).mp (by omega)
          refine v_push hx DX6_operate_88 ?_
          exact v_ri hx hBD DX6_operate_90 (⟨by unfold opA; rw [if_neg (by omega), if1 ⟨by omega, zb⟩], π, (by have t := hch6; rw [show (n : Int) + 2 - 1 = (n : Int) + 1 by omega] at t; exact t), fun t => absurd t (by decide)⟩)
      · skip
        refine v_aload hx DX6_operate_65 2 rfl ?_
        refine v_get hx DX6_operate_66 FLRX6_51 hS.1 (v := .ref κ) rfl ?_
        refine v_aload hx DX6_operate_69 1 rfl ?_
        refine v_aload hx DX6_operate_70 1 rfl ?_
        refine v_aload hx DX6_operate_71 0 rfl ?_
        refine v_cVv hx DX6_operate_72 CVRX6_123 [.ref (r + 10 + 5 * n), .ref (r + 10 + 5 * n), .ref (r + 10 + 5 * (n + 1))] (q_times l G Λ sz μ5 hA6 hI hK hFa hFa hFb (by omega) (by omega) (by omega) (by omega) (by omega) (by rw [ha1, hb1]; omega) (by rw [ha3, hb3]; omega) (by rw [ha3, hb3]; exact PS.fmul_ne fa.1.2.1 fb.1.2.1 fa.1.2.2.1 fb.1.2.2.1)) hK.1 rfl rfl (Nat.le_of_ble_eq_true rfl) (by decide) ⟨Nat.le_refl _, Nat.le_refl _⟩ (fun μ13 hμ13 => ?_)
        obtain ⟨π13, hc13, he13_0, he13_1⟩ := hμ13
        have hA13 := hc13.1
        have hch13 := hch6.trans (hc13.mono (fun c hc => by first | omega | (dsimp only at hc ⊢; omega)))
        have v13_2 : π13 ((r + 10 + 5 * (n + 1)) + 1) = b.1 := (hc13.2.1 ((r + 10 + 5 * (n + 1)) + 1) (by first | omega | (dsimp only; omega))).trans hb1
        have v13_3 : π13 ((r + 10 + 5 * (n + 1)) + 3) = b.2 := (hc13.2.1 ((r + 10 + 5 * (n + 1)) + 3) (by first | omega | (dsimp only; omega))).trans hb3
        have g13_0 : π13 ((r + 10 + 5 * n) + 1) = (opR sg a b).1 := he13_0.trans (by rw [ha1, ha3, hb1, hb3]; show _ = (opR sg a b).1; unfold opR; rw [if_neg (by omega), if_pos (by omega)]; rfl)
        have g13_1 : π13 ((r + 10 + 5 * n) + 3) = (opR sg a b).2 := he13_1.trans (by rw [ha1, ha3, hb1, hb3]; show _ = (opR sg a b).2; unfold opR; rw [if_neg (by omega), if_pos (by omega)]; rfl)
        refine v_goto hx DX6_operate_75 ?_
        refine v_aload hx DX6_operate_101 1 rfl ?_
        refine v_cVp hx DX6_operate_102 CVRX6_133 [] (q_isTerm l G Λ sz μ13 hFa (AB.get (A := (opR sg a b).1) hA13 hFa.2.1 g13_0) (AB.get (A := (opR sg a b).2) hA13 hFa.2.2 g13_1)) hFa.1 rfl rfl (Nat.le_of_ble_eq_true rfl) (by decide) ⟨Nat.le_refl _, Nat.le_refl _⟩ ?_
        refine v_if_eq hx DX6_operate_105 (by omega) (fun c105 => ?_) (fun c105 => ?_)
        · skip
          refine v_push hx DX6_operate_112 ?_
          exact v_ri hx hBD DX6_operate_114 (⟨by unfold opA; rw [if_neg (by omega), if0 (fun t => by omega), if_neg (by omega)], π13, (by have t := hch13; rw [show (n : Int) + 2 - 1 = (n : Int) + 1 by omega] at t; exact t), fun t => absurd t (by decide)⟩)
        · skip
          refine v_push hx DX6_operate_108 ?_
          refine v_goto hx DX6_operate_109 ?_
          exact v_ri hx hBD DX6_operate_114 (⟨by unfold opA; rw [if_neg (by omega), if0 (fun t => by omega), if_pos (by omega)], π13, (by have t := hch13; rw [show (n : Int) + 2 - 1 = (n : Int) + 1 by omega] at t; exact t), fun _ => ⟨g13_0, g13_1⟩⟩)
    · skip
      refine v_aload hx DX6_operate_34 2 rfl ?_
      refine v_get hx DX6_operate_35 FLRX6_51 hS.1 (v := .ref κ) rfl ?_
      refine v_aload hx DX6_operate_38 1 rfl ?_
      refine v_aload hx DX6_operate_39 1 rfl ?_
      refine v_aload hx DX6_operate_40 0 rfl ?_
      refine v_iload hx DX6_operate_41 3 rfl ?_
      refine v_push hx DX6_operate_42 ?_
      refine v_icmp_ne hx DX6_operate_44 (by omega) (by decide) (fun c44 => ?_) (fun c44 => ?_)
      · skip
        refine v_push hx DX6_operate_51 ?_
        refine v_cVv hx DX6_operate_53 CVRX6_117 [.ref (r + 10 + 5 * n), .ref (r + 10 + 5 * n), .ref (r + 10 + 5 * (n + 1)), iv 100] (q_sum (f := 100) l G Λ sz μ5 hA6 hI hK hFa hFa hFb (by omega) (by omega) (by omega) (by omega) (by omega) (by omega) (by rw [ha1, hb3]; omega) (by rw [hb1, ha3]; omega) (by rw [ha3, hb3]; omega) (by rw [ha3, hb3]; exact PS.fmul_ne fa.1.2.1 fb.1.2.1 fa.1.2.2.1 fb.1.2.2.1)) hK.1 rfl rfl (Nat.le_of_ble_eq_true rfl) (by decide) ⟨Nat.le_refl _, Nat.le_refl _⟩ (fun μ16 hμ16 => ?_)
        obtain ⟨π16, hc16, he16_0, he16_1⟩ := hμ16
        have hA16 := hc16.1
        have hch16 := hch6.trans (hc16.mono (fun c hc => by first | omega | (dsimp only at hc ⊢; omega)))
        have v16_2 : π16 ((r + 10 + 5 * (n + 1)) + 1) = b.1 := (hc16.2.1 ((r + 10 + 5 * (n + 1)) + 1) (by first | omega | (dsimp only; omega))).trans hb1
        have v16_3 : π16 ((r + 10 + 5 * (n + 1)) + 3) = b.2 := (hc16.2.1 ((r + 10 + 5 * (n + 1)) + 3) (by first | omega | (dsimp only; omega))).trans hb3
        have g16_0 : π16 ((r + 10 + 5 * n) + 1) = (opR sg a b).1 := he16_0.trans (by rw [ha1, ha3, hb1, hb3]; show _ = (opR sg a b).1; unfold opR; rw [if_neg (by omega), if_neg (by omega), if_neg (by omega), if_neg (by omega)]; unfold fpl; rw [PS.am0]; rfl)
        have g16_1 : π16 ((r + 10 + 5 * n) + 3) = (opR sg a b).2 := he16_1.trans (by rw [ha1, ha3, hb1, hb3]; show _ = (opR sg a b).2; unfold opR; rw [if_neg (by omega), if_neg (by omega), if_neg (by omega), if_neg (by omega)]; unfold fpl; rw [PS.am0]; rfl)
        refine v_goto hx DX6_operate_56 ?_
        refine v_aload hx DX6_operate_101 1 rfl ?_
        refine v_cVp hx DX6_operate_102 CVRX6_133 [] (q_isTerm l G Λ sz μ16 hFa (AB.get (A := (opR sg a b).1) hA16 hFa.2.1 g16_0) (AB.get (A := (opR sg a b).2) hA16 hFa.2.2 g16_1)) hFa.1 rfl rfl (Nat.le_of_ble_eq_true rfl) (by decide) ⟨Nat.le_refl _, Nat.le_refl _⟩ ?_
        refine v_if_eq hx DX6_operate_105 (by omega) (fun c105 => ?_) (fun c105 => ?_)
        · skip
          refine v_push hx DX6_operate_112 ?_
          exact v_ri hx hBD DX6_operate_114 (⟨by unfold opA; rw [if_neg (by omega), if0 (fun t => by omega), if_neg (by omega)], π16, (by have t := hch16; rw [show (n : Int) + 2 - 1 = (n : Int) + 1 by omega] at t; exact t), fun t => absurd t (by decide)⟩)
        · skip
          refine v_push hx DX6_operate_108 ?_
          refine v_goto hx DX6_operate_109 ?_
          exact v_ri hx hBD DX6_operate_114 (⟨by unfold opA; rw [if_neg (by omega), if0 (fun t => by omega), if_pos (by omega)], π16, (by have t := hch16; rw [show (n : Int) + 2 - 1 = (n : Int) + 1 by omega] at t; exact t), fun _ => ⟨g16_0, g16_1⟩⟩)
      · exact absurd c44 (by omega)
theorem d_raise (l : Launch) (G : Gl) (Λ : Lay) (sz : Nat) (μ : Mem) {π : Nat → PS} {r κ n : Nat} {e : Int} {a : FP2} (hA : AB Λ μ π) (hI : INV G Λ) (hK : kitK Λ κ) (hS : rdK Λ r κ) (hord : κ + 16 < r) (hcnt : μ.1 r 10 = (n : Int) + 1) (hn : n + 1 ≤ 15) (ha1 : π ((r + 10 + 5 * n) + 1) = a.1) (ha3 : π ((r + 10 + 5 * n) + 3) = a.2) (fa : FOK a 7 5) (he : 0 ≤ e ∧ e ≤ 8) : Sp l G yX6_raise cX6_raise 4 (some FieldType.int) 5 [.ref r, iv e] Λ sz μ (pI (fun z μ' => z = (if bz (pwOK a e.toNat) = 1 then 0 else -3) ∧ ∃ π', Chg Λ (fun c => c = (r + 10 + 5 * n) + 1 ∨ c = (r + 10 + 5 * n) + 3 ∨ c = r + 5 + 1 ∨ c = r + 5 + 3 ∨ (κ < c ∧ c < κ + 17)) μ μ' π π' ∧ (z = 0 → π' ((r + 10 + 5 * n) + 1) = (pwV a e.toNat).1 ∧ π' ((r + 10 + 5 * n) + 3) = (pwV a e.toNat).2))) := by
  refine Sp.intro (by decide) (Nat.le_of_ble_eq_true rfl) (fun x hx hBD => ?_)
  refine v_lv [(0, .ref r), (1, iv e)] rfl ?_
  have hFa : fracK Λ (r + 10 + 5 * n) := hS.fr (by omega)
  have hF5 := hS.2.2.2.2.2.1
  have za1 := fa.2.1
  have za2 := fa.2.2
  have hch0 : Chg Λ (fun c => c = (r + 10 + 5 * n) + 1 ∨ c = (r + 10 + 5 * n) + 3 ∨ c = r + 5 + 1 ∨ c = r + 5 + 3 ∨ (κ < c ∧ c < κ + 17)) μ μ π π := Chg.rf hA
  have L21 : ∀ (nf : Nat) (k : Int) (m : Mem) (πk : Nat → PS), (e - k < (nf : Int)) → (Chg Λ (fun c => c = (r + 10 + 5 * n) + 1 ∨ c = (r + 10 + 5 * n) + 3 ∨ c = r + 5 + 1 ∨ c = r + 5 + 3 ∨ (κ < c ∧ c < κ + 17)) μ m π πk) → (πk ((r + 10 + 5 * n) + 1) = (pwV a k.toNat).1) → (πk ((r + 10 + 5 * n) + 3) = (pwV a k.toNat).2) → (πk (r + 5 + 1) = a.1) → (πk (r + 5 + 3) = a.2) → (0 ≤ k ∧ k ≤ e) → (pwOK a k.toNat) → V G x (0, 0) Λ sz m 21 [(3, iv k), (2, .ref (r + 10 + 5 * n)), (0, .ref r), (1, iv e)] [] := by
    intro nf
    induction nf with
    | zero => intro k m πk hm hchπk vπk_0 vπk_1 vπk_2 vπk_3 hk hok; exact absurd hm (by omega)
    | succ nf ih =>
      intro k m πk hm hchπk vπk_0 vπk_1 vπk_2 vπk_3 hk hok
      have hAπk := hchπk.1
      have pk := pwV_ok fa k.toNat hok
      have pk1 := pk.2.1
      have pk2 := pk.2.2
      refine v_iload hx DX6_raise_21 0 rfl ?_
      refine v_iload hx DX6_raise_22 3 rfl ?_
      refine v_icmp_ge hx DX6_raise_23 (by omega) (by omega) (fun c23 => ?_) (fun c23 => ?_)
      · skip
        refine v_push hx DX6_raise_55 ?_
        exact v_ri hx hBD DX6_raise_56 (⟨by rw [if1 (by rw [show e.toNat = k.toNat by omega]; exact hok)], πk, hchπk, fun _ => ⟨by rw [show e.toNat = k.toNat by omega]; exact vπk_0, by rw [show e.toNat = k.toNat by omega]; exact vπk_1⟩⟩)
      · skip
        refine v_aload hx DX6_raise_26 2 rfl ?_
        refine v_get hx DX6_raise_27 FLRX6_51 hS.1 (v := .ref κ) rfl ?_
        refine v_aload hx DX6_raise_30 1 rfl ?_
        refine v_aload hx DX6_raise_31 1 rfl ?_
        refine v_aload hx DX6_raise_32 2 rfl ?_
        refine v_get hx DX6_raise_33 FLRX6_47 hS.1 (v := .ref (r + 5)) rfl ?_
        refine v_cVv hx DX6_raise_36 CVRX6_123 [.ref (r + 10 + 5 * n), .ref (r + 10 + 5 * n), .ref (r + 5)] (q_times l G Λ sz m hAπk hI hK hFa hFa hF5 (by omega) (by omega) (by omega) (by omega) (by omega) (by rw [vπk_0, vπk_2]; omega) (by rw [vπk_1, vπk_3]; omega) (by rw [vπk_1, vπk_3]; exact PS.fmul_ne pk.1.2.1 fa.1.2.1 pk.1.2.2.1 fa.1.2.2.1)) hK.1 rfl rfl (Nat.le_of_ble_eq_true rfl) (by decide) ⟨Nat.le_refl _, Nat.le_refl _⟩ (fun μ1 hμ1 => ?_)
        obtain ⟨π1, hc1, he1_0, he1_1⟩ := hμ1
        have hA1 := hc1.1
        have hch1 := hchπk.trans (hc1.mono (fun c hc => by first | omega | (dsimp only at hc ⊢; omega)))
        have v1_2 : π1 (r + 5 + 1) = a.1 := (hc1.2.1 (r + 5 + 1) (by first | omega | (dsimp only; omega))).trans vπk_2
        have v1_3 : π1 (r + 5 + 3) = a.2 := (hc1.2.1 (r + 5 + 3) (by first | omega | (dsimp only; omega))).trans vπk_3
        have g1_0 : π1 ((r + 10 + 5 * n) + 1) = (pwV a (k + 1).toNat).1 := he1_0.trans (by rw [vπk_0, vπk_1, vπk_2, vπk_3, show (k + 1).toNat = k.toNat + 1 by omega]; rfl)
        have g1_1 : π1 ((r + 10 + 5 * n) + 3) = (pwV a (k + 1).toNat).2 := he1_1.trans (by rw [vπk_0, vπk_1, vπk_2, vπk_3, show (k + 1).toNat = k.toNat + 1 by omega]; rfl)
        have itr := isT_rng (pwV a (k + 1).toNat).1 (pwV a (k + 1).toNat).2
        refine v_aload hx DX6_raise_39 1 rfl ?_
        refine v_cVp hx DX6_raise_40 CVRX6_133 [] (q_isTerm l G Λ sz μ1 hFa (AB.get (A := (pwV a (k + 1).toNat).1) hA1 hFa.2.1 g1_0) (AB.get (A := (pwV a (k + 1).toNat).2) hA1 hFa.2.2 g1_1)) hFa.1 rfl rfl (Nat.le_of_ble_eq_true rfl) (by decide) ⟨Nat.le_refl _, Nat.le_refl _⟩ ?_
        refine v_if_ne hx DX6_raise_43 (by omega) (fun c43 => ?_) (fun c43 => ?_)
        · skip
          refine v_iinc hx DX6_raise_49 0 rfl [(3, iv (k + 1)), (2, .ref (r + 10 + 5 * n)), (0, .ref r), (1, iv e)] rfl (by decide) ?_
          refine v_goto hx DX6_raise_52 ?_
          exact v_sub [0, 1, 2, 3] _ rfl (ih (k + 1) μ1 π1 (by omega) hch1 g1_0 g1_1 v1_2 v1_3 (by omega) (fun q g1 g2 => (Classical.em (q = k.toNat + 1)).elim (fun w => by rw [w, show k.toNat + 1 = (k + 1).toNat by omega]; omega) (fun w => hok q g1 (by omega))))
        · skip
          refine v_push hx DX6_raise_46 ?_
          exact v_ri hx hBD DX6_raise_48 (⟨by rw [if0 (fun t => by have z := t (k + 1).toNat (by omega) (by omega); omega)], π1, hch1, fun t => absurd t (by decide)⟩)
  refine v_aload hx DX6_raise_0 0 rfl ?_
  refine v_push hx DX6_raise_1 ?_
  refine v_cVr hx DX6_raise_2 CVRX6_109 [iv 1] (d_vtop (n := (n : Int) + 1) (k := 1) l G Λ sz μ hS hcnt (by omega)) hS.1 rfl rfl (Nat.le_of_ble_eq_true rfl) (by decide) ⟨Nat.le_refl _, Nat.le_refl _⟩ (fun z5 μ4 hμ4 => ?_)
  obtain ⟨ea, em⟩ := hμ4
  have ea : z5 = r + 10 + 5 * n := by omega
  rw [ea, em]
  refine v_astore hx DX6_raise_5 [(2, .ref (r + 10 + 5 * n)), (0, .ref r), (1, iv e)] rfl (by decide) ?_
  refine v_aload hx DX6_raise_6 1 rfl ?_
  refine v_get hx DX6_raise_7 FLRX6_47 hS.1 (v := .ref (r + 5)) rfl ?_
  refine v_aload hx DX6_raise_10 0 rfl ?_
  refine v_cVv hx DX6_raise_11 CVRX6_113 [.ref (r + 10 + 5 * n)] (q_fbecome l G Λ sz μ hA hF5 hFa (by omega)) hS.2.2.2.2.2.1.1 rfl rfl (Nat.le_of_ble_eq_true rfl) (by decide) ⟨Nat.le_refl _, Nat.le_refl _⟩ (fun μ6 hμ6 => ?_)
  obtain ⟨π6, hc6, he6_0, he6_1⟩ := hμ6
  have hA6 := hc6.1
  have hch6 := hch0.trans (hc6.mono (fun c hc => by first | omega | (dsimp only at hc ⊢; omega)))
  have v6_0 : π6 ((r + 10 + 5 * n) + 1) = a.1 := (hc6.2.1 ((r + 10 + 5 * n) + 1) (by first | omega | (dsimp only; omega))).trans ha1
  have v6_1 : π6 ((r + 10 + 5 * n) + 3) = a.2 := (hc6.2.1 ((r + 10 + 5 * n) + 3) (by first | omega | (dsimp only; omega))).trans ha3
  have g6_0 : π6 (r + 5 + 1) = a.1 := he6_0.trans (by rw [ha1])
  have g6_1 : π6 (r + 5 + 3) = a.2 := he6_1.trans (by rw [ha3])
  refine v_aload hx DX6_raise_14 0 rfl ?_
  refine v_push hx DX6_raise_15 ?_
  refine v_cVv hx DX6_raise_16 CVRX6_90 [iv 1] (q_fset (v := 1) l G Λ sz μ6 hA6 hFa (by omega)) hFa.1 rfl rfl (Nat.le_of_ble_eq_true rfl) (by decide) ⟨Nat.le_refl _, Nat.le_refl _⟩ (fun μ7 hμ7 => ?_)
  obtain ⟨π7, hc7, he7_0, he7_1⟩ := hμ7
  have hA7 := hc7.1
  have hch7 := hch6.trans (hc7.mono (fun c hc => by first | omega | (dsimp only at hc ⊢; omega)))
  have v7_2 : π7 (r + 5 + 1) = a.1 := (hc7.2.1 (r + 5 + 1) (by first | omega | (dsimp only; omega))).trans g6_0
  have v7_3 : π7 (r + 5 + 3) = a.2 := (hc7.2.1 (r + 5 + 3) (by first | omega | (dsimp only; omega))).trans g6_1
  have g7_0 : π7 ((r + 10 + 5 * n) + 1) = (pwV a (0 : Int).toNat).1 := he7_0.trans PS.C1
  have g7_1 : π7 ((r + 10 + 5 * n) + 3) = (pwV a (0 : Int).toNat).2 := he7_1.trans rfl
  refine v_push hx DX6_raise_19 ?_
  refine v_istore hx DX6_raise_20 [(3, iv 0), (2, .ref (r + 10 + 5 * n)), (0, .ref r), (1, iv e)] rfl (by decide) ?_
  exact v_sub [0, 1, 2, 3] _ rfl (L21 20 0 μ7 π7 (by omega) hch7 g7_0 g7_1 v7_2 v7_3 (by omega) (fun k h1 h2 => by omega))
