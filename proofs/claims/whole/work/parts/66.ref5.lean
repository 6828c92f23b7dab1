theorem mon_zero : PS.zero.mon = PS.zero := PS.ext fun n => by
  show _ * (0 : F) = 0
  grind
theorem r_common (l : Launch) (G : Gl) (Λ : Lay) (sz : Nat) (μ : Mem) {ν : Nat} {ρ : Nat → PS} {o a b : Nat} (hR : refK Λ ν) (hw : RW μ ν ρ) (ho : o < 151) (ha : a < 151) (hb : b < 151) : Sp l G yX12_common cX12_common 4 none 3 [.ref ν, iv (o : Int), iv (a : Int), iv (b : Int)] Λ sz μ (pV (fun μ' => ∃ ρ', RW μ' ν ρ' ∧ ρ' o = (ρ a).gcd (ρ b) ∧ (∀ r, r < 151 → r ≠ o → ρ' r = ρ r) ∧ Fr [ν + 1] μ μ')) := by
  refine Sp.intro (by decide) (Nat.le_of_ble_eq_true rfl) (fun x hx hBD => ?_)
  refine v_lv [(0, .ref ν), (1, iv (o : Int)), (2, iv (a : Int)), (3, iv (b : Int))] rfl ?_
  have L16 : ∀ (nf : Nat) (ρk : Nat → PS) (m : Mem), (((ρk 152).size : Int) < (nf : Int)) → (RW m ν ρk) → (PS.eu 200 (ρ a) (ρ b) = PS.eu 200 (ρk 151) (ρk 152)) → (∀ r, r < 151 → ρk r = ρ r) → (Fr [ν + 1] μ m) → V G x (0, 0) Λ sz m 16 [(0, .ref ν), (1, iv (o : Int)), (2, iv (a : Int)), (3, iv (b : Int))] [] := by
    intro nf
    induction nf with
    | zero => intro ρk m hm hm hE hr hf; exact absurd hm (by omega)
    | succ nf ih =>
      intro ρk m hm hm hE hr hf
      have l1 := (hm 151 (by decide)).1
      have l2 := (hm 152 (by decide)).1
      have z2 := PS.size_le l2
      refine v_aload hx DX12_common_16 0 rfl ?_
      refine v_push hx DX12_common_17 ?_
      refine v_cVp hx DX12_common_20 CVRX12_15 [iv 152] (r_degree (s := 152) l G Λ sz m hR hm (by decide)) hR.o rfl rfl (Nat.le_of_ble_eq_true rfl) (by decide) ⟨Nat.le_refl _, Nat.le_refl _⟩ ?_
      refine v_if_lt hx DX12_common_23 (by omega) (fun c23 => ?_) (fun c23 => ?_)
      · skip
        have hBz : ρk 152 = PS.zero := (PS.size_eq_zero l2).mp (by omega)
        have hEA : PS.eu 200 (ρ a) (ρ b) = ρk 151 := by rw [hE, hBz, PS.eu_zero]
        refine v_aload hx DX12_common_72 0 rfl ?_
        refine v_iload hx DX12_common_73 1 rfl ?_
        refine v_push hx DX12_common_74 ?_
        refine v_cVv hx DX12_common_77 CVRX12_27 [iv (o : Int), iv 151] (r_lays (s := o) (t := 151) l G Λ sz m hR hm (by omega) (by decide)) hR.o rfl rfl (Nat.le_of_ble_eq_true rfl) (by decide) ⟨Nat.le_refl _, Nat.le_refl _⟩ (fun μ3 hμ3 => ?_)
        have h77 := hμ3
        have ho2 : up ρk o (ρk 151) o = ρk 151 := up_at
        refine v_aload hx DX12_common_80 0 rfl ?_
        refine v_iload hx DX12_common_81 1 rfl ?_
        refine v_cVp hx DX12_common_82 CVRX12_15 [iv (o : Int)] (r_degree l G Λ sz μ3 hR h77.1 (by omega)) hR.o rfl rfl (Nat.le_of_ble_eq_true rfl) (by decide) ⟨Nat.le_refl _, Nat.le_refl _⟩ ?_
        refine v_if_lt hx DX12_common_85 (by have := PS.size_le l1; rw [ho2]; omega) (fun c85 => ?_) (fun c85 => ?_)
        · skip
          exact v_rv hx hBD DX12_common_101 (⟨_, h77.1, by rw [ho2] at c85; rw [ho2]; unfold PS.gcd; rw [hEA, (PS.size_eq_zero l1).mp (show (ρk 151).size = 0 by omega)]; exact (mon_zero).symm, fun r h1 h2 => by rw [up_ne h2]; exact hr r h1, hf.trans h77.2⟩)
        · skip
          refine v_aload hx DX12_common_88 0 rfl ?_
          refine v_iload hx DX12_common_89 1 rfl ?_
          refine v_aload hx DX12_common_90 0 rfl ?_
          refine v_iload hx DX12_common_91 1 rfl ?_
          refine v_cVp hx DX12_common_92 CVRX12_21 [iv (o : Int)] (r_head l G Λ sz μ3 hR h77.1 (by omega)) hR.o rfl rfl (Nat.le_of_ble_eq_true rfl) (by decide) ⟨Nat.le_refl _, Nat.le_refl _⟩ ?_
          refine v_cSp hx DX12_common_95 CSRX12_24 [iv (hdI (up ρk o (ρk 151) o))] (r_over l G Λ sz μ3 (hdI_rng _)) rfl rfl (Nat.le_of_ble_eq_true rfl) (by decide) ⟨Nat.le_refl _, Nat.le_refl _⟩ ?_
          have hiv := ivI_rng (hdI (up ρk o (ρk 151) o))
          refine v_cVv hx DX12_common_98 CVRX12_35 [iv (o : Int), iv (ivI (hdI (up ρk o (ρk 151) o)))] (r_scale l G Λ sz μ3 hR h77.1 (by omega) (by omega)) hR.o rfl rfl (Nat.le_of_ble_eq_true rfl) (by decide) ⟨Nat.le_refl _, Nat.le_refl _⟩ (fun μ11 hμ11 => ?_)
          have h98 := hμ11
          exact v_rv hx hBD DX12_common_101 (⟨_, h98.1, by rw [up_at, ho2]; unfold PS.gcd; rw [hEA, PS.mon_eq], fun r h1 h2 => by rw [up_ne h2, up_ne h2]; exact hr r h1, (hf.trans h77.2).trans h98.2⟩)
      · skip
        have hB0 : ρk 152 ≠ PS.zero := fun e => by rw [e, PS.size_zero] at c23; omega
        have hmd := PS.md_size l1 l2 hB0
        have q2 : (up (up (up (up (up ρk 153 ((ρk 151).dv (ρk 152))) 151 ((ρk 151).md (ρk 152))) 153 ((up (up ρk 153 ((ρk 151).dv (ρk 152))) 151 ((ρk 151).md (ρk 152))) 151)) 151 ((up (up (up ρk 153 ((ρk 151).dv (ρk 152))) 151 ((ρk 151).md (ρk 152))) 153 ((up (up ρk 153 ((ρk 151).dv (ρk 152))) 151 ((ρk 151).md (ρk 152))) 151)) 152)) 152 ((up (up (up (up ρk 153 ((ρk 151).dv (ρk 152))) 151 ((ρk 151).md (ρk 152))) 153 ((up (up ρk 153 ((ρk 151).dv (ρk 152))) 151 ((ρk 151).md (ρk 152))) 151)) 151 ((up (up (up ρk 153 ((ρk 151).dv (ρk 152))) 151 ((ρk 151).md (ρk 152))) 153 ((up (up ρk 153 ((ρk 151).dv (ρk 152))) 151 ((ρk 151).md (ρk 152))) 151)) 152)) 153)) 152 = (ρk 151).md (ρk 152) := by simp [up]
        have q3 : ((up (up (up (up (up ρk 153 ((ρk 151).dv (ρk 152))) 151 ((ρk 151).md (ρk 152))) 153 ((up (up ρk 153 ((ρk 151).dv (ρk 152))) 151 ((ρk 151).md (ρk 152))) 151)) 151 ((up (up (up ρk 153 ((ρk 151).dv (ρk 152))) 151 ((ρk 151).md (ρk 152))) 153 ((up (up ρk 153 ((ρk 151).dv (ρk 152))) 151 ((ρk 151).md (ρk 152))) 151)) 152)) 152 ((up (up (up (up ρk 153 ((ρk 151).dv (ρk 152))) 151 ((ρk 151).md (ρk 152))) 153 ((up (up ρk 153 ((ρk 151).dv (ρk 152))) 151 ((ρk 151).md (ρk 152))) 151)) 151 ((up (up (up ρk 153 ((ρk 151).dv (ρk 152))) 151 ((ρk 151).md (ρk 152))) 153 ((up (up ρk 153 ((ρk 151).dv (ρk 152))) 151 ((ρk 151).md (ρk 152))) 151)) 152)) 153)) 152).size = ((ρk 151).md (ρk 152)).size := by rw [q2]
        refine v_aload hx DX12_common_26 0 rfl ?_
        refine v_push hx DX12_common_27 ?_
        refine v_push hx DX12_common_30 ?_
        refine v_push hx DX12_common_33 ?_
        refine v_cVv hx DX12_common_36 CVRX12_31 [iv 153, iv 151, iv 152] (r_divides (o := 153) (s := 151) (y := 152) l G Λ sz m hR hm (by decide) (by decide) (by decide) (by decide) (by decide) (by decide) hB0) hR.o rfl rfl (Nat.le_of_ble_eq_true rfl) (by decide) ⟨Nat.le_refl _, Nat.le_refl _⟩ (fun μ13 hμ13 => ?_)
        have h36 := hμ13
        refine v_aload hx DX12_common_39 0 rfl ?_
        refine v_push hx DX12_common_40 ?_
        refine v_push hx DX12_common_43 ?_
        refine v_cVv hx DX12_common_46 CVRX12_27 [iv 153, iv 151] (r_lays (s := 153) (t := 151) l G Λ sz μ13 hR h36.1 (by decide) (by decide)) hR.o rfl rfl (Nat.le_of_ble_eq_true rfl) (by decide) ⟨Nat.le_refl _, Nat.le_refl _⟩ (fun μ15 hμ15 => ?_)
        have h46 := hμ15
        refine v_aload hx DX12_common_49 0 rfl ?_
        refine v_push hx DX12_common_50 ?_
        refine v_push hx DX12_common_53 ?_
        refine v_cVv hx DX12_common_56 CVRX12_27 [iv 151, iv 152] (r_lays (s := 151) (t := 152) l G Λ sz μ15 hR h46.1 (by decide) (by decide)) hR.o rfl rfl (Nat.le_of_ble_eq_true rfl) (by decide) ⟨Nat.le_refl _, Nat.le_refl _⟩ (fun μ17 hμ17 => ?_)
        have h56 := hμ17
        refine v_aload hx DX12_common_59 0 rfl ?_
        refine v_push hx DX12_common_60 ?_
        refine v_push hx DX12_common_63 ?_
        refine v_cVv hx DX12_common_66 CVRX12_27 [iv 152, iv 153] (r_lays (s := 152) (t := 153) l G Λ sz μ17 hR h56.1 (by decide) (by decide)) hR.o rfl rfl (Nat.le_of_ble_eq_true rfl) (by decide) ⟨Nat.le_refl _, Nat.le_refl _⟩ (fun μ19 hμ19 => ?_)
        have h66 := hμ19
        refine v_goto hx DX12_common_69 ?_
        exact v_sub [0, 1, 2, 3] _ rfl (ih (up (up (up (up (up ρk 153 ((ρk 151).dv (ρk 152))) 151 ((ρk 151).md (ρk 152))) 153 ((up (up ρk 153 ((ρk 151).dv (ρk 152))) 151 ((ρk 151).md (ρk 152))) 151)) 151 ((up (up (up ρk 153 ((ρk 151).dv (ρk 152))) 151 ((ρk 151).md (ρk 152))) 153 ((up (up ρk 153 ((ρk 151).dv (ρk 152))) 151 ((ρk 151).md (ρk 152))) 151)) 152)) 152 ((up (up (up (up ρk 153 ((ρk 151).dv (ρk 152))) 151 ((ρk 151).md (ρk 152))) 153 ((up (up ρk 153 ((ρk 151).dv (ρk 152))) 151 ((ρk 151).md (ρk 152))) 151)) 151 ((up (up (up ρk 153 ((ρk 151).dv (ρk 152))) 151 ((ρk 151).md (ρk 152))) 153 ((up (up ρk 153 ((ρk 151).dv (ρk 152))) 151 ((ρk 151).md (ρk 152))) 151)) 152)) 153)) μ19 (by omega) h66.1 (by rw [hE, PS.eu_succ (n := 199) hB0]; have q1 : (up (up (up (up (up ρk 153 ((ρk 151).dv (ρk 152))) 151 ((ρk 151).md (ρk 152))) 153 ((up (up ρk 153 ((ρk 151).dv (ρk 152))) 151 ((ρk 151).md (ρk 152))) 151)) 151 ((up (up (up ρk 153 ((ρk 151).dv (ρk 152))) 151 ((ρk 151).md (ρk 152))) 153 ((up (up ρk 153 ((ρk 151).dv (ρk 152))) 151 ((ρk 151).md (ρk 152))) 151)) 152)) 152 ((up (up (up (up ρk 153 ((ρk 151).dv (ρk 152))) 151 ((ρk 151).md (ρk 152))) 153 ((up (up ρk 153 ((ρk 151).dv (ρk 152))) 151 ((ρk 151).md (ρk 152))) 151)) 151 ((up (up (up ρk 153 ((ρk 151).dv (ρk 152))) 151 ((ρk 151).md (ρk 152))) 153 ((up (up ρk 153 ((ρk 151).dv (ρk 152))) 151 ((ρk 151).md (ρk 152))) 151)) 152)) 153)) 151 = ρk 152 := (by simp [up]); have q2 : (up (up (up (up (up ρk 153 ((ρk 151).dv (ρk 152))) 151 ((ρk 151).md (ρk 152))) 153 ((up (up ρk 153 ((ρk 151).dv (ρk 152))) 151 ((ρk 151).md (ρk 152))) 151)) 151 ((up (up (up ρk 153 ((ρk 151).dv (ρk 152))) 151 ((ρk 151).md (ρk 152))) 153 ((up (up ρk 153 ((ρk 151).dv (ρk 152))) 151 ((ρk 151).md (ρk 152))) 151)) 152)) 152 ((up (up (up (up ρk 153 ((ρk 151).dv (ρk 152))) 151 ((ρk 151).md (ρk 152))) 153 ((up (up ρk 153 ((ρk 151).dv (ρk 152))) 151 ((ρk 151).md (ρk 152))) 151)) 151 ((up (up (up ρk 153 ((ρk 151).dv (ρk 152))) 151 ((ρk 151).md (ρk 152))) 153 ((up (up ρk 153 ((ρk 151).dv (ρk 152))) 151 ((ρk 151).md (ρk 152))) 151)) 152)) 153)) 152 = (ρk 151).md (ρk 152) := (by simp [up]); rw [q1, q2]; exact PS.eu_fuel 199 200 _ _ 96 l2 hmd.2.1 (by omega) (by omega)) (fun r h => by rw [← hr r h]; simp [up, show ¬ r = 151 by omega, show ¬ r = 152 by omega, show ¬ r = 153 by omega]) ((((hf.trans h36.2).trans h46.2).trans h56.2).trans h66.2))
  refine v_aload hx DX12_common_0 0 rfl ?_
  refine v_push hx DX12_common_1 ?_
  refine v_iload hx DX12_common_4 2 rfl ?_
  refine v_cVv hx DX12_common_5 CVRX12_27 [iv 151, iv (a : Int)] (r_lays (s := 151) (t := a) l G Λ sz μ hR hw (by decide) (by omega)) hR.o rfl rfl (Nat.le_of_ble_eq_true rfl) (by decide) ⟨Nat.le_refl _, Nat.le_refl _⟩ (fun μ21 hμ21 => ?_)
  have h5 := hμ21
  refine v_aload hx DX12_common_8 0 rfl ?_
  refine v_push hx DX12_common_9 ?_
  refine v_iload hx DX12_common_12 3 rfl ?_
  refine v_cVv hx DX12_common_13 CVRX12_27 [iv 152, iv (b : Int)] (r_lays (s := 152) (t := b) l G Λ sz μ21 hR h5.1 (by decide) (by omega)) hR.o rfl rfl (Nat.le_of_ble_eq_true rfl) (by decide) ⟨Nat.le_refl _, Nat.le_refl _⟩ (fun μ23 hμ23 => ?_)
  have h13 := hμ23
  have q0 : ((up (up ρ 151 (ρ a)) 152 ((up ρ 151 (ρ a)) b)) 152).size ≤ 96 := PS.size_le (h13.1 152 (by decide)).1
  exact v_sub [0, 1, 2, 3] _ rfl (L16 200 (up (up ρ 151 (ρ a)) 152 ((up ρ 151 (ρ a)) b)) μ23 (by omega) h13.1 (by simp [up, show ¬ b = 151 by omega]) (fun r h => by simp [up, show ¬ r = 151 by omega, show ¬ r = 152 by omega]) (h5.2.trans h13.2))
