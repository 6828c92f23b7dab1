/-! ===== the law's loop ===== -/
theorem and31 (y : Int32) : 0 ≤ (y &&& 31).toInt ∧ (y &&& 31).toInt ≤ 31 := by
  have h : (y &&& 31).toBitVec.toNat ≤ 31 := by
    show (y.toBitVec &&& 31#32).toNat ≤ 31
    rw [BitVec.toNat_and]
    exact Nat.and_le_right
  have e : (y &&& 31).toInt = ((y &&& 31).toBitVec.toNat : Int) := by
    show (y &&& 31).toBitVec.toInt = _
    rw [BitVec.toInt_eq_toNat_of_lt (by omega)]
  omega
theorem law_loop {l : Launch} {G : Gl} {x : Fx} {cs : Nat × Nat} {Λ : Lay} {sz g b ns : Nat} (hx : XOK l G x code RL 4 12 (600000, 7302250)) (hcs : cs.1 ≤ 600000 ∧ cs.2 ≤ 7302250) (hk : Λ b = some (.inr (9, ns, []))) (hn : ns < 2) (hN : gN G ns ≤ 3072) (hT : ∀ j : Int, inR (gT G ns j)) (kend : ∀ (i : Int) (μ : Mem), V G x cs Λ sz μ 1424 [(3, iv i), (2, .ref (g + 401)), (1, .ref g), (0, .ref b)] []) : ∀ (nf : Nat) (i : Int) (μ : Mem), (gN G ns : Int) - i < (nf : Int) → 0 ≤ i → i ≤ 4000 → LX G Λ g μ → V G x cs Λ sz μ 18 [(3, iv i), (2, .ref (g + 401)), (1, .ref g), (0, .ref b)] [] := by
  intro nf
  induction nf with
  | zero =>
    intro i μ hm hi hi2 cL
    refine v_iload hx DL_law_18 0 rfl ?_
    refine v_aload hx DL_law_19 3 rfl ?_
    refine v_clen hx DL_law_20 hk hn ?_
    refine v_push hx DL_law_21 ?_
    refine v_isub hx DL_law_23 ?_
    exact v_icmp_gt hx DL_law_24 ⟨by omega, by omega⟩ ⟨by omega, by omega⟩ (fun _ => kend i μ) (fun c => absurd c (by omega))
  | succ nf ih =>
    intro i μ hm hi hi2 cL
    refine v_iload hx DL_law_18 0 rfl ?_
    refine v_aload hx DL_law_19 3 rfl ?_
    refine v_clen hx DL_law_20 hk hn ?_
    refine v_push hx DL_law_21 ?_
    refine v_isub hx DL_law_23 ?_
    refine v_icmp_gt hx DL_law_24 ⟨by omega, by omega⟩ ⟨by omega, by omega⟩ (fun _ => kend i μ) (fun c24 => ?_)
    have hi6 : 0 ≤ i ∧ i + 6 ≤ (gN G ns : Int) := by omega
    have kk : ∀ μ' : Mem, LX G Λ g μ' → V G x cs Λ sz μ' 1418 [(3, iv i), (2, .ref (g + 401)), (1, .ref g), (0, .ref b)] [] := fun μ' c' => by
      refine v_iinc hx DL_law_1418 0 rfl [(3, iv (i + 6)), (2, .ref (g + 401)), (1, .ref g), (0, .ref b)] rfl (by decide) ?_
      refine v_goto hx DL_law_1421 ?_
      exact ih (i + 6) μ' (by omega) (by omega) (by omega) c'
    refine v_aload hx DL_law_27 3 rfl ?_
    refine v_iload hx DL_law_28 0 rfl ?_
    refine v_cald hx DL_law_29 hk hn (by omega) (by omega) rfl ?_
    refine v_push hx DL_law_30 ?_
    have a31 := and31 (Int32.ofInt (gT G ns i))
    refine v_iand hx DL_law_32 (z := (Int32.ofInt (gT G ns i) &&& 31).toInt) (Int32.ofInt_toInt _).symm ?_
    generalize (Int32.ofInt (gT G ns i) &&& 31).toInt = z at a31 ⊢
    by_cases t0 : z = 0
    · exact v_tabIn hx DL_law_33 (by omega) (by omega) (off := 135) (tgt := 168) (by rw [t0]; rfl) (by decide) (law_c0 hx hcs hk hn hi6 hN hT cL kk)
    by_cases t1 : z = 1
    · exact v_tabIn hx DL_law_33 (by omega) (by omega) (off := 188) (tgt := 221) (by rw [t1]; rfl) (by decide) (law_c1 hx hcs hk hn hi6 hN hT cL kk)
    by_cases t2 : z = 2
    · exact v_tabIn hx DL_law_33 (by omega) (by omega) (off := 231) (tgt := 264) (by rw [t2]; rfl) (by decide) (law_c2 hx hcs hk hn hi6 hN hT cL kk)
    by_cases t3 : z = 3
    · exact v_tabIn hx DL_law_33 (by omega) (by omega) (off := 274) (tgt := 307) (by rw [t3]; rfl) (by decide) (law_c3 hx hcs hk hn hi6 hN hT cL kk)
    by_cases t4 : z = 4
    · exact v_tabIn hx DL_law_33 (by omega) (by omega) (off := 307) (tgt := 340) (by rw [t4]; rfl) (by decide) (law_c4 hx hcs hk hn hi6 hN hT cL kk)
    by_cases t5 : z = 5
    · exact v_tabIn hx DL_law_33 (by omega) (by omega) (off := 330) (tgt := 363) (by rw [t5]; rfl) (by decide) (law_c5 hx hcs hk hn hi6 hN hT cL kk)
    by_cases t6 : z = 6
    · exact v_tabIn hx DL_law_33 (by omega) (by omega) (off := 353) (tgt := 386) (by rw [t6]; rfl) (by decide) (law_c6 hx hcs hk hn hi6 hN hT cL kk)
    by_cases t7 : z = 7
    · exact v_tabIn hx DL_law_33 (by omega) (by omega) (off := 386) (tgt := 419) (by rw [t7]; rfl) (by decide) (law_c7 hx hcs hk hn hi6 hN hT cL kk)
    by_cases t8 : z = 8
    · exact v_tabIn hx DL_law_33 (by omega) (by omega) (off := 449) (tgt := 482) (by rw [t8]; rfl) (by decide) (law_c8 hx hcs hk hn hi6 hN hT cL kk)
    by_cases t9 : z = 9
    · exact v_tabIn hx DL_law_33 (by omega) (by omega) (off := 502) (tgt := 535) (by rw [t9]; rfl) (by decide) (law_c9 hx hcs hk hn hi6 hN hT cL kk)
    by_cases t10 : z = 10
    · exact v_tabIn hx DL_law_33 (by omega) (by omega) (off := 535) (tgt := 568) (by rw [t10]; rfl) (by decide) (law_c10 hx hcs hk hn hi6 hN hT cL kk)
    by_cases t11 : z = 11
    · exact v_tabIn hx DL_law_33 (by omega) (by omega) (off := 558) (tgt := 591) (by rw [t11]; rfl) (by decide) (law_c11 hx hcs hk hn hi6 hN hT cL kk)
    by_cases t12 : z = 12
    · exact v_tabIn hx DL_law_33 (by omega) (by omega) (off := 571) (tgt := 604) (by rw [t12]; rfl) (by decide) (law_c12 hx hcs hk hn hi6 hN hT cL kk)
    by_cases t13 : z = 13
    · exact v_tabIn hx DL_law_33 (by omega) (by omega) (off := 594) (tgt := 627) (by rw [t13]; rfl) (by decide) (law_c13 hx hcs hk hn hi6 hN hT cL kk)
    by_cases t14 : z = 14
    · exact v_tabIn hx DL_law_33 (by omega) (by omega) (off := 647) (tgt := 680) (by rw [t14]; rfl) (by decide) (law_c14 hx hcs hk hn hi6 hN hT cL kk)
    by_cases t15 : z = 15
    · exact v_tabIn hx DL_law_33 (by omega) (by omega) (off := 700) (tgt := 733) (by rw [t15]; rfl) (by decide) (law_c15 hx hcs hk hn hi6 hN hT cL kk)
    by_cases t16 : z = 16
    · exact v_tabIn hx DL_law_33 (by omega) (by omega) (off := 733) (tgt := 766) (by rw [t16]; rfl) (by decide) (law_c16 hx hcs hk hn hi6 hN hT cL kk)
    by_cases t17 : z = 17
    · exact v_tabIn hx DL_law_33 (by omega) (by omega) (off := 786) (tgt := 819) (by rw [t17]; rfl) (by decide) (law_c17 hx hcs hk hn hi6 hN hT cL kk)
    by_cases t18 : z = 18
    · exact v_tabIn hx DL_law_33 (by omega) (by omega) (off := 839) (tgt := 872) (by rw [t18]; rfl) (by decide) (law_c18 hx hcs hk hn hi6 hN hT cL kk)
    by_cases t19 : z = 19
    · exact v_tabIn hx DL_law_33 (by omega) (by omega) (off := 872) (tgt := 905) (by rw [t19]; rfl) (by decide) (law_c19 hx hcs hk hn hi6 hN hT cL kk)
    by_cases t20 : z = 20
    · exact v_tabIn hx DL_law_33 (by omega) (by omega) (off := 925) (tgt := 958) (by rw [t20]; rfl) (by decide) (law_c20 hx hcs hk hn hi6 hN hT cL kk)
    by_cases t21 : z = 21
    · exact v_tabIn hx DL_law_33 (by omega) (by omega) (off := 968) (tgt := 1001) (by rw [t21]; rfl) (by decide) (law_c21 hx hcs hk hn hi6 hN hT cL kk)
    by_cases t22 : z = 22
    · exact v_tabIn hx DL_law_33 (by omega) (by omega) (off := 981) (tgt := 1014) (by rw [t22]; rfl) (by decide) (law_c22 hx hcs hk hn hi6 hN hT cL kk)
    by_cases t23 : z = 23
    · exact v_tabIn hx DL_law_33 (by omega) (by omega) (off := 994) (tgt := 1027) (by rw [t23]; rfl) (by decide) (law_c23 hx hcs hk hn hi6 hN hT cL kk)
    by_cases t24 : z = 24
    · exact v_tabIn hx DL_law_33 (by omega) (by omega) (off := 1047) (tgt := 1080) (by rw [t24]; rfl) (by decide) (law_c24 hx hcs hk hn hi6 hN hT cL kk)
    by_cases t25 : z = 25
    · exact v_tabIn hx DL_law_33 (by omega) (by omega) (off := 1110) (tgt := 1143) (by rw [t25]; rfl) (by decide) (law_c25 hx hcs hk hn hi6 hN hT cL kk)
    by_cases t26 : z = 26
    · exact v_tabIn hx DL_law_33 (by omega) (by omega) (off := 1173) (tgt := 1206) (by rw [t26]; rfl) (by decide) (law_c26 hx hcs hk hn hi6 hN hT cL kk)
    by_cases t27 : z = 27
    · exact v_tabIn hx DL_law_33 (by omega) (by omega) (off := 1216) (tgt := 1249) (by rw [t27]; rfl) (by decide) (law_c27 hx hcs hk hn hi6 hN hT cL kk)
    by_cases t28 : z = 28
    · exact v_tabIn hx DL_law_33 (by omega) (by omega) (off := 1239) (tgt := 1272) (by rw [t28]; rfl) (by decide) (law_c28 hx hcs hk hn hi6 hN hT cL kk)
    by_cases t29 : z = 29
    · exact v_tabIn hx DL_law_33 (by omega) (by omega) (off := 1322) (tgt := 1355) (by rw [t29]; rfl) (by decide) (law_c29 hx hcs hk hn hi6 hN hT cL kk)
    exact v_tabOut hx DL_law_33 (by omega) (by omega) (tgt := 1418) (by decide) (kk μ cL)
