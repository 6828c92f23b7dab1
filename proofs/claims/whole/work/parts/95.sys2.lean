theorem der_lt {p : PS} {n : Nat} (h : p.lt n) : p.der.lt n := fun k hk => by
  show fi ((k : Int) + 1) * p (k + 1) = 0
  rw [h (k + 1) (by omega)]; grind
theorem TH_lt {W D p : PS} {w d n : Nat} (hW : W.lt (w + 1)) (hD : D.lt (d + 1)) (hp : p.lt n) : (TH W D p).lt (n + w + d) := by
  unfold TH
  exact PS.lt_mul' (PS.lt_add (PS.lt_mono (der_lt hp) (show n ≤ n + w by omega)) (PS.lt_mul' hW hp (by omega))) hD (by omega)
theorem sub_lt {p q : PS} {n : Nat} (hp : p.lt n) (hq : q.lt n) : (p.sub q).lt n := fun k hk => by
  show p k - q k = 0
  rw [hp k hk, hq k hk]; grind
/-- all that is left over when the columns are put together -/
def sysP (W M S E D A B H Y : PS) : PS := (((TA W M S A).add (B.mul E)).add (TH W D H)).add (Y.mul D)
theorem sysP_lt {W M S E D A B H Y : PS} (hW : W.lt 4) (hM : M.lt 40) (hS : S.lt 40) (hE : E.lt 40) (hD : D.lt 40) (hA : A.lt 40) (hB : B.lt 40) (hH : H.lt 24) (hY : Y.lt 20) : (sysP W M S E D A B H Y).lt 96 := by
  unfold sysP
  refine PS.lt_add (PS.lt_add (PS.lt_add ?_ (PS.lt_mul' hB hE (by omega))) (PS.lt_mono (TH_lt (w := 3) (d := 39) hW hD hH) (by omega))) (PS.lt_mul' hY hD (by omega))
  unfold TA
  exact sub_lt (PS.lt_mono (TH_lt (w := 3) (d := 39) hW hM hA) (by omega)) (PS.lt_mul' hA hS (by omega))
/-- sizes and places of the columns -/
def SysC (N D W S : PS) (de dr nh low dw : Nat) : Prop := (N.fin ∧ N.size ≤ 40) ∧ (D.fin ∧ D ≠ PS.zero ∧ D.size ≤ 39 ∧ D.mnc) ∧ (W.fin ∧ W.size ≤ 4) ∧ gdI N D W ≤ 12 ∧ (S.fin ∧ S.size ≤ 40 ∧ S.mul D.thn = D.thn.der.mul (D.dv D.thn)) ∧
  de = D.thn.size - 1 ∧ dr = (D.dv D.thn).size - 1 ∧ dw = W.size - 1 ∧ (W = PS.zero → low = 1 ∧ nh = N.size + 1 - D.size) ∧ (W ≠ PS.zero → low = 0 ∧ nh = if N.size < D.size then 0 else N.size - D.size + 2 - W.size)
theorem SysC.few {N D W S : PS} {de dr nh low dw : Nat} (h : SysC N D W S de dr nh low dw) : de + dr + nh + dw ≤ 64 ∧ de + 1 = D.thn.size ∧ dr + 1 = (D.dv D.thn).size ∧ de + dr + 1 = D.size ∧ low + nh ≤ 15 ∧ low ≤ 1 := by
  obtain ⟨hN, hD, hW, hg, hS, e1, e2, e3, e4, e5⟩ := h
  obtain ⟨e, hM, hM0, hsz⟩ := thn_dv hD.1 hD.2.1 (by omega)
  obtain ⟨h1, h2, h3, h4⟩ := PS.thn_spec hD.1 hD.2.1 (by omega)
  have p1 := PS.fpos h1 h2
  have p2 := PS.fpos hM hM0
  unfold gdI at hg
  by_cases c : W = PS.zero
  · obtain ⟨q1, q2⟩ := e4 c
    omega
  · obtain ⟨q1, q2⟩ := e5 c
    have := PS.fpos hW.1 c
    split at q2 <;> omega
theorem SysC.ind {N D W S : PS} {de dr nh low dw : Nat} (h : SysC N D W S de dr nh low dw) {Z : Mx} (hZ : ∀ r j, r < 96 → j < de + dr + nh + dw → Z r j = cols W (D.dv D.thn) S D.thn D de dr nh low j r) : Ind (de + dr + nh + dw) (setC Z 64 N) := by
  have hf := h.few
  obtain ⟨hN, hD, hW, hg, hS, e1, e2, e3, e4, e5⟩ := h
  obtain ⟨e, hM, hM0, hsz⟩ := thn_dv hD.1 hD.2.1 (by omega)
  obtain ⟨h1, h2, h3, h4⟩ := PS.thn_spec hD.1 hD.2.1 (by omega)
  intro a ha h64 hk
  have lA := cA_lt a de
  have lB := cB_lt a de dr
  have lH := cH_lt a (de + dr) nh low
  have lY := cB_lt a (de + dr + nh) dw
  have hz : sysP W (D.dv D.thn) S D.thn D (cA a de) (cB a de dr) (cH a (de + dr) nh low) (cB a (de + dr + nh) dw) = PS.zero := by
    refine (PS.eq_all (n := 96) (sysP_lt (PS.lt_mono (PS.flt hW.1) hW.2) (PS.lt_mono (PS.flt hM) (by omega)) (PS.lt_mono (PS.flt hS.1) hS.2.1) (PS.lt_mono (PS.flt h1) (by omega)) (PS.lt_mono (PS.flt hD.1) (by omega)) (PS.lt_mono lA (by omega)) (PS.lt_mono lB (by omega)) (PS.lt_mono lH (by omega)) (PS.lt_mono lY (by omega))) (PS.zero_lt _)).mp (fun r hr => ?_)
    have q := hk r hr
    rw [dot_split hf.1 ha, h64, fsum_congr (g := fun j => a j * cols W (D.dv D.thn) S D.thn D de dr nh low j r) (fun j hj => by
      show a j * setC Z 64 N r j = _
      unfold setC
      rw [if_neg (by omega), hZ r j hr hj]), cols_sum] at q
    show _ = (0 : F)
    have q2 : sysP W (D.dv D.thn) S D.thn D (cA a de) (cB a de dr) (cH a (de + dr) nh low) (cB a (de + dr + nh) dw) r + 0 * setC Z 64 N r 64 = 0 := q
    grind
  have hid := sys_id (A := cA a de) (H := cH a (de + dr) nh low) (B := cB a de dr) (Y := cB a (de + dr + nh) dw) (W := W) hS.2.2
  rw [← e] at hid
  have hz2 : ((((TA W (D.dv D.thn) S (cA a de)).add ((cB a de dr).mul D.thn)).add (TH W D (cH a (de + dr) nh low))).add ((cB a (de + dr + nh) dw).mul D)) = PS.zero := hz
  rw [hz2, PS.mul_comm D.thn PS.zero, PS.zero_mul] at hid
  have hQl : ((cA a de).add ((cH a (de + dr) nh low).mul D.thn)).lt 100 := PS.lt_add (PS.lt_mono lA (by omega)) (PS.lt_mul' lH (PS.flt h1) (by omega))
  obtain ⟨zA, zH, zB, zY⟩ := split_zero hD.1 hD.2.1 (by omega) rfl hM e (PS.lt_mono lA (by omega)) ⟨_, lH⟩ (PS.lt_mono lB (by omega)) ⟨_, lY⟩ hW.1 (PS.size_le hQl) (Nat.le_trans (PS.size_le lH) (by omega)) (fun c => ⟨by
      obtain ⟨q1, q2⟩ := e4 c
      have w0 : W.size = 0 := by rw [c, PS.zero_sz]
      refine PS.ext fun k => ?_
      show (if k < dw then _ else (0 : F)) = 0
      rw [if_neg (by omega)], by
      obtain ⟨q1, q2⟩ := e4 c
      show (if low ≤ 0 ∧ 0 < low + nh then _ else (0 : F)) = 0
      rw [if_neg (by omega)]⟩) (fun c => PS.lt_mono lY (by omega)) hid
  intro j hj
  by_cases c1 : j < de
  · have := congrFun zA j
    unfold cA at this
    rw [if_pos c1] at this
    exact this
  · by_cases c2 : j < de + dr
    · have := congrFun zB (j - de)
      unfold cB at this
      rw [if_pos (by omega), show de + (j - de) = j by omega] at this
      exact this
    · by_cases c3 : j < de + dr + nh
      · have := congrFun zH (low + (j - (de + dr)))
        unfold cH at this
        rw [if_pos (by omega), show de + dr + (low + (j - (de + dr)) - low) = j by omega] at this
        exact this
      · have := congrFun zY (j - (de + dr + nh))
        unfold cB at this
        rw [if_pos (by omega), show de + dr + nh + (j - (de + dr + nh)) = j by omega] at this
        exact this
theorem SysC.sol {N D W S : PS} {de dr nh low dw : Nat} (h : SysC N D W S de dr nh low dw) {Z : Mx} (hZ : ∀ r j, r < 96 → j < de + dr + nh + dw → Z r j = cols W (D.dv D.thn) S D.thn D de dr nh low j r) : ∃ y : Nat → F, (spt (de + dr + nh + dw) y ∧ y 64 = -1) ∧ Ker (setC Z 64 N) y ∧ spQ N D W = (cA y de).add ((cH y (de + dr) nh low).mul D.thn) ∧ spR N D W = (cB y de dr).add ((cB y (de + dr + nh) dw).mul (D.dv D.thn)) := by
  have hf := h.few
  obtain ⟨hN, hD, hW, hg, hS, e1, e2, e3, e4, e5⟩ := h
  obtain ⟨e, hM, hM0, hsz⟩ := thn_dv hD.1 hD.2.1 (by omega)
  obtain ⟨h1, h2, h3, h4⟩ := PS.thn_spec hD.1 hD.2.1 (by omega)
  obtain ⟨Q, R, hsp⟩ := SPL_ex hN.1 hD.1 hD.2.1 (by omega) hD.2.2.2 hW.1 (by omega)
  have heq := SPL.eq hN.1 hD.1 hD.2.1 (by omega) (by omega) hW.1 hsp
  obtain ⟨A, H, B, Y, a1, a2, a3, a4, a5, a6, a7, a8, a9⟩ := hsp
  have hYl : Y.lt dw := by
    by_cases c : W = PS.zero
    · rw [(a7 c).1]; exact PS.zero_lt _
    · rw [e3]; exact (a8 c).1
  have hHl : ∀ k, (k < low ∨ low + nh ≤ k) → H k = 0 := by
    intro k hk
    by_cases c : W = PS.zero
    · obtain ⟨q1, q2⟩ := e4 c
      obtain ⟨r1, r2, r3⟩ := a7 c
      by_cases k0 : k = 0
      · rw [k0]; exact r2
      · rcases r3 with z | z
        · rw [z]; rfl
        · exact PS.flt a3 k (by omega)
    · obtain ⟨q1, q2⟩ := e5 c
      obtain ⟨r1, r3⟩ := a8 c
      have := PS.fpos hW.1 c
      rcases r3 with z | z
      · rw [z]; rfl
      · refine PS.flt a3 k ?_
        split at q2 <;> omega
  refine ⟨fun j => if j < de then A j else if j < de + dr then B (j - de) else if j < de + dr + nh then H (low + (j - (de + dr))) else if j < de + dr + nh + dw then Y (j - (de + dr + nh)) else if j = 64 then -1 else 0, ⟨fun j g1 g2 => ?_, ?_⟩, ?_, ?_⟩
  · show (if j < de then A j else if j < de + dr then B (j - de) else if j < de + dr + nh then H (low + (j - (de + dr))) else if j < de + dr + nh + dw then Y (j - (de + dr + nh)) else if j = 64 then (-1 : F) else 0) = 0
    rw [if_neg (by omega), if_neg (by omega), if_neg (by omega), if_neg (by omega), if_neg (by omega)]
  · show (if 64 < de then A 64 else if 64 < de + dr then B (64 - de) else if 64 < de + dr + nh then H (low + (64 - (de + dr))) else if 64 < de + dr + nh + dw then Y (64 - (de + dr + nh)) else if 64 = 64 then (-1 : F) else 0) = -1
    rw [if_neg (by omega), if_neg (by omega), if_neg (by omega), if_neg (by omega), if_pos rfl]
  all_goals
    generalize hy : (fun j => if j < de then A j else if j < de + dr then B (j - de) else if j < de + dr + nh then H (low + (j - (de + dr))) else if j < de + dr + nh + dw then Y (j - (de + dr + nh)) else if j = 64 then (-1 : F) else 0) = y
    have cEA : cA y de = A := PS.ext fun k => by
      unfold cA
      by_cases c : k < de
      · rw [if_pos c, ← hy]
        show (if k < de then A k else _) = A k
        rw [if_pos c]
      · rw [if_neg c]; exact (a1 k (by omega)).symm
    have cEB : cB y de dr = B := PS.ext fun k => by
      unfold cB
      by_cases c : k < dr
      · rw [if_pos c, ← hy]
        show (if de + k < de then A (de + k) else if de + k < de + dr then B (de + k - de) else _) = B k
        rw [if_neg (by omega), if_pos (by omega), show de + k - de = k by omega]
      · rw [if_neg c]; exact (a2 k (by omega)).symm
    have cEH : cH y (de + dr) nh low = H := PS.ext fun k => by
      unfold cH
      by_cases c : low ≤ k ∧ k < low + nh
      · rw [if_pos c, ← hy]
        show (if de + dr + (k - low) < de then A (de + dr + (k - low)) else if de + dr + (k - low) < de + dr then B (de + dr + (k - low) - de) else if de + dr + (k - low) < de + dr + nh then H (low + (de + dr + (k - low) - (de + dr))) else _) = H k
        rw [if_neg (by omega), if_neg (by omega), if_pos (by omega), show low + (de + dr + (k - low) - (de + dr)) = k by omega]
      · rw [if_neg c]; exact (hHl k (by omega)).symm
    have cEY : cB y (de + dr + nh) dw = Y := PS.ext fun k => by
      unfold cB
      by_cases c : k < dw
      · rw [if_pos c, ← hy]
        show (if de + dr + nh + k < de then A (de + dr + nh + k) else if de + dr + nh + k < de + dr then B (de + dr + nh + k - de) else if de + dr + nh + k < de + dr + nh then H (low + (de + dr + nh + k - (de + dr))) else if de + dr + nh + k < de + dr + nh + dw then Y (de + dr + nh + k - (de + dr + nh)) else _) = Y k
        rw [if_neg (by omega), if_neg (by omega), if_neg (by omega), if_pos (by omega), show de + dr + nh + k - (de + dr + nh) = k by omega]
      · rw [if_neg c]; exact (hYl k (by omega)).symm
  · intro r hr
    have hs : spt (de + dr + nh + dw) y := fun j g1 g2 => by
      rw [← hy]
      show (if j < de then A j else if j < de + dr then B (j - de) else if j < de + dr + nh then H (low + (j - (de + dr))) else if j < de + dr + nh + dw then Y (j - (de + dr + nh)) else if j = 64 then (-1 : F) else 0) = 0
      rw [if_neg (by omega), if_neg (by omega), if_neg (by omega), if_neg (by omega), if_neg (by omega)]
    have h64 : y 64 = -1 := by
      rw [← hy]
      show (if 64 < de then A 64 else if 64 < de + dr then B (64 - de) else if 64 < de + dr + nh then H (low + (64 - (de + dr))) else if 64 < de + dr + nh + dw then Y (64 - (de + dr + nh)) else if 64 = 64 then (-1 : F) else 0) = -1
      rw [if_neg (by omega), if_neg (by omega), if_neg (by omega), if_neg (by omega), if_pos rfl]
    rw [dot_split hf.1 hs, h64, fsum_congr (g := fun j => y j * cols W (D.dv D.thn) S D.thn D de dr nh low j r) (fun j hj => by
      show y j * setC Z 64 N r j = _
      unfold setC
      rw [if_neg (by omega), hZ r j hr hj]), cols_sum, cEA, cEB, cEH, cEY]
    have hQf : Q.fin := by rw [a5]; exact PS.fin_add ⟨_, a1⟩ (PS.fin_mul a3 h1)
    have hRf : R.fin := by rw [a6]; exact PS.fin_add ⟨_, a2⟩ (PS.fin_mul a4 hM)
    have hr1 := (SI_red hN.1 h1 hM hQf hRf hW.1 h2 hM0 e).mp a9
    rw [a5, a6, sys_id hS.2.2, ← e, PS.mul_comm N] at hr1
    have hr2 : N = sysP W (D.dv D.thn) S D.thn D A B H Y := PS.cancel h1 hN.1 (by
      unfold sysP TA TH
      exact PS.fin_add (PS.fin_add (PS.fin_add (PS.fin_sub (PS.fin_mul (PS.fin_add (PS.fin_der ⟨_, a1⟩) (PS.fin_mul hW.1 ⟨_, a1⟩)) hM) (PS.fin_mul ⟨_, a1⟩ hS.1)) (PS.fin_mul ⟨_, a2⟩ h1)) (PS.fin_mul (PS.fin_add (PS.fin_der a3) (PS.fin_mul hW.1 a3)) hD.1)) (PS.fin_mul a4 hD.1)) h2 hr1
    have e5 : setC Z 64 N r 64 = N r := if_pos rfl
    rw [e5]
    show sysP W (D.dv D.thn) S D.thn D A B H Y r + -1 * N r = 0
    rw [← hr2]
    grind
  · rw [cEA, cEH, cEB, cEY, heq.1, heq.2]
    exact ⟨a5, a6⟩
