theorem wt_len {SA PA : Int → Int} {op : Int} {n : Nat} {C : List Int} : (if SA op ≠ 0 then (1000 + SA op) :: (if PA op ≠ 0 then (1000 + PA op) :: C else C) else (if PA op ≠ 0 then (1000 + PA op) :: C else C)).length + (lwW SA PA n).length = C.length + (wtJ SA PA op ++ lwW SA PA n).length := by
  rw [List.length_append]
  unfold wtJ
  rw [List.length_append]
  split <;> split <;> simp <;> omega
theorem wt_len1 {SA PA : Int → Int} {op : Int} {n : Nat} {C : List Int} : (if PA op ≠ 0 then (1000 + PA op) :: C else C).length + ((if SA op ≠ 0 then [SA op] else []) ++ lwW SA PA n).length = C.length + (wtJ SA PA op ++ lwW SA PA n).length := by
  rw [List.length_append, List.length_append]
  unfold wtJ
  rw [List.length_append]
  split <;> split <;> simp <;> omega
theorem pJ_up {SA PA : Int → Int} {SV PV : Int → FP2} {op c : Int} {p s : FP2} (hc : c ≠ 0) : plJ SA (up1 PA op c) SV (upF PV op p) op = p :: (if SA op ≠ 0 then [SV op] else []) ∧ wtJ SA (up1 PA op c) op = c :: (if SA op ≠ 0 then [SA op] else []) ∧ plJ (up1 SA op c) (up1 PA op 0) (upF SV op s) (upF PV op p) op = [s] ∧ wtJ (up1 SA op c) (up1 PA op 0) op = [c] := by
  simp [plJ, wtJ, up1_eq, upF_eq, hc]
theorem pJ_00 {SA PA : Int → Int} {SV PV : Int → FP2} {op : Int} : plJ (up1 SA op 0) (up1 PA op 0) SV PV op = [] ∧ wtJ (up1 SA op 0) (up1 PA op 0) op = [] := by
  simp [plJ, wtJ, up1_eq]
theorem rd_main {T : List Int} (hT : T.length ≤ 90) : ∀ (nf n' : Nat) (k wn op er : Int) (a : FP2) (ex : Int) (SA PA : Int → Int) (SV PV : Int → FP2) (st : Int) (C W : List Int) (dp dg : Int), 0 ≤ k → k ≤ T.length → (T.length : Int) < k + nf → (T.length : Int) < k + n' → RLs T k wn op ex SA PA st C W dp dg → RLv op er a ex wn SA PA SV PV C → FIN (flt T nf k wn op) (run T nf k wn op er a ex SA PA SV PV) (crun T n' k st C W dp dg) := by
  intro nf
  induction nf with
  | zero =>
    intro n' k wn op er a ex SA PA SV PV st C W dp dg h0 hk hf
    exact absurd hf (by omega)
  | succ nf ih =>
    intro n' k wn op er a ex SA PA SV PV st C W dp dg h0 hk hf hn hs hv
    have hsx := hs
    obtain ⟨sw, hd, ho, hW, hA, hw, hl⟩ := hs
    have hAo := hA op ho.1 (Int.le_refl _)
    obtain ⟨n1, rfl⟩ : ∃ n1, n' = n1 + 1 := ⟨n' - 1, by omega⟩
    by_cases ce : (T.length : Int) ≤ k
    · -- the end
      by_cases cb : 0 < op ∨ wn = 0 ∨ wn = 2
      · have ef : flt T (nf + 1) k wn op = (T.length : Int) := by rw [flt, if_pos ce, if_pos cb]
        have ec : (crun T (n1 + 1) k st C W dp dg).1 = -20 - (T.length : Int) := by
          rw [crun, if_pos ce, if_pos (by unfold stw at sw; omega)]
        rw [ef]
        exact ⟨fun _ => ec, fun q => absurd q (by omega)⟩
      · have ef : flt T (nf + 1) k wn op = -1 := by rw [flt, if_pos ce, if_neg cb]
        have q2 := (em2 hw hAo (by omega) hv).2
        have ec : crun T (n1 + 1) k st C W dp dg = (0, if SA op ≠ 0 then (1000 + SA op) :: (if PA op ≠ 0 then (1000 + PA op) :: C else C) else (if PA op ≠ 0 then (1000 + PA op) :: C else C)) := by
          rw [crun, if_pos ce, if_neg (by unfold stw at sw; omega), hW]
          unfold wtJ
          rw [rel_1 hAo.1 hAo.2]
        have wl := wt_len (SA := SA) (PA := PA) (op := op) (n := op.toNat) (C := C)
        rw [hW] at hl
        rw [ef, ec, run, if_pos ce]
        refine ⟨fun q => absurd rfl q, fun _ => ⟨rfl, q2.1, by dsimp only; omega, ?_, fun q => ?_⟩⟩
        · by_cases z : smE (pwE er a ex (PA op) (PV op)) (SA op) (SV op) (opR (PA op) (PV op) (powR a ex)) = 0
          · rw [q2.2.2 z]; exact z.symm
          · exact q2.2.1 z
        · rw [q2.2.2 q, show op.toNat = 0 by omega]; rfl
    · have hk2 : k < T.length := by omega
      by_cases c32 : chT T k = 32
      · -- a blank
        have ef : flt T (nf + 1) k wn op = flt T nf (k + 1) wn op := by rw [flt, if_neg ce, if_pos c32]
        have ec : crun T (n1 + 1) k st C W dp dg = crun T n1 (k + 1) (if st = 1 then 2 else st) C W dp dg := crun_st hk2 (by unfold cch; rw [if_pos c32]) (by unfold stw at sw; split <;> omega)
        rw [ef, ec, run, if_neg ce, if_pos c32]
        refine ih n1 (k + 1) wn op er a ex SA PA SV PV _ C W dp dg (by omega) (by omega) (by omega) (by omega) ⟨?_, hd, ho, hW, hA, hw, by omega⟩ hv
        unfold stw at sw ⊢
        rcases sw with s | s | s | s
        · rw [if_neg (by omega)]; exact Or.inl s
        · refine Or.inr (Or.inl ⟨s.1, Or.inl ?_, s.2.2⟩)
          split <;> omega
        · rw [if_neg (by omega)]; exact Or.inr (Or.inr (Or.inl s))
        · rw [if_neg (by omega)]; exact Or.inr (Or.inr (Or.inr s))
      · by_cases w0 : wn = 0
        · -- an atom
          subst w0
          have st0 : st = 0 ∧ ex = -1 := by unfold stw at sw; omega
          obtain ⟨rfl, rfl⟩ := st0
          by_cases c40 : chT T k = 40
          · by_cases d6 : op < 6
            · have ef : flt T (nf + 1) k 0 op = flt T nf (k + 1) 0 (op + 1) := by rw [flt, if_neg ce, if_neg c32, if_pos rfl, if_pos ⟨c40, d6⟩]
              have ec : crun T (n1 + 1) k 0 C W dp dg = crun T n1 (k + 1) 0 C (40 :: W) (dp + 1) dg := crun_st hk2 (by unfold cch; rw [if_neg c32, if_pos rfl, if_neg (by omega), if_neg (by omega), if_pos ⟨c40, by omega⟩]) (by decide)
              rw [ef, ec, run, if_neg ce, if_neg c32, if_pos rfl, if_pos c40]
              have uj : ∀ j : Int, 0 ≤ j → j < op + 1 → up1 SA (op + 1) 0 j = SA j ∧ up1 PA (op + 1) 0 j = PA j := fun j _ h1 => ⟨up1_ne (by omega), up1_ne (by omega)⟩
              have t1 : (op + 1).toNat = op.toNat + 1 := by omega
              have t2 : ((op.toNat : Nat) : Int) = op := by omega
              refine ih n1 (k + 1) 0 (op + 1) er a (-1) _ _ SV PV 0 C (40 :: W) (dp + 1) dg (by omega) (by omega) (by omega) (by omega) ⟨Or.inl ⟨rfl, rfl, rfl⟩, by omega, by omega, ?_, ?_, hw, ?_⟩ ⟨hv.1, fun q => ⟨fun _ => ?_, fun q => absurd rfl q⟩⟩
              · rw [pJ_00 (SV := SV) (PV := PV) |>.2, t1]
                show 40 :: W = 40 :: (wtJ (up1 SA (op + 1) 0) (up1 PA (op + 1) 0) ((op.toNat : Nat) : Int) ++ lwW (up1 SA (op + 1) 0) (up1 PA (op + 1) 0) op.toNat)
                rw [t2, lwW_up op.toNat (fun j h0 h1 => uj j h0 (by omega)), hW]
                unfold wtJ
                rw [(uj op (by omega) (by omega)).1, (uj op (by omega) (by omega)).2]
              · intro j h2 h3
                by_cases cj : j = op + 1
                · rw [cj, up1_eq, up1_eq]; exact ⟨Or.inl rfl, Or.inl rfl⟩
                · rw [(uj j h2 (by omega)).1, (uj j h2 (by omega)).2]; exact hA j h2 (by omega)
              · rw [List.length_cons]; omega
              · rw [(hv.2 q).1 rfl]
                rw [pJ_00.1, t1]
                show _ = (0, plJ (up1 SA (op + 1) 0) (up1 PA (op + 1) 0) SV PV ((op.toNat : Nat) : Int) ++ lwP (up1 SA (op + 1) 0) (up1 PA (op + 1) 0) SV PV op.toNat)
                rw [t2, lwP_up op.toNat (fun j h0 h1 => ⟨(uj j h0 (by omega)).1, (uj j h0 (by omega)).2, rfl, rfl⟩)]
                unfold plJ
                rw [(uj op (by omega) (by omega)).1, (uj op (by omega) (by omega)).2]
            · have ef : flt T (nf + 1) k 0 op = k := by rw [flt, if_neg ce, if_neg c32, if_pos rfl, if_neg (by omega), if_neg (by omega)]
              rw [ef]
              exact FIN.bad h0 (crun_bad hk2 (by unfold cch; rw [if_neg c32, if_pos rfl, if_neg (by omega), if_neg (by omega), if_neg (by omega)]))
          · by_cases c120 : chT T k = 120
            · have x0 : exd T k = 0 := by unfold exd; rw [if0 (fun q => by have := (isFg_ch ⟨h0, hk2⟩).mp q.1; omega)]
              have ef : flt T (nf + 1) k 0 op = flt T nf (k + 1) 1 op := by rw [flt, if_neg ce, if_neg c32, if_pos rfl, if_neg (by omega), if_pos (by omega), x0, show k + 0 + 1 = k + 1 by omega]
              have ec : crun T (n1 + 1) k 0 C W dp dg = crun T n1 (k + 1) 2 (1120 :: C) W dp dg := crun_st hk2 (by unfold cch; rw [if_neg c32, if_pos rfl, if_neg (by omega), if_pos c120]) (by decide)
              rw [ef, ec, run, if_neg ce, if_neg c32, if_pos rfl, if_neg c40, if_pos c120]
              have pv := push_v (c := 1120) (v := xF) ho (Or.inr ⟨rfl, rfl⟩) hw hv
              exact ih n1 (k + 1) 1 op er xF (-1) SA PA SV PV 2 (1120 :: C) W dp dg (by omega) (by omega) (by omega) (by omega) ⟨Or.inr (Or.inl ⟨rfl, Or.inl rfl, rfl⟩), hd, ho, hW, hA, pv.1, by rw [List.length_cons]; omega⟩ pv.2
            · by_cases cd : 48 ≤ chT T k ∧ chT T k ≤ 57
              · have ef : flt T (nf + 1) k 0 op = flt T nf (k + exd T k + 1) 1 op := by rw [flt, if_neg ce, if_neg c32, if_pos rfl, if_neg (by omega), if_pos (Or.inl cd)]
                obtain ⟨m, g, m1, m2, m3, m4⟩ := crun_num (C := C) (W := W) (dp := dp) (dg := dg) ⟨h0, hk2⟩ cd hn
                have xr := exd_rng T k
                have xl := exd_lt hk2
                rw [ef, m3, run, if_neg ce, if_neg c32, if_pos rfl, if_neg c40, if_neg c120]
                have pv := push_v (c := nmv T k) (v := nF (nmv T k)) ho (Or.inl ⟨m4.1, m4.2, rfl⟩) hw hv
                exact ih m (k + exd T k + 1) 1 op er (nF (nmv T k)) (-1) SA PA SV PV 1 (nmv T k :: C) W dp g (by omega) (by omega) (by omega) m1 ⟨Or.inr (Or.inl ⟨rfl, Or.inr ⟨rfl, m2⟩, rfl⟩), hd, ho, hW, hA, pv.1, by rw [List.length_cons]; omega⟩ pv.2
              · have ef : flt T (nf + 1) k 0 op = k := by rw [flt, if_neg ce, if_neg c32, if_pos rfl, if_neg (by omega), if_neg (by omega)]
                rw [ef]
                exact FIN.bad h0 (crun_bad hk2 (by unfold cch; rw [if_neg c32, if_pos rfl, if_neg (by omega), if_neg (by omega), if_neg (by omega)]))
        · by_cases w2 : wn = 2
          · -- the figure of a power
            subst w2
            have st0 : st = 3 ∧ ex = -2 := by unfold stw at sw; omega
            obtain ⟨rfl, rfl⟩ := st0
            by_cases cd : 48 ≤ chT T k ∧ chT T k ≤ 56
            · have ef : flt T (nf + 1) k 2 op = flt T nf (k + 1) 3 op := by rw [flt, if_neg ce, if_neg c32, if_neg w0, if_pos rfl, if_pos cd]
              have ec : crun T (n1 + 1) k 3 C W dp dg = crun T n1 (k + 1) 4 ((2000 + chT T k - 48) :: C) W dp dg := crun_st hk2 (by unfold cch; rw [if_neg c32, if_neg (by decide), if_pos rfl, if_pos cd]) (by decide)
              rw [ef, ec, run, if_neg ce, if_neg c32, if_neg w0, if_pos rfl]
              have z : (evC C).1 = 0 → er = 0 := fun q => Classical.byContradiction fun d => d ((hv.1 d).symm.trans q)
              have hp : powR a (-2) = a := if_pos (by decide)
              have he : er = 0 → evC C = (0, a :: (plJ SA PA SV PV op ++ lwP SA PA SV PV op.toNat)) := fun q => by
                have := ((hv.2 q).2 w0).2 (fun t => absurd t.1 (by decide))
                rw [hp] at this; exact this
              refine ih n1 (k + 1) 3 op er a (chT T k - 48) SA PA SV PV 4 _ W dp dg (by omega) (by omega) (by omega) (by omega) ⟨Or.inr (Or.inr (Or.inr ⟨rfl, rfl, by omega⟩)), hd, ho, hW, hA, ⟨hw, Or.inr (Or.inr (Or.inr (by omega))), fun q => Or.inr (Or.inr ⟨by omega, by rw [he (z q)]; show 1 ≤ (a :: _).length; rw [List.length_cons]; omega⟩)⟩, by rw [List.length_cons]; omega⟩ ⟨fun q => ?_, fun q => ⟨fun e => absurd e (by decide), fun _ => ?_⟩⟩
              · have e := hv.1 q
                rw [evC_err (by rw [e]; exact q)]; exact e
              · have e : evC ((2000 + chT T k - 48) :: C) = (if bz (pwOK a (chT T k - 48).toNat) = 1 then 0 else -3, pwV a (chT T k - 48).toNat :: (plJ SA PA SV PV op ++ lwP SA PA SV PV op.toNat)) := by
                  show cdF (evC C) _ = _
                  rw [he q]
                  unfold cdF
                  rw [if_neg (fun q => q rfl), if_neg (by omega), if_neg (by omega), if_neg (by omega), show 2000 + chT T k - 48 - 2000 = chT T k - 48 by omega]
                  rfl
                refine ⟨fun t => ?_, fun t => ?_⟩
                · rw [e, if0 t.2]
                · rw [e, if1 (Classical.byContradiction fun s => t ⟨by omega, s⟩)]
                  have : powR a (chT T k - 48) = pwV a (chT T k - 48).toNat := if_neg (by omega)
                  rw [this]
            · have ef : flt T (nf + 1) k 2 op = k := by rw [flt, if_neg ce, if_neg c32, if_neg w0, if_pos rfl, if_neg cd]
              rw [ef]
              exact FIN.bad h0 (crun_bad hk2 (by unfold cch; rw [if_neg c32, if_neg (by decide), if_pos rfl, if_neg cd]))
          · -- behind an operand
            have st1 : st = 1 ∨ st = 2 ∨ st = 4 := by unfold stw at sw; omega
            by_cases ch : chT T k = 94 ∧ wn = 1
            · have ef : flt T (nf + 1) k wn op = flt T nf (k + 1) 2 op := by rw [flt, if_neg ce, if_neg c32, if_neg w0, if_neg w2, if_pos ch]
              have st2 : st = 1 ∨ st = 2 := by unfold stw at sw; omega
              have ec : crun T (n1 + 1) k st C W dp dg = crun T n1 (k + 1) 3 C W dp dg := crun_st hk2 (by unfold cch; rw [if_neg c32, if_neg (by omega), if_neg (by omega), if_neg (by omega), if_pos ⟨st2, ch.1⟩]) (by decide)
              rw [ef, ec, run, if_neg ce, if_neg c32, if_neg w0, if_neg w2, if_pos ch.1]
              have ex1 : ex = -1 := by unfold stw at sw; omega
              subst ex1
              refine ih n1 (k + 1) 2 op er a (-2) SA PA SV PV 3 C W dp dg (by omega) (by omega) (by omega) (by omega) ⟨Or.inr (Or.inr (Or.inl ⟨rfl, rfl, rfl⟩)), hd, ho, hW, hA, hw, by omega⟩ ⟨hv.1, fun q => ⟨fun e => absurd e (by decide), fun _ => ⟨fun t => absurd t.1 (by decide), fun _ => ?_⟩⟩⟩
              exact ((hv.2 q).2 w0).2 (fun t => absurd t.1 (by decide))
            · by_cases cc : chT T k = 41 ∧ 0 < op
              · have ef : flt T (nf + 1) k wn op = flt T nf (k + 1) 1 (op - 1) := by rw [flt, if_neg ce, if_neg c32, if_neg w0, if_neg w2, if_neg ch, if_pos cc]
                have q2 := (em2 hw hAo w0 hv).2
                have t1 : op.toNat = (op - 1).toNat + 1 := by omega
                have t2 : (((op - 1).toNat : Nat) : Int) = op - 1 := by omega
                have eW : (lwW SA PA op.toNat).tail = wtJ SA PA (op - 1) ++ lwW SA PA (op - 1).toNat := by
                  rw [t1]; show wtJ SA PA (((op - 1).toNat : Nat) : Int) ++ _ = _; rw [t2]
                have ec : crun T (n1 + 1) k st C W dp dg = crun T n1 (k + 1) 2 (if SA op ≠ 0 then (1000 + SA op) :: (if PA op ≠ 0 then (1000 + PA op) :: C else C) else (if PA op ≠ 0 then (1000 + PA op) :: C else C)) (wtJ SA PA (op - 1) ++ lwW SA PA (op - 1).toNat) (dp - 1) dg := crun_st hk2 (by
                  have r := rel_1 (n := op.toNat) (SA := SA) (PA := PA) (C := C) hAo.1 hAo.2
                  unfold cch
                  rw [if_neg c32, if_neg (by omega), if_neg (by omega), if_neg (by omega), if_neg (by omega), if_pos ⟨cc.1, by omega⟩, hW]
                  unfold wtJ
                  rw [r, eW]
                  rfl) (by decide)
                rw [ef, ec, run, if_neg ce, if_neg c32, if_neg w0, if_neg w2, if_neg (by omega), if_neg (by omega), if_pos cc.1]
                have uj : ∀ j : Int, 0 ≤ j → j < op → up1 SA op 0 j = SA j ∧ up1 PA op 0 j = PA j ∧ upF SV op (opR (SA op) (SV op) (opR (PA op) (PV op) (powR a ex))) j = SV j ∧ upF PV op (opR (PA op) (PV op) (powR a ex)) j = PV j := fun j _ h1 => ⟨up1_ne (by omega), up1_ne (by omega), upF_ne (by omega), upF_ne (by omega)⟩
                have uo := uj (op - 1) (by omega) (by omega)
                have wl := wt_len (SA := SA) (PA := PA) (op := op) (n := op.toNat) (C := C)
                have eL : (lwW SA PA op.toNat).length = (wtJ SA PA (op - 1) ++ lwW SA PA (op - 1).toNat).length + 1 := by rw [← eW, t1]; rfl
                rw [hW] at hl
                refine ih n1 (k + 1) 1 (op - 1) _ _ (-1) _ _ _ _ 2 _ _ (dp - 1) dg (by omega) (by omega) (by omega) (by omega) ⟨Or.inr (Or.inl ⟨rfl, Or.inl rfl, rfl⟩), by omega, by omega, ?_, ?_, q2.1, by omega⟩ ⟨q2.2.1, fun q => ⟨fun e => absurd e (by decide), fun _ => ⟨fun t => absurd t.1 (by decide), fun _ => ?_⟩⟩⟩
                · rw [lwW_up (op - 1).toNat (fun j h0 h1 => ⟨(uj j h0 (by omega)).1, (uj j h0 (by omega)).2.1⟩)]
                  unfold wtJ
                  rw [uo.1, uo.2.1]
                · intro j h2 h3
                  rw [(uj j h2 (by omega)).1, (uj j h2 (by omega)).2.1]; exact hA j h2 (by omega)
                · rw [q2.2.2 q, lwP_up (op - 1).toNat (fun j h0 h1 => uj j h0 (by omega)), t1]
                  have p1 : ∀ v : FP2, powR v (-1) = v := fun v => if_pos (by decide)
                  rw [p1]
                  show (0, _ :: (plJ SA PA SV PV (((op - 1).toNat : Nat) : Int) ++ lwP SA PA SV PV (op - 1).toNat)) = _
                  rw [t2]
                  unfold plJ
                  rw [uo.1, uo.2.1, uo.2.2.1, uo.2.2.2]
              · by_cases cm : chT T k = 42 ∨ chT T k = 47
                · have ef : flt T (nf + 1) k wn op = flt T nf (k + 1) 0 op := by rw [flt, if_neg ce, if_neg c32, if_neg w0, if_neg w2, if_neg ch, if_neg cc, if_pos (by omega)]
                  have q1 := (em2 hw hAo w0 hv).1
                  have hr : rnk (chT T k) = 2 := if_pos cm
                  have ec : crun T (n1 + 1) k st C W dp dg = crun T n1 (k + 1) 0 (if PA op ≠ 0 then (1000 + PA op) :: C else C) (chT T k :: ((if SA op ≠ 0 then [SA op] else []) ++ lwW SA PA op.toNat)) dp dg := crun_st hk2 (by
                    have r := rel_2 (n := op.toNat) (SA := SA) (PA := PA) (C := C) hAo.1 hAo.2
                    unfold cch
                    rw [if_neg c32, if_neg (by omega), if_neg (by omega), if_neg (by omega), if_neg (by omega), if_neg (by omega), hr, if_neg (by decide), hW]
                    unfold wtJ
                    rw [r]) (by decide)
                  rw [ef, ec, run, if_neg ce, if_neg c32, if_neg w0, if_neg w2, if_neg (by omega), if_pos cm]
                  have pj := pJ_up (SA := SA) (PA := PA) (SV := SV) (PV := PV) (op := op) (c := chT T k) (p := opR (PA op) (PV op) (powR a ex)) (s := f00) (by omega)
                  have uj : ∀ j : Int, 0 ≤ j → j < op → up1 PA op (chT T k) j = PA j ∧ upF PV op (opR (PA op) (PV op) (powR a ex)) j = PV j := fun j _ h1 => ⟨up1_ne (by omega), upF_ne (by omega)⟩
                  have wl := wt_len1 (SA := SA) (PA := PA) (op := op) (n := op.toNat) (C := C)
                  rw [hW] at hl
                  refine ih n1 (k + 1) 0 op _ a (-1) _ _ _ _ 0 _ _ dp dg (by omega) (by omega) (by omega) (by omega) ⟨Or.inl ⟨rfl, rfl, rfl⟩, hd, ho, ?_, ?_, q1.1, by rw [List.length_cons]; omega⟩ ⟨q1.2.1, fun q => ⟨fun _ => ?_, fun q => absurd rfl q⟩⟩
                  · rw [pj.2.1, lwW_up op.toNat (fun j h0 h1 => ⟨rfl, (uj j h0 (by omega)).1⟩)]; rfl
                  · intro j h2 h3
                    by_cases cj : j = op
                    · rw [cj, up1_eq]; exact ⟨hAo.1, by omega⟩
                    · rw [(uj j h2 (by omega)).1]; exact hA j h2 h3
                  · rw [q1.2.2 q, pj.1, lwP_up op.toNat (fun j h0 h1 => ⟨rfl, (uj j h0 (by omega)).1, rfl, (uj j h0 (by omega)).2⟩)]; rfl
                · by_cases cs : chT T k = 43 ∨ chT T k = 45
                  · have ef : flt T (nf + 1) k wn op = flt T nf (k + 1) 0 op := by rw [flt, if_neg ce, if_neg c32, if_neg w0, if_neg w2, if_neg ch, if_neg cc, if_pos (by omega)]
                    have q2 := (em2 hw hAo w0 hv).2
                    have hr : rnk (chT T k) = 1 := by unfold rnk; rw [if_neg cm, if_pos cs]
                    have ec : crun T (n1 + 1) k st C W dp dg = crun T n1 (k + 1) 0 (if SA op ≠ 0 then (1000 + SA op) :: (if PA op ≠ 0 then (1000 + PA op) :: C else C) else (if PA op ≠ 0 then (1000 + PA op) :: C else C)) (chT T k :: lwW SA PA op.toNat) dp dg := crun_st hk2 (by
                      have r := rel_1 (n := op.toNat) (SA := SA) (PA := PA) (C := C) hAo.1 hAo.2
                      unfold cch
                      rw [if_neg c32, if_neg (by omega), if_neg (by omega), if_neg (by omega), if_neg (by omega), if_neg (by omega), hr, if_neg (by decide), hW]
                      unfold wtJ
                      rw [r]) (by decide)
                    rw [ef, ec, run, if_neg ce, if_neg c32, if_neg w0, if_neg w2, if_neg (by omega), if_neg cm, if_neg (by omega)]
                    have pj := pJ_up (SA := SA) (PA := PA) (SV := SV) (PV := PV) (op := op) (c := chT T k) (p := opR (PA op) (PV op) (powR a ex)) (s := opR (SA op) (SV op) (opR (PA op) (PV op) (powR a ex))) (by omega)
                    have uj : ∀ j : Int, 0 ≤ j → j < op → up1 SA op (chT T k) j = SA j ∧ up1 PA op 0 j = PA j ∧ upF SV op (opR (SA op) (SV op) (opR (PA op) (PV op) (powR a ex))) j = SV j ∧ upF PV op (opR (PA op) (PV op) (powR a ex)) j = PV j := fun j _ h1 => ⟨up1_ne (by omega), up1_ne (by omega), upF_ne (by omega), upF_ne (by omega)⟩
                    have wl := wt_len (SA := SA) (PA := PA) (op := op) (n := op.toNat) (C := C)
                    rw [hW] at hl
                    refine ih n1 (k + 1) 0 op _ a (-1) _ _ _ _ 0 _ _ dp dg (by omega) (by omega) (by omega) (by omega) ⟨Or.inl ⟨rfl, rfl, rfl⟩, hd, ho, ?_, ?_, q2.1, by rw [List.length_cons]; omega⟩ ⟨q2.2.1, fun q => ⟨fun _ => ?_, fun q => absurd rfl q⟩⟩
                    · rw [pj.2.2.2, lwW_up op.toNat (fun j h0 h1 => ⟨(uj j h0 (by omega)).1, (uj j h0 (by omega)).2.1⟩)]; rfl
                    · intro j h2 h3
                      by_cases cj : j = op
                      · rw [cj, up1_eq, up1_eq]; exact ⟨by omega, Or.inl rfl⟩
                      · rw [(uj j h2 (by omega)).1, (uj j h2 (by omega)).2.1]; exact hA j h2 h3
                    · rw [q2.2.2 q, pj.2.2.1, lwP_up op.toNat (fun j h0 h1 => uj j h0 (by omega))]; rfl
                  · have ef : flt T (nf + 1) k wn op = k := by rw [flt, if_neg ce, if_neg c32, if_neg w0, if_neg w2, if_neg ch, if_neg cc, if_neg (by omega)]
                    rw [ef]
                    have hr : rnk (chT T k) = 0 := by unfold rnk; rw [if_neg cm, if_neg cs]
                    refine FIN.bad h0 ?_
                    by_cases cg : st = 1 ∧ (48 ≤ chT T k ∧ chT T k ≤ 57)
                    · have fg := (isFg_ch ⟨h0, hk2⟩).mpr cg.2
                      have g3 : 3 ≤ dg := by
                        unfold stw at sw
                        rcases sw with s | s | s | s
                        · omega
                        · rcases s.2.1 with t | t
                          · omega
                          · rcases t.2 with u | u
                            · exact u
                            · exact absurd fg u
                        · omega
                        · omega
                      exact crun_bad hk2 (by unfold cch; rw [if_neg c32, if_neg (by omega), if_neg (by omega), if_pos cg, if_pos g3])
                    · exact crun_bad hk2 (by unfold cch; rw [if_neg c32, if_neg (by omega), if_neg (by omega), if_neg cg, if_neg (by unfold stw at sw; omega), if_neg (by omega), if_pos hr])
