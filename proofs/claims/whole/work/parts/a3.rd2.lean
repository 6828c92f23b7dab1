/-! ===== the reader: the class does what the machine does ===== -/
def stw (T : List Int) (k wn st ex dg : Int) : Prop := (wn = 0 ∧ st = 0 ∧ ex = -1) ∨ (wn = 1 ∧ (st = 2 ∨ (st = 1 ∧ (3 ≤ dg ∨ ¬ isFg T k))) ∧ ex = -1) ∨ (wn = 2 ∧ st = 3 ∧ ex = -2) ∨ (wn = 3 ∧ st = 4 ∧ (0 ≤ ex ∧ ex ≤ 8))
def AOK (op : Int) (SA PA : Int → Int) : Prop := ∀ j : Int, 0 ≤ j → j ≤ op → (SA j = 0 ∨ SA j = 43 ∨ SA j = 45) ∧ (PA j = 0 ∨ PA j = 42 ∨ PA j = 47)
def RLs (T : List Int) (k wn op ex : Int) (SA PA : Int → Int) (st : Int) (C W : List Int) (dp dg : Int) : Prop := stw T k wn st ex dg ∧ dp = op ∧ (0 ≤ op ∧ op ≤ 6) ∧ W = wtJ SA PA op ++ lwW SA PA op.toNat ∧ AOK op SA PA ∧ wlC C ∧ (C.length : Int) + (W.length : Int) ≤ k
def RLv (op er : Int) (a : FP2) (ex wn : Int) (SA PA : Int → Int) (SV PV : Int → FP2) (C : List Int) : Prop := (er ≠ 0 → (evC C).1 = er) ∧ (er = 0 → (wn = 0 → evC C = (0, plJ SA PA SV PV op ++ lwP SA PA SV PV op.toNat)) ∧ (wn ≠ 0 → (0 ≤ ex ∧ ¬ pwOK a ex.toNat → (evC C).1 = -3) ∧ (¬ (0 ≤ ex ∧ ¬ pwOK a ex.toNat) → evC C = (0, powR a ex :: (plJ SA PA SV PV op ++ lwP SA PA SV PV op.toNat)))))
def FIN (fl : Int) (r : Int × FP2) (c : Int × List Int) : Prop := (fl ≠ -1 → c.1 = -20 - fl) ∧ (fl = -1 → c.1 = 0 ∧ wlC c.2 ∧ c.2.length ≤ 90 ∧ (evC c.2).1 = r.1 ∧ (r.1 = 0 → (evC c.2).2 = [r.2]))
theorem em2 {op er ex wn : Int} {a : FP2} {SA PA : Int → Int} {SV PV : Int → FP2} {C : List Int} (hw : wlC C) (hA : (SA op = 0 ∨ SA op = 43 ∨ SA op = 45) ∧ (PA op = 0 ∨ PA op = 42 ∨ PA op = 47)) (hn : wn ≠ 0) (h : RLv op er a ex wn SA PA SV PV C) :
    (wlC (if PA op ≠ 0 then (1000 + PA op) :: C else C) ∧ (pwE er a ex (PA op) (PV op) ≠ 0 → (evC (if PA op ≠ 0 then (1000 + PA op) :: C else C)).1 = pwE er a ex (PA op) (PV op)) ∧ (pwE er a ex (PA op) (PV op) = 0 → evC (if PA op ≠ 0 then (1000 + PA op) :: C else C) = (0, opR (PA op) (PV op) (powR a ex) :: ((if SA op ≠ 0 then [SV op] else []) ++ lwP SA PA SV PV op.toNat)))) ∧
    (wlC (if SA op ≠ 0 then (1000 + SA op) :: (if PA op ≠ 0 then (1000 + PA op) :: C else C) else (if PA op ≠ 0 then (1000 + PA op) :: C else C)) ∧ (smE (pwE er a ex (PA op) (PV op)) (SA op) (SV op) (opR (PA op) (PV op) (powR a ex)) ≠ 0 → (evC (if SA op ≠ 0 then (1000 + SA op) :: (if PA op ≠ 0 then (1000 + PA op) :: C else C) else (if PA op ≠ 0 then (1000 + PA op) :: C else C))).1 = smE (pwE er a ex (PA op) (PV op)) (SA op) (SV op) (opR (PA op) (PV op) (powR a ex))) ∧ (smE (pwE er a ex (PA op) (PV op)) (SA op) (SV op) (opR (PA op) (PV op) (powR a ex)) = 0 → evC (if SA op ≠ 0 then (1000 + SA op) :: (if PA op ≠ 0 then (1000 + PA op) :: C else C) else (if PA op ≠ 0 then (1000 + PA op) :: C else C)) = (0, opR (SA op) (SV op) (opR (PA op) (PV op) (powR a ex)) :: lwP SA PA SV PV op.toNat))) := by
  have key : ∃ e0 : Int, (∀ pa pv, pwE er a ex pa pv = smE e0 pa pv (powR a ex)) ∧ (e0 ≠ 0 → (evC C).1 = e0) ∧ (e0 = 0 → evC C = (0, powR a ex :: (plJ SA PA SV PV op ++ lwP SA PA SV PV op.toNat))) := by
    by_cases c : er = 0
    · by_cases d : 0 ≤ ex ∧ ¬ pwOK a ex.toNat
      · refine ⟨-3, fun pa pv => ?_, fun _ => ((h.2 c).2 hn).1 d, fun q => absurd q (by decide)⟩
        unfold pwE smE
        rw [if_neg (by omega), if1 d, if_pos (by decide)]
      · refine ⟨0, fun pa pv => ?_, fun q => absurd rfl q, fun _ => ((h.2 c).2 hn).2 d⟩
        unfold pwE smE
        rw [if_neg (by omega), if0 d, if_neg (by decide)]
    · refine ⟨er, fun pa pv => ?_, fun _ => h.1 c, fun q => absurd q c⟩
      unfold pwE smE
      rw [if_pos c, if_pos c]
  obtain ⟨e0, k1, k2, k3⟩ := key
  have p1 := em1 (C := C) (pa := PA op) (er := e0) (v := powR a ex) (pv := PV op) (R := (if SA op ≠ 0 then [SV op] else []) ++ lwP SA PA SV PV op.toNat) (by unfold isop; omega) hw k2 (fun q => by rw [k3 q]; unfold plJ; rw [List.append_assoc])
  rw [← k1] at p1
  exact ⟨p1, em1 (pa := SA op) (by unfold isop; omega) p1.1 p1.2.1 p1.2.2⟩
theorem pl_len (SA PA : Int → Int) (SV PV : Int → FP2) {op : Int} (h : 0 ≤ op ∧ op ≤ 6) : (plJ SA PA SV PV op ++ lwP SA PA SV PV op.toNat).length ≤ 14 := by
  rw [List.length_append]
  have a := lwP_len SA PA SV PV op.toNat
  have : (plJ SA PA SV PV op).length ≤ 2 := by
    unfold plJ
    split <;> split <;> simp
  omega
/-- an operand comes -/
theorem push_v {op er : Int} {a : FP2} {SA PA : Int → Int} {SV PV : Int → FP2} {C : List Int} {c ex : Int} {v : FP2} (ho : 0 ≤ op ∧ op ≤ 6) (hc : (0 ≤ c ∧ c < 1000 ∧ v = nF c) ∨ (c = 1120 ∧ v = xF)) (hw : wlC C) (h : RLv op er a ex 0 SA PA SV PV C) : wlC (c :: C) ∧ RLv op er v (-1) 1 SA PA SV PV (c :: C) := by
  have pl := pl_len SA PA SV PV ho
  have z : (evC C).1 = 0 → er = 0 := fun q => Classical.byContradiction fun d => d ((h.1 d).symm.trans q)
  refine ⟨⟨hw, ?_, fun q => Or.inl ⟨?_, ?_⟩⟩, fun q => ?_, fun q => ⟨fun e => absurd e (by decide), fun _ => ⟨fun e => absurd e.1 (by decide), fun _ => ?_⟩⟩⟩
  · unfold rgC; omega
  · omega
  · rw [(h.2 (z q)).1 rfl]; show (plJ SA PA SV PV op ++ lwP SA PA SV PV op.toNat).length < 15; omega
  · have e := h.1 q
    rw [evC_err (by rw [e]; exact q)]; exact e
  · show cdF (evC C) c = _
    rw [(h.2 q).1 rfl]
    unfold cdF
    rw [if_neg (fun q => q rfl)]
    have pw : powR v (-1) = v := if_pos (by decide)
    rw [pw]
    rcases hc with ⟨c0, c1, e⟩ | ⟨c0, e⟩
    · rw [if_pos c1, e]
    · rw [if_neg (by omega), if_pos c0, e]
theorem crun_st {T : List Int} {n : Nat} {k st dp dg : Int} {C W : List Int} {st' dp' dg' : Int} {C' W' : List Int} (hk : k < T.length) (h : cch st (chT T k) C W dp dg = (st', C', W', dp', dg')) (h5 : st' ≠ 5) : crun T (n + 1) k st C W dp dg = crun T n (k + 1) st' C' W' dp' dg' := by
  rw [crun, if_neg (by omega), h, if_neg h5]
theorem crun_bad {T : List Int} {n : Nat} {k st dp dg : Int} {C W : List Int} {C' W' : List Int} {dp' dg' : Int} (hk : k < T.length) (h : cch st (chT T k) C W dp dg = (5, C', W', dp', dg')) : (crun T (n + 1) k st C W dp dg).1 = -20 - k := by
  rw [crun, if_neg (by omega), h, if_pos rfl]
theorem flt_rng (T : List Int) : ∀ (n : Nat) (k w d : Int), 0 ≤ k → -1 ≤ flt T n k w d := by
  intro n
  induction n with
  | zero => intro k w d h; show -1 ≤ k; omega
  | succ n ih =>
    intro k w d h
    have xr := exd_rng T k
    rw [flt]
    repeat' split
    all_goals first | exact ih _ _ _ (by omega) | omega
theorem FIN.bad {T : List Int} {n : Nat} {k st dp dg : Int} {C W : List Int} {r : Int × FP2} (h0 : 0 ≤ k) (h : (crun T n k st C W dp dg).1 = -20 - k) : FIN k r (crun T n k st C W dp dg) := ⟨fun _ => h, fun q => absurd q (by omega)⟩
/-- a number -/
theorem crun_num {T : List Int} {n : Nat} {k dp dg : Int} {C W : List Int} (hk : 0 ≤ k ∧ k < T.length) (hd : 48 ≤ chT T k ∧ chT T k ≤ 57) (hn : (T.length : Int) < k + n) : ∃ (m : Nat) (g : Int), (T.length : Int) < (k + exd T k + 1) + m ∧ (3 ≤ g ∨ ¬ isFg T (k + exd T k + 1)) ∧ crun T n k 0 C W dp dg = crun T m (k + exd T k + 1) 1 (nmv T k :: C) W dp g ∧ (0 ≤ nmv T k ∧ nmv T k < 1000) := by
  obtain ⟨n1, rfl⟩ : ∃ n1, n = n1 + 1 := ⟨n - 1, by omega⟩
  have f0 : isFg T k := (isFg_ch hk).mpr hd
  have s1 : crun T (n1 + 1) k 0 C W dp dg = crun T n1 (k + 1) 1 ((chT T k - 48) :: C) W dp 1 := crun_st hk.2 (by unfold cch; rw [if_neg (by omega), if_pos rfl, if_pos hd]) (by decide)
  by_cases c1 : isFg T (k + 1)
  · have d1 := c1.2.2
    have b1 := c1.2.1
    have d1 : 48 ≤ chT T (k + 1) ∧ chT T (k + 1) ≤ 57 := d1
    obtain ⟨n2, rfl⟩ : ∃ n2, n1 = n2 + 1 := ⟨n1 - 1, by omega⟩
    have s2 : crun T (n2 + 1) (k + 1) 1 ((chT T k - 48) :: C) W dp 1 = crun T n2 (k + 1 + 1) 1 (((chT T k - 48) * 10 + chT T (k + 1) - 48) :: C) W dp (1 + 1) := crun_st b1 (by unfold cch; rw [if_neg (by omega), if_neg (by decide), if_neg (by decide), if_pos ⟨rfl, d1⟩, if_neg (by decide)]; rfl) (by decide)
    by_cases c2 : isFg T (k + 2)
    · have d2 : 48 ≤ chT T (k + 2) ∧ chT T (k + 2) ≤ 57 := c2.2.2
      have b2 := c2.2.1
      obtain ⟨n3, rfl⟩ : ∃ n3, n2 = n3 + 1 := ⟨n2 - 1, by omega⟩
      have s3 : crun T (n3 + 1) (k + 2) 1 (((chT T k - 48) * 10 + chT T (k + 1) - 48) :: C) W dp (1 + 1) = crun T n3 (k + 2 + 1) 1 ((((chT T k - 48) * 10 + chT T (k + 1) - 48) * 10 + chT T (k + 2) - 48) :: C) W dp (1 + 1 + 1) := crun_st b2 (by unfold cch; rw [if_neg (by omega), if_neg (by decide), if_neg (by decide), if_pos ⟨rfl, d2⟩, if_neg (by decide)]; rfl) (by decide)
      have e : exd T k = 2 := by unfold exd; rw [if1 ⟨f0, c1⟩, if1 c2]
      have v : nmv T k = ((chT T k - 48) * 10 + chT T (k + 1) - 48) * 10 + chT T (k + 2) - 48 := by unfold nmv; rw [e, if_neg (by decide), if_neg (by decide)]; omega
      refine ⟨n3, 1 + 1 + 1, by rw [e]; omega, Or.inl (by decide), ?_, by rw [v]; omega⟩
      rw [s1, s2, show k + 1 + 1 = k + 2 by omega, s3, e, v]
    · have e : exd T k = 1 := by unfold exd; rw [if1 ⟨f0, c1⟩, if0 c2]
      have v : nmv T k = (chT T k - 48) * 10 + chT T (k + 1) - 48 := by unfold nmv; rw [e, if_neg (by decide), if_pos rfl]; omega
      refine ⟨n2, 1 + 1, by rw [e]; omega, Or.inr (by rw [e, show k + 1 + 1 = k + 2 by omega]; exact c2), ?_, by rw [v]; omega⟩
      rw [s1, s2, e, v]
  · have e : exd T k = 0 := by unfold exd; rw [if0 (fun q => c1 q.2)]
    have v : nmv T k = chT T k - 48 := by unfold nmv; rw [e, if_pos rfl]
    refine ⟨n1, 1, by rw [e]; omega, Or.inr (by rw [e, show k + 0 + 1 = k + 1 by omega]; exact c1), ?_, by rw [v]; omega⟩
    rw [s1, e, v, show k + 0 + 1 = k + 1 by omega]
