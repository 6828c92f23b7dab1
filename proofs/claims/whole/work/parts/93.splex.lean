/-! ===== a splitting exists ===== -/
theorem least_ex {P : Nat → Prop} : ∀ n : Nat, P n → ∃ t, t ≤ n ∧ P t ∧ ∀ j, j < t → ¬ P j := by
  intro n
  induction n using Nat.strongRecOn with
  | _ n ih =>
    intro h
    by_cases c : ∃ j, j < n ∧ P j
    · obtain ⟨j, h1, h2⟩ := c
      obtain ⟨t, a, b, d⟩ := ih j h1 h2
      exact ⟨t, by omega, b, d⟩
    · exact ⟨n, Nat.le_refl _, h, fun j hj q => c ⟨j, hj, q⟩⟩
theorem thk_end {M : PS} (hM : M.fin) (hM0 : M ≠ PS.zero) (hs : M.size ≤ 48) : (M.thk 48).size ≤ 1 := by
  obtain ⟨h1, h2, h3, h4⟩ := PS.thk_spec hM hM0 (by omega) 48
  refine Classical.byContradiction (fun q => ?_)
  obtain ⟨P, hP, hd⟩ := PS.irr_ex _ (M.thk 48) h1 (by omega) (Nat.le_refl _)
  obtain ⟨k, hk, -⟩ := PS.mlt_ex hP M.size M hM hM0 (Nat.le_refl _)
  have hl := (PS.mlt_lt hP hM hM0 hk).1
  have := (PS.mlt_pos hP (h4 P k hP hk)).mp hd
  omega
theorem her_ex {N D W : PS} : ∀ (n : Nat) (Q R M : PS), HI N D W Q R M n → ∃ Q' R' M' n', HI N D W Q' R' M' n' ∧ (M'.thk 1).size ≤ 1 := by
  intro n
  induction n using Nat.strongRecOn with
  | _ n ih =>
    intro Q R M h
    have h' := h
    obtain ⟨⟨hN, hD, hD0, hDs, hDm, hW⟩, ⟨hM, hM0, hMm, hMs⟩, hml, hn, hSI, hQ, hR, hRs⟩ := h'
    obtain ⟨t, ht, h1, h2⟩ := least_ex (P := fun t => (M.thk t).size ≤ 1) 48 (thk_end hM hM0 (by omega))
    by_cases c : t ≤ 1
    · refine ⟨Q, R, M, n, h, ?_⟩
      by_cases c0 : t = 1
      · rw [c0] at h1; exact h1
      · have e : t = 0 := by omega
        rw [e] at h1
        have g := PS.thn_spec hM hM0 (by omega)
        have h1' : M.size ≤ 1 := h1
        show M.thn.size ≤ 1
        omega
    · have hv : 1 < (M.thk (t - 1)).size := by
        have := h2 (t - 1) (by omega)
        omega
      have s := her_str h (by omega) hv h1
      have st := her_step h (by omega) (by omega) hv h1
      exact ih (t - 1) (by omega) _ _ _ st.2.2.2
def PS.itl (X : PS) : PS := fun k => if k = 0 then 0 else X (k - 1) * finv (fi (k : Int))
theorem PS.itl_lt {X : PS} (hX : X.fin) : X.itl.lt (X.size + 1) := fun k hk => by
  unfold PS.itl
  rw [if_neg (by omega), PS.flt hX (k - 1) (by omega)]; grind
theorem PS.itl_der {X : PS} (hX : X.fin) (hs : X.size ≤ 99) : X.itl.der = X := PS.ext fun k => by
  show fi ((k : Int) + 1) * X.itl (k + 1) = X k
  have e1 : X.itl (k + 1) = X k * finv (fi ((k : Int) + 1)) := by
    unfold PS.itl
    rw [if_neg (by omega), Nat.add_sub_cancel, show ((k + 1 : Nat) : Int) = (k : Int) + 1 by omega]
  rw [e1]
  by_cases c : k < X.size
  · have e := finv_mul (fi ((k : Int) + 1)) (fi_small (by omega) (by omega))
    have : fi ((k : Int) + 1) * (X k * finv (fi ((k : Int) + 1))) = X k * (fi ((k : Int) + 1) * finv (fi ((k : Int) + 1))) := by grind
    rw [this, e]; grind
  · rw [PS.flt hX k (by omega)]; grind
theorem MW_ex0 {X : PS} (hX : X.fin) (hs : X.size ≤ 99) : ∃ H G, MW PS.zero X H G := by
  refine ⟨X.itl, PS.zero, ⟨_, PS.itl_lt hX⟩, PS.fin_zero, ?_, fun _ => ⟨rfl, if_pos rfl, ?_⟩, fun q => absurd rfl q⟩
  · rw [PS.zero_mul, PS.add_zero, PS.add_zero, PS.itl_der hX hs]
  · by_cases c : X = PS.zero
    · left
      refine PS.ext fun k => ?_
      unfold PS.itl
      rw [c]
      split
      · rfl
      · show (0 : F) * _ = 0; grind
    · exact Or.inr ⟨c, PS.size_le (PS.itl_lt hX)⟩
/-- x to the k -/
def PS.mo (k : Nat) : PS := PS.zero.set k 1
theorem PS.mo_lt (k : Nat) : (PS.mo k).lt (k + 1) := PS.set_lt (PS.lt_mono (PS.zero_lt 0) (by omega)) (by omega)
theorem PS.mo_isz (k : Nat) : (PS.mo k).isz (k + 1) := ⟨Or.inr (by show (if k + 1 - 1 = k then (1 : F) else 0) ≠ 0; rw [if_pos (by omega)]; decide), PS.mo_lt k⟩
theorem PS.sz_lt {p : PS} {n : Nat} (hp : p.lt (n + 1)) (h0 : p n = 0) : p.lt n := fun k hk => by
  by_cases c : k = n
  · rw [c]; exact h0
  · exact hp k (by omega)
theorem MW_ex1 {W : PS} (hW : W.fin) (hW0 : W ≠ PS.zero) : ∀ (n : Nat) (X : PS), X.fin → X.size ≤ n → ∃ H G, MW W X H G := by
  intro n
  induction n with
  | zero =>
    intro X hX hs
    have : X = PS.zero := (PS.fsz0 hX).mp (by omega)
    refine ⟨PS.zero, PS.zero, PS.fin_zero, PS.fin_zero, ?_, fun q => absurd q hW0, fun _ => ⟨PS.zero_lt _, Or.inl rfl⟩⟩
    rw [this, PS.der_zero, PS.mul_comm, PS.zero_mul, PS.add_zero, PS.add_zero]
  | succ n ih =>
    intro X hX hs
    obtain ⟨w, ew, zw⟩ := PS.fne_isz hW hW0
    by_cases c : X.size < W.size
    · refine ⟨PS.zero, X, PS.fin_zero, hX, ?_, fun q => absurd q hW0, fun _ => ⟨PS.lt_mono (PS.flt hX) (by omega), Or.inl rfl⟩⟩
      rw [PS.der_zero, PS.mul_comm, PS.zero_mul, PS.add_zero]
      exact PS.ext fun k => by show X k = 0 + X k; grind
    · have hX0 : X ≠ PS.zero := PS.ne_of_size (by omega)
      obtain ⟨v, ev, zv⟩ := PS.fne_isz hX hX0
      have hl : W w ≠ 0 := by have := zw.1.resolve_left (by omega); rwa [Nat.add_sub_cancel] at this
      generalize hc0 : X v * finv (W w) = c0
      have hX1f : (X.sub (((PS.mo (v - w)).sm c0).der.add (W.mul ((PS.mo (v - w)).sm c0)))).fin := PS.fin_sub hX (PS.fin_add (PS.fin_der (PS.fin_sm _ ⟨_, PS.mo_lt _⟩)) (PS.fin_mul hW (PS.fin_sm _ ⟨_, PS.mo_lt _⟩)))
      have hml : (W.mul ((PS.mo (v - w)).sm c0)).lt (v + 1) := PS.lt_mul' zw.2 (PS.lt_sm _ (PS.mo_lt (v - w))) (by omega)
      have hdl : ((PS.mo (v - w)).sm c0).der.lt v := by
        have h1 := PS.lt_sm c0 (PS.mo_lt (v - w))
        intro k hk
        show fi ((k : Int) + 1) * ((PS.mo (v - w)).sm c0) (k + 1) = 0
        rw [h1 (k + 1) (by omega)]; grind
      have htop : (W.mul ((PS.mo (v - w)).sm c0)) v = X v := by
        have e : (W.mul ((PS.mo (v - w)).sm c0)) = ((W.mul (PS.mo (v - w))).sm c0) := by rw [PS.mul_comm, PS.sm_mul, PS.mul_comm]
        have h2 : (W.mul (PS.mo (v - w))) v = W w * PS.mo (v - w) (v - w) := by
          have := PS.mul_head zw.2 (PS.mo_lt (v - w))
          rwa [show w + (v - w) = v by omega] at this
        have h3 : PS.mo (v - w) (v - w) = 1 := if_pos rfl
        rw [e]
        show c0 * (W.mul (PS.mo (v - w))) v = X v
        rw [h2, h3, ← hc0]
        have := finv_mul (W w) hl
        have e2 : X v * finv (W w) * (W w * 1) = X v * (W w * finv (W w)) := by grind
        rw [e2, this]; grind
      have hs1 : (X.sub (((PS.mo (v - w)).sm c0).der.add (W.mul ((PS.mo (v - w)).sm c0)))).lt v := by
        refine PS.sz_lt (fun k hk => ?_) ?_
        · show X k - (_ + _) = 0
          rw [zv.2 k (by omega), hdl k (by omega), hml k (by omega)]; grind
        · show X v - (_ + _) = 0
          rw [hdl v (by omega), htop]; grind
      obtain ⟨H, G, h1, h2, h3, -, h5⟩ := ih _ hX1f (Nat.le_trans (PS.size_le hs1) (by omega))
      obtain ⟨g1, g2⟩ := h5 hW0
      refine ⟨((PS.mo (v - w)).sm c0).add H, G, PS.fin_add (PS.fin_sm _ ⟨_, PS.mo_lt _⟩) h1, h2, ?_, fun q => absurd q hW0, fun _ => ⟨g1, Or.inr ⟨?_, by omega⟩⟩⟩
      · have e : X = (X.sub (((PS.mo (v - w)).sm c0).der.add (W.mul ((PS.mo (v - w)).sm c0)))).add (((PS.mo (v - w)).sm c0).der.add (W.mul ((PS.mo (v - w)).sm c0))) := PS.ext fun k => by
          show X k = X k - (_ + _) + (_ + _)
          grind
        rw [e, h3, PS.der_add]
        generalize (PS.mo (v - w)).sm c0 = K
        generalize K.der = K'
        generalize H.der = H'
        letI := psRing
        show H' + W * H + G + (K' + W * K) = K' + H' + W * (K + H) + G
        grind
      · have hk : (((PS.mo (v - w)).sm c0).add H).lt (v - w + 1) := PS.lt_add (PS.lt_sm _ (PS.mo_lt _)) (by
          rcases g2 with z | ⟨z1, z2⟩
          · rw [z]; exact PS.zero_lt _
          · have := PS.size_le hs1
            exact PS.lt_mono (PS.flt h1) (by omega))
        have := PS.size_le hk
        omega
theorem MW_ex {W X : PS} (hW : W.fin) (hX : X.fin) (hs : X.size ≤ 99) : ∃ H G, MW W X H G := by
  by_cases c : W = PS.zero
  · rw [c]; exact MW_ex0 hX hs
  · exact MW_ex1 hW c X.size X hX (Nat.le_refl _)
theorem SPL_ex {N D W : PS} (hN : N.fin) (hD : D.fin) (hD0 : D ≠ PS.zero) (hDs : D.size ≤ 48) (hDm : D.mnc) (hW : W.fin) (hg : gdI N D W ≤ 20) : ∃ Q R, SPL N D W Q R := by
  obtain ⟨Q, R, M, n, h, h1⟩ := her_ex 48 _ _ _ (HI.start hN hD hD0 (by omega) hDm hW)
  have hM := her_end h h1
  have h' := h
  obtain ⟨-, ⟨hMf, hM0, hMm, hMs⟩, -, -, hSI, hQ, hR, hRs⟩ := h'
  obtain ⟨mn, hmn, hMz⟩ := PS.fne_isz hMf hM0
  obtain ⟨NR, hNR⟩ := hR
  have hd := PS.div_spec hMz hNR
  have hxs : (R.dv M).size ≤ 99 := by
    rcases Nat.lt_or_ge R.size M.size with q | q
    · have := (PS.md_eq (p := R) (r := R) hMz (PS.zero_lt 0) (PS.lt_mono (PS.lt_size hNR) (by omega)) (PS.div0 _ _)).2
      rw [this, PS.zero_sz]; omega
    · have := PS.size_le (PS.dv_lt hMz (PS.lt_mono (PS.lt_size hNR) (show R.size ≤ R.size - mn + mn by omega)))
      omega
  obtain ⟨H, G, hmw⟩ := MW_ex hW ⟨_, hd.2.2⟩ hxs
  exact ⟨_, _, spl_of h hM hmw⟩
