/-! ===== the reference: join ===== -/
def andp (s : Int) : Int := ((s.toNat &&& (s - 1).toNat : Nat) : Int)
theorem bit_andp {s : Int} (hs : 0 < s ∧ s < 32) : Int32.ofInt s &&& Int32.ofInt (s - 1) = Int32.ofInt (andp s) := by
  have h : ∀ s : Fin 32, 0 < s.val → Int32.ofInt (s.val : Int) &&& Int32.ofInt ((s.val : Int) - 1) = Int32.ofInt (andp (s.val : Int)) := by decide +kernel
  have := h ⟨s.toNat, by omega⟩ (by show 0 < s.toNat; omega)
  simpa [Int.toNat_of_nonneg (show 0 ≤ s by omega)] using this
theorem andp_one {s : Int} (hs : 0 < s ∧ s < 32) : (andp s = 0 ↔ oneB s) ∧ 0 ≤ andp s ∧ andp s < 32 := by
  have h : ∀ s : Fin 32, 0 < s.val → (andp (s.val : Int) = 0 ↔ ((s.val : Int) = 1 ∨ (s.val : Int) = 2 ∨ (s.val : Int) = 4 ∨ (s.val : Int) = 8 ∨ (s.val : Int) = 16)) ∧ 0 ≤ andp (s.val : Int) ∧ andp (s.val : Int) < 32 := by decide +kernel
  have := h ⟨s.toNat, by omega⟩ (by show 0 < s.toNat; omega)
  simpa [Int.toNat_of_nonneg (show 0 ≤ s by omega), oneB] using this
theorem Bd.fl_zero {b : Bd} {f : Int} : ∀ n : Nat, (∀ k : Int, 0 ≤ k → k < n → b.num (5 * f + k) = PS.zero) → b.fl f n = 0 := by
  intro n
  induction n with
  | zero => intro _; rfl
  | succ n ih =>
    intro h
    rw [Bd.fl, ih (fun k h0 h1 => h k h0 (by omega)), if_pos]
    · rfl
    · rw [bz_pos]
      have := h (n : Int) (by omega) (by omega)
      rwa [show f * 5 + (n : Int) = 5 * f + (n : Int) by omega]
theorem aln_of {b : Bd} {h a : Int} (ha : -2 ≤ a ∧ a ≤ 2) (h1 : ∀ j : Int, -2 ≤ j → j < a → b.num (5 * h + j + 2) = PS.zero) (h2 : b.num (5 * h + a + 2) ≠ PS.zero) : a = aln b h := by
  have z : ∀ j : Int, -2 ≤ j → j < a → ¬ bz (b.num (5 * h + (j + 2)) = PS.zero) = 0 := fun j g0 g1 q => bzf q (by rw [show 5 * h + (j + 2) = 5 * h + j + 2 by omega]; exact h1 j g0 g1)
  have nz : bz (b.num (5 * h + (a + 2)) = PS.zero) = 0 := bz_neg (by rw [show 5 * h + (a + 2) = 5 * h + a + 2 by omega]; exact h2)
  unfold aln
  have : a = -2 ∨ a = -1 ∨ a = 0 ∨ a = 1 ∨ a = 2 := by omega
  rcases this with e | e | e | e | e <;> subst e
  · rw [if_pos (by simpa using nz)]
  · rw [if_neg (by simpa using z (-2) (by omega) (by omega)), if_pos (by simpa using nz)]
  · rw [if_neg (by simpa using z (-2) (by omega) (by omega)), if_neg (by simpa using z (-1) (by omega) (by omega)), if_pos (by simpa using nz)]
  · rw [if_neg (by simpa using z (-2) (by omega) (by omega)), if_neg (by simpa using z (-1) (by omega) (by omega)), if_neg (by simpa using z 0 (by omega) (by omega)), if_pos (by simpa using nz)]
  · rw [if_neg (by simpa using z (-2) (by omega) (by omega)), if_neg (by simpa using z (-1) (by omega) (by omega)), if_neg (by simpa using z 0 (by omega) (by omega)), if_neg (by simpa using z 1 (by omega) (by omega))]
def joinOK (b : Bd) (f act g h : Int) : Prop := (0 ≤ f ∧ f ≤ 2) ∧ (0 ≤ act ∧ act ≤ 3) ∧ (0 ≤ g ∧ g ≤ 2) ∧ (0 ≤ h ∧ h ≤ 2)
noncomputable def joinA (b : Bd) (f act g h : Int) : Int := if bz (joinOK b f act g h) = 1 then (if bz (act = 3 ∧ ¬ oneB (b.fl h 5)) = 1 then -2 else keepA b f (jn b act g h)) else -1
/-- it is kept -/
def joinK (b : Bd) (f act g h : Int) : Prop := joinOK b f act g h ∧ ¬ (act = 3 ∧ ¬ oneB (b.fl h 5)) ∧ okJ (jn b act g h)
noncomputable def joinB (b : Bd) (f act g h : Int) : Bd := @ite Bd (joinK b f act g h) (Classical.propDecidable _) (kp b f (jn b act g h) 5) b
noncomputable def joinH (b : Bd) (hs : Hs) (f act g h : Int) : Hs := @ite Hs (joinK b f act g h) (Classical.propDecidable _) (hs.push b) hs
/-- how far the rows of a join have come -/
noncomputable def jp (b : Bd) (act g h i : Int) (s : Int) : FP2 := if s + (if act = 3 then aln b h else 0) < i then jn b act g h s else f00
theorem jp_start {b : Bd} {act g h : Int} (ha : act ≠ 2) (hr : 0 ≤ act ∧ act ≤ 3) (s : Int) : jp b act g h (-2) s = f00 := by
  unfold jp jn
  by_cases c : act = 3
  · rw [if_pos c, if_neg ha, if_pos c]
    split
    · rw [if_neg (by omega)]
    · rfl
  · rw [if_neg c, if_neg ha, if_neg c]
    split
    · rw [if_neg (by omega)]
    · rfl
theorem jp_end {b : Bd} {act g h : Int} (ha : act ≠ 2) (hr : 0 ≤ act ∧ act ≤ 3) (s : Int) : jp b act g h 3 s = jn b act g h s := by
  unfold jp
  by_cases q : s + (if act = 3 then aln b h else 0) < 3
  · rw [if_pos q]
  · rw [if_neg q]
    unfold jn
    by_cases c : act = 3
    · rw [if_pos c] at q
      rw [if_neg ha, if_pos c, if_neg (by omega)]
    · rw [if_neg c] at q
      rw [if_neg ha, if_neg c, if_neg (by omega)]
theorem jp_step {b : Bd} {act g h i : Int} {ρ σ : Nat → PS} {o : Int} (hr : JR ρ (jp b act g h i)) (ho : o = 32 + (i - (if act = 3 then aln b h else 0)) + 4) (hi : -2 ≤ i ∧ i ≤ 2) (x : RFI σ o (jn b act g h (i - (if act = 3 then aln b h else 0)))) (k : ∀ r : Nat, (r < 140 ∨ 147 < r ∧ r < 151) → r ≠ 2 * o.toNat → r ≠ 2 * o.toNat + 1 → σ r = ρ r) : JR σ (jp b act g h (i + 1)) := by
  intro s h0 h9
  have ar := aln_rng b h
  have dr : -2 ≤ (if act = 3 then aln b h else 0) ∧ (if act = 3 then aln b h else 0) ≤ 2 := by split <;> omega
  by_cases c : s = i - (if act = 3 then aln b h else 0)
  · unfold jp
    rw [if_pos (by omega), c, ← ho]; exact x
  · have q := (hr s h0 h9).kept (by omega) (by omega) (by omega) k
    have e : jp b act g h (i + 1) s = jp b act g h i s := by
      unfold jp
      by_cases d : s + (if act = 3 then aln b h else 0) < i
      · rw [if_pos d, if_pos (by omega)]
      · rw [if_neg d, if_neg (by omega)]
    rw [e]; exact q
theorem join_kept {μ μ' : Mem} {ν : Nat} {b : Bd} {hs : Hs} {f act g h z : Int} (ok : joinOK b f act g h) (n3 : ¬ (act = 3 ∧ ¬ oneB (b.fl h 5))) {m : Mem} (hm : StR m ν b hs) (fm : FrN ν [ν + 1, ν + 2, ν + 4] [5, 6] μ m) (q : z = keepA b f (jn b act g h) ∧ ((¬ okJ (jn b act g h) ∧ μ' = m) ∨ (okJ (jn b act g h) ∧ StR μ' ν (kp b f (jn b act g h) 5) (hs.push b) ∧ FrN ν [ν + 1, ν + 4] [5, 6] m μ'))) : z = joinA b f act g h ∧ StR μ' ν (joinB b f act g h) (joinH b hs f act g h) ∧ FrN ν [ν + 1, ν + 2, ν + 4] [5, 6] μ μ' := by
  refine ⟨by unfold joinA; rw [if1 ok, if0 n3]; exact q.1, ?_⟩
  rcases q.2 with ⟨q1, q2⟩ | ⟨q1, q2, q3⟩
  · unfold joinB joinH
    rw [if_neg (fun w => q1 w.2.2), if_neg (fun w => q1 w.2.2), q2]
    exact ⟨hm, fm⟩
  · unfold joinB joinH
    rw [if_pos ⟨ok, n3, q1⟩, if_pos ⟨ok, n3, q1⟩]
    exact ⟨q2, fm.trans (q3.mono (by simp) (by simp))⟩
theorem join_no {μ : Mem} {ν : Nat} {b : Bd} {hs : Hs} {f act g h : Int} (hm : StR μ ν b hs) (n : ¬ joinK b f act g h) : StR μ ν (joinB b f act g h) (joinH b hs f act g h) ∧ FrN ν [ν + 1, ν + 2, ν + 4] [5, 6] μ μ := by
  unfold joinB joinH
  rw [if_neg n, if_neg n]
  exact ⟨hm, FrN.rf⟩
theorem RA.rows {μ μ' : Mem} {ν : Nat} {ρ σ : Nat → PS} {b : Bd} {S : List Nat} (h : RA μ ν ρ b) (hw : RW μ' ν σ) (e : ∀ r : Nat, r < 30 → σ r = ρ r) (f : Fr S μ μ') (hs : ∀ a ∈ S, a = ν + 1 ∨ a = ν + 2 := by simp) : RA μ' ν σ b :=
  ⟨hw, h.2.1, fun t ht => ⟨(e _ (by omega)).trans (h.2.2.1 t ht).1, (e _ (by omega)).trans (h.2.2.1 t ht).2⟩, fun j g0 g1 => by rw [f.1 _ (fun q => by have := hs _ q; omega)]; exact h.2.2.2.1 j g0 g1, by rw [f.1 _ (fun q => by have := hs _ q; omega)]; exact h.2.2.2.2.1, by rw [f.1 _ (fun q => by have := hs _ q; omega)]; exact h.2.2.2.2.2⟩
theorem r_join (l : Launch) (G : Gl) (Λ : Lay) (sz : Nat) (μ : Mem) {ν : Nat} {ρ : Nat → PS} {b : Bd} {hs : Hs} {f act g h : Int} (hR : refK Λ ν) (ha : RA μ ν ρ b) (hh : RH μ ν hs) (hgd : b.good) (rf : inR f) (ract : inR act) (rg : inR g) (rh : inR h) : Sp l G yX12_join cX12_join 8 (some FieldType.int) 7 [.ref ν, iv f, iv act, iv g, iv h] Λ sz μ (pI (fun z μ' => z = joinA b f act g h ∧ StR μ' ν (joinB b f act g h) (joinH b hs f act g h) ∧ FrN ν [ν + 1, ν + 2, ν + 4] [5, 6] μ μ')) := by
  refine Sp.intro (by decide) (Nat.le_of_ble_eq_true rfl) (fun x hx hBD => ?_)
  refine v_lv [(0, .ref ν), (1, iv f), (2, iv act), (3, iv g), (4, iv h)] rfl ?_
  have L119 : ∀ (nf : Nat) (a i : Int) (m : Mem) (σ : Nat → PS), (3 - i < (nf : Int)) → (joinOK b f act g h) → (¬ (act = 3 ∧ ¬ oneB (b.fl h 5))) → (act ≠ 2) → (act = 3 → a = aln b h ∧ b.num (5 * h + a + 2) ≠ PS.zero) → (-2 ≤ a ∧ a ≤ 2) → (-2 ≤ i ∧ i ≤ 3) → (RA m ν σ b) → (JR σ (jp b act g h i)) → (RH m ν hs) → (FrN ν [ν + 1, ν + 2, ν + 4] [5, 6] μ m) → V G x (0, 0) Λ sz m 119 [(0, .ref ν), (1, iv f), (2, iv act), (3, iv g), (4, iv h), (6, iv a), (7, iv i)] [] := by
    intro nf
    induction nf with
    | zero => intro a i m σ hm ok n3 n2 ha3 har hi h1 h2 h3 hf; exact absurd hm (by omega)
    | succ nf ih =>
      intro a i m σ hm ok n3 n2 ha3 har hi h1 h2 h3 hf
      obtain ⟨k0, k1, k2, k3⟩ := ok
      have ok : joinOK b f act g h := ⟨k0, k1, k2, k3⟩
      refine v_iload hx DX12_join_119 6 rfl ?_
      refine v_push hx DX12_join_121 ?_
      refine v_icmp_gt hx DX12_join_122 (by omega) (by decide) (fun c122 => ?_) (fun c122 => ?_)
      · skip
        refine v_aload hx DX12_join_199 0 rfl ?_
        refine v_iload hx DX12_join_200 1 rfl ?_
        refine v_cVi hx DX12_join_201 CVRX12_233 [iv f] (r_becomes (J := jn b act g h) l G Λ sz m hR h1 h3 (by omega) (by intro s g0 g1; have := h2 s g0 g1; rwa [show i = 3 by omega, jp_end n2 k1] at this)) hR.o rfl rfl (Nat.le_of_ble_eq_true rfl) (by decide) ⟨Nat.le_refl _, Nat.le_refl _⟩ (fun z2 μ1 hμ1 => ?_)
        exact v_ri hx hBD DX12_join_204 (join_kept ok n3 ⟨⟨σ, h1⟩, h3⟩ hf hμ1)
      · skip
        refine v_iload hx DX12_join_125 2 rfl ?_
        refine v_push hx DX12_join_126 ?_
        refine v_icmp_ne hx DX12_join_127 (by omega) (by decide) (fun c127 => ?_) (fun c127 => ?_)
        · skip
          have tg := h1.tm (t := ((5 * g + i + 2).toNat : Int)) (by omega)
          have th := h1.tm (t := ((5 * h + i + 2).toNat : Int)) (by omega)
          have og := hgd.tm (t := ((5 * g + i + 2).toNat : Int)) (by omega)
          have oh := hgd.tm (t := ((5 * h + i + 2).toNat : Int)) (by omega)
          refine v_aload hx DX12_join_160 0 rfl ?_
          refine v_push hx DX12_join_161 ?_
          refine v_iload hx DX12_join_163 6 rfl ?_
          refine v_iadd hx DX12_join_165 ?_
          refine v_push hx DX12_join_166 ?_
          refine v_iadd hx DX12_join_167 ?_
          refine v_iload hx DX12_join_168 3 rfl ?_
          refine v_iload hx DX12_join_169 6 rfl ?_
          refine v_cSp hx DX12_join_171 CSRX12_155 [iv g, iv i] (r_term l G Λ sz m (by omega)) rfl rfl (Nat.le_of_ble_eq_true rfl) (by decide) ⟨Nat.le_refl _, Nat.le_refl _⟩ ?_
          refine v_iload hx DX12_join_174 4 rfl ?_
          refine v_iload hx DX12_join_176 6 rfl ?_
          refine v_cSp hx DX12_join_178 CSRX12_155 [iv h, iv i] (r_term l G Λ sz m (by omega)) rfl rfl (Nat.le_of_ble_eq_true rfl) (by decide) ⟨Nat.le_refl _, Nat.le_refl _⟩ ?_
          refine v_iload hx DX12_join_181 2 rfl ?_
          refine v_if_ne hx DX12_join_182 (by omega) (fun c182 => ?_) (fun c182 => ?_)
          · skip
            refine v_push hx DX12_join_189 ?_
            refine v_cVv hx DX12_join_190 CVRX12_223 [iv ((32 + i) + 4), iv ((5 * g + i + 2).toNat : Int), iv ((5 * h + i + 2).toNat : Int), iv (-1)] (r_plusF (o := 32 + i + 4) l G Λ sz m hR h1.1 (by omega) (by omega) (by omega) (by omega) tg th og.1.2.2.1 oh.1.2.2.1 (by have := og.2.1; have := oh.2.2; omega) (by have := oh.2.1; have := og.2.2; omega) (by have := og.2.2; have := oh.2.2; omega)) hR.o rfl rfl (Nat.le_of_ble_eq_true rfl) (by decide) ⟨Nat.le_refl _, Nat.le_refl _⟩ (fun μ7 hμ7 => ?_)
            obtain ⟨σ2, w2, x2a, x2b, k4, f2⟩ := hμ7
            have j2 : JR σ2 (jp b act g h (i + 1)) := jp_step (o := 32 + i + 4) h2 (by rw [if_neg (by omega)]; omega) (by omega) (by rw [if_neg (show ¬ act = 3 by omega)]; unfold jn; rw [if_neg (by omega), if_neg (show ¬ act = 3 by omega), if_pos (by omega), if_neg (by omega), show i - 0 = i by omega, ← show ((5 * g + i + 2).toNat : Int) = 5 * g + i + 2 by omega, ← show ((5 * h + i + 2).toNat : Int) = 5 * h + i + 2 by omega]; exact ⟨x2a, x2b⟩) k4
            have ra2 : RA μ7 ν σ2 b := h1.rows w2 (fun r hr => k4 r (by omega) (by omega) (by omega)) f2
            refine v_iinc hx DX12_join_193 6 rfl [(7, iv (i + 1)), (0, .ref ν), (1, iv f), (2, iv act), (3, iv g), (4, iv h), (6, iv a)] rfl (by decide) ?_
            refine v_goto hx DX12_join_196 ?_
            exact v_sub [1, 2, 3, 4, 5, 6, 0] _ rfl (ih a (i + 1) μ7 σ2 (by omega) ok n3 n2 ha3 har (by omega) (ra2) j2 (h3.frN (S := [ν + 1, ν + 2]) (J := []) (FrN.of f2 (by simp)) (by simp) (by simp) (by simp)) (hf.trans (FrN.of (f2.mono (by simp)) (by simp))))
          · skip
            refine v_push hx DX12_join_185 ?_
            refine v_goto hx DX12_join_186 ?_
            refine v_cVv hx DX12_join_190 CVRX12_223 [iv ((32 + i) + 4), iv ((5 * g + i + 2).toNat : Int), iv ((5 * h + i + 2).toNat : Int), iv 1] (r_plusF (o := 32 + i + 4) l G Λ sz m hR h1.1 (by omega) (by omega) (by omega) (by omega) tg th og.1.2.2.1 oh.1.2.2.1 (by have := og.2.1; have := oh.2.2; omega) (by have := oh.2.1; have := og.2.2; omega) (by have := og.2.2; have := oh.2.2; omega)) hR.o rfl rfl (Nat.le_of_ble_eq_true rfl) (by decide) ⟨Nat.le_refl _, Nat.le_refl _⟩ (fun μ9 hμ9 => ?_)
            obtain ⟨σ2, w2, x2a, x2b, k4, f2⟩ := hμ9
            have j2 : JR σ2 (jp b act g h (i + 1)) := jp_step (o := 32 + i + 4) h2 (by rw [if_neg (by omega)]; omega) (by omega) (by rw [if_neg (show ¬ act = 3 by omega)]; unfold jn; rw [if_neg (by omega), if_neg (show ¬ act = 3 by omega), if_pos (by omega), if_pos (by omega), show i - 0 = i by omega, ← show ((5 * g + i + 2).toNat : Int) = 5 * g + i + 2 by omega, ← show ((5 * h + i + 2).toNat : Int) = 5 * h + i + 2 by omega]; exact ⟨x2a, x2b⟩) k4
            have ra2 : RA μ9 ν σ2 b := h1.rows w2 (fun r hr => k4 r (by omega) (by omega) (by omega)) f2
            refine v_iinc hx DX12_join_193 6 rfl [(7, iv (i + 1)), (0, .ref ν), (1, iv f), (2, iv act), (3, iv g), (4, iv h), (6, iv a)] rfl (by decide) ?_
            refine v_goto hx DX12_join_196 ?_
            exact v_sub [1, 2, 3, 4, 5, 6, 0] _ rfl (ih a (i + 1) μ9 σ2 (by omega) ok n3 n2 ha3 har (by omega) (ra2) j2 (h3.frN (S := [ν + 1, ν + 2]) (J := []) (FrN.of f2 (by simp)) (by simp) (by simp) (by simp)) (hf.trans (FrN.of (f2.mono (by simp)) (by simp))))
        · skip
          have tg := h1.tm (t := ((5 * g + i + 2).toNat : Int)) (by omega)
          have th := h1.tm (t := ((5 * h + a + 2).toNat : Int)) (by omega)
          have og := hgd.tm (t := ((5 * g + i + 2).toNat : Int)) (by omega)
          have oh := hgd.tm (t := ((5 * h + a + 2).toNat : Int)) (by omega)
          have zb : (b.tm ((5 * h + a + 2).toNat : Int)).1 ≠ PS.zero := by
            rw [show ((5 * h + a + 2).toNat : Int) = 5 * h + a + 2 by omega]; exact (ha3 (by omega)).2
          refine v_aload hx DX12_join_130 0 rfl ?_
          refine v_push hx DX12_join_131 ?_
          refine v_iload hx DX12_join_133 6 rfl ?_
          refine v_iadd hx DX12_join_135 ?_
          refine v_iload hx DX12_join_136 5 rfl ?_
          refine v_isub hx DX12_join_138 ?_
          refine v_push hx DX12_join_139 ?_
          refine v_iadd hx DX12_join_140 ?_
          refine v_iload hx DX12_join_141 3 rfl ?_
          refine v_iload hx DX12_join_142 6 rfl ?_
          refine v_cSp hx DX12_join_144 CSRX12_155 [iv g, iv i] (r_term l G Λ sz m (by omega)) rfl rfl (Nat.le_of_ble_eq_true rfl) (by decide) ⟨Nat.le_refl _, Nat.le_refl _⟩ ?_
          refine v_iload hx DX12_join_147 4 rfl ?_
          refine v_iload hx DX12_join_149 5 rfl ?_
          refine v_cSp hx DX12_join_151 CSRX12_155 [iv h, iv a] (r_term l G Λ sz m (by omega)) rfl rfl (Nat.le_of_ble_eq_true rfl) (by decide) ⟨Nat.le_refl _, Nat.le_refl _⟩ ?_
          refine v_cVv hx DX12_join_154 CVRX12_236 [iv (((32 + i) - a) + 4), iv ((5 * g + i + 2).toNat : Int), iv ((5 * h + a + 2).toNat : Int)] (r_quotientF (o := 32 + i - a + 4) l G Λ sz m hR h1.1 (by omega) (by omega) (by omega) tg th og.1.2.2.1 zb (by have := og.2.1; have := oh.2.2; omega) (by have := og.2.2; have := oh.2.1; omega)) hR.o rfl rfl (Nat.le_of_ble_eq_true rfl) (by decide) ⟨Nat.le_refl _, Nat.le_refl _⟩ (fun μ15 hμ15 => ?_)
          obtain ⟨σ2, w2, x2a, x2b, k4, f2⟩ := hμ15
          have j2 : JR σ2 (jp b act g h (i + 1)) := jp_step (o := 32 + i - a + 4) h2 (by rw [if_pos (by omega)]; omega) (by omega) (by rw [if_pos (show act = 3 by omega)]; unfold jn; rw [if_neg (by omega), if_pos (show act = 3 by omega), if_pos (by omega), show i - aln b h + aln b h = i by omega, ← (ha3 (by omega)).1, ← show ((5 * g + i + 2).toNat : Int) = 5 * g + i + 2 by omega, ← show ((5 * h + a + 2).toNat : Int) = 5 * h + a + 2 by omega]; exact ⟨x2a, x2b⟩) k4
          have ra2 : RA μ15 ν σ2 b := h1.rows w2 (fun r hr => k4 r (by omega) (by omega) (by omega)) f2
          refine v_goto hx DX12_join_157 ?_
          refine v_iinc hx DX12_join_193 6 rfl [(7, iv (i + 1)), (0, .ref ν), (1, iv f), (2, iv act), (3, iv g), (4, iv h), (6, iv a)] rfl (by decide) ?_
          refine v_goto hx DX12_join_196 ?_
          exact v_sub [1, 2, 3, 4, 5, 6, 0] _ rfl (ih a (i + 1) μ15 σ2 (by omega) ok n3 n2 ha3 har (by omega) (ra2) j2 (h3.frN (S := [ν + 1, ν + 2]) (J := []) (FrN.of f2 (by simp)) (by simp) (by simp) (by simp)) (hf.trans (FrN.of (f2.mono (by simp)) (by simp))))
  have L90 : ∀ (nf : Nat) (a : Int) (m : Mem) (σ : Nat → PS), (2 - a < (nf : Int)) → (joinOK b f act g h) → (¬ (act = 3 ∧ ¬ oneB (b.fl h 5))) → (act ≠ 2) → (-2 ≤ a ∧ a ≤ 2) → (RA m ν σ b) → (JR σ (fun _ => f00)) → (RH m ν hs) → (FrN ν [ν + 1, ν + 2, ν + 4] [5, 6] μ m) → (∀ j : Int, -2 ≤ j → j < a → b.num (5 * h + j + 2) = PS.zero) → V G x (0, 0) Λ sz m 90 [(0, .ref ν), (1, iv f), (2, iv act), (3, iv g), (4, iv h), (6, iv a)] [] := by
    intro nf
    induction nf with
    | zero => intro a m σ hm ok n3 n2 har h1 h2 h3 hf hz; exact absurd hm (by omega)
    | succ nf ih =>
      intro a m σ hm ok n3 n2 har h1 h2 h3 hf hz
      obtain ⟨k0, k1, k2, k3⟩ := ok
      have ok : joinOK b f act g h := ⟨k0, k1, k2, k3⟩
      have nz : act = 3 → ¬ (∀ k : Int, 0 ≤ k → k < 5 → b.num (5 * h + k) = PS.zero) := fun e q => by
        have w := Bd.fl_zero (b := b) (f := h) 5 (fun k g0 g1 => q k g0 (by omega))
        exact n3 ⟨e, fun o => by unfold oneB at o; omega⟩
      refine v_iload hx DX12_join_90 2 rfl ?_
      refine v_push hx DX12_join_91 ?_
      refine v_icmp_ne hx DX12_join_92 (by omega) (by decide) (fun c92 => ?_) (fun c92 => ?_)
      · skip
        refine v_push hx DX12_join_115 ?_
        refine v_istore hx DX12_join_117 [(7, iv (-2)), (0, .ref ν), (1, iv f), (2, iv act), (3, iv g), (4, iv h), (6, iv a)] rfl (by decide) ?_
        exact v_sub [1, 2, 3, 4, 5, 6, 0] _ rfl (L119 100 a (-2) m σ (by omega) ok n3 n2 (fun q => absurd q c92) har (by omega) h1 (fun s g0 g1 => by rw [jp_start n2 k1]; exact h2 s g0 g1) h3 hf)
      · skip
        refine v_aload hx DX12_join_95 0 rfl ?_
        refine v_iload hx DX12_join_96 4 rfl ?_
        refine v_iload hx DX12_join_98 5 rfl ?_
        refine v_cSp hx DX12_join_100 CSRX12_155 [iv h, iv a] (r_term l G Λ sz m (by omega)) rfl rfl (Nat.le_of_ble_eq_true rfl) (by decide) ⟨Nat.le_refl _, Nat.le_refl _⟩ ?_
        refine v_cVp hx DX12_join_103 CVRX12_186 [iv ((5 * h + a + 2).toNat : Int)] (r_isNoughtF l G Λ sz m hR h1.1 (by omega) (h1.tm (by omega))) hR.o rfl rfl (Nat.le_of_ble_eq_true rfl) (by decide) ⟨Nat.le_refl _, Nat.le_refl _⟩ ?_
        rw [show (b.tm ((5 * h + a + 2).toNat : Int)).1 = b.num (5 * h + a + 2) by rw [show ((5 * h + a + 2).toNat : Int) = 5 * h + a + 2 by omega]; rfl]
        have br103 := bz_rng (b.num (5 * h + a + 2) = PS.zero)
        refine v_if_eq hx DX12_join_106 (by omega) (fun c106 => ?_) (fun c106 => ?_)
        · skip
          have d106 := bzf c106
          refine v_push hx DX12_join_115 ?_
          refine v_istore hx DX12_join_117 [(7, iv (-2)), (0, .ref ν), (1, iv f), (2, iv act), (3, iv g), (4, iv h), (6, iv a)] rfl (by decide) ?_
          exact v_sub [1, 2, 3, 4, 5, 6, 0] _ rfl (L119 100 a (-2) m σ (by omega) ok n3 n2 (fun q => ⟨aln_of har hz d106, d106⟩) har (by omega) h1 (fun s g0 g1 => by rw [jp_start n2 k1]; exact h2 s g0 g1) h3 hf)
        · skip
          have d106 := bzt c106
          refine v_iinc hx DX12_join_109 5 rfl [(6, iv (a + 1)), (0, .ref ν), (1, iv f), (2, iv act), (3, iv g), (4, iv h)] rfl (by decide) ?_
          refine v_goto hx DX12_join_112 ?_
          exact v_sub [1, 2, 3, 4, 5, 0] _ rfl (ih (a + 1) m σ (by omega) ok n3 n2 (by have : a ≠ 2 := (fun q => nz (by omega) (fun k g0 g1 => (Classical.em (k = 4)).elim (fun w => by rw [w, show 5 * h + 4 = 5 * h + a + 2 by omega]; exact d106) (fun w => by have := hz (k - 2) (by omega) (by omega); rwa [show 5 * h + (k - 2) + 2 = 5 * h + k by omega] at this))); omega) h1 h2 h3 hf (fun j g0 g1 => (Classical.em (j = a)).elim (fun q => by rw [q]; exact d106) (fun q => hz j g0 (by omega))))
  have L64 : (joinOK b f act g h) → (¬ (act = 3 ∧ ¬ oneB (b.fl h 5))) → V G x (0, 0) Λ sz μ 64 [(0, .ref ν), (1, iv f), (2, iv act), (3, iv g), (4, iv h)] [] := by
    intro ok n3
    obtain ⟨k0, k1, k2, k3⟩ := ok
    have ok : joinOK b f act g h := ⟨k0, k1, k2, k3⟩
    refine v_aload hx DX12_join_64 0 rfl ?_
    refine v_cVv hx DX12_join_65 CVRX12_227 [] (r_noJoins l G Λ sz μ hR ha.1) hR.o rfl rfl (Nat.le_of_ble_eq_true rfl) (by decide) ⟨Nat.le_refl _, Nat.le_refl _⟩ (fun μ21 hμ21 => ?_)
    obtain ⟨σ1, w1, j1, e1, f1⟩ := hμ21
    have ra1 : RA μ21 ν σ1 b := ha.rows w1 (fun r hr => e1 r (by omega)) f1
    refine v_iload hx DX12_join_68 2 rfl ?_
    refine v_push hx DX12_join_69 ?_
    refine v_icmp_ne hx DX12_join_70 (by omega) (by decide) (fun c70 => ?_) (fun c70 => ?_)
    · skip
      refine v_push hx DX12_join_86 ?_
      refine v_istore hx DX12_join_88 [(6, iv (-2)), (0, .ref ν), (1, iv f), (2, iv act), (3, iv g), (4, iv h)] rfl (by decide) ?_
      exact v_sub [1, 2, 3, 4, 5, 0] _ rfl (L90 100 (-2) μ21 σ1 (by omega) ok n3 (by omega) (by omega) (ra1) j1 (hh.frN (S := [ν + 1]) (J := []) (FrN.of f1 (by simp)) (by simp) (by simp) (by simp)) (FrN.of (f1.mono (by simp)) (by simp)) (fun j g0 g1 => by omega))
    · skip
      refine v_aload hx DX12_join_73 0 rfl ?_
      refine v_iload hx DX12_join_74 3 rfl ?_
      refine v_iload hx DX12_join_75 4 rfl ?_
      refine v_cVv hx DX12_join_77 CVRX12_230 [iv g, iv h] (r_multipliesAll l G Λ sz μ21 hR ra1 hgd (by omega) (by omega) j1) hR.o rfl rfl (Nat.le_of_ble_eq_true rfl) (by decide) ⟨Nat.le_refl _, Nat.le_refl _⟩ (fun μ23 hμ23 => ?_)
      obtain ⟨σ3, w3, j3, e3, f3⟩ := hμ23
      have ra3 : RA μ23 ν σ3 b := ra1.rows w3 e3 f3
      have h13 : RH μ23 ν hs := (hh.frN (S := [ν + 1]) (J := []) (FrN.of f1 (by simp)) (by simp) (by simp) (by simp)).frN (S := [ν + 1, ν + 2]) (J := []) (FrN.of f3 (by simp)) (by simp) (by simp) (by simp)
      have ff : FrN ν [ν + 1, ν + 2, ν + 4] [5, 6] μ μ23 := (FrN.of (f1.mono (by simp)) (by simp)).trans (FrN.of (f3.mono (by simp)) (by simp))
      refine v_aload hx DX12_join_80 0 rfl ?_
      refine v_iload hx DX12_join_81 1 rfl ?_
      refine v_cVi hx DX12_join_82 CVRX12_233 [iv f] (r_becomes (J := jn b act g h) l G Λ sz μ23 hR ra3 h13 (by omega) (by have q := j3; intro s g0 g1; have := q s g0 g1; unfold jn; rw [if_pos (by omega)]; exact this)) hR.o rfl rfl (Nat.le_of_ble_eq_true rfl) (by decide) ⟨Nat.le_refl _, Nat.le_refl _⟩ (fun z26 μ25 hμ25 => ?_)
      have h82 := hμ25
      exact v_ri hx hBD DX12_join_85 (join_kept ok n3 ⟨⟨σ3, ra3⟩, h13⟩ ff hμ25)
  have L33 : (joinOK b f act g h) → V G x (0, 0) Λ sz μ 33 [(0, .ref ν), (1, iv f), (2, iv act), (3, iv g), (4, iv h)] [] := by
    intro ok
    obtain ⟨k0, k1, k2, k3⟩ := ok
    have ok : joinOK b f act g h := ⟨k0, k1, k2, k3⟩
    have fr := b.fl_rng h 5
    have fr2 : 0 ≤ b.fl h 5 ∧ b.fl h 5 < 32 := fr
    refine v_aload hx DX12_join_33 0 rfl ?_
    refine v_iload hx DX12_join_34 4 rfl ?_
    refine v_cVp hx DX12_join_36 CVRX12_196 [iv h] (r_presentOf l G Λ sz μ hR ha (by omega)) hR.o rfl rfl (Nat.le_of_ble_eq_true rfl) (by decide) ⟨Nat.le_refl _, Nat.le_refl _⟩ ?_
    refine v_istore hx DX12_join_39 [(5, iv (b.fl h 5)), (0, .ref ν), (1, iv f), (2, iv act), (3, iv g), (4, iv h)] rfl (by decide) ?_
    refine v_iload hx DX12_join_41 3 rfl ?_
    refine v_push hx DX12_join_42 ?_
    refine v_icmp_ne hx DX12_join_43 (by omega) (by decide) (fun c43 => ?_) (fun c43 => ?_)
    · skip
      exact v_sub [1, 2, 3, 4, 5] _ rfl (L64  ok (fun q => c43 q.1))
    · skip
      refine v_iload hx DX12_join_46 0 rfl ?_
      refine v_if_eq hx DX12_join_48 (by omega) (fun c48 => ?_) (fun c48 => ?_)
      · skip
        have b3 : act = 3 ∧ ¬ oneB (b.fl h 5) := ⟨by omega, fun q => by unfold oneB at q; omega⟩
        refine v_push hx DX12_join_61 ?_
        exact v_ri hx hBD DX12_join_63 (⟨by unfold joinA; rw [if1 ok, if1 b3], join_no ⟨⟨ρ, ha⟩, hh⟩ (fun q => q.2.1 b3)⟩)
      · skip
        refine v_iload hx DX12_join_51 0 rfl ?_
        refine v_iload hx DX12_join_53 0 rfl ?_
        refine v_push hx DX12_join_55 ?_
        refine v_isub hx DX12_join_56 ?_
        refine v_iand hx DX12_join_57 (z := andp (b.fl h 5)) (bit_andp (by omega)) ?_
        refine v_if_eq hx DX12_join_58 (by have := (andp_one (s := b.fl h 5) (by omega)).2; omega) (fun c58 => ?_) (fun c58 => ?_)
        · skip
          exact v_sub [1, 2, 3, 4, 5] _ rfl (L64  ok (fun q => q.2 ((andp_one (by omega)).1.mp c58)))
        · skip
          have b3 : act = 3 ∧ ¬ oneB (b.fl h 5) := ⟨by omega, fun q => c58 ((andp_one (by omega)).1.mpr q)⟩
          refine v_push hx DX12_join_61 ?_
          exact v_ri hx hBD DX12_join_63 (⟨by unfold joinA; rw [if1 ok, if1 b3], join_no ⟨⟨ρ, ha⟩, hh⟩ (fun q => q.2.1 b3)⟩)
  refine v_iload hx DX12_join_0 1 rfl ?_
  refine v_cSp hx DX12_join_1 CSRX12_199 [iv f] (r_isFunction l G Λ sz μ (by omega)) rfl rfl (Nat.le_of_ble_eq_true rfl) (by decide) ⟨Nat.le_refl _, Nat.le_refl _⟩ ?_
  have br1 := bz_rng (0 ≤ f ∧ f ≤ 2)
  refine v_if_eq hx DX12_join_4 (by omega) (fun c4 => ?_) (fun c4 => ?_)
  · skip
    have d4 := bzf c4
    have nk : ¬ joinOK b f act g h := fun q => d4 q.1
    refine v_push hx DX12_join_31 ?_
    exact v_ri hx hBD DX12_join_32 (⟨by unfold joinA; rw [if0 nk], join_no ⟨⟨ρ, ha⟩, hh⟩ (fun q => nk q.1)⟩)
  · skip
    have d4 := bzt c4
    refine v_iload hx DX12_join_7 2 rfl ?_
    refine v_push hx DX12_join_8 ?_
    refine v_push hx DX12_join_9 ?_
    refine v_cSp hx DX12_join_10 CSRX12_121 [iv act, iv 0, iv 3] (r_in l G Λ sz μ (by omega) (by omega) (by omega)) rfl rfl (Nat.le_of_ble_eq_true rfl) (by decide) ⟨Nat.le_refl _, Nat.le_refl _⟩ ?_
    have br10 := bz_rng (0 ≤ act ∧ act ≤ 3)
    refine v_if_eq hx DX12_join_13 (by omega) (fun c13 => ?_) (fun c13 => ?_)
    · skip
      have d13 := bzf c13
      have nk : ¬ joinOK b f act g h := fun q => d13 q.2.1
      refine v_push hx DX12_join_31 ?_
      exact v_ri hx hBD DX12_join_32 (⟨by unfold joinA; rw [if0 nk], join_no ⟨⟨ρ, ha⟩, hh⟩ (fun q => nk q.1)⟩)
    · skip
      have d13 := bzt c13
      refine v_iload hx DX12_join_16 3 rfl ?_
      refine v_cSp hx DX12_join_17 CSRX12_199 [iv g] (r_isFunction l G Λ sz μ (by omega)) rfl rfl (Nat.le_of_ble_eq_true rfl) (by decide) ⟨Nat.le_refl _, Nat.le_refl _⟩ ?_
      have br17 := bz_rng (0 ≤ g ∧ g ≤ 2)
      refine v_if_eq hx DX12_join_20 (by omega) (fun c20 => ?_) (fun c20 => ?_)
      · skip
        have d20 := bzf c20
        have nk : ¬ joinOK b f act g h := fun q => d20 q.2.2.1
        refine v_push hx DX12_join_31 ?_
        exact v_ri hx hBD DX12_join_32 (⟨by unfold joinA; rw [if0 nk], join_no ⟨⟨ρ, ha⟩, hh⟩ (fun q => nk q.1)⟩)
      · skip
        have d20 := bzt c20
        refine v_iload hx DX12_join_23 4 rfl ?_
        refine v_cSp hx DX12_join_25 CSRX12_199 [iv h] (r_isFunction l G Λ sz μ (by omega)) rfl rfl (Nat.le_of_ble_eq_true rfl) (by decide) ⟨Nat.le_refl _, Nat.le_refl _⟩ ?_
        have br25 := bz_rng (0 ≤ h ∧ h ≤ 2)
        refine v_if_ne hx DX12_join_28 (by omega) (fun c28 => ?_) (fun c28 => ?_)
        · skip
          have d28 := bzt c28
          exact v_sub [0, 1, 2, 3, 4] _ rfl (L33  ⟨d4, d13, d20, d28⟩)
        · skip
          have d28 := bzf c28
          have nk : ¬ joinOK b f act g h := fun q => d28 q.2.2.2
          refine v_push hx DX12_join_31 ?_
          exact v_ri hx hBD DX12_join_32 (⟨by unfold joinA; rw [if0 nk], join_no ⟨⟨ρ, ha⟩, hh⟩ (fun q => nk q.1)⟩)
