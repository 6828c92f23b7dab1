theorem her_end {N D W Q R M : PS} {n : Nat} (h : HI N D W Q R M n) (hc : (M.thk 1).size ≤ 1) : M = D.dv D.thn := by
  obtain ⟨⟨hN, hD, hD0, hDs, hDm, hW⟩, ⟨hM, hM0, hMm, hMs⟩, hml, hn, hSI, hQ, hR, hRs⟩ := h
  obtain ⟨hEf, hE0, hEd, hEs⟩ := PS.thn_spec hD hD0 (by omega)
  obtain ⟨eD, r1, r2, r3⟩ := thn_dv hD hD0 (by omega)
  obtain ⟨t1, t2, -, t4⟩ := PS.thk_spec hM hM0 (by omega) 1
  have hrm : (D.dv D.thn).mnc := PS.mnc_left r1 hEf r2 hE0 (by rw [← eD]; exact hDm) (PS.mnc_gcd hD (PS.fin_der hD) hD0)
  have key : ∀ (P : PS) (i j : Nat), P.irr → P.mlt M i → P.mlt (D.dv D.thn) j → i = j := by
    intro P i j hP hi hj
    obtain ⟨e, he, -⟩ := PS.mlt_ex hP _ D hD hD0 (Nat.le_refl _)
    have q1 := PS.mlt_un hP hi (hml P e hP he)
    have q2 := PS.mlt_mul' hP hj (PS.thn_mlt hP hD hD0 (by omega) he)
    rw [← eD] at q2
    have q3 := PS.mlt_un hP he q2
    have q4 := PS.mlt_lt hP t1 t2 (t4 P i hP hi)
    have q5 := hP.2.1
    have q6 : i - 1 = 0 := by
      apply Classical.byContradiction
      intro z
      have := q4.2 (by omega)
      omega
    omega
  refine PS.eq_mnc hM r1 hM0 r2 hMm hrm ?_ ?_
  · exact PS.dvd_mlt' M.size M _ hM r1 hM0 r2 (Nat.le_refl _) (fun P hP i j hi hj => by rw [key P i j hP hi hj]; exact Nat.le_refl _)
  · exact PS.dvd_mlt' _ _ M r1 hM r2 hM0 (Nat.le_refl _) (fun P hP i j hi hj => by rw [key P j i hP hj hi]; exact Nat.le_refl _)
/-- what is done with the polynomial part -/
def MW (W X H G : PS) : Prop := H.fin ∧ G.fin ∧ X = (H.der.add (W.mul H)).add G ∧ (W = PS.zero → G = PS.zero ∧ H 0 = 0 ∧ (H = PS.zero ∨ (X ≠ PS.zero ∧ H.size ≤ X.size + 1))) ∧ (W ≠ PS.zero → G.lt (W.size - 1) ∧ (H = PS.zero ∨ (H.size + W.size ≤ X.size + 1 ∧ W.size ≤ X.size)))
theorem spl_of {N D W Q R M H G : PS} {n : Nat} (h : HI N D W Q R M n) (hM : M = D.dv D.thn) (hmw : MW W (R.dv M) H G) : SPL N D W (Q.add (H.mul D.thn)) ((R.md M).add (G.mul M)) := by
  obtain ⟨⟨hN, hD, hD0, hDs, hDm, hW⟩, ⟨hMf, hM0, hMm, hMs⟩, hml, hn, hSI, hQ, hR, hRs⟩ := h
  obtain ⟨hH, hG, hX, hw0, hw1⟩ := hmw
  obtain ⟨mn, hmn, hMz⟩ := PS.fne_isz hMf hM0
  obtain ⟨NR, hNR⟩ := hR
  have hd := PS.div_spec hMz hNR
  have hXs : R.dv M ≠ PS.zero → (R.dv M).size + M.size ≤ R.size + 1 := by
    intro hx
    have hl : (R.dv M).lt (R.size + 1 - M.size) := by
      rcases Nat.lt_or_ge R.size M.size with q | q
      · exfalso
        apply hx
        exact (PS.md_eq (p := R) (r := R) hMz (PS.zero_lt 0) (PS.lt_mono (PS.lt_size hNR) (by omega)) (PS.div0 _ _)).2
      · exact PS.dv_lt hMz (PS.lt_mono (PS.lt_size hNR) (by omega))
    have h1 := PS.size_le hl
    have h2 : 0 < (R.dv M).size := PS.fpos ⟨_, hl⟩ hx
    omega
  have hMp := PS.fpos hMf hM0
  refine ⟨Q, H, R.md M, G, hQ, ?_, hH, hG, rfl, by rw [hM], ?_, ?_, ?_⟩
  · rw [← hM, show M.size - 1 = mn by omega]; exact hd.2.1
  · intro hw
    obtain ⟨g1, g2, g3⟩ := hw0 hw
    refine ⟨g1, g2, ?_⟩
    rcases g3 with z | ⟨z1, z2⟩
    · exact Or.inl z
    · right
      have := hXs z1
      have hWs : W.size = 0 := by rw [hw, PS.size_zero]
      have hp : 0 < (R.dv M).size := PS.fpos ⟨_, hd.2.2⟩ z1
      unfold gdI at hRs
      omega
  · intro hw
    obtain ⟨g1, g2⟩ := hw1 hw
    refine ⟨g1, ?_⟩
    rcases g2 with z | ⟨z1, z2⟩
    · exact Or.inl z
    · right
      have hWp := PS.fpos hW hw
      have hx : R.dv M ≠ PS.zero := PS.ne_of_size (by omega)
      have := hXs hx
      unfold gdI at hRs
      omega
  · rw [← hM]
    exact SI.whole hd.1 hX hSI
