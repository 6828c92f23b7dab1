/-! ===== what the two constructors leave is the law's first state ===== -/
theorem OG.lc {g : Nat} : Lc g (g + 401) (OG g) :=
  ((Lc.lay.wide (by omega) (by omega)).and ((Lc.lay.wide (by omega) (by omega)).and (Lc.lay.wide (by omega) (by omega)))).and
  (((OB.lc.wide (by omega) (by omega)).and ((OH.lc.wide (by omega) (by omega)).and ((OB.lc.wide (by omega) (by omega)).and (OH.lc.wide (by omega) (by omega))))).and
  (((OK.lc.wide (by omega) (by omega)).and ((OS.lc.wide (by omega) (by omega)).and ((OPt.lc.wide (by omega) (by omega)).and ((OPt.lc.wide (by omega) (by omega)).and ((ORes.lc.wide (by omega) (by omega)).and ((ORd.lc.wide (by omega) (by omega)).and (OW.lc.wide (by omega) (by omega)))))))).and
  (((OF.lc.wide (by omega) (by omega)).and ((OF.lc.wide (by omega) (by omega)).and ((OF.lc.wide (by omega) (by omega)).and (OP.lc.wide (by omega) (by omega))))).and
  ((Lc.all (fun k hk => OSh.lc.wide (by omega) (by omega))).and ((Lc.all (fun k hk => OF.lc.wide (by omega) (by omega))).and (Lc.rg.and (fun Λ Λ' μ μ' hs q => by rw [(hs g (by omega) (by omega)).2.1]; exact q)))))))
theorem refK.np {Λ : Lay} {ν a : Nat} (hK : refK Λ ν) (g0 : ν ≤ a) (g1 : a < ν + 18) (h : ∃ fs, Λ a = some (.inl (5, fs))) : False := by
  obtain ⟨fs, h⟩ := h
  have hb : a = ν ∨ a = ν + 1 ∨ a = ν + 2 ∨ a = ν + 3 ∨ a = ν + 4 ∨ a = ν + 5 ∨ a = ν + 6 ∨ a = ν + 7 ∨ a = ν + 8 ∨ a = ν + 9 ∨ a = ν + 10 ∨ a = ν + 11 ∨ a = ν + 12 ∨ a = ν + 13 ∨ a = ν + 14 ∨ a = ν + 15 ∨ a = ν + 16 ∨ a = ν + 17 := by omega
  obtain ⟨k0, k1, k2, k3, k4, k5, k6, k7, k8, k9, k10, k11, k12, k13, k14, k15, k16, k17⟩ := hK
  rcases hb with rfl | rfl | rfl | rfl | rfl | rfl | rfl | rfl | rfl | rfl | rfl | rfl | rfl | rfl | rfl | rfl | rfl | rfl
  · rw [k0] at h; simp at h
  · rw [k1] at h; simp at h
  · rw [k2] at h; simp at h
  · rw [k3] at h; simp at h
  · rw [k4] at h; simp at h
  · rw [k5] at h; simp at h
  · rw [k6] at h; simp at h
  · rw [k7] at h; simp at h
  · rw [k8] at h; simp at h
  · rw [k9] at h; simp at h
  · rw [k10] at h; simp at h
  · rw [k11] at h; simp at h
  · rw [k12] at h; simp at h
  · rw [k13] at h; simp at h
  · rw [k14] at h; simp at h
  · rw [k15] at h; simp at h
  · rw [k16] at h; simp at h
  · rw [k17] at h; simp at h
theorem made_LX {G : Gl} {Λ0 L1 L2 : Lay} {m0 m1 m2 : Mem} {g : Nat} (h0 : ∀ a fs, a < g → Λ0 a ≠ some (.inl (5, fs))) (s1 : ∀ a, a < g → SmA Λ0 m0 L1 m1 a) (r1 : OG g L1 m1) (s2 : ∀ a, a < g + 401 → SmA L1 m1 L2 m2 a) (r2 : OR (g + 401) L2 m2) (Z2 : Zr L2 m2 (g + 401 + 18)) (hI : INV G L2) : LX G L2 g m2 := by
  obtain ⟨⟨o1, o2, o3⟩, ⟨b1, b2, b3, b4⟩, ⟨k1, k2, k3, k4, k5, k6, k7⟩, ⟨f1, f2, f3, f4⟩, sh, rs, rg, im⟩ := OG.lc L1 L2 m1 m2 (fun a _ h => s2 a h) r1
  obtain ⟨rK, -, ra, rh, ri, rt, rsh, rx⟩ := r2
  have pK : ∀ a, polyK L2 a → g ≤ a ∧ a < g + 401 := fun a ka => by
    have e5 : ∃ fs, L2 a = some (.inl (5, fs)) := ⟨_, ka.1⟩
    refine ⟨Classical.byContradiction fun q => ?_, Classical.byContradiction fun q => ?_⟩
    · obtain ⟨fs, e5⟩ := e5
      have := ((s1 a (by omega)).trans (s2 a (by omega))).1
      exact h0 a fs (by omega) (this.symm.trans e5)
    · by_cases c : a < g + 401 + 18
      · exact rK.np (by omega) c e5
      · have := (Z2 a (by omega)).1
        rw [ka.1] at this
        cases this
  have pR : ∀ a, polyK L2 a → a + 1 < g + 401 ∧ ∃ p, PA m2 a p := fun a ka => by
    have q := pK a ka
    have z := rg a q.1 q.2 ⟨_, ka.1⟩
    exact ⟨z.1, z.2.2⟩
  have hAB : ∃ π, AB L2 m2 π := by
    have e : ∀ a, ∃ p : PS, polyK L2 a → PA m2 a p := fun a => by
      by_cases ka : polyK L2 a
      · obtain ⟨-, p, hp⟩ := pR a ka; exact ⟨p, fun _ => hp⟩
      · exact ⟨PS.zero, fun q => absurd q ka⟩
    exact ⟨fun a => Classical.choose (e a), fun a ka => Classical.choose_spec (e a) ka⟩
  refine ⟨bd0, hs0, none, [], fun _ => sh0, ⟨⟨o1, ⟨b1.1, b2.1, b3.1, b4.1⟩, ⟨o2, o3⟩, ⟨k1.1, k2.1, k3.1, k4.1, k5.1, k6.1, k7.1⟩, ⟨f1.1, f2.1, f3.1, f4.1⟩, fun k hk => (sh k hk).1, fun k hk => (rs k hk).1, fun a q => ?_⟩, hI, rK⟩, ⟨hAB, b1.2.2, b2.2.2, ⟨im, bd0, hs0, b3.2.2, b4.2.2⟩, k6.2.2.1, k6.2.2.2, fun k hk => (sh k hk).2.2, ⟨[], k7.2.2⟩, fun _ _ => ⟨rfl, rfl⟩⟩, ⟨⟨ra, rh⟩, ri, rt, rsh, rx⟩, bd0_good, fun i hi => absurd hi (by simp [hs0]), fun c k e => by cases e⟩
  rcases q with q | ⟨c, rfl, q⟩
  · exact pK a q
  · have := pK c q
    have := (pR c q).1
    omega
