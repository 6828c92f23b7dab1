/-! ===== the history: boards η + 1 (the row), its boards η + 2 + 3 k; size, next ===== -/
def histK (Λ : Lay) (η : Nat) : Prop := Λ η = some (.inl (2, [some (.ref (η + 1)), none, none])) ∧ Λ (η + 1) = some (.inr (3, 6, [some (η + 2), some (η + 5), some (η + 8), some (η + 11), some (η + 14), some (η + 17)])) ∧ ∀ k : Nat, k < 6 → boardK Λ (η + 2 + 3 * k)
def FrI (lo hi : Nat) (μ μ' : Mem) : Prop := (∀ a, a < lo ∨ hi < a → μ'.1 a = μ.1 a) ∧ μ'.2 = μ.2
theorem FrI.rf {lo hi : Nat} {μ : Mem} : FrI lo hi μ μ := ⟨fun _ _ => rfl, rfl⟩
theorem FrI.trans {lo hi : Nat} {μ μ1 μ2 : Mem} (h : FrI lo hi μ μ1) (h' : FrI lo hi μ1 μ2) : FrI lo hi μ μ2 := ⟨fun a ha => (h'.1 a ha).trans (h.1 a ha), h'.2.trans h.2⟩
theorem FrI.mono {lo hi lo' hi' : Nat} {μ μ1 : Mem} (h : FrI lo hi μ μ1) (h1 : lo' ≤ lo) (h2 : hi ≤ hi') : FrI lo' hi' μ μ1 := ⟨fun a ha => h.1 a (by omega), h.2⟩
theorem FrI.mI {lo hi a : Nat} {μ : Mem} {i z : Int} (h : lo ≤ a ∧ a ≤ hi) : FrI lo hi μ (mI μ a i z) := ⟨fun b hb => mI_ne (by omega), rfl⟩
theorem FrB.i {β : Nat} {μ μ' : Mem} (h : FrB β μ μ') : FrI β (β + 2) μ μ' := ⟨fun a ha => h.1 a (by simp; omega), h.2⟩
theorem FrI.l {lo hi : Nat} {μ μ' : Mem} {S : List Nat} (h : Fr S μ μ') (hs : ∀ a ∈ S, lo ≤ a ∧ a ≤ hi) : FrI lo hi μ μ' := ⟨fun a ha => h.1 a (fun q => by have := hs a q; omega), h.2⟩
theorem BA.i {μ μ' : Mem} {β lo hi : Nat} {b : Bd} (h : BA μ β b) (hf : FrI lo hi μ μ') (ho : β + 2 < lo ∨ hi < β) : BA μ' β b :=
  ⟨h.1, fun j h0 h1 => by rw [hf.1 _ (by omega)]; exact h.2.1 j h0 h1, fun j h0 h1 => by rw [hf.1 _ (by omega)]; exact h.2.2.1 j h0 h1, by rw [hf.1 _ (by omega)]; exact h.2.2.2.1, by rw [hf.1 _ (by omega)]; exact h.2.2.2.2⟩
/-- no cell from lo to hi is a polynomial's -/
def offP (Λ : Lay) (lo hi : Nat) : Prop := ∀ a, lo ≤ a → a ≤ hi → ¬ polyC Λ a
theorem AB.i {Λ : Lay} {μ μ' : Mem} {π : Nat → PS} {lo hi : Nat} (h : AB Λ μ π) (ho : offP Λ lo hi) (hf : FrI lo hi μ μ') : AB Λ μ' π := by
  intro a ha
  have e1 : μ'.1 a = μ.1 a := by
    by_cases c : lo ≤ a ∧ a ≤ hi
    · exact absurd (Or.inl ha) (ho a c.1 c.2)
    · exact hf.1 a (by omega)
  have e2 : μ'.1 (a + 1) = μ.1 (a + 1) := by
    by_cases c : lo ≤ a + 1 ∧ a + 1 ≤ hi
    · exact absurd (Or.inr ⟨a, rfl, ha⟩) (ho _ c.1 c.2)
    · exact hf.1 _ (by omega)
  have hp := h a ha
  exact ⟨⟨hp.1.1, fun j h0 h1 => by rw [e2]; exact hp.1.2 j h0 h1⟩, by rw [e1]; exact hp.2⟩
theorem histK.off {Λ : Lay} {η : Nat} (h : histK Λ η) : offP Λ η (η + 19) := by
  intro a h0 h1
  by_cases c0 : a = η
  · subst c0
    rintro (q | ⟨b, rfl, q⟩)
    · have := h.1.symm.trans q.1; simp at this
    · have := h.1.symm.trans q.2; simp at this
  by_cases c1 : a = η + 1
  · subst c1
    rintro (q | ⟨b, e, q⟩)
    · have := h.2.1.symm.trans q.1; simp at this
    · have e2 : η = b := by omega
      subst e2
      have := h.1.symm.trans q.1; simp at this
  have o := (h.2.2 ((a - η - 2) / 3) (by omega)).off
  have : a = η + 2 + 3 * ((a - η - 2) / 3) ∨ a = η + 2 + 3 * ((a - η - 2) / 3) + 1 ∨ a = η + 2 + 3 * ((a - η - 2) / 3) + 2 := by omega
  rcases this with e | e | e
  · rw [e]; exact o.1
  · rw [e]; exact o.2.1
  · rw [e]; exact o.2.2
theorem hrow {η : Nat} {z : Int} (h : 0 ≤ z ∧ z < 6) : ([some (η + 2), some (η + 5), some (η + 8), some (η + 11), some (η + 14), some (η + 17)] : List (Option Nat)).getD z.toNat none = some (η + 2 + 3 * z.toNat) := by
  have : z = 0 ∨ z = 1 ∨ z = 2 ∨ z = 3 ∨ z = 4 ∨ z = 5 := by omega
  rcases this with rfl | rfl | rfl | rfl | rfl | rfl <;> rfl
/-- what the history holds: how many states, and the i-th latest -/
abbrev Hs : Type := Nat × (Nat → Bd)
def HA (μ : Mem) (η : Nat) (h : Hs) : Prop := ∃ (B : Nat → Bd) (nx : Nat), nx < 6 ∧ h.1 ≤ 6 ∧ μ.1 η 1 = (h.1 : Int) ∧ μ.1 η 2 = (nx : Int) ∧ (∀ k, k < 6 → BA μ (η + 2 + 3 * k) (B k)) ∧ ∀ i, i < h.1 → h.2 i = B ((nx + 5 - i) % 6)
def Hs.push (h : Hs) (b : Bd) : Hs := (min (h.1 + 1) 6, fun i => if i = 0 then b else h.2 (i - 1))
def Hs.pop (h : Hs) : Hs := (h.1 - 1, fun i => h.2 (i + 1))
theorem HA.i {μ μ' : Mem} {η lo hi : Nat} {h : Hs} (hh : HA μ η h) (hf : FrI lo hi μ μ') (ho : η + 19 < lo ∨ hi < η) : HA μ' η h := by
  obtain ⟨B, nx, h1, h2, h3, h4, h5, h6⟩ := hh
  exact ⟨B, nx, h1, h2, by rw [hf.1 _ (by omega)]; exact h3, by rw [hf.1 _ (by omega)]; exact h4, fun k hk => (h5 k hk).i hf (by omega), h6⟩
theorem hist_push {μ m m1 m2 : Mem} {η : Nat} {h : Hs} {b : Bd} {B : Nat → Bd} {nx : Nat} (q1 : nx < 6) (q2 : h.1 ≤ 6) (q5 : ∀ k, k < 6 → BA μ (η + 2 + 3 * k) (B k)) (q6 : ∀ i, i < h.1 → h.2 i = B ((nx + 5 - i) % 6))
    (hb : BA m (η + 2 + 3 * nx) b) (hf : FrB (η + 2 + 3 * nx) μ m) (e1 : m1 = mI m η 2 (((nx : Int) + 1) % 6)) (e2 : m2 = mI m1 η 1 (min ((h.1 : Int) + 1) 6)) : HA m2 η (h.push b) ∧ FrI η (η + 19) μ m2 := by
  have f2 : FrI η η m m2 := by rw [e2, e1]; exact (FrI.mI (by omega)).trans (FrI.mI (by omega))
  refine ⟨⟨fun k => if k = nx then b else B k, (nx + 1) % 6, by omega, by show min (h.1 + 1) 6 ≤ 6; omega, ?_, ?_, fun k hk => ?_, fun i hi => ?_⟩, (hf.i.mono (by omega) (by omega)).trans (f2.mono (by omega) (by omega))⟩
  · rw [e2, mI_at, if_pos rfl]
    show min ((h.1 : Int) + 1) 6 = ((min (h.1 + 1) 6 : Nat) : Int)
    omega
  · rw [e2, mI_at, if_neg (by omega), e1, mI_at, if_pos rfl]; omega
  · by_cases c : k = nx
    · subst c
      show BA m2 _ (if k = k then b else B k)
      rw [if_pos rfl]
      exact hb.i f2 (by omega)
    · show BA m2 _ (if k = nx then b else B k)
      rw [if_neg c]
      exact ((q5 k hk).i hf.i (by omega)).i f2 (by omega)
  · have hi2 : i < min (h.1 + 1) 6 := hi
    show (if i = 0 then b else h.2 (i - 1)) = if ((nx + 1) % 6 + 5 - i) % 6 = nx then b else B (((nx + 1) % 6 + 5 - i) % 6)
    by_cases c : i = 0
    · rw [if_pos c, if_pos (by omega)]
    · rw [if_neg c, if_neg (by omega), q6 (i - 1) (by omega)]
      congr 1
      omega
theorem hist_pop {μ m1 m2 m : Mem} {η β : Nat} {h : Hs} {B : Nat → Bd} {nx : Nat} (q1 : nx < 6) (q2 : h.1 ≤ 6) (h0 : h.1 ≠ 0) (q5 : ∀ k, k < 6 → BA μ (η + 2 + 3 * k) (B k)) (q6 : ∀ i, i < h.1 → h.2 i = B ((nx + 5 - i) % 6)) (ho : β + 2 < η ∨ η + 19 < β)
    (e1 : m1 = mI μ η 1 ((h.1 : Int) - 1)) (e2 : m2 = mI m1 η 2 ((nx + 5) % 6 : Nat)) (hf : FrB β m2 m) : HA m η h.pop := by
  have f2 : FrI η η μ m2 := by rw [e2, e1]; exact (FrI.mI (by omega)).trans (FrI.mI (by omega))
  refine ⟨B, (nx + 5) % 6, by omega, by show h.1 - 1 ≤ 6; omega, ?_, ?_, fun k hk => ((q5 k hk).i f2 (by omega)).i hf.i (by omega), fun i hi => ?_⟩
  · rw [hf.i.1 _ (by omega), e2, mI_at, if_neg (by omega), e1, mI_at, if_pos rfl]
    show (h.1 : Int) - 1 = ((h.1 - 1 : Nat) : Int)
    omega
  · rw [hf.i.1 _ (by omega), e2, mI_at, if_pos rfl]
  · have hi2 : i < h.1 - 1 := hi
    show h.2 (i + 1) = _
    rw [q6 (i + 1) (by omega)]
    congr 1
    omega
theorem hist_become {μ m : Mem} {η : Nat} {g : Hs} {B C : Nat → Bd} {nx : Nat} (q1 : nx < 6) (q2 : g.1 ≤ 6) (h1 : ∀ i, i < 6 → BA m (η + 2 + 3 * i) (C i)) (h2 : ∀ i, i < 6 → C i = B i) (q6 : ∀ i, i < g.1 → g.2 i = B ((nx + 5 - i) % 6)) (hm : FrI η (η + 19) μ m) : HA (mI (mI m η 1 (g.1 : Int)) η 2 (nx : Int)) η g ∧ FrI η (η + 19) μ (mI (mI m η 1 (g.1 : Int)) η 2 (nx : Int)) := by
  have f2 : FrI η η m (mI (mI m η 1 (g.1 : Int)) η 2 (nx : Int)) := (FrI.mI (by omega)).trans (FrI.mI (by omega))
  refine ⟨⟨B, nx, q1, q2, ?_, ?_, fun k hk => h2 k hk ▸ (h1 k hk).i f2 (by omega), q6⟩, hm.trans (f2.mono (by omega) (by omega))⟩
  · rw [mI_at, if_neg (by omega), mI_at, if_pos rfl]
  · rw [mI_at, if_pos rfl]
theorem mI_ne2 {μ : Mem} {a : Nat} {i j z : Int} (h : j ≠ i) : (mI μ a i z).1 a j = μ.1 a j := by rw [mI_at, if_neg h]
theorem mI_at2 {μ : Mem} {a : Nat} {i j z : Int} (h : j = i) : (mI μ a i z).1 a j = z := by rw [mI_at, if_pos h]
theorem h_push (l : Launch) (G : Gl) (Λ : Lay) (sz : Nat) (μ : Mem) {η β : Nat} {h : Hs} {b : Bd} (hH : histK Λ η) (hK : boardK Λ β) (hh : HA μ η h) (hb : BA μ β b) (ho : β + 2 < η ∨ η + 19 < β) : Sp l G yX2_push cX2_push 2 none 2 [.ref η, .ref β] Λ sz μ (pV (fun μ' => HA μ' η (h.push b) ∧ FrI η (η + 19) μ μ')) := by
  refine Sp.intro (by decide) (Nat.le_of_ble_eq_true rfl) (fun x hx hBD => ?_)
  refine v_lv [(0, .ref η), (1, .ref β)] rfl ?_
  obtain ⟨B, nx, q1, q2, q3, q4, q5, q6⟩ := hh
  refine v_aload hx DX2_push_0 0 rfl ?_
  refine v_get hx DX2_push_1 FLRX2_21 hH.1 (fv_i rfl q4 : _ = iv (nx : Int)) ?_
  refine v_if_lt hx DX2_push_4 (by omega) (fun c4 => ?_) (fun c4 => ?_)
  · exact absurd c4 (by omega)
  · skip
    refine v_aload hx DX2_push_7 0 rfl ?_
    refine v_get hx DX2_push_8 FLRX2_21 hH.1 (fv_i rfl q4 : _ = iv (nx : Int)) ?_
    refine v_aload hx DX2_push_11 0 rfl ?_
    refine v_get hx DX2_push_12 FLRX2_11 hH.1 (v := .ref (η + 1)) rfl ?_
    refine v_alenI hx DX2_push_15 hH.2.1 (by decide) (z := 6) rfl ?_
    refine v_icmp_ge hx DX2_push_16 (by omega) (by decide) (fun c16 => ?_) (fun c16 => ?_)
    · exact absurd c16 (by omega)
    · skip
      refine v_aload hx DX2_push_19 0 rfl ?_
      refine v_get hx DX2_push_20 FLRX2_11 hH.1 (v := .ref (η + 1)) rfl ?_
      refine v_aload hx DX2_push_23 0 rfl ?_
      refine v_get hx DX2_push_24 FLRX2_21 hH.1 (fv_i rfl q4 : _ = iv (nx : Int)) ?_
      refine v_aald hx DX2_push_27 hH.2.1 (by decide) (by omega) (by decide) (b := η + 2 + 3 * nx) (hrow (η := η) (z := (nx : Int)) (by omega)) ?_
      refine v_aload hx DX2_push_28 1 rfl ?_
      refine v_cVv hx DX2_push_29 CVRX2_25 [.ref β] (b_become l G Λ sz μ (hH.2.2 nx q1) (q5 nx q1) hK hb (by omega)) (hH.2.2 nx (by omega)).1 rfl rfl (Nat.le_of_ble_eq_true rfl) (by decide) ⟨Nat.le_refl _, Nat.le_refl _⟩ (fun μ1 hμ1 => ?_)
      refine v_aload hx DX2_push_32 0 rfl ?_
      refine v_aload hx DX2_push_33 0 rfl ?_
      refine v_get hx DX2_push_34 FLRX2_21 hH.1 (fv_i rfl (by rw [hμ1.2.i.1 _ (by omega)]; exact q4) : _ = iv (nx : Int)) ?_
      refine v_push hx DX2_push_37 ?_
      refine v_iadd hx DX2_push_38 ?_
      refine v_push hx DX2_push_39 ?_
      refine v_irem hx (by omega) (by decide) DX2_push_41 ?_
      refine v_pI hx DX2_push_42 FPRX2_21 hH.1 rfl (ki := 2) rfl (fun μ3 eμ3 => ?_)
      refine v_aload hx DX2_push_45 0 rfl ?_
      refine v_aload hx DX2_push_46 0 rfl ?_
      refine v_get hx DX2_push_47 FLRX2_17 hH.1 (fv_i rfl (by rw [eμ3, mI_ne2 (by decide), hμ1.2.i.1 _ (by omega)]; exact q3) : _ = iv (h.1 : Int)) ?_
      refine v_push hx DX2_push_50 ?_
      refine v_iadd hx DX2_push_51 ?_
      refine v_push hx DX2_push_52 ?_
      refine v_cSp hx DX2_push_54 CSRX2_29 [iv ((h.1 : Int) + 1), iv 6] (s_min l G Λ sz μ3 (by omega) (by omega)) rfl rfl (Nat.le_of_ble_eq_true rfl) (by decide) ⟨Nat.le_refl _, Nat.le_refl _⟩ ?_
      refine v_pI hx DX2_push_57 FPRX2_17 hH.1 rfl (ki := 1) rfl (fun μ6 eμ6 => ?_)
      exact v_rv hx hBD DX2_push_60 (hist_push q1 q2 q5 q6 hμ1.1 hμ1.2 eμ3 eμ6)
theorem h_pop (l : Launch) (G : Gl) (Λ : Lay) (sz : Nat) (μ : Mem) {η β : Nat} {h : Hs} {b : Bd} (hH : histK Λ η) (hK : boardK Λ β) (hh : HA μ η h) (hb : BA μ β b) (ho : β + 2 < η ∨ η + 19 < β) : Sp l G yX2_pop cX2_pop 2 (some FieldType.boolean) 2 [.ref η, .ref β] Λ sz μ (pI (fun z μ' => (z = 0 ∧ h.1 = 0 ∧ μ' = μ) ∨ (z = 1 ∧ h.1 ≠ 0 ∧ HA μ' η h.pop ∧ BA μ' β (h.2 0) ∧ ∃ m, FrI η η μ m ∧ FrB β m μ'))) := by
  refine Sp.intro (by decide) (Nat.le_of_ble_eq_true rfl) (fun x hx hBD => ?_)
  refine v_lv [(0, .ref η), (1, .ref β)] rfl ?_
  have hh2 := hh
  obtain ⟨B, nx, q1, q2, q3, q4, q5, q6⟩ := hh
  refine v_aload hx DX2_pop_0 0 rfl ?_
  refine v_get hx DX2_pop_1 FLRX2_17 hH.1 (fv_i rfl q3 : _ = iv (h.1 : Int)) ?_
  refine v_if_ne hx DX2_pop_4 (by omega) (fun c4 => ?_) (fun c4 => ?_)
  · skip
    refine v_aload hx DX2_pop_9 0 rfl ?_
    refine v_dup hx DX2_pop_10 rfl ?_
    refine v_get hx DX2_pop_11 FLRX2_17 hH.1 (fv_i rfl q3 : _ = iv (h.1 : Int)) ?_
    refine v_push hx DX2_pop_14 ?_
    refine v_isub hx DX2_pop_15 ?_
    refine v_pI hx DX2_pop_16 FPRX2_17 hH.1 rfl (ki := 1) rfl (fun μ1 eμ1 => ?_)
    refine v_aload hx DX2_pop_19 0 rfl ?_
    refine v_aload hx DX2_pop_20 0 rfl ?_
    refine v_get hx DX2_pop_21 FLRX2_21 hH.1 (fv_i rfl (by rw [eμ1, mI_ne2 (by decide)]; exact q4) : _ = iv (nx : Int)) ?_
    refine v_push hx DX2_pop_24 ?_
    refine v_iadd hx DX2_pop_26 ?_
    refine v_push hx DX2_pop_27 ?_
    refine v_isub hx DX2_pop_28 ?_
    refine v_push hx DX2_pop_29 ?_
    refine v_irem hx (by omega) (by decide) DX2_pop_31 ?_
    refine v_pI hx DX2_pop_32 FPRX2_21 hH.1 rfl (ki := 2) rfl (fun μ2 eμ2 => ?_)
    have f2 : FrI η η μ μ2 := by rw [eμ2, eμ1]; exact (FrI.mI (by omega)).trans (FrI.mI (by omega))
    refine v_aload hx DX2_pop_35 0 rfl ?_
    refine v_get hx DX2_pop_36 FLRX2_21 hH.1 (fv_i rfl (by rw [eμ2, mI_at2 (i := 2) (j := ((2 : Nat) : Int)) (by decide)]; omega) : _ = iv (((nx + 5) % 6 : Nat) : Int)) ?_
    refine v_if_lt hx DX2_pop_39 (by omega) (fun c39 => ?_) (fun c39 => ?_)
    · exact absurd c39 (by omega)
    · skip
      refine v_aload hx DX2_pop_42 0 rfl ?_
      refine v_get hx DX2_pop_43 FLRX2_21 hH.1 (fv_i rfl (by rw [eμ2, mI_at2 (i := 2) (j := ((2 : Nat) : Int)) (by decide)]; omega) : _ = iv (((nx + 5) % 6 : Nat) : Int)) ?_
      refine v_aload hx DX2_pop_46 0 rfl ?_
      refine v_get hx DX2_pop_47 FLRX2_11 hH.1 (v := .ref (η + 1)) rfl ?_
      refine v_alenI hx DX2_pop_50 hH.2.1 (by decide) (z := 6) rfl ?_
      refine v_icmp_ge hx DX2_pop_51 (by omega) (by decide) (fun c51 => ?_) (fun c51 => ?_)
      · exact absurd c51 (by omega)
      · skip
        refine v_aload hx DX2_pop_54 1 rfl ?_
        refine v_aload hx DX2_pop_55 0 rfl ?_
        refine v_get hx DX2_pop_56 FLRX2_11 hH.1 (v := .ref (η + 1)) rfl ?_
        refine v_aload hx DX2_pop_59 0 rfl ?_
        refine v_get hx DX2_pop_60 FLRX2_21 hH.1 (fv_i rfl (by rw [eμ2, mI_at2 (i := 2) (j := ((2 : Nat) : Int)) (by decide)]; omega) : _ = iv (((nx + 5) % 6 : Nat) : Int)) ?_
        refine v_aald hx DX2_pop_63 hH.2.1 (by decide) (by omega) (by decide) (b := η + 2 + 3 * ((nx + 5) % 6)) (hrow (η := η) (z := (((nx + 5) % 6 : Nat) : Int)) (by omega)) ?_
        refine v_cVv hx DX2_pop_64 CVRX2_25 [.ref (η + 2 + 3 * ((nx + 5) % 6))] (b_become l G Λ sz μ2 hK (hb.i f2 (by omega)) (hH.2.2 _ (by omega)) ((q5 _ (by omega)).i f2 (by omega)) (by omega)) hK.1 rfl rfl (Nat.le_of_ble_eq_true rfl) (by decide) ⟨Nat.le_refl _, Nat.le_refl _⟩ (fun μ3 hμ3 => ?_)
        refine v_push hx DX2_pop_67 ?_
        exact v_rz hx hBD (by omega) DX2_pop_68 (Or.inr ⟨rfl, by omega, hist_pop q1 q2 (by omega) q5 q6 ho eμ1 (by rw [eμ2]; congr 1; omega) hμ3.2, by rw [q6 0 (by omega)]; exact hμ3.1, _, f2, hμ3.2⟩)
  · skip
    refine v_push hx DX2_pop_7 ?_
    exact v_rz hx hBD (by omega) DX2_pop_8 (Or.inl ⟨rfl, by omega, rfl⟩)
theorem h_become (l : Launch) (G : Gl) (Λ : Lay) (sz : Nat) (μ : Mem) {η α : Nat} {h g : Hs} (hH : histK Λ η) (hH2 : histK Λ α) (hh : HA μ η h) (hg : HA μ α g) (ho : α + 19 < η ∨ η + 19 < α) : Sp l G yX2_become cX2_become 3 none 2 [.ref η, .ref α] Λ sz μ (pV (fun μ' => HA μ' η g ∧ FrI η (η + 19) μ μ')) := by
  refine Sp.intro (by decide) (Nat.le_of_ble_eq_true rfl) (fun x hx hBD => ?_)
  refine v_lv [(0, .ref η), (1, .ref α)] rfl ?_
  obtain ⟨D, ny, r1, r2, r3, r4, r5, r6⟩ := hh
  obtain ⟨B, nx, q1, q2, q3, q4, q5, q6⟩ := hg
  have L2 : ∀ (nf : Nat) (k : Int) (C : Nat → Bd) (m : Mem), (6 - k < (nf : Int)) → (0 ≤ k ∧ k ≤ 6) → (FrI η (η + 19) μ m) → (∀ i : Nat, i < 6 → BA m (η + 2 + 3 * i) (C i)) → (∀ i : Nat, (i : Int) < k → C i = B i) → V G x (0, 0) Λ sz m 2 [(2, iv k), (0, .ref η), (1, .ref α)] [] := by
    intro nf
    induction nf with
    | zero => intro k C m hm hk hm hC1 hC2; exact absurd hm (by omega)
    | succ nf ih =>
      intro k C m hm hk hm hC1 hC2
      refine v_iload hx DX2_become_2 0 rfl ?_
      refine v_aload hx DX2_become_3 1 rfl ?_
      refine v_get hx DX2_become_4 FLRX2_11 hH.1 (v := .ref (η + 1)) rfl ?_
      refine v_alenI hx DX2_become_7 hH.2.1 (by decide) (z := 6) rfl ?_
      refine v_icmp_ge hx DX2_become_8 (by omega) (by decide) (fun c8 => ?_) (fun c8 => ?_)
      · skip
        refine v_aload hx DX2_become_41 1 rfl ?_
        refine v_aload hx DX2_become_42 2 rfl ?_
        refine v_get hx DX2_become_43 FLRX2_17 hH2.1 (fv_i rfl (by rw [hm.1 _ (by omega)]; exact q3) : _ = iv (g.1 : Int)) ?_
        refine v_pI hx DX2_become_46 FPRX2_17 hH.1 rfl (ki := 1) rfl (fun μ1 eμ1 => ?_)
        refine v_aload hx DX2_become_49 1 rfl ?_
        refine v_aload hx DX2_become_50 2 rfl ?_
        refine v_get hx DX2_become_51 FLRX2_21 hH2.1 (fv_i rfl (by rw [eμ1, mI_ne (by omega), hm.1 _ (by omega)]; exact q4) : _ = iv (nx : Int)) ?_
        refine v_pI hx DX2_become_54 FPRX2_21 hH.1 rfl (ki := 2) rfl (fun μ2 eμ2 => ?_)
        exact v_rv hx hBD DX2_become_57 (by rw [eμ2, eμ1]; exact hist_become q1 q2 hC1 (fun i hi => hC2 i (by omega)) q6 hm)
      · skip
        refine v_iload hx DX2_become_11 0 rfl ?_
        refine v_aload hx DX2_become_12 2 rfl ?_
        refine v_get hx DX2_become_13 FLRX2_11 hH2.1 (v := .ref (α + 1)) rfl ?_
        refine v_alenI hx DX2_become_16 hH2.2.1 (by decide) (z := 6) rfl ?_
        refine v_icmp_ge hx DX2_become_17 (by omega) (by decide) (fun c17 => ?_) (fun c17 => ?_)
        · exact absurd c17 (by omega)
        · skip
          refine v_aload hx DX2_become_20 1 rfl ?_
          refine v_get hx DX2_become_21 FLRX2_11 hH.1 (v := .ref (η + 1)) rfl ?_
          refine v_iload hx DX2_become_24 0 rfl ?_
          refine v_aald hx DX2_become_25 hH.2.1 (by decide) (by omega) (by decide) (b := η + 2 + 3 * k.toNat) (hrow (η := η) (by omega)) ?_
          refine v_aload hx DX2_become_26 2 rfl ?_
          refine v_get hx DX2_become_27 FLRX2_11 hH2.1 (v := .ref (α + 1)) rfl ?_
          refine v_iload hx DX2_become_30 0 rfl ?_
          refine v_aald hx DX2_become_31 hH2.2.1 (by decide) (by omega) (by decide) (b := α + 2 + 3 * k.toNat) (hrow (η := α) (by omega)) ?_
          refine v_cVv hx DX2_become_32 CVRX2_25 [.ref (α + 2 + 3 * k.toNat)] (b_become l G Λ sz m (hH.2.2 k.toNat (by omega)) (hC1 k.toNat (by omega)) (hH2.2.2 k.toNat (by omega)) ((q5 k.toNat (by omega)).i hm (by omega)) (by omega)) (hH.2.2 k.toNat (by omega)).1 rfl rfl (Nat.le_of_ble_eq_true rfl) (by decide) ⟨Nat.le_refl _, Nat.le_refl _⟩ (fun μ3 hμ3 => ?_)
          refine v_iinc hx DX2_become_35 0 rfl [(2, iv (k + 1)), (0, .ref η), (1, .ref α)] rfl (by decide) ?_
          refine v_goto hx DX2_become_38 ?_
          exact v_sub [0, 1, 2] _ rfl (ih (k + 1) (fun i => if i = k.toNat then B i else C i) μ3 (by omega) (by omega) (hm.trans (hμ3.2.i.mono (by omega) (by omega))) (fun i hi => by show BA _ _ (if i = k.toNat then B i else C i); exact (Classical.em (i = k.toNat)).elim (fun c => by rw [if_pos c, c]; exact hμ3.1) (fun c => by rw [if_neg c]; exact (hC1 i hi).i hμ3.2.i (by omega))) (fun i hi => by show (if i = k.toNat then B i else C i) = B i; exact (Classical.em (i = k.toNat)).elim (fun c => by rw [if_pos c]) (fun c => by rw [if_neg c]; exact hC2 i (by omega))))
  refine v_push hx DX2_become_0 ?_
  refine v_istore hx DX2_become_1 [(2, iv 0), (0, .ref η), (1, .ref α)] rfl (by decide) ?_
  exact v_sub [0, 1, 2] _ rfl (L2 100 0 D μ (by omega) (by omega) FrI.rf r5 (fun i hi => by omega))
