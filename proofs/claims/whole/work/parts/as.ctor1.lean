/-! ===== constructors: what they leave ===== -/
def Lc (lo hi : Nat) (R : Lay → Mem → Prop) : Prop := ∀ (Λ Λ' : Lay) (μ μ' : Mem), (∀ a, lo ≤ a → a < hi → SmA Λ μ Λ' μ' a) → R Λ μ → R Λ' μ'
theorem Lc.and {lo hi : Nat} {R S : Lay → Mem → Prop} (h : Lc lo hi R) (h' : Lc lo hi S) : Lc lo hi (fun Λ μ => R Λ μ ∧ S Λ μ) := fun Λ Λ' μ μ' hs q => ⟨h Λ Λ' μ μ' hs q.1, h' Λ Λ' μ μ' hs q.2⟩
theorem Lc.wide {lo hi lo' hi' : Nat} {R : Lay → Mem → Prop} (h : Lc lo hi R) (h1 : lo' ≤ lo) (h2 : hi ≤ hi') : Lc lo' hi' R := fun Λ Λ' μ μ' hs q => h Λ Λ' μ μ' (fun a g0 g1 => hs a (by omega) (by omega)) q
theorem Lc.lay {a : Nat} {kd : Kd} : Lc a (a + 1) (fun Λ _ => Λ a = some kd) := fun Λ Λ' μ μ' hs q => (hs a (by omega) (by omega)).1.trans q
theorem Lc.poly {t : Nat} : Lc t (t + 2) (fun Λ _ => polyK Λ t) := fun Λ Λ' μ μ' hs q => ⟨(hs t (by omega) (by omega)).1.trans q.1, (hs (t + 1) (by omega) (by omega)).1.trans q.2⟩
theorem Lc.frac {f : Nat} : Lc f (f + 5) (fun Λ _ => fracK Λ f) := (Lc.lay.wide (by omega) (by omega)).and ((Lc.poly.wide (by omega) (by omega)).and (Lc.poly.wide (by omega) (by omega)))
theorem Lc.all {lo hi n : Nat} {R : Nat → Lay → Mem → Prop} (h : ∀ k, k < n → Lc lo hi (R k)) : Lc lo hi (fun Λ μ => ∀ k, k < n → R k Λ μ) := fun Λ Λ' μ μ' hs q k hk => h k hk Λ Λ' μ μ' hs (q k hk)
theorem Lc.board {β : Nat} : Lc β (β + 3) (fun Λ _ => boardK Λ β) := (Lc.lay.wide (by omega) (by omega)).and ((Lc.lay.wide (by omega) (by omega)).and (Lc.lay.wide (by omega) (by omega)))
/-- all polynomials of a stretch are such, and hold something -/
def Rg (lo hi : Nat) (Λ : Lay) (μ : Mem) : Prop := ∀ a, lo ≤ a → a < hi → (∃ fs, Λ a = some (.inl (5, fs))) → a + 1 < hi ∧ polyK Λ a ∧ ∃ p, PA μ a p
theorem PA.sm {Λ Λ' : Lay} {μ μ' : Mem} {t : Nat} {p : PS} (h : PA μ t p) (h0 : SmA Λ μ Λ' μ' t) (h1 : SmA Λ μ Λ' μ' (t + 1)) : PA μ' t p := ⟨⟨h.1.1, fun j g0 g1 => by rw [h1.2.1]; exact h.1.2 j g0 g1⟩, by rw [h0.2.1]; exact h.2⟩
theorem Lc.rg {lo hi : Nat} : Lc lo hi (Rg lo hi) := fun Λ Λ' μ μ' hs q a g0 g1 g2 => by
  have s0 := hs a g0 g1
  obtain ⟨fs, e⟩ := g2
  obtain ⟨q1, q2, p, q3⟩ := q a g0 g1 ⟨fs, s0.1.symm.trans e⟩
  have s1 := hs (a + 1) (by omega) q1
  exact ⟨q1, ⟨s0.1.trans q2.1, s1.1.trans q2.2⟩, p, q3.sm s0 s1⟩
theorem Rg.app {a b c : Nat} {Λ : Lay} {μ : Mem} (h : Rg a b Λ μ) (h' : Rg b c Λ μ) (hbc : b ≤ c) : Rg a c Λ μ := fun q g0 g1 g2 => by
  by_cases e : q < b
  · obtain ⟨q1, q2⟩ := h q g0 e g2
    exact ⟨by omega, q2⟩
  · exact h' q (by omega) g1 g2
theorem Rg.one {t : Nat} {Λ : Lay} {μ : Mem} {ci : Nat} {fs : List (Option Value)} (h : Λ t = some (.inl (ci, fs))) (hc : ci ≠ 5) : Rg t (t + 1) Λ μ := fun a g0 g1 g2 => by
  obtain ⟨fs', e⟩ := g2
  have : a = t := by omega
  subst this
  rw [h] at e
  simp at e
  exact absurd e.1 hc
theorem Rg.arr {t : Nat} {Λ : Lay} {μ : Mem} {q : Nat × Nat × List (Option Nat)} (h : Λ t = some (.inr q)) : Rg t (t + 1) Λ μ := fun a g0 g1 g2 => by
  obtain ⟨fs', e⟩ := g2
  have : a = t := by omega
  subst this
  rw [h] at e
  simp at e
theorem Rg.poly {t : Nat} {Λ : Lay} {μ : Mem} {p : PS} (h : polyK Λ t) (hp : PA μ t p) : Rg t (t + 2) Λ μ := fun a g0 g1 g2 => by
  obtain ⟨fs', e⟩ := g2
  by_cases c : a = t
  · subst c; exact ⟨by omega, h, p, hp⟩
  · have : a = t + 1 := by omega
    subst this
    rw [h.2] at e
    simp at e
def OP (t : Nat) (Λ : Lay) (μ : Mem) : Prop := polyK Λ t ∧ PA μ t PS.zero
theorem OP.lc {t : Nat} : Lc t (t + 2) (OP t) := Lc.poly.and (fun Λ Λ' μ μ' hs q => q.sm (hs t (by omega) (by omega)) (hs (t + 1) (by omega) (by omega)))
theorem OP.rg {t : Nat} {Λ : Lay} {μ : Mem} (h : OP t Λ μ) : Rg t (t + 2) Λ μ := Rg.poly h.1 h.2
theorem PA.z0 {μ : Mem} {t : Nat} (h : μ.1 (t + 1) = z0) (h1 : μ.1 t 1 = -1) : PA μ t PS.zero := ⟨⟨PS.zero_lt 48, fun j g0 g1 => by rw [h]; rfl⟩, by rw [h1, PS.size_zero]; rfl⟩
theorem PA.one1 {μ : Mem} {t : Nat} (h : PA μ t PS.zero) : PA (mI (mI μ (t + 1) 0 1) t 1 0) t PS.one := by
  have h1 : PS.one.isz 1 := ⟨Or.inr (by decide), PS.C_lt 1⟩
  refine ⟨⟨PS.lt_mono (PS.C_lt 1) (by omega), fun j g0 g1 => ?_⟩, by rw [mI_at, if_pos rfl, PS.size_eq h1]; rfl⟩
  rw [mI_ne (by omega), mI_at]
  by_cases c : j = 0
  · subst c; rw [if_pos rfl]; rfl
  · rw [if_neg c, h.1.2 j g0 g1]
    show (0 : Int) = cf PS.one j
    refine (cf_of (by omega) ?_).symm
    show fi 0 = (if j.toNat = 0 then (1 : F) else 0)
    rw [if_neg (by omega)]; rfl
def OF (f : Nat) (Λ : Lay) (μ : Mem) : Prop := fracK Λ f ∧ Rg f (f + 5) Λ μ
theorem OF.lc {f : Nat} : Lc f (f + 5) (OF f) := Lc.frac.and Lc.rg
/-- the first board -/
def bd0 : Bd := (fun j => if j % 12 = 7 ∧ 0 ≤ j ∧ j < 180 then 1 else 0, z0, 0, 1)
theorem bd0_ok : bd0.ok := ⟨fun j => by show 0 ≤ (if _ then (1 : Int) else 0) ∧ (if _ then (1 : Int) else 0) ≤ 100; split <;> omega, fun j => by show 0 ≤ (0 : Int) ∧ (0 : Int) ≤ 100; omega, by decide, by decide⟩
def OB (β : Nat) (Λ : Lay) (μ : Mem) : Prop := boardK Λ β ∧ Rg β (β + 3) Λ μ ∧ BA μ β bd0
theorem BA.lc {β : Nat} {b : Bd} : Lc β (β + 3) (fun _ μ => BA μ β b) := fun Λ Λ' μ μ' hs q => ⟨q.1, fun j h0 h1 => by rw [(hs (β + 1) (by omega) (by omega)).2.1]; exact q.2.1 j h0 h1, fun j h0 h1 => by rw [(hs (β + 2) (by omega) (by omega)).2.1]; exact q.2.2.1 j h0 h1, by rw [(hs β (by omega) (by omega)).2.1]; exact q.2.2.2.1, by rw [(hs β (by omega) (by omega)).2.1]; exact q.2.2.2.2⟩
theorem OB.lc {β : Nat} : Lc β (β + 3) (OB β) := Lc.board.and (Lc.rg.and BA.lc)
def hs0 : Hs := (0, fun _ => bd0)
def OH (η : Nat) (Λ : Lay) (μ : Mem) : Prop := histK Λ η ∧ Rg η (η + 20) Λ μ ∧ HA μ η hs0
theorem HA.lc {η : Nat} {h : Hs} : Lc η (η + 20) (fun _ μ => HA μ η h) := fun Λ Λ' μ μ' hs q => by
  obtain ⟨B, nx, h1, h2, h3, h4, h5, h6⟩ := q
  exact ⟨B, nx, h1, h2, by rw [(hs η (by omega) (by omega)).2.1]; exact h3, by rw [(hs η (by omega) (by omega)).2.1]; exact h4, fun k hk => (BA.lc.wide (lo' := η) (hi' := η + 20) (by omega) (by omega)) Λ Λ' μ μ' hs (h5 k hk), h6⟩
theorem OH.lc {η : Nat} : Lc η (η + 20) (OH η) := ((Lc.lay.wide (by omega) (by omega)).and ((Lc.lay.wide (by omega) (by omega)).and (Lc.all (fun k hk => Lc.board.wide (by omega) (by omega))))).and (Lc.rg.and HA.lc)
theorem Lc.poly4 {lo hi a b c d : Nat} (h : lo ≤ a ∧ lo ≤ b ∧ lo ≤ c ∧ lo ≤ d) (h' : a + 2 ≤ hi ∧ b + 2 ≤ hi ∧ c + 2 ≤ hi ∧ d + 2 ≤ hi) : Lc lo hi (fun Λ _ => polyK Λ a ∧ polyK Λ b ∧ polyK Λ c ∧ polyK Λ d) := (Lc.poly.wide h.1 h'.1).and ((Lc.poly.wide h.2.1 h'.2.1).and ((Lc.poly.wide h.2.2.1 h'.2.2.1).and (Lc.poly.wide h.2.2.2 h'.2.2.2)))
def OK (κ : Nat) (Λ : Lay) (μ : Mem) : Prop := kitK Λ κ ∧ Rg κ (κ + 17) Λ μ
theorem OK.lc {κ : Nat} : Lc κ (κ + 17) (OK κ) := ((Lc.lay.wide (by omega) (by omega)).and ((Lc.poly4 (by omega) (by omega)).and (Lc.poly4 (by omega) (by omega)))).and Lc.rg
def OS (κ σ : Nat) (Λ : Lay) (μ : Mem) : Prop := spK Λ σ κ ∧ Rg σ (σ + 17) Λ μ
theorem OS.lc {κ σ : Nat} : Lc σ (σ + 17) (OS κ σ) := ((Lc.lay.wide (by omega) (by omega)).and ((Lc.poly4 (by omega) (by omega)).and (Lc.poly4 (by omega) (by omega)))).and Lc.rg
def OW (ω : Nat) (Λ : Lay) (μ : Mem) : Prop := writK Λ ω ∧ Rg ω (ω + 2) Λ μ ∧ WA μ ω []
theorem OW.lc {ω : Nat} : Lc ω (ω + 2) (OW ω) := ((Lc.lay.wide (by omega) (by omega)).and (Lc.lay.wide (by omega) (by omega))).and (Lc.rg.and (fun Λ Λ' μ μ' hs q => ⟨q.1, by rw [(hs ω (by omega) (by omega)).2.1]; exact q.2.1, fun i hi => absurd hi (by simp)⟩))
def sh0 : Sht := (-1, 0, z1)
def OSh (σ : Nat) (Λ : Lay) (μ : Mem) : Prop := sheetK Λ σ ∧ Rg σ (σ + 2) Λ μ ∧ SA μ σ sh0
theorem OSh.lc {σ : Nat} : Lc σ (σ + 2) (OSh σ) := ((Lc.lay.wide (by omega) (by omega)).and (Lc.lay.wide (by omega) (by omega))).and (Lc.rg.and (fun Λ Λ' μ μ' hs q => ⟨q.1, q.2.1, by rw [(hs σ (by omega) (by omega)).2.1]; exact q.2.2.1, by rw [(hs σ (by omega) (by omega)).2.1]; exact q.2.2.2.1, fun j h0 h1 => by rw [(hs (σ + 1) (by omega) (by omega)).2.2]; exact q.2.2.2.2 j h0 h1⟩))
def ORes (κ r : Nat) (Λ : Lay) (μ : Mem) : Prop := resK Λ r κ ∧ Rg r (r + 19) Λ μ
def OPt (κ σ p : Nat) (Λ : Lay) (μ : Mem) : Prop := partK Λ p κ σ ∧ Rg p (p + 81) Λ μ
def ORd (κ r : Nat) (Λ : Lay) (μ : Mem) : Prop := rdK Λ r κ ∧ Rg r (r + 85) Λ μ ∧ TPA μ r [] ∧ (0 ≤ μ.1 r 8 ∧ μ.1 r 8 ≤ 3)
theorem bd0_row {j : Int} (h0 : 0 ≤ j) (h1 : j < 180) : (rw1 (rw1 (rw1 (rw1 (rw1 (rw1 (rw1 (rw1 (rw1 (rw1 (rw1 (rw1 (rw1 (rw1 (rw1 z0 7 1) 19 1) 31 1) 43 1) 55 1) 67 1) 79 1) 91 1) 103 1) 115 1) 127 1) 139 1) 151 1) 163 1) 175 1) j = bd0.1 j := by
  simp only [rw1, z0, bd0]
  by_cases c : j % 12 = 7 ∧ 0 ≤ j ∧ j < 180
  · rw [if_pos c]
    repeat' split
    all_goals omega
  · rw [if_neg c]
    repeat' split
    all_goals omega
