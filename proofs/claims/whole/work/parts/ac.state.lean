/-! ===== the state of the class ===== -/
def sh4 (g : Nat) : List (Option Nat) := [some (g + 368), some (g + 370), some (g + 372), some (g + 374)]
def rs5 (g : Nat) : List (Option Nat) := [some (g + 376), some (g + 381), some (g + 386), some (g + 391), some (g + 396)]
def GK (Λ : Lay) (g : Nat) : Prop := Λ g = some (.inl (11, [some (.ref (g + 1)), some (.ref (g + 4)), some (.ref (g + 24)), some (.ref (g + 27)), none, some (.ref (g + 47)), some (.ref (g + 48)), some (.ref (g + 65)), some (.ref (g + 82)), some (.ref (g + 163)), some (.ref (g + 244)), some (.ref (g + 263)), some (.ref (g + 348)), some (.ref (g + 350)), some (.ref (g + 351)), some (.ref (g + 356)), some (.ref (g + 361)), some (.ref (g + 366))])) ∧
  (boardK Λ (g + 1) ∧ histK Λ (g + 4) ∧ boardK Λ (g + 24) ∧ histK Λ (g + 27)) ∧ (Λ (g + 47) = some (.inr (5, 4, sh4 g)) ∧ Λ (g + 350) = some (.inr (4, 5, rs5 g))) ∧ (kitK Λ (g + 48) ∧ spK Λ (g + 65) (g + 48) ∧ partK Λ (g + 82) (g + 48) (g + 65) ∧ partK Λ (g + 163) (g + 48) (g + 65) ∧ resK Λ (g + 244) (g + 48) ∧ rdK Λ (g + 263) (g + 48) ∧ writK Λ (g + 348)) ∧
  (fracK Λ (g + 351) ∧ fracK Λ (g + 356) ∧ fracK Λ (g + 361) ∧ polyK Λ (g + 366)) ∧ (∀ k : Nat, k < 4 → sheetK Λ (g + 368 + 2 * k)) ∧ (∀ k : Nat, k < 5 → fracK Λ (g + 376 + 5 * k)) ∧ (∀ a, polyC Λ a → g ≤ a ∧ a < g + 401)
theorem sheetK.off {Λ : Lay} {σ : Nat} (h : sheetK Λ σ) : ¬ polyC Λ σ ∧ ¬ polyC Λ (σ + 1) := by
  refine ⟨?_, ?_⟩
  · rintro (q | ⟨b, rfl, q⟩)
    · have := h.1.symm.trans q.1; simp at this
    · have := h.1.symm.trans q.2; simp at this
  · rintro (q | ⟨b, e, q⟩)
    · have := h.2.symm.trans q.1; simp at this
    · obtain rfl : b = σ := by omega
      have := h.1.symm.trans q.1; simp at this
theorem GK.off {Λ : Lay} {g : Nat} (h : GK Λ g) : ¬ polyC Λ g := by
  rintro (q | ⟨b, rfl, q⟩)
  · have := h.1.symm.trans q.1; simp at this
  · have := h.1.symm.trans q.2; simp at this
/-- but for polynomials and X nothing changed -/
def FC (Λ : Lay) (X : Nat → Prop) (μ μ' : Mem) : Prop := (∀ a, ¬ polyC Λ a → ¬ X a → μ'.1 a = μ.1 a ∧ μ'.2 a = μ.2 a) ∧ ∃ π, AB Λ μ' π
theorem Chg.fc {Λ : Lay} {S : Nat → Prop} {μ μ' : Mem} {π π' : Nat → PS} (h : Chg Λ S μ μ' π π') {X : Nat → Prop} : FC Λ X μ μ' := ⟨fun a h0 _ => ⟨h.2.2.1 a h0, by rw [h.2.2.2]⟩, π', h.1⟩
theorem ChgX.fc {Λ : Lay} {S : Nat → Prop} {p : Nat} {w : Int → Int} {μ μ' : Mem} {π π' : Nat → PS} (h : ChgX Λ S p w μ μ' π π') {X : Nat → Prop} (hX : X p) : FC Λ X μ μ' := ⟨fun a h0 h1 => ⟨h.2.2.1.1 a h0 (fun e => h1 (e ▸ hX)), by rw [h.2.2.1.2]⟩, π', h.1⟩
theorem FrI.fc {Λ : Lay} {lo hi : Nat} {μ μ' : Mem} {π : Nat → PS} (h : FrI lo hi μ μ') (ho : offP Λ lo hi) (hA : AB Λ μ π) {X : Nat → Prop} (hX : ∀ a, lo ≤ a → a ≤ hi → X a) : FC Λ X μ μ' := ⟨fun a h0 h1 => ⟨h.1 a (Classical.byContradiction fun q => h1 (hX a (by omega) (by omega))), by rw [h.2]⟩, π, hA.i ho h⟩
theorem FC.trans {Λ : Lay} {X : Nat → Prop} {μ m m' : Mem} (h : FC Λ X μ m) (h' : FC Λ X m m') : FC Λ X μ m' := ⟨fun a h0 h1 => ⟨(h'.1 a h0 h1).1.trans (h.1 a h0 h1).1, (h'.1 a h0 h1).2.trans (h.1 a h0 h1).2⟩, h'.2⟩
theorem FC.mono {Λ : Lay} {X Y : Nat → Prop} {μ m : Mem} (h : FC Λ X μ m) (hX : ∀ a, X a → Y a) : FC Λ Y μ m := ⟨fun a h0 h1 => h.1 a h0 (fun q => h1 (hX a q)), h.2⟩
theorem BA.fc {Λ : Lay} {X : Nat → Prop} {μ μ' : Mem} {β : Nat} {b : Bd} (h : BA μ β b) (hK : boardK Λ β) (f : FC Λ X μ μ') (hx : ¬ X β ∧ ¬ X (β + 1) ∧ ¬ X (β + 2)) : BA μ' β b := by
  obtain ⟨o1, o2, o3⟩ := hK.off
  refine ⟨h.1, fun j h0 h1 => ?_, fun j h0 h1 => ?_, ?_, ?_⟩
  · rw [(f.1 _ o2 hx.2.1).1]; exact h.2.1 j h0 h1
  · rw [(f.1 _ o3 hx.2.2).1]; exact h.2.2.1 j h0 h1
  · rw [(f.1 _ o1 hx.1).1]; exact h.2.2.2.1
  · rw [(f.1 _ o1 hx.1).1]; exact h.2.2.2.2
theorem HA.fc {Λ : Lay} {X : Nat → Prop} {μ μ' : Mem} {η : Nat} {h : Hs} (hh : HA μ η h) (hK : histK Λ η) (f : FC Λ X μ μ') (hx : ∀ a, η ≤ a → a ≤ η + 19 → ¬ X a) : HA μ' η h := by
  obtain ⟨B, nx, h1, h2, h3, h4, h5, h6⟩ := hh
  have e := (f.1 η (hK.off η (by omega) (by omega)) (hx η (by omega) (by omega))).1
  exact ⟨B, nx, h1, h2, by rw [e]; exact h3, by rw [e]; exact h4, fun k hk => (h5 k hk).fc (hK.2.2 k hk) f ⟨hx _ (by omega) (by omega), hx _ (by omega) (by omega), hx _ (by omega) (by omega)⟩, h6⟩
theorem SA.fc {Λ : Lay} {X : Nat → Prop} {μ μ' : Mem} {σ : Nat} {s : Sht} (h : SA μ σ s) (hK : sheetK Λ σ) (f : FC Λ X μ μ') (hx : ¬ X σ ∧ ¬ X (σ + 1)) : SA μ' σ s := by
  have e1 := (f.1 σ hK.off.1 hx.1).1
  have e2 := (f.1 (σ + 1) hK.off.2 hx.2).2
  exact ⟨h.1, h.2.1, by rw [e1]; exact h.2.2.1, by rw [e1]; exact h.2.2.2.1, fun j h0 h1 => by rw [e2]; exact h.2.2.2.2 j h0 h1⟩
theorem TPA.fc {Λ : Lay} {X : Nat → Prop} {μ μ' : Mem} {r κ : Nat} {T : List Int} (h : TPA μ r T) (hK : rdK Λ r κ) (f : FC Λ X μ μ') (hx : ¬ X r ∧ ¬ X (r + 1)) : TPA μ' r T := by
  have e1 := (f.1 r hK.off.1 hx.1).1
  have e2 := (f.1 (r + 1) hK.off.2.1 hx.2).1
  exact ⟨h.1, by rw [e1]; exact h.2.1, fun i hi => by rw [e2]; exact h.2.2.1 i hi, h.2.2.2⟩
def IMA (μ : Mem) (g : Nat) (im : Option (Bd × Hs)) : Prop := match im with
  | none => μ.1 g 4 = 0 ∧ ∃ c k, BA μ (g + 24) c ∧ HA μ (g + 27) k
  | some (c, k) => μ.1 g 4 = 1 ∧ BA μ (g + 24) c ∧ HA μ (g + 27) k
theorem IMA.fc {Λ : Lay} {X : Nat → Prop} {μ μ' : Mem} {g : Nat} {im : Option (Bd × Hs)} (h : IMA μ g im) (hK : GK Λ g) (f : FC Λ X μ μ') (hx : ¬ X g ∧ ∀ a, g + 24 ≤ a → a ≤ g + 46 → ¬ X a) : IMA μ' g im := by
  have e := (f.1 g hK.off hx.1).1
  have q : ∀ c k, BA μ (g + 24) c ∧ HA μ (g + 27) k → BA μ' (g + 24) c ∧ HA μ' (g + 27) k := fun c k z => ⟨z.1.fc hK.2.1.2.2.1 f ⟨hx.2 _ (by omega) (by omega), hx.2 _ (by omega) (by omega), hx.2 _ (by omega) (by omega)⟩, z.2.fc hK.2.1.2.2.2 f (fun a h0 h1 => hx.2 a (by omega) (by omega))⟩
  cases im with
  | none => obtain ⟨h1, c, k, h2⟩ := h; exact ⟨by rw [e]; exact h1, c, k, q c k h2⟩
  | some p => exact ⟨by rw [e]; exact h.1, q p.1 p.2 h.2⟩
/-- the class at g holds a state; outside nothing has changed since μ0 -/
def KS (Λ : Lay) (μ0 μ : Mem) (g : Nat) (b : Bd) (h : Hs) (im : Option (Bd × Hs)) (T : List Int) (S : Int → Sht) : Prop :=
  (∃ π, AB Λ μ π) ∧ BA μ (g + 1) b ∧ HA μ (g + 4) h ∧ IMA μ g im ∧ TPA μ (g + 263) T ∧ (0 ≤ μ.1 (g + 263) 8 ∧ μ.1 (g + 263) 8 ≤ 3) ∧ (∀ k : Nat, k < 4 → SA μ (g + 368 + 2 * k) (S (k : Int))) ∧ (∃ W, WA μ (g + 348) W) ∧ ∀ a, a < g ∨ g + 401 ≤ a → μ.1 a = μ0.1 a ∧ μ.2 a = μ0.2 a
def scr9 (g a : Nat) : Prop := a = g + 82 ∨ a = g + 163 ∨ a = g + 107 ∨ a = g + 188
theorem WA.fc {Λ : Lay} {X : Nat → Prop} {μ μ' : Mem} {ω : Nat} (h : ∃ W, WA μ ω W) (hK : writK Λ ω) (f : FC Λ X μ μ') (hx : ¬ X ω ∧ ¬ X (ω + 1)) : ∃ W, WA μ' ω W := by
  obtain ⟨W, h⟩ := h
  have e1 := (f.1 ω (hK.off ω (by omega) (by omega)) hx.1).1
  have e2 := (f.1 (ω + 1) (hK.off (ω + 1) (by omega) (by omega)) hx.2).1
  exact ⟨W, h.1, by rw [e1]; exact h.2.1, fun i hi => by rw [e2]; exact h.2.2 i hi⟩
theorem FC.out {Λ : Lay} {X : Nat → Prop} {g : Nat} {μ0 μ μ' : Mem} (hK : GK Λ g) (f : FC Λ X μ μ') (hX : ∀ a, X a → g ≤ a ∧ a < g + 401) (h : ∀ a, a < g ∨ g + 401 ≤ a → μ.1 a = μ0.1 a ∧ μ.2 a = μ0.2 a) (a : Nat) (ha : a < g ∨ g + 401 ≤ a) : μ'.1 a = μ0.1 a ∧ μ'.2 a = μ0.2 a := by
  have z := f.1 a (fun q => by have := hK.2.2.2.2.2.2.2 a q; omega) (fun q => by have := hX a q; omega)
  exact ⟨z.1.trans (h a ha).1, z.2.trans (h a ha).2⟩
theorem KS.scr {Λ : Lay} {X : Nat → Prop} {g : Nat} {μ0 μ μ' : Mem} {b : Bd} {h : Hs} {im : Option (Bd × Hs)} {T : List Int} {S : Int → Sht} (hK : GK Λ g) (c : KS Λ μ0 μ g b h im T S) (f : FC Λ X μ μ') (hX : ∀ a, X a → scr9 g a) : KS Λ μ0 μ' g b h im T S := by
  obtain ⟨c1, c2, c3, c4, c5, c6, c7, cw, c8⟩ := c
  have n : ∀ a, (a ≤ g + 81 ∨ g + 189 ≤ a) → ¬ X a := fun a ha q => by have := hX a q; unfold scr9 at this; omega
  have rk := hK.2.2.2.1.2.2.2.2.2.1
  have e := (f.1 (g + 263) rk.off.1 (n _ (by omega))).1
  exact ⟨f.2, c2.fc hK.2.1.1 f ⟨n _ (by omega), n _ (by omega), n _ (by omega)⟩, c3.fc hK.2.1.2.1 f (fun a h0 h1 => n a (by omega)), c4.fc hK f ⟨n _ (by omega), fun a h0 h1 => n a (by omega)⟩, c5.fc rk f ⟨n _ (by omega), n _ (by omega)⟩, by rw [e]; exact c6, fun k hk => (c7 k hk).fc (hK.2.2.2.2.2.1 k hk) f ⟨n _ (by omega), n _ (by omega)⟩, WA.fc cw hK.2.2.2.1.2.2.2.2.2.2 f ⟨n _ (by omega), n _ (by omega)⟩, f.out hK (fun a q => by have := hX a q; unfold scr9 at this; omega) c8⟩
/-- the board changed -/
theorem KS.brd {Λ : Lay} {g : Nat} {μ0 μ μ' : Mem} {b b' : Bd} {h : Hs} {im : Option (Bd × Hs)} {T : List Int} {S : Int → Sht} (hK : GK Λ g) (c : KS Λ μ0 μ g b h im T S) (hb : BA μ' (g + 1) b') (f : FrB (g + 1) μ μ') : KS Λ μ0 μ' g b' h im T S := by
  obtain ⟨⟨π, hA⟩, c2, c3, c4, c5, c6, c7, cw, c8⟩ := c
  have bo := hK.2.1.1.off
  have fc : FC Λ (fun a => g + 1 ≤ a ∧ a ≤ g + 3) μ μ' := f.i.fc (fun a h0 h1 => by
    have : a = g + 1 ∨ a = g + 1 + 1 ∨ a = g + 1 + 2 := by omega
    rcases this with rfl | rfl | rfl
    · exact bo.1
    · exact bo.2.1
    · exact bo.2.2) hA (fun a h0 h1 => ⟨h0, by omega⟩)
  have rk := hK.2.2.2.1.2.2.2.2.2.1
  have e := (fc.1 (g + 263) rk.off.1 (by omega)).1
  exact ⟨fc.2, hb, c3.fc hK.2.1.2.1 fc (fun a h0 h1 => by omega), c4.fc hK fc ⟨by omega, fun a h0 h1 => by omega⟩, c5.fc rk fc ⟨by omega, by omega⟩, by rw [e]; exact c6, fun k hk => (c7 k hk).fc (hK.2.2.2.2.2.1 k hk) fc ⟨by omega, by omega⟩, WA.fc cw hK.2.2.2.1.2.2.2.2.2.2 fc ⟨by omega, by omega⟩, fc.out hK (fun a q => by omega) c8⟩
/-- the history changed -/
theorem KS.hst {Λ : Lay} {g : Nat} {μ0 μ μ' : Mem} {b : Bd} {h h' : Hs} {im : Option (Bd × Hs)} {T : List Int} {S : Int → Sht} (hK : GK Λ g) (c : KS Λ μ0 μ g b h im T S) (hb : HA μ' (g + 4) h') (f : FrI (g + 4) (g + 4 + 19) μ μ') : KS Λ μ0 μ' g b h' im T S := by
  obtain ⟨⟨π, hA⟩, c2, c3, c4, c5, c6, c7, cw, c8⟩ := c
  have fc : FC Λ (fun a => g + 4 ≤ a ∧ a ≤ g + 23) μ μ' := f.fc hK.2.1.2.1.off hA (fun a h0 h1 => ⟨h0, by omega⟩)
  have rk := hK.2.2.2.1.2.2.2.2.2.1
  have e := (fc.1 (g + 263) rk.off.1 (by omega)).1
  exact ⟨fc.2, c2.fc hK.2.1.1 fc ⟨by omega, by omega, by omega⟩, hb, c4.fc hK fc ⟨by omega, fun a h0 h1 => by omega⟩, c5.fc rk fc ⟨by omega, by omega⟩, by rw [e]; exact c6, fun k hk => (c7 k hk).fc (hK.2.2.2.2.2.1 k hk) fc ⟨by omega, by omega⟩, WA.fc cw hK.2.2.2.1.2.2.2.2.2.2 fc ⟨by omega, by omega⟩, fc.out hK (fun a q => by omega) c8⟩
theorem FrN.fc {Λ : Lay} {r : Nat} {S : List Nat} {J : List Int} {μ μ' : Mem} {π : Nat → PS} (f : FrN r S J μ μ') (hA : AB Λ μ π) (h0 : ∀ a, (a = r ∨ a ∈ S) → ¬ polyC Λ a) {X : Nat → Prop} (hX : ∀ a, (a = r ∨ a ∈ S) → X a) : FC Λ X μ μ' := by
  have e : ∀ a, a ≠ r → a ∉ S → μ'.1 a = μ.1 a := f.1
  refine ⟨fun a _ h1 => ⟨e a (fun q => h1 (hX a (Or.inl q))) (fun q => h1 (hX a (Or.inr q))), by rw [f.2.2]⟩, π, fun a ka => ?_⟩
  have n1 := e a (fun q => h0 a (Or.inl q) (Or.inl ka)) (fun q => h0 a (Or.inr q) (Or.inl ka))
  have n2 := e (a + 1) (fun q => h0 (a + 1) (Or.inl q) (Or.inr ⟨a, rfl, ka⟩)) (fun q => h0 (a + 1) (Or.inr q) (Or.inr ⟨a, rfl, ka⟩))
  have p := hA a ka
  unfold PA CA at p ⊢
  rw [n1, n2]; exact p
/-- the reader's own changes; X: tape, codes, waiting, the object -/
theorem KS.rdr {Λ : Lay} {g : Nat} {μ0 μ μ' : Mem} {b : Bd} {h : Hs} {im : Option (Bd × Hs)} {T T' : List Int} {S : Int → Sht} (hK : GK Λ g) (c : KS Λ μ0 μ g b h im T S) (f : FC Λ (fun a => g + 263 ≤ a ∧ a ≤ g + 266) μ μ') (hT : TPA μ' (g + 263) T') (hd : 0 ≤ μ'.1 (g + 263) 8 ∧ μ'.1 (g + 263) 8 ≤ 3) : KS Λ μ0 μ' g b h im T' S := by
  obtain ⟨-, c2, c3, c4, c5, c6, c7, cw, c8⟩ := c
  exact ⟨f.2, c2.fc hK.2.1.1 f ⟨by omega, by omega, by omega⟩, c3.fc hK.2.1.2.1 f (fun a h0 h1 => by omega), c4.fc hK f ⟨by omega, fun a h0 h1 => by omega⟩, hT, hd, fun k hk => (c7 k hk).fc (hK.2.2.2.2.2.1 k hk) f ⟨by omega, by omega⟩, WA.fc cw hK.2.2.2.1.2.2.2.2.2.2 f ⟨by omega, by omega⟩, f.out hK (fun a q => by omega) c8⟩
theorem KS.start {Λ : Lay} {μ0 μ : Mem} {g : Nat} {b : Bd} {h : Hs} {im : Option (Bd × Hs)} {T : List Int} {S : Int → Sht} (c : KS Λ μ0 μ g b h im T S) : KS Λ μ μ g b h im T S := ⟨c.1, c.2.1, c.2.2.1, c.2.2.2.1, c.2.2.2.2.1, c.2.2.2.2.2.1, c.2.2.2.2.2.2.1, c.2.2.2.2.2.2.2.1, fun _ _ => ⟨rfl, rfl⟩⟩
/-- the writer wrote -/
theorem KS.wri {Λ : Lay} {g : Nat} {μ0 μ μ' : Mem} {b : Bd} {h : Hs} {im : Option (Bd × Hs)} {T W : List Int} {S : Int → Sht} (hK : GK Λ g) (c : KS Λ μ0 μ g b h im T S) (hw : WA μ' (g + 348) W) (f : FrW (g + 348) μ μ') : KS Λ μ0 μ' g b h im T S := by
  obtain ⟨⟨π, hA⟩, c2, c3, c4, c5, c6, c7, cw, c8⟩ := c
  have fc : FC Λ (fun a => g + 348 ≤ a ∧ a ≤ g + 349) μ μ' := FrI.fc (lo := g + 348) (hi := g + 349) ⟨fun a ha => f.1 a (by simp; omega), f.2⟩ hK.2.2.2.1.2.2.2.2.2.2.off hA (fun a h0 h1 => ⟨h0, h1⟩)
  have rk := hK.2.2.2.1.2.2.2.2.2.1
  have e := (fc.1 (g + 263) rk.off.1 (by omega)).1
  exact ⟨fc.2, c2.fc hK.2.1.1 fc ⟨by omega, by omega, by omega⟩, c3.fc hK.2.1.2.1 fc (fun a h0 h1 => by omega), c4.fc hK fc ⟨by omega, fun a h0 h1 => by omega⟩, c5.fc rk fc ⟨by omega, by omega⟩, by rw [e]; exact c6, fun k hk => (c7 k hk).fc (hK.2.2.2.2.2.1 k hk) fc ⟨by omega, by omega⟩, ⟨W, hw⟩, fc.out hK (fun a q => by omega) c8⟩
