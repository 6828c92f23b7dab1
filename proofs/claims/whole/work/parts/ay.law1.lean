/-! ===== the law: both sides hold one state ===== -/
def RS (μ : Mem) (ν : Nat) (b : Bd) (h : Hs) (im : Option (Bd × Hs)) (T : List Int) (S : Int → Sht) : Prop := ((∃ ρ, RA μ ν ρ b) ∧ RH μ ν h) ∧ RI μ ν im ∧ RT μ ν T ∧ RSh μ ν S ∧ ∃ X, MXI μ ν X
def OuR (ν : Nat) (μ μ' : Mem) : Prop := ∀ a, a < ν ∨ ν + 18 ≤ a → μ'.1 a = μ.1 a ∧ μ'.2 a = μ.2 a
theorem OuR.rf {ν : Nat} {μ : Mem} : OuR ν μ μ := fun _ _ => ⟨rfl, rfl⟩
theorem FrN.ou {ν : Nat} {S : List Nat} {J : List Int} {μ μ' : Mem} (f : FrN ν S J μ μ') (h : ∀ a ∈ S, ν ≤ a ∧ a < ν + 18) : OuR ν μ μ' := fun a ha => ⟨f.1 a (by omega) (fun q => by have := h a q; omega), by rw [f.2.2]⟩
theorem FrSh.ou {ν : Nat} {μ μ' : Mem} (f : FrSh ν μ μ') : OuR ν μ μ' := fun a ha => ⟨f.1 a (by omega) (by omega), f.2 a (by omega)⟩
/-- a step of the class leaves the reference as it was -/
theorem RS.fr {μ μ' : Mem} {ν : Nat} {b : Bd} {h : Hs} {im : Option (Bd × Hs)} {T : List Int} {S : Int → Sht} (c : RS μ ν b h im T S) (e : ∀ a, ν ≤ a → a < ν + 18 → μ'.1 a = μ.1 a ∧ μ'.2 a = μ.2 a) : RS μ' ν b h im T S := by
  obtain ⟨⟨⟨ρ, c1⟩, c2⟩, c3, c4, c5, X, c6⟩ := c
  have e0 := (e ν (by omega) (by omega)).1
  have e1 := fun k (hk : k < 18) => (e (ν + k) (by omega) (by omega)).1
  refine ⟨⟨⟨ρ, c1.1.fr (e1 1 (by omega)), c1.2.1, c1.2.2.1, fun j g0 g1 => by rw [e1 3 (by omega)]; exact c1.2.2.2.1 j g0 g1, by rw [e0]; exact c1.2.2.2.2.1, by rw [e0]; exact c1.2.2.2.2.2⟩, c2.fr (fun j _ _ => by rw [e1 4 (by omega)]) (by rw [e0]) (by rw [e0])⟩, ?_, ⟨c4.1, by rw [e0]; exact c4.2.1, fun i hi => by rw [e1 12 (by omega)]; exact c4.2.2.1 i hi, c4.2.2.2⟩, c5.fr (e1 15 (by omega)) (e1 16 (by omega)) (e (ν + 17) (by omega) (by omega)).2, X, c6.fr (e1 7 (by omega))⟩
  cases im with
  | none => show μ'.1 ν 8 = 0; rw [e0]; exact c3
  | some p => exact ⟨by rw [e0]; exact c3.1, c3.2.1.fr (fun j _ _ => by rw [e1 5 (by omega)]), c3.2.2.fr (fun j _ _ => by rw [e1 5 (by omega)]) (by rw [e0]) (by rw [e0])⟩
/-- a step of the reference leaves the class as it was -/
theorem KS.ou {Λ : Lay} {g : Nat} {μ0 μ μ' : Mem} {b : Bd} {h : Hs} {im : Option (Bd × Hs)} {T : List Int} {S : Int → Sht} (hK : GK Λ g) (c : KS Λ μ0 μ g b h im T S) (e : ∀ a, g ≤ a → a < g + 401 → μ'.1 a = μ.1 a ∧ μ'.2 a = μ.2 a) : KS Λ μ' μ' g b h im T S := by
  obtain ⟨⟨π, hA⟩, c2, c3, c4, c5, c6, c7, cw, c8⟩ := c
  have f : FC Λ (fun a => a < g ∨ g + 401 ≤ a) μ μ' := by
    refine ⟨fun a _ h1 => e a (by omega) (by omega), π, fun a ka => ?_⟩
    have p0 := hK.2.2.2.2.2.2.2 a (Or.inl ka)
    have p1 := hK.2.2.2.2.2.2.2 (a + 1) (Or.inr ⟨a, rfl, ka⟩)
    have p := hA a ka
    unfold PA CA at p ⊢
    rw [(e a (by omega) (by omega)).1, (e (a + 1) (by omega) (by omega)).1]; exact p
  have rk := hK.2.2.2.1.2.2.2.2.2.1
  have ee := (f.1 (g + 263) rk.off.1 (by omega)).1
  exact ⟨f.2, c2.fc hK.2.1.1 f ⟨by omega, by omega, by omega⟩, c3.fc hK.2.1.2.1 f (fun a h0 h1 => by omega), c4.fc hK f ⟨by omega, fun a h0 h1 => by omega⟩, c5.fc rk f ⟨by omega, by omega⟩, by rw [ee]; exact c6, fun k hk => (c7 k hk).fc (hK.2.2.2.2.2.1 k hk) f ⟨by omega, by omega⟩, WA.fc cw hK.2.2.2.1.2.2.2.2.2.2 f ⟨by omega, by omega⟩, fun _ _ => ⟨rfl, rfl⟩⟩
/-- the whole state of the law's loop -/
def LwS (G : Gl) (Λ : Lay) (g : Nat) (μ : Mem) (b : Bd) (h : Hs) (im : Option (Bd × Hs)) (T : List Int) (S : Int → Sht) : Prop := (GK Λ g ∧ INV G Λ ∧ refK Λ (g + 401)) ∧ KS Λ μ μ g b h im T S ∧ RS μ (g + 401) b h im T S ∧ b.good ∧ HG h ∧ IG im
def LX (G : Gl) (Λ : Lay) (g : Nat) (μ : Mem) : Prop := ∃ b h im T S, LwS G Λ g μ b h im T S
/-- between the class's call and the reference's: the class holds the new state, the reference the old one -/
theorem LwS.mid {G : Gl} {Λ : Lay} {g : Nat} {μ μ1 : Mem} {b b' : Bd} {h h' : Hs} {im im' : Option (Bd × Hs)} {T T' : List Int} {S S' : Int → Sht} (c : LwS G Λ g μ b h im T S) (k : KS Λ μ μ1 g b' h' im' T' S') : RS μ1 (g + 401) b h im T S := c.2.2.1.fr (fun a h0 h1 => k.2.2.2.2.2.2.2.2 a (by omega))
theorem LwS.next {G : Gl} {Λ : Lay} {g : Nat} {μ μ1 μ2 : Mem} {b b' : Bd} {h h' : Hs} {im im' : Option (Bd × Hs)} {T T' : List Int} {S S' : Int → Sht} (c : LwS G Λ g μ b h im T S) (k : KS Λ μ μ1 g b' h' im' T' S') (f : OuR (g + 401) μ1 μ2) (r : RS μ2 (g + 401) b' h' im' T' S') (q : b'.good ∧ HG h' ∧ IG im') : LX G Λ g μ2 :=
  ⟨b', h', im', T', S', c.1, k.ou c.1.1 (fun a h0 h1 => f a (by omega)), r, q⟩
theorem RSh.frN {μ μ' : Mem} {ν : Nat} {S : Int → Sht} {A : List Nat} {J : List Int} (h : RSh μ ν S) (f : FrN ν A J μ μ') (h1 : ν + 15 ∉ A) (h2 : ν + 16 ∉ A) : RSh μ' ν S := h.fr (f.1 _ (by omega) h1) (f.1 _ (by omega) h2) (by rw [f.2.2])
theorem MXI.frN {μ μ' : Mem} {ν : Nat} {X : Mx} {A : List Nat} {J : List Int} (h : MXI μ ν X) (f : FrN ν A J μ μ') (h1 : ν + 7 ∉ A) : MXI μ' ν X := h.fr (f.1 _ (by omega) h1)
theorem RA.sh2 {μ μ' : Mem} {ν : Nat} {ρ : Nat → PS} {b : Bd} (h : RA μ ν ρ b) (f : FrSh ν μ μ') : RA μ' ν ρ b := ⟨h.1.fr (f.1 _ (by omega) (by omega)), h.2.1, h.2.2.1, fun j g0 g1 => by rw [f.1 _ (by omega) (by omega)]; exact h.2.2.2.1 j g0 g1, by rw [f.1 _ (by omega) (by omega)]; exact h.2.2.2.2.1, by rw [f.1 _ (by omega) (by omega)]; exact h.2.2.2.2.2⟩
/-- the sheets alone changed -/
theorem RS.sh {μ μ' : Mem} {ν : Nat} {b : Bd} {h : Hs} {im : Option (Bd × Hs)} {T : List Int} {S S' : Int → Sht} (c : RS μ ν b h im T S) (r : RSh μ' ν S') (f : FrSh ν μ μ') : RS μ' ν b h im T S' := by
  obtain ⟨⟨⟨ρ, c1⟩, c2⟩, c3, c4, c5, X, c6⟩ := c
  have e : ∀ a, a ≠ ν + 15 → a ≠ ν + 16 → μ'.1 a = μ.1 a := f.1
  refine ⟨⟨⟨ρ, c1.sh2 f⟩, c2.fr (fun j _ _ => by rw [e _ (by omega) (by omega)]) (by rw [e _ (by omega) (by omega)]) (by rw [e _ (by omega) (by omega)])⟩, ?_, ⟨c4.1, by rw [e _ (by omega) (by omega)]; exact c4.2.1, fun i hi => by rw [e _ (by omega) (by omega)]; exact c4.2.2.1 i hi, c4.2.2.2⟩, r, X, c6.fr (e _ (by omega) (by omega))⟩
  cases im with
  | none => show μ'.1 ν 8 = 0; rw [e _ (by omega) (by omega)]; exact c3
  | some p => exact ⟨by rw [e _ (by omega) (by omega)]; exact c3.1, c3.2.1.fr (fun j _ _ => by rw [e _ (by omega) (by omega)]), c3.2.2.fr (fun j _ _ => by rw [e _ (by omega) (by omega)]) (by rw [e _ (by omega) (by omega)]) (by rw [e _ (by omega) (by omega)])⟩
/-- board and history changed; image, tape, sheets, equations are kept -/
theorem RS.st {μ μ' : Mem} {ν : Nat} {b b' : Bd} {h h' : Hs} {im : Option (Bd × Hs)} {T : List Int} {S : Int → Sht} {A : List Nat} {J : List Int} (c : RS μ ν b h im T S) (r : StR μ' ν b' h') (f : FrN ν A J μ μ') (h5 : ν + 5 ∉ A ∧ ν + 7 ∉ A ∧ ν + 12 ∉ A ∧ ν + 15 ∉ A ∧ ν + 16 ∉ A) (hJ : 8 ∉ J ∧ 9 ∉ J ∧ 10 ∉ J ∧ 25 ∉ J) : RS μ' ν b' h' im T S := by
  obtain ⟨-, c3, c4, c5, X, c6⟩ := c
  exact ⟨r, c3.frN f h5.1 hJ.1 hJ.2.1 hJ.2.2.1, c4.frN f h5.2.2.1 hJ.2.2.2, c5.frN f h5.2.2.2.1 h5.2.2.2.2, X, c6.frN f h5.2.1⟩
theorem RS.rq {μ μ' : Mem} {ν : Nat} {b : Bd} {h : Hs} {im : Option (Bd × Hs)} {T : List Int} {S : Int → Sht} (c : RS μ ν b h im T S) (r : RQ μ μ' ν b) : RS μ' ν b h im T S := by
  obtain ⟨⟨-, c2⟩, c3, c4, c5, -⟩ := c
  obtain ⟨r1, r2, f⟩ := r
  exact ⟨⟨r1, c2.frN f (by simp) (by simp) (by simp)⟩, c3.frN f (by simp) (by simp) (by simp) (by simp), c4.frN f (by simp) (by simp), c5.frN f (by simp) (by simp), r2⟩
theorem RQ.ou {μ μ' : Mem} {ν : Nat} {b : Bd} (r : RQ μ μ' ν b) : OuR ν μ μ' := r.2.2.ou (by simp)
theorem RS.t {μ μ' : Mem} {ν : Nat} {b : Bd} {h : Hs} {im : Option (Bd × Hs)} {T T' : List Int} {S : Int → Sht} {A : List Nat} {J : List Int} (c : RS μ ν b h im T S) (r : RT μ' ν T') (f : FrN ν A J μ μ') (h5 : ν + 1 ∉ A ∧ ν + 3 ∉ A ∧ ν + 4 ∉ A ∧ ν + 5 ∉ A ∧ ν + 7 ∉ A ∧ ν + 15 ∉ A ∧ ν + 16 ∉ A) (hJ : (2 ∉ J ∧ 4 ∉ J ∧ 5 ∉ J ∧ 6 ∉ J) ∧ 8 ∉ J ∧ 9 ∉ J ∧ 10 ∉ J) : RS μ' ν b h im T' S := by
  obtain ⟨⟨⟨ρ, c1⟩, c2⟩, c3, c4, c5, X, c6⟩ := c
  exact ⟨⟨⟨ρ, c1.frN f h5.1 h5.2.1 hJ.1.1 hJ.1.2.1⟩, c2.frN f h5.2.2.1 hJ.1.2.2.1 hJ.1.2.2.2⟩, c3.frN f h5.2.2.2.1 hJ.2.1 hJ.2.2.1 hJ.2.2.2, r, c5.frN f h5.2.2.2.2.2.1 h5.2.2.2.2.2.2, X, c6.frN f h5.2.2.2.2.1⟩
