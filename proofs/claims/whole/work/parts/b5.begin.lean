/-- what holds at the start, for the law's frame -/
theorem start_ok {args : Array Value} {s : State} {b L : Nat} {xs : Nat → Int32} (hL : L ≤ 3072) (hts : ∀ w ∈ lw_tbl, w.before args s = true) (hgv : (Cond.and given_1 narrow_1).before args s = true) (hX : va_X b L xs s s.heap) (hbl : b < s.heap.size) :
    ∃ (G : Gl) (Λ : Lay) (ns : Nat), gB G = s.heap.size ∧ KK G s ∧ HR G Λ s.heap.size (fun _ => z0, fun _ => z1) s.heap ∧ INV G Λ ∧ (gS G < s.heap.size ∧ gI G < s.heap.size) ∧ Λ b = some (.inr (9, ns, [])) ∧ ns < 2 ∧ gN G ns ≤ 3072 ∧ (∀ j : Int, inR (gT G ns j)) ∧ (∀ a fs, Λ a ≠ some (.inl (5, fs))) ∧ Zr Λ (fun _ => z0, fun _ => z1) s.heap.size := by
  obtain ⟨D, hD⟩ := kn_all hts
  obtain ⟨gA0, hA⟩ := arr_all hts
  obtain ⟨aI, aS, cI, cS, ⟨i1, i2, i3, i4, i5⟩, ⟨s1, s2, s3⟩, cf, kf, fi, f, f1, f2, f3, f4, f5⟩ := inv_all hts hgv
  obtain ⟨scr, x1, x2, x3, x4, x5⟩ := hX
  have lI : aI < s.heap.size := (Array.getElem?_eq_some_iff.mp i1).1
  have lS : aS < s.heap.size := (Array.getElem?_eq_some_iff.mp s1).1
  have nS : ∀ {a : Nat} {cell : Cell}, s.heap[a]? = some cell → s.isArrayOf cell .int → a ≠ aS := fun {a cell} h1 h2 e => by
    subst e
    cases h1.symm.trans s1
    cases hv : cS.vm with
    | statics q => exact h2.1 q hv
    | _ => rw [hv] at s2; cases s2
  have nI := nS i1 i2
  have nb := nS x1 x2
  have rI : ∀ j : Int, inR (ivI j) := fun j => by have := ivI_rng j; exact ⟨by omega, by omega⟩
  have rX : ∀ v : Int32, inR v.toInt := fun v => ⟨by have := Int32.le_toInt v; simpa using this, by have := Int32.toInt_le v; have e : Int32.maxValue.toInt = 2147483647 := (by decide); omega⟩
  refine ⟨(D, gA0, s.heap.size, (fun n => match n with | 0 => cI | 1 => scr | _ => cS), (fun n => match n with | 0 => 101 | _ => L), (fun n j => match n with | 0 => ivI j | _ => (xs j.toNat).toInt), aI, aS), (fun a => if a = aS then some (.inr (9, 2, [])) else if a = aI then some (.inr (9, 0, [])) else if a = b then some (.inr (9, 1, [])) else none), (if b = aI then 0 else 1), rfl, ?_, ?_, ?_, ⟨lS, lI⟩, ?_, ?_, ?_, ?_, ?_, ?_⟩
  · refine ⟨⟨hD, fun k q h => by simp at h⟩, hA, fun n hn => ?_, nest_all hts, ⟨hts _ aoRX0, hts _ aoRX1, hts _ aoRX8⟩, cf, kf, fi, f, f1, f2, f3, f4, s3, f5⟩
    match n, hn with
    | 0, _ => exact ⟨i2, i3, i4, i5⟩
    | 1, _ => exact ⟨x2, x3, x4, fun j hj => (x5 j hj).trans (by show some (Value.int (xs j)) = some (Value.int (Int32.ofInt (xs ((j : Int).toNat)).toInt)); rw [Int32.ofInt_toInt]; rfl)⟩
    | k + 2, h => omega
  · refine ⟨rfl, fun a kd h => ?_⟩
    dsimp only at h
    by_cases c1 : a = aS
    · rw [if_pos c1] at h; cases h; subst c1; exact ⟨s1, fun w => absurd rfl w⟩
    · rw [if_neg c1] at h
      by_cases c2 : a = aI
      · rw [if_pos c2] at h; cases h; subst c2; exact ⟨i1, fun w => absurd rfl w⟩
      · rw [if_neg c2] at h
        by_cases c3 : a = b
        · rw [if_pos c3] at h; cases h; subst c3; exact ⟨x1, fun w => absurd rfl w⟩
        · rw [if_neg c3] at h; cases h
  · exact ⟨if_pos rfl, by show (if aI = aS then _ else _) = _; rw [if_neg nI, if_pos rfl], rfl, fun i _ _ => rfl⟩
  · show (if b = aS then _ else _) = _
    rw [if_neg nb]
    by_cases c : b = aI
    · rw [if_pos c, if_pos c]
    · rw [if_neg c, if_pos rfl, if_neg c]
  · split <;> omega
  · by_cases c : b = aI
    · rw [if_pos c]; show 101 ≤ 3072; omega
    · rw [if_neg c]; exact hL
  · intro j
    by_cases c : b = aI
    · rw [if_pos c]; exact rI j
    · rw [if_neg c]; exact rX _
  · intro a fs h
    dsimp only at h
    split at h
    · cases h
    · split at h
      · cases h
      · split at h
        · cases h
        · cases h
  · intro a ha
    refine ⟨?_, rfl, rfl⟩
    show (if a = aS then _ else _) = none
    rw [if_neg (by omega), if_neg (by omega), if_neg (by omega)]
