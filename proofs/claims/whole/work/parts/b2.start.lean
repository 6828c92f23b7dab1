/-! ===== the start: classes, arrays, tables ===== -/
theorem kn_all {args : Array Value} {s : State} (hts : ∀ w ∈ lw_tbl, w.before args s = true) : ∃ D : va_G, ∀ (c : Nat) (q : vw_C), classes[c]? = some q → u_Kn s q.1 q.2.1 q.2.2 (D.1 c) (D.2 c) := by
  obtain ⟨c0, i0, h0⟩ := u_known (T := TX0) (N := 4) hts inX0 (hts _ nwX0)
  obtain ⟨c1, i1, h1⟩ := u_known (T := TX1) (N := 2) hts inX1 (hts _ nwX1)
  obtain ⟨c2, i2, h2⟩ := u_known (T := TX2) (N := 3) hts inX2 (hts _ nwX2)
  obtain ⟨c3, i3, h3⟩ := u_known (T := TX3) (N := 8) hts inX3 (hts _ nwX3)
  obtain ⟨c4, i4, h4⟩ := u_known (T := TX4) (N := 16) hts inX4 (hts _ nwX4)
  obtain ⟨c5, i5, h5⟩ := u_known (T := TX5) (N := 2) hts inX5 (hts _ nwX5)
  obtain ⟨c6, i6, h6⟩ := u_known (T := TX6) (N := 12) hts inX6 (hts _ nwX6)
  obtain ⟨c7, i7, h7⟩ := u_known (T := TX7) (N := 10) hts inX7 (hts _ nwX7)
  obtain ⟨c8, i8, h8⟩ := u_known (T := TX8) (N := 3) hts inX8 (hts _ nwX8)
  obtain ⟨c9, i9, h9⟩ := u_known (T := TX9) (N := 9) hts inX9 (hts _ nwX9)
  obtain ⟨c10, i10, h10⟩ := u_known (T := TX10) (N := 2) hts inX10 (hts _ nwX10)
  obtain ⟨c11, i11, h11⟩ := u_known (T := TX11) (N := 18) hts inX11 (hts _ nwX11)
  obtain ⟨c12, i12, h12⟩ := u_known (T := TX12) (N := 31) hts inX12 (hts _ nwX12)
  refine ⟨(fun c => match c with | 0 => c0 | 1 => c1 | 2 => c2 | 3 => c3 | 4 => c4 | 5 => c5 | 6 => c6 | 7 => c7 | 8 => c8 | 9 => c9 | 10 => c10 | 11 => c11 | _ => c12, fun c => match c with | 0 => i0 | 1 => i1 | 2 => i2 | 3 => i3 | 4 => i4 | 5 => i5 | 6 => i6 | 7 => i7 | 8 => i8 | 9 => i9 | 10 => i10 | 11 => i11 | _ => i12), fun c q hq => ?_⟩
  match c, hq with
  | 0, hq => cases hq; exact h0
  | 1, hq => cases hq; exact h1
  | 2, hq => cases hq; exact h2
  | 3, hq => cases hq; exact h3
  | 4, hq => cases hq; exact h4
  | 5, hq => cases hq; exact h5
  | 6, hq => cases hq; exact h6
  | 7, hq => cases hq; exact h7
  | 8, hq => cases hq; exact h8
  | 9, hq => cases hq; exact h9
  | 10, hq => cases hq; exact h10
  | 11, hq => cases hq; exact h11
  | 12, hq => cases hq; exact h12
  | n + 13, hq => simp [classes] at hq
theorem arr_one {args : Array Value} {s : State} {ty : FieldType} (h : (Cond.arrayClass ty).before args s = true) (hty : ∀ C, ty ≠ .object C) : ∃ cA : ClassId, ArrOfT s cA ty ∧ va_RA s cA ty := by
  obtain ⟨c, k, comp, h1, h2, h3⟩ := Cond.arrayClass_spec h
  refine ⟨c, fun n z => ⟨(fun q h => by cases h), k, h2, comp, h3⟩, ?_⟩
  cases ty <;> first | exact h1 | exact absurd rfl (hty _)
theorem arr_obj {args : Array Value} {s : State} {C : String} (h : (Cond.arrayOver (.object C)).before args s = true) : ∃ cA : ClassId, ArrOfT s cA (.object C) ∧ va_RA s cA (.object C) := by
  obtain ⟨comp, c, k, h1, h2, h3, h4, h5⟩ := Cond.arrayOver_spec h
  exact ⟨c, fun n z => ⟨(fun q h => by cases h), k, h3, comp, h4⟩, k, comp, h3, h4, h1, h5⟩
theorem aoRX0 : Cond.arrayOver (.object RX0) ∈ lw_tbl := lwc1 (List.mem_of_getElem? (i := 56) rfl)
theorem aoRX8 : Cond.arrayOver (.object RX8) ∈ lw_tbl := lwc1 (List.mem_of_getElem? (i := 70) rfl)
theorem aoRX1 : Cond.arrayOver (.object RX1) ∈ lw_tbl := lwc1 (List.mem_of_getElem? (i := 166) rfl)
theorem arr_all {args : Array Value} {s : State} (hts : ∀ w ∈ lw_tbl, w.before args s = true) : ∃ gA : Nat → ClassId, ∀ t, t < 6 → ArrOfT s (gA t) (aty t) ∧ va_RA s (gA t) (aty t) := by
  obtain ⟨a0, h0⟩ := arr_one (hts (.arrayClass .int) (lwc1 (List.mem_of_getElem? (i := 48) rfl))) (fun C h => by cases h)
  obtain ⟨a1, h1⟩ := arr_one (hts (.arrayClass .boolean) (lwc2 (List.mem_of_getElem? (i := 9) rfl))) (fun C h => by cases h)
  obtain ⟨a2, h2⟩ := arr_one (hts (.arrayClass .long) (lwc2 (List.mem_of_getElem? (i := 132) rfl))) (fun C h => by cases h)
  obtain ⟨a3, h3⟩ := arr_obj (hts _ aoRX0)
  obtain ⟨a4, h4⟩ := arr_obj (hts _ aoRX1)
  obtain ⟨a5, h5⟩ := arr_obj (hts _ aoRX8)
  refine ⟨fun t => match t with | 0 => a0 | 1 => a1 | 2 => a2 | 3 => a3 | 4 => a4 | _ => a5, fun t ht => ?_⟩
  match t, ht with
  | 0, _ => exact h0
  | 1, _ => exact h1
  | 2, _ => exact h2
  | 3, _ => exact h3
  | 4, _ => exact h4
  | 5, _ => exact h5
  | n + 6, h => omega
theorem nest_all {args : Array Value} {s : State} (hts : ∀ w ∈ lw_tbl, w.before args s = true) (w : Cond) (hw : w ∈ lw_tbl) (hn : isNest w = true) : va_Nw w s := by
  have h := hts w hw
  cases w <;> first | exact va_Nw.of rfl h | cases hn
theorem len_ex {args : Array Value} {s : State} {t : Term} {n : Nat} (hn : n < 2147483648) (h : (Term.length t).eval args s none [] s = some (.int (Int32.ofNat n))) : ∃ (a : Nat) (cell : Cell), t.eval args s none [] s = some (.ref a) ∧ s.arrayAt? a = some cell ∧ cell.slots.size = n := by
  simp only [Term.eval, Option.bind_eq_bind] at h
  cases ht : t.eval args s none [] s with
  | none => simp [ht] at h
  | some x =>
    cases x <;> simp [ht] at h
    case ref a =>
      obtain ⟨cell, hcell, h⟩ := Option.bind_eq_some_iff.mp h
      by_cases hc : cell.slots.size < 2147483648
      · rw [if_pos hc] at h
        have e : cell.slots.size.toInt32 = Int32.ofNat n := by simpa using h
        refine ⟨a, cell, rfl, hcell, ?_⟩
        have e1 : Int32.ofNat cell.slots.size = Int32.ofNat n := e
        have q1 := ofI_int (a := (cell.slots.size : Int)) ⟨by omega, by omega⟩
        have q2 := ofI_int (a := (n : Int)) ⟨by omega, by omega⟩
        rw [Int32.ofInt_eq_ofNat] at q1 q2
        rw [e1, q2] at q1
        omega
      · rw [if_neg hc] at h; cases h
abbrev tInv : Term := .static "FiniteTerms" "INVERSES" "[I"
theorem inv_mem : ∀ j : Fin 101, Cond.eq (.elem tInv (.int (Int32.ofNat j.val))) (.int (Int32.ofInt (ivI (j.val : Int)))) ∈ flatC (Cond.and given_1 narrow_1) := by decide +kernel
theorem inv_len : Cond.eq (.length tInv) (.int 101) ∈ flatC (Cond.and given_1 narrow_1) := by decide +kernel
theorem inv_arr : Cond.arrayOf tInv .int ∈ flatC (Cond.and given_1 narrow_1) := by decide +kernel
theorem inv_lay : Cond.laysStatic "FiniteTerms" "INVERSES" "[I" ∈ lw_tbl := lwc3 (List.mem_of_getElem? (i := 44) rfl)
/-- the table of inverses, and the cell of the statics that names it -/
theorem inv_all {args : Array Value} {s : State} (hts : ∀ w ∈ lw_tbl, w.before args s = true) (hgv : (Cond.and given_1 narrow_1).before args s = true) : ∃ (aI aS : Nat) (cI cS : Cell), (s.heap[aI]? = some cI ∧ s.isArrayOf cI .int ∧ cI.vm ≠ .unknown ∧ cI.slots.size = 101 ∧ ∀ j : Nat, j < 101 → cI.slots[j]? = some (iv (ivI (j : Int)))) ∧ (s.heap[aS]? = some cS ∧ cS.vm.isStatics = true ∧ cS.vm ≠ .unknown) ∧
    ∃ (cf : ClassId) (kf : Class) (fi : Nat) (f : Field), s.fieldFound? RX11 "INVERSES" "[I" = some (cf, kf, fi, f) ∧ f.isStatic = true ∧ kf.init = .initialized ∧ kf.statics = some aS ∧ cS.slots[f.slot]? = some (.ref aI) := by
  have hs := flat_of_before _ hgv
  have hlen := va_eqt (hs _ inv_len)
  obtain ⟨aI, cI, ht, hat, hsz⟩ := len_ex (n := 101) (by decide) hlen
  obtain ⟨hcI, hkn, -, -⟩ := State.arrayAt?_spec hat
  obtain ⟨hof, -⟩ := Cond.arrayOf_spec (hs _ inv_arr) ht hcI
  obtain ⟨c, k, i, f, a, cell, hc, hi, hst, ha, hcell, hss, hcls, hlt, hty⟩ := Cond.laysStatic_spec (hts _ inv_lay)
  obtain ⟨hst', a', cell', ha', hcell', hkn', hslot⟩ := Term.static_spec hi ht
  cases ha.symm.trans ha'
  cases hcell.symm.trans hcell'
  refine ⟨aI, a, cI, cell, ⟨hcI, hof, hkn, hsz, fun j hj => ?_⟩, ⟨hcell, hss, hkn'⟩, c, k, i, f, hi, hst, Cond.initialized_spec hc (State.fieldFound?_spec hi).1 (hts _ inRX11), ha, hslot⟩
  have he := va_eqt (hs _ (inv_mem ⟨j, hj⟩))
  obtain ⟨a2, j2, cell2, h1, h2, h3, h4, h5⟩ := Term.elem_spec he
  cases ht.symm.trans h1
  cases hat.symm.trans h3
  have e2 : j2 = Int32.ofNat j := by
    have : (Term.int (Int32.ofNat j)).eval args s none [] s = some (.int (Int32.ofNat j)) := rfl
    cases this.symm.trans h2
    rfl
  have e3 : j2.toNatClampNeg = j := by
    rw [e2, ← Int32.ofInt_eq_ofNat, ofI_nat ⟨by omega, by omega⟩]; rfl
  rw [e3] at h5
  exact h5
