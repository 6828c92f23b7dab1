/-! ===== System.arraycopy of longs ===== -/
def mCL (μ : Mem) (a0 : Nat) (sp : Int) (a : Nat) (dp n : Int) : Mem := (μ.1, fun b j => if b = a ∧ dp ≤ j ∧ j < dp + n then μ.2 a0 (sp + (j - dp)) else μ.2 b j)
theorem mCL_ne {μ : Mem} {a0 a b : Nat} {sp dp n : Int} (h : b ≠ a) : (mCL μ a0 sp a dp n).2 b = μ.2 b := by
  funext j
  show (if b = a ∧ dp ≤ j ∧ j < dp + n then μ.2 a0 (sp + (j - dp)) else μ.2 b j) = _
  rw [if_neg (fun q => h q.1)]
theorem av_lng {μ : Mem} {a : Nat} {rs : List (Option Nat)} : av μ a 2 rs = fun j : Nat => Value.long (μ.2 a (j : Int)) := by
  funext j
  simp [av]
section Rows5L
variable {l : Launch} {G : Gl} {x : Fx} {cc : ByteArray} {own : String} {nL d : Nat} {rc cs : Nat × Nat} {Λ : Lay} {sz : Nat} {μ : Mem} {pc pc' : Nat} {lv lv' : List (Nat × Value)} {st : List Value}
theorem v_acpyL (hx : XOK l G x cc own nL d rc) {idx a0 a n0 n1 : Nat} {rs0 rs1 : List (Option Nat)} {sp dp n : Int} (hd : dk cc pc (.invokestatic idx) 3 pc') (hlk : Cond.methodLink own idx arraycopyName ∈ lw_tbl) (hk0 : Λ a0 = some (.inr (2, n0, rs0))) (hk1 : Λ a = some (.inr (2, n1, rs1)))
    (hn0 : n0 ≤ 2147483647) (hn1 : n1 ≤ 2147483647) (h : 0 ≤ sp ∧ 0 ≤ dp ∧ 0 ≤ n ∧ sp + n ≤ n0 ∧ dp + n ≤ n1) (hW : (st.map fun v => v.category).sum ≤ 8) (hR : 1 ≤ d)
    (kk : ∀ μ', μ' = mCL μ a0 sp a dp n → V G x cs Λ sz μ' pc' lv st) : V G x cs Λ sz μ pc lv (iv n :: iv dp :: .ref a :: iv sp :: .ref a0 :: st) := by
  intro H locs ls hH hL hl
  obtain ⟨h1, rfl⟩ := hd
  obtain ⟨q1, q2, q3, q4, q5⟩ := h
  have isp : inR sp := ⟨by omega, by omega⟩
  have idp : inR dp := ⟨by omega, by omega⟩
  have inn : inR n := ⟨by omega, by omega⟩
  have nn : ∀ z : Int, inR z → 0 ≤ z → ¬ Int32.ofInt z < 0 := fun z hz h0 q => by
    have : Int32.ofInt z < Int32.ofInt 0 := q
    rw [ofI_lt hz (by decide)] at this
    omega
  have hts := hx.2.2.2.2.1
  have hc0 := hH.arr hk0 (by omega)
  have hc1 := hH.arr hk1 (by omega)
  rw [av_lng] at hc0 hc1
  intro T hT X
  have hA := (hx.2.2.2.2.2.1.2.1 2 (by omega)).1
  obtain ⟨-, k0, hk0', cm0, hkk0⟩ := hA n0 (fun j : Nat => Value.long (μ.2 a0 (j : Int)))
  obtain ⟨-, k1, hk1', cm1, hkk1⟩ := hA n1 (fun j : Nat => Value.long (μ.2 a (j : Int)))
  have hlen := hx.2.2.2.2.2.2.2.2.1
  obtain ⟨vm', X', step⟩ := X.arraycopy hx.1 hx.2.2.2.1 (hts _ (memtb hlk rfl)) (hts _ (memtb acN rfl)) (hts _ (memtb acS rfl)) (hts _ (memtb acI rfl)) (src := a0) (dst := a) (cs := arrV (gA G 2) n0 (fun j : Nat => Value.long (μ.2 a0 (j : Int)))) (cd := arrV (gA G 2) n1 (fun j : Nat => Value.long (μ.2 a (j : Int)))) (srcPos := Int32.ofInt sp) (destPos := Int32.ofInt dp) (n := Int32.ofInt n) (by rw [hT]; exact hc0) (by rw [hT]; exact hc1)
    (fun _ h => by cases h) (fun _ h => by cases h) (fun h => by cases h) (fun h => by cases h) hk0' hk1' hkk0 hkk1 (by simp [aty, refKind]) (nn sp isp q1) (nn dp idp q2) (nn n inn q3)
    (by rw [ofI_int isp, ofI_int inn, arrV_size]; omega)
    (by rw [ofI_int idp, ofI_int inn, arrV_size]; omega)
    (fun vm₁ _ i hi => by
      rw [ofI_nat inn] at hi
      have e : (arrV (gA G 2) n0 (fun j : Nat => Value.long (μ.2 a0 (j : Int)))).slots.getD ((Int32.ofInt sp).toNatClampNeg + i) .null = Value.long (μ.2 a0 (((Int32.ofInt sp).toNatClampNeg + i : Nat) : Int)) := by
        rw [Array.getD_eq_getD_getElem?, arrV_read _ _ (by rw [ofI_nat isp]; omega)]
        rfl
      refine ⟨?_, ?_⟩
      · rw [e]; rfl
      · rw [e]; exact trivial)
    (g := F0 (xm x) pc ls (iv n :: iv dp :: .ref a :: iv sp :: .ref a0 :: st)) rfl (by rw [← hl.1]) (rest := st) rfl (by rw [hx.2.1]; exact h1) (by have := hx.2.2.2.2.2.2.2.1; omega) (by show 2 * 0 + _ + (5 + 2 + 11) ≤ _; omega)
  have e1 : copied (arrV (gA G 2) n0 (fun j : Nat => Value.long (μ.2 a0 (j : Int)))) (arrV (gA G 2) n1 (fun j : Nat => Value.long (μ.2 a (j : Int)))) (Int32.ofInt sp) (Int32.ofInt dp) (Int32.ofInt n) = arrV (gA G 2) n1 (av (mCL μ a0 sp a dp n) a 2 rs1) := by
    refine (va_copied (fun z : Int64 => Value.long z) (gA G 2) (gA G 2) (fun j : Nat => μ.2 a0 (j : Int)) (fun j : Nat => μ.2 a (j : Int)) (by rw [ofI_nat isp, ofI_nat inn]; omega)).trans ?_
    rw [av_lng, ofI_nat isp, ofI_nat idp, ofI_nat inn]
    congr 1
    funext j
    congr 1
    show (if dp.toNat ≤ j ∧ j < dp.toNat + n.toNat then μ.2 a0 ((sp.toNat + (j - dp.toNat) : Nat) : Int) else μ.2 a (j : Int)) = (if a = a ∧ dp ≤ (j : Int) ∧ (j : Int) < dp + n then μ.2 a0 (sp + ((j : Int) - dp)) else μ.2 a (j : Int))
    by_cases c : dp.toNat ≤ j ∧ j < dp.toNat + n.toNat
    · rw [if_pos c, if_pos ⟨rfl, by omega, by omega⟩, show ((sp.toNat + (j - dp.toNat) : Nat) : Int) = sp + ((j : Int) - dp) by omega]
    · rw [if_neg c, if_neg (fun q => c ⟨by omega, by omega⟩)]
  rw [e1] at X' step
  have hlt : a < H.size := (Array.getElem?_eq_some_iff.mp hc1).1
  have hheap : ((T.setVm vm').setCell a (arrV (gA G 2) n1 (av (mCL μ a0 sp a dp n) a 2 rs1))).heap = H.setIfInBounds a (arrV (gA G 2) n1 (av (mCL μ a0 sp a dp n) a 2 rs1)) := by rw [← hT]; rfl
  have oq : ∀ q : Nat, q ≠ a → (H.setIfInBounds a (arrV (gA G 2) n1 (av (mCL μ a0 sp a dp n) a 2 rs1)))[q]? = H[q]? := fun q hq => by simp [Array.getElem?_setIfInBounds, Ne.symm hq]
  have hH2 : HR G Λ sz (mCL μ a0 sp a dp n) (H.setIfInBounds a (arrV (gA G 2) n1 (av (mCL μ a0 sp a dp n) a 2 rs1))) := by
    refine hH.put (by simp) oq hk1 ?_ (fun b _ => rfl) (fun b hb => mCL_ne hb)
    simp only [cOK]
    rw [if_neg (by decide)]
    simp [Array.getElem?_setIfInBounds, hlt]
  obtain ⟨t, a1, b1⟩ := kk _ rfl _ _ ls hH2 (fun q hq => by
      rcases List.mem_append.mp hq with h | h
      · exact hL q h
      · obtain ⟨z, -, hz⟩ := List.mem_map.mp h
        rw [← hz]
        exact (hH.2 _ _ hk1).2 (fun q => by cases q)) hl _ hheap X'
  exact ⟨t, step t a1, b1⟩
end Rows5L
