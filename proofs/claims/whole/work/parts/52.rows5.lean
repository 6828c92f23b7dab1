/-! ===== System.arraycopy of ints; the next random number ===== -/
def mC (μ : Mem) (a0 : Nat) (sp : Int) (a : Nat) (dp n : Int) : Mem := (fun b j => if b = a ∧ dp ≤ j ∧ j < dp + n then μ.1 a0 (sp + (j - dp)) else μ.1 b j, μ.2)
theorem mC_ne {μ : Mem} {a0 a b : Nat} {sp dp n : Int} (h : b ≠ a) : (mC μ a0 sp a dp n).1 b = μ.1 b := by
  funext j
  show (if b = a ∧ dp ≤ j ∧ j < dp + n then μ.1 a0 (sp + (j - dp)) else μ.1 b j) = _
  rw [if_neg (fun q => h q.1)]
theorem mC_at {μ : Mem} {a0 a : Nat} {sp dp n j : Int} (h : dp ≤ j ∧ j < dp + n) : (mC μ a0 sp a dp n).1 a j = μ.1 a0 (sp + (j - dp)) := by
  show (if a = a ∧ dp ≤ j ∧ j < dp + n then μ.1 a0 (sp + (j - dp)) else μ.1 a j) = _
  rw [if_pos ⟨rfl, h⟩]
theorem acN : Cond.native arraycopyName ∈ lw_tbl := lwc4 (List.mem_of_getElem? (i := 7) rfl)
theorem acS : Cond.static arraycopyName ∈ lw_tbl := lwc4 (List.mem_of_getElem? (i := 6) rfl)
theorem acI : Cond.initialized "java/lang/System" ∈ lw_tbl := lwc1 (List.mem_of_getElem? (i := 15) rfl)
theorem av_int {μ : Mem} {a : Nat} {rs : List (Option Nat)} : av μ a 0 rs = fun j : Nat => iv (μ.1 a (j : Int)) := by
  funext j
  simp [av]
section Rows5
variable {l : Launch} {G : Gl} {x : Fx} {cc : ByteArray} {own : String} {nL d : Nat} {rc cs : Nat × Nat} {Λ : Lay} {sz : Nat} {μ : Mem} {pc pc' : Nat} {lv lv' : List (Nat × Value)} {st : List Value}
theorem v_acpy (hx : XOK l G x cc own nL d rc) {idx a0 a n0 n1 : Nat} {rs0 rs1 : List (Option Nat)} {sp dp n : Int} (hd : dk cc pc (.invokestatic idx) 3 pc') (hlk : Cond.methodLink own idx arraycopyName ∈ lw_tbl) (hk0 : Λ a0 = some (.inr (0, n0, rs0))) (hk1 : Λ a = some (.inr (0, n1, rs1)))
    (hn0 : n0 ≤ 2147483647) (hn1 : n1 ≤ 2147483647) (h : 0 ≤ sp ∧ 0 ≤ dp ∧ 0 ≤ n ∧ sp + n ≤ n0 ∧ dp + n ≤ n1) (hW : (st.map fun v => v.category).sum ≤ 8) (hR : 1 ≤ d)
    (kk : ∀ μ', μ' = mC μ a0 sp a dp n → V G x cs Λ sz μ' pc' lv st) : V G x cs Λ sz μ pc lv (iv n :: iv dp :: .ref a :: iv sp :: .ref a0 :: st) := by
  intro H locs ls hH hL hl
  obtain ⟨h1, rfl⟩ := hd
  obtain ⟨q1, q2, q3, q4, q5⟩ := h
  have isp : inR sp := ⟨by omega, by omega⟩
  have idp : inR dp := ⟨by omega, by omega⟩
  have inn : inR n := ⟨by omega, by omega⟩
  have nn : ∀ z : Int, inR z → 0 ≤ z → ¬ Int32.ofInt z < 0 := fun z hz h0 q => by
    have : Int32.ofInt z < Int32.ofInt 0 := q
    rw [ofI_lt hz (by decide)] at this
    omega
  have hts := hx.2.2.2.2.1
  have hc0 := hH.arr hk0 (by omega)
  have hc1 := hH.arr hk1 (by omega)
  rw [av_int] at hc0 hc1
  intro T hT X
  have hA := (hx.2.2.2.2.2.1.2.1 0 (by omega)).1
  obtain ⟨-, k0, hk0', cm0, hkk0⟩ := hA n0 (fun j : Nat => iv (μ.1 a0 (j : Int)))
  obtain ⟨-, k1, hk1', cm1, hkk1⟩ := hA n1 (fun j : Nat => iv (μ.1 a (j : Int)))
  have hlen := hx.2.2.2.2.2.2.2.2.1
  obtain ⟨vm', X', step⟩ := X.arraycopy hx.1 hx.2.2.2.1 (hts _ (memtb hlk rfl)) (hts _ (memtb acN rfl)) (hts _ (memtb acS rfl)) (hts _ (memtb acI rfl)) (src := a0) (dst := a) (cs := arrV (gA G 0) n0 (fun j : Nat => iv (μ.1 a0 (j : Int)))) (cd := arrV (gA G 0) n1 (fun j : Nat => iv (μ.1 a (j : Int)))) (srcPos := Int32.ofInt sp) (destPos := Int32.ofInt dp) (n := Int32.ofInt n) (by rw [hT]; exact hc0) (by rw [hT]; exact hc1)
    (fun _ h => by cases h) (fun _ h => by cases h) (fun h => by cases h) (fun h => by cases h) hk0' hk1' hkk0 hkk1 (by simp [aty, refKind]) (nn sp isp q1) (nn dp idp q2) (nn n inn q3)
    (by rw [ofI_int isp, ofI_int inn, arrV_size]; omega)
    (by rw [ofI_int idp, ofI_int inn, arrV_size]; omega)
    (fun vm₁ _ i hi => by
      rw [ofI_nat inn] at hi
      have e : (arrV (gA G 0) n0 (fun j : Nat => iv (μ.1 a0 (j : Int)))).slots.getD ((Int32.ofInt sp).toNatClampNeg + i) .null = iv (μ.1 a0 (((Int32.ofInt sp).toNatClampNeg + i : Nat) : Int)) := by
        rw [Array.getD_eq_getD_getElem?, arrV_read _ _ (by rw [ofI_nat isp]; omega)]
        rfl
      refine ⟨?_, ?_⟩
      · rw [e]; rfl
      · rw [e]; exact trivial)
    (g := F0 (xm x) pc ls (iv n :: iv dp :: .ref a :: iv sp :: .ref a0 :: st)) rfl (by rw [← hl.1]) (rest := st) rfl (by rw [hx.2.1]; exact h1) (by have := hx.2.2.2.2.2.2.2.1; omega) (by show 2 * 0 + _ + (5 + 2 + 11) ≤ _; omega)
  have e1 : copied (arrV (gA G 0) n0 (fun j : Nat => iv (μ.1 a0 (j : Int)))) (arrV (gA G 0) n1 (fun j : Nat => iv (μ.1 a (j : Int)))) (Int32.ofInt sp) (Int32.ofInt dp) (Int32.ofInt n) = arrV (gA G 0) n1 (av (mC μ a0 sp a dp n) a 0 rs1) := by
    refine (va_copied (fun z : Int => iv z) (gA G 0) (gA G 0) (fun j : Nat => μ.1 a0 (j : Int)) (fun j : Nat => μ.1 a (j : Int)) (by rw [ofI_nat isp, ofI_nat inn]; omega)).trans ?_
    rw [av_int, ofI_nat isp, ofI_nat idp, ofI_nat inn]
    congr 1
    funext j
    congr 1
    show (if dp.toNat ≤ j ∧ j < dp.toNat + n.toNat then μ.1 a0 ((sp.toNat + (j - dp.toNat) : Nat) : Int) else μ.1 a (j : Int)) = (if a = a ∧ dp ≤ (j : Int) ∧ (j : Int) < dp + n then μ.1 a0 (sp + ((j : Int) - dp)) else μ.1 a (j : Int))
    by_cases c : dp.toNat ≤ j ∧ j < dp.toNat + n.toNat
    · rw [if_pos c, if_pos ⟨rfl, by omega, by omega⟩, show ((sp.toNat + (j - dp.toNat) : Nat) : Int) = sp + ((j : Int) - dp) by omega]
    · rw [if_neg c, if_neg (fun q => c ⟨by omega, by omega⟩)]
  rw [e1] at X' step
  have hlt : a < H.size := (Array.getElem?_eq_some_iff.mp hc1).1
  have hheap : ((T.setVm vm').setCell a (arrV (gA G 0) n1 (av (mC μ a0 sp a dp n) a 0 rs1))).heap = H.setIfInBounds a (arrV (gA G 0) n1 (av (mC μ a0 sp a dp n) a 0 rs1)) := by rw [← hT]; rfl
  have oq : ∀ q : Nat, q ≠ a → (H.setIfInBounds a (arrV (gA G 0) n1 (av (mC μ a0 sp a dp n) a 0 rs1)))[q]? = H[q]? := fun q hq => by simp [Array.getElem?_setIfInBounds, Ne.symm hq]
  have hH2 : HR G Λ sz (mC μ a0 sp a dp n) (H.setIfInBounds a (arrV (gA G 0) n1 (av (mC μ a0 sp a dp n) a 0 rs1))) := by
    refine hH.put (by simp) oq hk1 ?_ (fun b hb => mC_ne hb) (fun b _ => rfl)
    simp only [cOK]
    rw [if_neg (by decide)]
    simp [Array.getElem?_setIfInBounds, hlt]
  obtain ⟨t, a1, b1⟩ := kk _ rfl _ _ ls hH2 (fun q hq => by
      rcases List.mem_append.mp hq with h | h
      · exact hL q h
      · obtain ⟨z, -, hz⟩ := List.mem_map.mp h
        rw [← hz]
        exact (hH.2 _ _ hk1).2 (fun q => by cases q)) hl _ hheap X'
  exact ⟨t, step t a1, b1⟩
end Rows5
/-- the next random number -/
def rnx (r : Int) : Int := (r * 1103515245 + 12345) % 2147483648
theorem rnx_rng (r : Int) : 0 ≤ rnx r ∧ rnx r ≤ 2147483647 := by unfold rnx; omega
theorem i2l_of {z : Int} (h : inR z) : (Int32.ofInt z).toInt64 = Int64.ofInt z := by
  apply Int64.toInt_inj.mp
  rw [Int32.toInt_toInt64, ofI_int h, Int64.toInt_ofInt_of_le (by have := h.1; omega) (by have := h.2; omega)]
theorem rnx_l {r : Int} (h : 0 ≤ r ∧ r ≤ 2147483647) : (((Int32.ofInt r).toInt64 * 1103515245 + 12345) &&& 2147483647).toInt32 = Int32.ofInt (rnx r) := by
  rw [i2l_of ⟨by omega, h.2⟩]
  have e : Int64.ofInt r * 1103515245 + 12345 = Int64.ofInt (r * 1103515245 + 12345) := by
    rw [Int64.ofInt_add, Int64.ofInt_mul]; rfl
  rw [e]
  unfold rnx
  generalize r * 1103515245 + 12345 = z
  apply Int32.toBitVec_inj.mp
  apply BitVec.eq_of_toNat_eq
  show ((BitVec.ofInt 64 z &&& 2147483647#64).signExtend 32).toNat = (BitVec.ofInt 32 (z % 2147483648)).toNat
  rw [BitVec.signExtend_eq_setWidth_of_le _ (by decide), BitVec.toNat_setWidth, BitVec.toNat_and, BitVec.toNat_ofInt, BitVec.toNat_ofInt]
  have h2 : (2147483647#64).toNat = 2 ^ 31 - 1 := by decide
  rw [h2, Nat.and_two_pow_sub_one_eq_mod]
  omega
/-! ===== boards that change ===== -/
theorem Fr.mC {S : List Nat} {μ : Mem} {a0 a : Nat} {sp dp n : Int} (h : a ∈ S) : Fr S μ (mC μ a0 sp a dp n) := ⟨fun b hb => mC_ne (fun q => hb (q ▸ h)), rfl⟩
abbrev FrB (β : Nat) (μ μ' : Mem) : Prop := Fr [β, β + 1, β + 2] μ μ'
theorem AB.brd {Λ : Lay} {μ μ' : Mem} {π : Nat → PS} {β : Nat} (h : AB Λ μ π) (hK : boardK Λ β) (hf : FrB β μ μ') : AB Λ μ' π := by
  intro a ha
  have o := hK.off
  have n1 : a ∉ [β, β + 1, β + 2] := by
    intro q
    simp at q
    rcases q with rfl | rfl | rfl
    · exact o.1 (Or.inl ha)
    · exact o.2.1 (Or.inl ha)
    · exact o.2.2 (Or.inl ha)
  have n2 : a + 1 ∉ [β, β + 1, β + 2] := by
    intro q
    simp only [List.mem_cons, List.not_mem_nil, or_false] at q
    rcases q with q | q | q
    · exact o.1 (Or.inr ⟨a, q.symm, ha⟩)
    · exact o.2.1 (Or.inr ⟨a, q.symm, ha⟩)
    · exact o.2.2 (Or.inr ⟨a, q.symm, ha⟩)
  exact (h a ha).kept hf n1 n2
theorem boardK.apart {Λ : Lay} {β γ : Nat} (h : boardK Λ β) (h' : boardK Λ γ) (hne : γ ≠ β) : γ ∉ [β, β + 1, β + 2] ∧ γ + 1 ∉ [β, β + 1, β + 2] ∧ γ + 2 ∉ [β, β + 1, β + 2] := by
  have c1 : γ ≠ β + 1 := fun q => by subst q; have := h.2.1.symm.trans h'.1; simp at this
  have c2 : γ ≠ β + 2 := fun q => by subst q; have := h.2.2.symm.trans h'.1; simp at this
  have c3 : β ≠ γ + 1 := fun q => by subst q; have := h'.2.1.symm.trans h.1; simp at this
  have c4 : β ≠ γ + 2 := fun q => by subst q; have := h'.2.2.symm.trans h.1; simp at this
  simp only [List.mem_cons, List.not_mem_nil, or_false, not_or]
  omega
theorem BA.brd {Λ : Lay} {μ μ' : Mem} {β γ : Nat} {b : Bd} (h : BA μ γ b) (hK : boardK Λ β) (hK' : boardK Λ γ) (hne : γ ≠ β) (hf : FrB β μ μ') : BA μ' γ b := by
  obtain ⟨o1, o2, o3⟩ := hK.apart hK' hne
  exact ⟨h.1, fun j h0 h1 => by rw [hf.1 _ o2]; exact h.2.1 j h0 h1, fun j h0 h1 => by rw [hf.1 _ o3]; exact h.2.2.1 j h0 h1, by rw [hf.1 _ o1]; exact h.2.2.2.1, by rw [hf.1 _ o1]; exact h.2.2.2.2⟩
def tw4 (a0 a1 a2 a3 : Int) : Int → Int := fun j => if j = 0 then a0 else if j = 1 then a1 else if j = 2 then a2 else if j = 3 then a3 else 0
def Bd.sto (b : Bd) (t : Int) (N D : PS) : Bd := (fun j => if t * 12 ≤ j ∧ j < t * 12 + 12 then (if j - t * 12 ≤ 6 then cf N (j - t * 12) else cf D (j - t * 12 - 7)) else b.1 j, b.2)
/-- the first k cells of it -/
def Bd.stk (b : Bd) (t : Int) (N D : PS) (k : Int) : Int → Int := fun j => if t * 12 ≤ j ∧ j < t * 12 + k then (if j - t * 12 ≤ 6 then cf N (j - t * 12) else cf D (j - t * 12 - 7)) else b.1 j
theorem Bd.sto_ok {b : Bd} (h : b.ok) (t : Int) (N D : PS) : (b.sto t N D).ok := by
  refine ⟨fun j => ?_, h.2⟩
  show 0 ≤ (if t * 12 ≤ j ∧ j < t * 12 + 12 then (if j - t * 12 ≤ 6 then cf N (j - t * 12) else cf D (j - t * 12 - 7)) else b.1 j) ∧ (if t * 12 ≤ j ∧ j < t * 12 + 12 then (if j - t * 12 ≤ 6 then cf N (j - t * 12) else cf D (j - t * 12 - 7)) else b.1 j) ≤ 100
  split
  · split
    · exact cf_rng _ _
    · exact cf_rng _ _
  · exact h.1 j
theorem Bd.stk_next {b : Bd} {t : Int} {N D : PS} {k z : Int} (hk : 0 ≤ k ∧ k < 12) (hz : z = if k ≤ 6 then cf N k else cf D (k - 7)) (j : Int) : (if j = t * 12 + k then z else b.stk t N D k j) = b.stk t N D (k + 1) j := by
  unfold Bd.stk
  by_cases e : j = t * 12 + k
  · rw [if_pos e, if_pos (by omega), hz, show j - t * 12 = k by omega]
  · rw [if_neg e]
    by_cases c : t * 12 ≤ j ∧ j < t * 12 + k
    · rw [if_pos c, if_pos (show t * 12 ≤ j ∧ j < t * 12 + (k + 1) by omega)]
    · rw [if_neg c, if_neg (show ¬ (t * 12 ≤ j ∧ j < t * 12 + (k + 1)) by omega)]
def Bd.uP (b : Bd) : PS := fun k => if k < 4 then fi (b.2.1 k) else 0
theorem Bd.uP_lt (b : Bd) : b.uP.lt 4 := fun k hk => by unfold Bd.uP; rw [if_neg (by omega)]
theorem PS.mix_set (p q : PS) (k : Nat) : (p.mix q k).set k (q k) = p.mix q (k + 1) := PS.ext fun n => by
  unfold PS.set PS.mix
  by_cases e : n = k
  · subst e; rw [if_pos rfl, if_pos (by omega)]
  · rw [if_neg e]
    by_cases c : n < k
    · rw [if_pos c, if_pos (by omega)]
    · rw [if_neg c, if_neg (by omega)]
theorem PS.mix_end0 {p q : PS} {k : Nat} (hp : p.lt k) (hq : q.lt k) : p.mix q k = q := PS.ext fun n => by
  unfold PS.mix
  by_cases c : n < k
  · rw [if_pos c]
  · rw [if_neg c, hp n (by omega), hq n (by omega)]
theorem PS.mix0 (p q : PS) : p.mix q 0 = p := PS.ext fun n => by unfold PS.mix; rw [if_neg (by omega)]
