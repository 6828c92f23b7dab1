section Rows10
variable {l : Launch} {G : Gl} {x : Fx} {cc : ByteArray} {own : String} {nL d : Nat} {rc cs cs' : Nat × Nat} {Λ : Lay} {e : Nat} {μ : Mem} {pc pc' : Nat} {lv lv' : List (Nat × Value)} {st : List Value}
theorem v_gB {t : Nat} {o : Nat × List (Option Value)} (hk : Λ t = some (.inl o)) (kk : gB G ≤ t → V G x cs Λ e μ pc lv st) : V G x cs Λ e μ pc lv st := fun H locs ls hH hL hl => kk ((hH.2 _ _ hk).2 trivial) H locs ls hH hL hl
theorem v_putRo (hx : XOK l G x cc own nL d rc) {idx ci a k : Nat} {fs fs' : List (Option Value)} {ty : FieldType} {v : Value} (hin2 : (xM x).name = "<init>") (hd : dk cc pc (.putfield idx) 3 pc') (hF : FP own idx ci k true ty) (hk : Λ a = some (.inl (ci, fs))) (hkl : k < fs.length) (hfs : fs.set k (some v) = fs') (hn : narrow ty v = v) (hfit : fits ty v = true) (hZ : Zr Λ μ e) (ha : a < e)
    (kk : ∀ Λ' : Lay, Λ' a = some (.inl (ci, fs')) → (∀ q, q ≠ a → SmA Λ μ Λ' μ q) → Zr Λ' μ e → V G x cs Λ' e μ pc' lv st) : V G x cs Λ e μ pc lv (v :: .ref a :: st) :=
  v_putR hx hin2 hd hF hk hkl hfs hn hfit (kk _ (if_pos rfl) (fun q hq => ⟨if_neg hq, rfl, rfl⟩) (fun q hq => ⟨by show (if q = a then _ else Λ q) = none; rw [if_neg (by omega)]; exact (hZ q hq).1, (hZ q hq).2⟩))
theorem Zr.mI {a : Nat} {k z : Int} (h : Zr Λ μ e) (ha : a < e) : Zr Λ (mI μ a k z) e := fun q hq => ⟨(h q hq).1, by rw [mI_ne (by omega)]; exact (h q hq).2.1, (h q hq).2.2⟩
theorem SmA.mI {a q : Nat} {k z : Int} (h : q ≠ a) : SmA Λ μ Λ (mI μ a k z) q := ⟨rfl, mI_ne h, rfl⟩
/-- an int is put into a field of the object that is being made -/
theorem v_putIo (hx : XOK l G x cc own nL d rc) {idx ci a k : Nat} {fs : List (Option Value)} {z : Int} {w w' : Int → Int} (hd : dk cc pc (.putfield idx) 3 pc') (hF : FP own idx ci k false .int) (hk : Λ a = some (.inl (ci, fs))) (hfs : fs[k]? = some none) (hw : μ.1 a = w) (hw' : rw1 w k z = w') (hZ : Zr Λ μ e) (ha : a < e)
    (kk : ∀ μ', μ'.1 a = w' → (∀ q, q ≠ a → SmA Λ μ Λ μ' q) → Zr Λ μ' e → V G x cs Λ e μ' pc' lv st) : V G x cs Λ e μ pc lv (iv z :: .ref a :: st) :=
  v_putI hx hd hF hk hfs (fun μ' eμ => kk μ' (by rw [eμ, ← hw', ← hw]; funext j; exact mI_at) (fun q hq => by rw [eμ]; exact SmA.mI hq) (by rw [eμ]; exact hZ.mI ha))
theorem v_putZo (hx : XOK l G x cc own nL d rc) {idx ci a k : Nat} {fs : List (Option Value)} {z : Int} {w w' : Int → Int} (hd : dk cc pc (.putfield idx) 3 pc') (hF : FP own idx ci k false .boolean) (hk : Λ a = some (.inl (ci, fs))) (hfs : fs[k]? = some none) (hz : z = 0 ∨ z = 1) (hw : μ.1 a = w) (hw' : rw1 w k z = w') (hZ : Zr Λ μ e) (ha : a < e)
    (kk : ∀ μ', μ'.1 a = w' → (∀ q, q ≠ a → SmA Λ μ Λ μ' q) → Zr Λ μ' e → V G x cs Λ e μ' pc' lv st) : V G x cs Λ e μ pc lv (iv z :: .ref a :: st) :=
  v_putZ hx hd hF hk hfs hz (fun μ' eμ => kk μ' (by rw [eμ, ← hw', ← hw]; funext j; exact mI_at) (fun q hq => by rw [eμ]; exact SmA.mI hq) (by rw [eμ]; exact hZ.mI ha))
theorem v_iasto (hx : XOK l G x cc own nL d rc) {a n : Nat} {rs : List (Option Nat)} {i z : Int} {w w' : Int → Int} (hd : dk cc pc .iastore 1 pc') (hk : Λ a = some (.inr (0, n, rs))) (h0 : 0 ≤ i ∧ i < n) (hn : n ≤ 2147483647) (hw : μ.1 a = w) (hw' : rw1 w i z = w') (hZ : Zr Λ μ e) (ha : a < e)
    (kk : ∀ μ', μ'.1 a = w' → (∀ q, q ≠ a → SmA Λ μ Λ μ' q) → Zr Λ μ' e → V G x cs Λ e μ' pc' lv st) : V G x cs Λ e μ pc lv (iv z :: iv i :: .ref a :: st) :=
  v_iastm hx hd hk h0 hn (fun μ' eμ => kk μ' (by rw [eμ, ← hw', ← hw]; funext j; exact mI_at) (fun q hq => by rw [eμ]; exact SmA.mI hq) (by rw [eμ]; exact hZ.mI ha))
theorem v_newq (hx : XOK l G x cc own nL d rc) {t n idx : Nat} {C : String} {rs : List (Option Nat)} (hd : dk cc pc (.anewarray idx) 3 pc') (ht : 3 ≤ t ∧ t < 6) (hat : aty t = .object C) (hcl : Cond.classLink own idx C ∈ lw_tbl) (hAO : ∀ U : State, KK G U → va_AO C U) (hn : n ≤ 100000) (hrs : List.replicate n none = rs) (hg : gB G ≤ e) (hZ : Zr Λ μ e) (hcs : (cs.1 + 1, cs.2 + n) = cs') (hcr : cs'.1 ≤ rc.1 ∧ cs'.2 ≤ rc.2)
    (kk : ∀ Λ' : Lay, Λ' e = some (.inr (t, n, rs)) → (∀ a, a ≠ e → SmA Λ μ Λ' μ a) → Zr Λ' μ (e + 1) → V G x cs' Λ' (e + 1) μ pc' lv (.ref e :: st)) : V G x cs Λ e μ pc lv (iv (n : Int) :: st) := by
  intro H locs ls hH hL hl
  obtain ⟨h1, rfl⟩ := hd
  have hts := hx.2.2.2.2.1
  obtain ⟨-, -, -, -, -, hK, -, hfr, hlo, hce, hsl, -⟩ := id hx
  subst hcs
  have hi : inR (n : Int) := ⟨by omega, by omega⟩
  have hnn : (Int32.ofInt (n : Int)).toNatClampNeg = n := by rw [ofI_nat hi]; rfl
  refine W.anew hx.1 hx.2.1 hx.2.2.2.1 (hts _ (memtb hcl rfl)) (va_AO.use (hAO _ hK)) rfl h1 rfl (fun h => ?_) (by rw [hnn]; omega) (Nat.le_trans hcr.1 hce) (by rw [hnn]; exact Nat.le_trans hcr.2 hsl) fun cA kA comp f1 f2 f3 f4 => ?_
  · have : Int32.ofInt (n : Int) < Int32.ofInt 0 := h
    rw [ofI_lt hi (by decide)] at this
    omega
  rw [hnn]
  generalize hH1 : H.push ({ cls := cA, slots := Array.replicate n .null, vm := .none } : Cell) = H1
  have zz : H1.size = e + 1 := by rw [← hH1, Array.size_push, hH.1]
  have e1 : H1[e]? = some (arrV cA n (fun _ => .null)) := by rw [← hH1, ← hH.1, Array.getElem?_push_size, ← arrV_new]
  have o1 : ∀ q : Nat, q < e → H1[q]? = H[q]? := fun q hq => by rw [← hH1, Array.getElem?_push, if_neg (Nat.ne_of_lt (by rw [hH.1]; exact hq))]
  have hm := hZ e (Nat.le_refl _)
  have kq := kk _ (if_pos rfl) (fun a ha => ⟨if_neg ha, rfl, rfl⟩) (fun a ha => ⟨by show (if a = e then _ else Λ a) = none; rw [if_neg (by omega)]; exact (hZ a (by omega)).1, (hZ a (by omega)).2⟩) H1 locs ls (hH.push (kd := .inr (t, n, rs)) zz o1 ?_ hg) hL hl
  · rw [hH.1]; exact kq
  · show (if t = 9 then _ else H1[e]? = some (arrV (gA G t) n (av μ e t rs)))
    rw [if_neg (by omega), e1]
    have hra := (hK.2.1 t ht.2).2
    rw [hat] at hra
    obtain ⟨kA', comp', r1, r2, r3, r4⟩ := hra
    have : cA = gA G t := Option.some.inj (f1.symm.trans r4)
    subst this
    congr 2
    funext j
    unfold av
    rw [if_neg (by omega), if_neg (by omega), ← hrs]
    by_cases q : j < n
    · simp [List.getD, q, va_rf]
    · simp [List.getD, q, va_rf]
theorem v_aast (hx : XOK l G x cc own nL d rc) {a v t n ci i : Nat} {rs rs' : List (Option Nat)} {vs : List (Option Value)} {C : String} {T : u_T} {N : Nat} (hd : dk cc pc .aastore 1 pc') (hk : Λ a = some (.inr (t, n, rs))) (ht : 3 ≤ t ∧ t < 6) (hat : aty t = .object C) (hv : Λ v = some (.inl (ci, vs))) (hc : classes[ci]? = some (C, T, N)) (hi : i < n) (hn : n ≤ 100000) (hl0 : rs.length = n) (hrs : rs.set i (some v) = rs') (hZ : Zr Λ μ e) (ha : a < e)
    (kk : ∀ Λ' : Lay, Λ' a = some (.inr (t, n, rs')) → (∀ q, q ≠ a → SmA Λ μ Λ' μ q) → Zr Λ' μ e → V G x cs Λ' e μ pc' lv st) : V G x cs Λ e μ pc lv (.ref v :: iv (i : Int) :: .ref a :: st) := by
  intro H locs ls hH hL hl
  obtain ⟨h1, rfl⟩ := hd
  obtain ⟨-, -, -, -, -, hK, -, hfr, hlo, hce, hsl, -⟩ := id hx
  have hir : inR (i : Int) := ⟨by omega, by omega⟩
  obtain ⟨cellV, g1, g2, g3, g4⟩ := hH.obj hv hc
  have hcls := (hK.1.1 ci _ hc).2
  have hra := (hK.2.1 t ht.2).2
  rw [hat] at hra
  obtain ⟨kA, comp, k1, k2, k3, -⟩ := hra
  have hcomp : comp = (gD G).1 ci := Option.some.inj (k3.symm.trans hcls.1)
  subst hcomp
  obtain ⟨kC, hkC, -⟩ := hcls.2
  have hnn : (Int32.ofInt (i : Int)).toNatClampNeg = i := by rw [ofI_nat hir]; rfl
  refine W.aast hx.1 hx.2.1 (hH.arr hk (by omega)) (fun q h => by cases h) (fun h => by cases h) k1 k2 rfl hkC ⟨fun h => ?_, by rw [arrV_size, hnn]; exact hi⟩ g1 (fun q h => by rw [g3] at h; cases h) (by rw [g2]; exact hkC) (by rw [g2]; exact va_assign hcls) rfl rfl h1 fun H' e1 e2 e3 => ?_
  · have : Int32.ofInt (i : Int) < Int32.ofInt 0 := h
    rw [ofI_lt hir (by decide)] at this
    omega
  rw [hnn] at e1 ⊢
  refine kk _ (if_pos rfl) (fun q hq => ⟨if_neg hq, rfl, rfl⟩) (fun q hq => ⟨by show (if q = a then _ else Λ q) = none; rw [if_neg (by omega)]; exact (hZ q hq).1, (hZ q hq).2⟩) H' _ ls (hH.seta (μ' := μ) (rs' := rs') hk (by omega) e2 e3 e1 ?_ (fun b _ => rfl) (fun b _ => rfl)) (fun q hq => by
    rcases List.mem_append.mp hq with h | h
    · exact hL q h
    · rw [List.mem_singleton.mp h]; exact (hH.2 _ _ hk).2 (show t ≠ 9 by omega)) hl
  funext j
  have h2 : ¬ t = 2 := by omega
  have h3 : ¬ t ≤ 1 := by omega
  simp only [updV, av, if_neg h2, if_neg h3]
  rw [← hrs]
  by_cases q : j = i
  · subst q
    rw [if_pos rfl]
    simp [List.getD, hl0, hi, va_rf]
  · rw [if_neg q]
    simp [List.getD, List.getElem?_set_ne (fun z => q z.symm)]
end Rows10
theorem KK.ao {G : Gl} {U : State} (h : KK G U) : va_AO RX0 U ∧ va_AO RX1 U ∧ va_AO RX8 U := h.2.2.2.2.1
