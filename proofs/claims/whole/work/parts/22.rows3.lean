def pP (μ : Mem) (e : Int) : Option Value → Mem → Prop := pI (fun z μ' => μ' = μ ∧ z = e)
section Rows3
variable {l : Launch} {G : Gl} {x : Fx} {cc : ByteArray} {own : String} {nL d : Nat} {rc cs : Nat × Nat} {Λ : Lay} {sz : Nat} {μ : Mem} {pc pc' : Nat} {lv lv' : List (Nat × Value)} {st : List Value}
variable {y : MethodName} {cy : ByteArray} {nLy dy n idx ci b : Nat} {ret : Option FieldType} {fs : List (Option Value)} {st0 : List Value}
theorem v_cVp (hx : XOK l G x cc own nL d rc) {e : Int} (hd : dk cc pc (.invokevirtual idx) 3 pc') (hC : CV own idx ci y cy nLy ret n) (As : List Value) (hS : Sp l G y cy nLy ret dy (.ref b :: As) Λ sz μ (pP μ e)) (hk : Λ b = some (.inl (ci, fs))) (hst : st0 = As.reverse ++ .ref b :: st) (hn : As.length = n) (hW : (st.map fun v => v.category).sum ≤ 8)
    (hR : dy + 1 ≤ d) (hcs : cs.1 ≤ rc.1 ∧ cs.2 ≤ rc.2) (kk : V G x cs Λ sz μ pc' lv (iv e :: st)) : V G x cs Λ sz μ pc lv st0 :=
  v_cVi hx hd hC As hS hk hst hn hW hR hcs (fun z μ' h => by obtain ⟨rfl, rfl⟩ := h; exact kk)
theorem v_cSp (hx : XOK l G x cc own nL d rc) {e : Int} (hd : dk cc pc (.invokestatic idx) 3 pc') (hC : CS own idx y cy nLy ret n) (As : List Value) (hS : Sp l G y cy nLy ret dy As Λ sz μ (pP μ e)) (hst : st0 = As.reverse ++ st) (hn : As.length = n) (hW : (st.map fun v => v.category).sum ≤ 8)
    (hR : dy + 1 ≤ d) (hcs : cs.1 ≤ rc.1 ∧ cs.2 ≤ rc.2) (kk : V G x cs Λ sz μ pc' lv (iv e :: st)) : V G x cs Λ sz μ pc lv st0 :=
  v_cSi hx hd hC As hS hst hn hW hR hcs (fun z μ' h => by obtain ⟨rfl, rfl⟩ := h; exact kk)
theorem v_cNp (hx : XOK l G x cc own nL d rc) {e : Int} (hd : dk cc pc (.invokestatic idx) 3 pc') (hC : CSN own idx y cy nLy ret n) (As : List Value) (hS : Sp l G y cy nLy ret dy As Λ sz μ (pP μ e)) (hst : st0 = As.reverse ++ st) (hn : As.length = n) (hW : (st.map fun v => v.category).sum ≤ 8)
    (hR : dy + 1 ≤ d) (hcs : cs.1 ≤ rc.1 ∧ cs.2 ≤ rc.2) (kk : V G x cs Λ sz μ pc' lv (iv e :: st)) : V G x cs Λ sz μ pc lv st0 :=
  v_cNi hx hd hC As hS hst hn hW hR hcs (fun z μ' h => by obtain ⟨rfl, rfl⟩ := h; exact kk)
theorem metWF {ws ws' : List Cond} {rm : Room} {Pc : Array Value → State → Prop} {Qc : Array Value → State → Outcome → State → Prop} {mc ms : Nat} {free : Addr → Prop} {maxL : Nat}
    (hy : plainFor y = true) (hw : ws = Cond.code y cc maxL ret :: ws')
    (body : ∀ p e s m args below meth c s₁, BodyLoose p l y (headSpec ws rm) cc maxL ret e s m args below meth c s₁ → c.maxLocals = maxL → Pc args s →
      W p l e (headSpec ws rm).room s m args below meth c s.heap [] 0 0 (MQ below Qc args s mc ms free) (entryFrame m args maxL)) : Met l y ws rm Pc Qc mc ms free := by
  refine MetFree.of_bodySF (code := cc) (maxLocals := maxL) (ret := ret) hy ?_ ?_
  · intro args s m h hn
    obtain ⟨meth, c, h1, h2, h3, h4, h5, h6, -, -⟩ := Cond.code_spec hn (atoms_spec (ws := ws) h _ (by rw [hw]; exact List.mem_cons_self))
    exact ⟨meth, c, h1, h2, h3, h4, h5, h6⟩
  · intro p e s m args below meth c s₁ B hml hP _
    have hh0 : s₁.heap = s.heap := by rw [B.state]; rfl
    obtain ⟨t, a1, o, b1, b2, b3⟩ := body p e s m args below meth c s₁ B hml hP s₁ hh0 (Stand.of_body B)
    exact ⟨t, o, a1, b1, b2, ⟨b3.1, b3.2⟩⟩
theorem Sp.introF {as : List Value} {P : Option Value → Mem → Prop} (hy : plainFor y = true) (hf : (lg_sl as).length ≤ nL)
    (body : ∀ x : Fx, XOK l G x cc y.cls nL d (0, 0) → BD G x ret 0 0 (fun v Λ' sz' μ' => Λ' = Λ ∧ sz' = sz ∧ P v μ') → V G x (0, 0) Λ sz μ 0 (lv_args 0 as) []) : Sp l G y cc nL ret d as Λ sz μ P := by
  refine metWF (cc := cc) (maxL := nL) (ret := ret) hy rfl ?_
  intro p e s m args below meth c s₁ B hml hv
  obtain ⟨rfl, hH, hK⟩ := hv
  have hts := atoms_spec (ws := Cond.code y cc nL ret :: tb) B.pre
  have h := body (p, l, e, rmD d 0 0, s, m, as.toArray, below, meth, c, MQ below (SpQ G (fun v Λ' sz' μ' => Λ' = Λ ∧ sz' = sz ∧ P v μ')) as.toArray s 0 0 (fun q => gB G ≤ q))
    ⟨B.exec, B.bytes, hml, findClass_of_methodNamed B.named, fun w hw => hts w (List.mem_cons_of_mem _ hw), hK, B.notSynchronized, Nat.le_refl _, Nat.le_refl _, Nat.le_refl _, Nat.le_refl _, rfl⟩ ⟨rfl, B.returns⟩
  have hl := lv_entry as (n := nL) hf
  rw [lg_entry_eq]
  exact h s.heap [] _ hH (fun q hq => by cases hq) (by rw [← hml] at hl ⊢; exact hl)
theorem v_pI (hx : XOK l G x cc own nL d rc) {k a : Nat} {z ki : Int} (hd : dk cc pc (.putfield idx) 3 pc') (hF : FP own idx ci k false .int) (hk : Λ a = some (.inl (ci, fs))) (hfs : fs[k]? = some none) (hki : (k : Int) = ki) (kk : ∀ μ', μ' = mI μ a ki z → V G x cs Λ sz μ' pc' lv st) : V G x cs Λ sz μ pc lv (iv z :: .ref a :: st) :=
  v_putI hx hd hF hk hfs (by rw [hki]; exact kk)
theorem v_pZ (hx : XOK l G x cc own nL d rc) {k a : Nat} {z ki : Int} (hd : dk cc pc (.putfield idx) 3 pc') (hF : FP own idx ci k false .boolean) (hk : Λ a = some (.inl (ci, fs))) (hfs : fs[k]? = some none) (hki : (k : Int) = ki) (hz : z = 0 ∨ z = 1) (kk : ∀ μ', μ' = mI μ a ki z → V G x cs Λ sz μ' pc' lv st) : V G x cs Λ sz μ pc lv (iv z :: .ref a :: st) :=
  v_putZ hx hd hF hk hfs hz (by rw [hki]; exact kk)
/-- a number of the state by another name -/
theorem v_top {z z' : Int} (h : z = z') (kk : V G x cs Λ sz μ pc lv (iv z' :: st)) : V G x cs Λ sz μ pc lv (iv z :: st) := h ▸ kk
end Rows3
/-! ===== words for the methods of Poly ===== -/
def ca (p : PS) (k : Int) : Int := if k < 0 then 0 else cf p k
theorem ca_rng (p : PS) (k : Int) : 0 ≤ ca p k ∧ ca p k ≤ 100 := by
  unfold ca
  split
  · omega
  · exact cf_rng p k
theorem ca_of {p : PS} {k : Int} (h : 0 ≤ k) : ca p k = cf p k := by unfold ca; rw [if_neg (by omega)]
theorem ca_big {p : PS} {k : Int} {N : Nat} (h : p.lt N) (hk : (p.size : Int) ≤ k) : ca p k = 0 := by
  unfold ca
  split
  · rfl
  · rw [cf_zero]; exact PS.lt_size h _ (by omega)
noncomputable def hdI (p : PS) : Int := if p.size = 0 then 0 else cf p ((p.size : Int) - 1)
theorem hdI_rng (p : PS) : 0 ≤ hdI p ∧ hdI p ≤ 100 := by
  unfold hdI
  split
  · omega
  · exact cf_rng p _
def PS.set (p : PS) (k : Nat) (c : F) : PS := fun n => if n = k then c else p n
def PS.tr (p : PS) (k : Nat) : PS := fun n => if n < k then p n else 0
def PS.der (p : PS) : PS := fun n => fi ((n : Int) + 1) * p (n + 1)
theorem PA.of {μ : Mem} {t : Nat} {p : PS} (h : CA μ t p) : PA (mI μ t 1 ((p.size : Int) - 1)) t p := by
  refine ⟨⟨h.1, fun j a b => ?_⟩, ?_⟩
  · rw [mI_ne (by omega)]; exact h.2 j a b
  · rw [mI_at, if_pos rfl]
theorem mulb {a b A B : Int} (h1 : 0 ≤ a) (h2 : a ≤ A) (h3 : 0 ≤ b) (h4 : b ≤ B) : 0 ≤ a * b ∧ a * b ≤ A * B := by
  constructor
  · exact Int.mul_nonneg h1 h3
  · calc a * b ≤ A * b := Int.mul_le_mul_of_nonneg_right h2 h3
      _ ≤ A * B := Int.mul_le_mul_of_nonneg_left h4 (by omega)
