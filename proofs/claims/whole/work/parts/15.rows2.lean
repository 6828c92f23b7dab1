def pV (Q : Mem → Prop) : Option Value → Mem → Prop := fun v μ' => v = none ∧ Q μ'
def pI (Q : Int → Mem → Prop) : Option Value → Mem → Prop := fun v μ' => ∃ z : Int, v = some (iv z) ∧ Q z μ'
def pL (Q : Int64 → Mem → Prop) : Option Value → Mem → Prop := fun v μ' => ∃ w : Int64, v = some (.long w) ∧ Q w μ'
def pR (Q : Nat → Mem → Prop) : Option Value → Mem → Prop := fun v μ' => ∃ a : Nat, v = some (.ref a) ∧ Q a μ'
/-- what a call of an instance method needs of the tables -/
def CV (own : String) (idx ci : Nat) (y : MethodName) (cy : ByteArray) (nLy : Nat) (ret : Option FieldType) (n : Nat) : Prop :=
  (Cond.methodLink own idx y ∈ lw_tbl ∧ Cond.instanceMethod y ∈ lw_tbl ∧ Cond.selects y.cls y y ∈ lw_tbl ∧ Cond.code y cy nLy ret ∈ lw_tbl ∧ Cond.initialized y.cls ∈ lw_tbl) ∧
  (y.cls ≠ "java/lang/invoke/MethodHandle" ∧ y.cls ≠ "java/lang/invoke/VarHandle" ∧ (parseMethodDescriptor y.desc).map (fun d => d.parameters.length) = some n) ∧ (∃ (T : u_T) (N : Nat), classes[ci]? = some (y.cls, T, N)) ∧ nLy ≤ 20
/-- .. of a static method of the same class or of another; nest: its host -/
def CS (own : String) (idx : Nat) (y : MethodName) (cy : ByteArray) (nLy : Nat) (ret : Option FieldType) (n : Nat) : Prop :=
  (Cond.methodLink own idx y ∈ lw_tbl ∧ Cond.static y ∈ lw_tbl ∧ Cond.code y cy nLy ret ∈ lw_tbl ∧ Cond.initialized y.cls ∈ lw_tbl) ∧
  (y.cls ≠ "java/lang/invoke/MethodHandle" ∧ y.cls ≠ "java/lang/invoke/VarHandle" ∧ (parseMethodDescriptor y.desc).map (fun d => d.parameters.length) = some n) ∧ nLy ≤ 20
def CSN (own : String) (idx : Nat) (y : MethodName) (cy : ByteArray) (nLy : Nat) (ret : Option FieldType) (n : Nat) : Prop :=
  (∃ host : String, Cond.methodLinkNest own idx y host ∈ lw_tbl) ∧ (Cond.static y ∈ lw_tbl ∧ Cond.code y cy nLy ret ∈ lw_tbl ∧ Cond.initialized y.cls ∈ lw_tbl) ∧
  (y.cls ≠ "java/lang/invoke/MethodHandle" ∧ y.cls ≠ "java/lang/invoke/VarHandle" ∧ (parseMethodDescriptor y.desc).map (fun d => d.parameters.length) = some n) ∧ nLy ≤ 20
/-- .. of a constructor -/
def CI (own : String) (idx : Nat) (y : MethodName) (cy : ByteArray) (nLy : Nat) (n : Nat) : Prop :=
  (Cond.methodLink own idx y ∈ lw_tbl ∨ ∃ host : String, Cond.methodLinkNest own idx y host ∈ lw_tbl) ∧ (Cond.instanceMethod y ∈ lw_tbl ∧ Cond.code y cy nLy none ∈ lw_tbl ∧ Cond.initialized y.cls ∈ lw_tbl ∧ y.name = "<init>") ∧
  (y.cls ≠ "java/lang/invoke/MethodHandle" ∧ y.cls ≠ "java/lang/invoke/VarHandle" ∧ (parseMethodDescriptor y.desc).map (fun d => d.parameters.length) = some n) ∧ nLy ≤ 20
theorem fv_i {μ : Mem} {a k : Nat} {fs : List (Option Value)} {z : Int} (hf : fs[k]? = some none) (h : μ.1 a (k : Int) = z) : fv μ a fs k = iv z := by
  simp [fv, hf, h]
section Rows2
variable {l : Launch} {G : Gl} {x : Fx} {cc : ByteArray} {own : String} {nL d : Nat} {rc cs : Nat × Nat} {Λ : Lay} {sz : Nat} {μ : Mem} {pc pc' : Nat} {lv lv' : List (Nat × Value)} {st : List Value}
theorem v_mem (kk : ∀ μ' : Mem, μ' = μ → V G x cs Λ sz μ' pc lv st) : V G x cs Λ sz μ pc lv st := kk μ rfl
theorem Sp.intro {y : MethodName} {ret : Option FieldType} {as : List Value} {P : Option Value → Mem → Prop} (hy : plainName y.cls = true) (hf : (lg_sl as).length ≤ nL)
    (body : ∀ x : Fx, XOK l G x cc y.cls nL d (0, 0) → BD G x ret 0 0 (fun v Λ' sz' μ' => Λ' = Λ ∧ sz' = sz ∧ P v μ') → V G x (0, 0) Λ sz μ 0 (lv_args 0 as) []) : Sp l G y cc nL ret d as Λ sz μ P :=
  SpN.intro hy hf (fun x hx hB _ => body x hx hB)
theorem Sp.mono {y : MethodName} {ret : Option FieldType} {as : List Value} {P P' : Option Value → Mem → Prop} (h : Sp l G y cc nL ret d as Λ sz μ P) (hP : ∀ v μ', P v μ' → P' v μ') : Sp l G y cc nL ret d as Λ sz μ P' := by
  intro p e ha hb hc s m args below hf hap hPc hT
  obtain ⟨t, o, h1, h2, h3, h4, h5⟩ := h p e ha hb hc s m args below hf hap hPc hT
  obtain ⟨v, Λ', sz', μ', e1, e2, e3, e4, e5⟩ := h4
  exact ⟨t, o, h1, h2, h3, ⟨v, Λ', sz', μ', e1, e2, e3, e4, hP _ _ e5⟩, h5⟩
theorem v_rv (hx : XOK l G x cc own nL d rc) {Q : Mem → Prop} (hB : BD G x none cs.1 cs.2 (fun v Λ' sz' μ' => Λ' = Λ ∧ sz' = sz ∧ pV Q v μ')) (hd : dk cc pc .return_ 1 pc') (hP : Q μ) : V G x cs Λ sz μ pc lv [] :=
  v_ret hx hB hd ⟨rfl, rfl, rfl, hP⟩
theorem v_ri (hx : XOK l G x cc own nL d rc) {Q : Int → Mem → Prop} {z : Int} (hB : BD G x (some .int) cs.1 cs.2 (fun v Λ' sz' μ' => Λ' = Λ ∧ sz' = sz ∧ pI Q v μ')) (hd : dk cc pc .ireturn 1 pc') (hP : Q z μ) : V G x cs Λ sz μ pc lv [iv z] :=
  v_iret hx hB rfl hd ⟨rfl, rfl, z, rfl, hP⟩
theorem nar_bool {z : Int} (hz : z = 0 ∨ z = 1) : narrow .boolean (iv z) = iv z := by rcases hz with rfl | rfl <;> decide +kernel
theorem fit_bool {z : Int} (hz : z = 0 ∨ z = 1) : fits .boolean (iv z) = true := by rcases hz with rfl | rfl <;> decide +kernel
theorem v_rz (hx : XOK l G x cc own nL d rc) {Q : Int → Mem → Prop} {z : Int} (hB : BD G x (some .boolean) cs.1 cs.2 (fun v Λ' sz' μ' => Λ' = Λ ∧ sz' = sz ∧ pI Q v μ')) (hz : z = 0 ∨ z = 1) (hd : dk cc pc .ireturn 1 pc') (hP : Q z μ) : V G x cs Λ sz μ pc lv [iv z] :=
  v_iret hx hB (nar_bool hz) hd ⟨rfl, rfl, z, rfl, hP⟩
theorem v_rl (hx : XOK l G x cc own nL d rc) {Q : Int64 → Mem → Prop} {w : Int64} (hB : BD G x (some .long) cs.1 cs.2 (fun v Λ' sz' μ' => Λ' = Λ ∧ sz' = sz ∧ pL Q v μ')) (hd : dk cc pc .lreturn 1 pc') (hP : Q w μ) : V G x cs Λ sz μ pc lv [.long w] :=
  v_lret hx hB hd ⟨rfl, rfl, w, rfl, hP⟩
theorem v_rr (hx : XOK l G x cc own nL d rc) {Q : Nat → Mem → Prop} {a : Nat} {C : String} (hB : BD G x (some (.object C)) cs.1 cs.2 (fun v Λ' sz' μ' => Λ' = Λ ∧ sz' = sz ∧ pR Q v μ')) (hd : dk cc pc .areturn 1 pc') (hP : Q a μ) : V G x cs Λ sz μ pc lv [.ref a] :=
  v_aret hx hB hd ⟨rfl, rfl, a, rfl, hP⟩
theorem v_putI (hx : XOK l G x cc own nL d rc) {idx ci a k : Nat} {fs : List (Option Value)} {z : Int} (hd : dk cc pc (.putfield idx) 3 pc') (hF : FP own idx ci k false .int) (hk : Λ a = some (.inl (ci, fs))) (hfs : fs[k]? = some none) (kk : ∀ μ', μ' = mI μ a k z → V G x cs Λ sz μ' pc' lv st) : V G x cs Λ sz μ pc lv (iv z :: .ref a :: st) :=
  v_put hx hd hF hk hfs rfl rfl (kk _ rfl)
theorem v_putZ (hx : XOK l G x cc own nL d rc) {idx ci a k : Nat} {fs : List (Option Value)} {z : Int} (hd : dk cc pc (.putfield idx) 3 pc') (hF : FP own idx ci k false .boolean) (hk : Λ a = some (.inl (ci, fs))) (hfs : fs[k]? = some none) (hz : z = 0 ∨ z = 1) (kk : ∀ μ', μ' = mI μ a k z → V G x cs Λ sz μ' pc' lv st) : V G x cs Λ sz μ pc lv (iv z :: .ref a :: st) :=
  v_put hx hd hF hk hfs (nar_bool hz) (fit_bool hz) (kk _ rfl)
theorem v_iastm (hx : XOK l G x cc own nL d rc) {a n : Nat} {rs : List (Option Nat)} {i z : Int} (hd : dk cc pc .iastore 1 pc') (hk : Λ a = some (.inr (0, n, rs))) (h0 : 0 ≤ i ∧ i < n) (hn : n ≤ 2147483647) (kk : ∀ μ', μ' = mI μ a i z → V G x cs Λ sz μ' pc' lv st) : V G x cs Λ sz μ pc lv (iv z :: iv i :: .ref a :: st) :=
  v_iast hx hd hk h0 hn (kk _ rfl)
theorem v_alenI (hx : XOK l G x cc own nL d rc) {a t n : Nat} {rs : List (Option Nat)} (hd : dk cc pc .arraylength 1 pc') (hk : Λ a = some (.inr (t, n, rs))) (ht : t < 6) {z : Int} (hz : (n : Int) = z) (kk : V G x cs Λ sz μ pc' lv (iv z :: st)) : V G x cs Λ sz μ pc lv (.ref a :: st) :=
  v_alen hx hd hk ht (hz ▸ kk)
section cV
variable {y : MethodName} {cy : ByteArray} {nLy dy n idx ci b : Nat} {ret : Option FieldType} {fs : List (Option Value)} {st0 : List Value}
theorem v_cV (hx : XOK l G x cc own nL d rc) {P : Option Value → Mem → Prop} (hd : dk cc pc (.invokevirtual idx) 3 pc') (hC : CV own idx ci y cy nLy ret n) (As : List Value) (hS : Sp l G y cy nLy ret dy (.ref b :: As) Λ sz μ P) (hk : Λ b = some (.inl (ci, fs))) (hst : st0 = As.reverse ++ .ref b :: st) (hn : As.length = n) (hW : (st.map fun v => v.category).sum ≤ 8)
    (hR : dy + 1 ≤ d) (hcs : cs.1 ≤ rc.1 ∧ cs.2 ≤ rc.2) (kk : ∀ (v : Option Value) (μ' : Mem), P v μ' → V G x cs Λ sz μ' pc' lv (v.toList ++ st)) : V G x cs Λ sz μ pc lv st0 := by
  obtain ⟨⟨c1, c2, c3, c4, c5⟩, c6, ⟨T, N, c7⟩, c8⟩ := hC
  exact v_callV hx As hd hS c1 c2 c3 c4 c5 c6 hk c7 hst hn hW ⟨hR, c8⟩ hcs (fun v Λ' sz' μ' h => by obtain ⟨rfl, rfl, h⟩ := h; exact kk v μ' h)
theorem v_cVv (hx : XOK l G x cc own nL d rc) {Q : Mem → Prop} (hd : dk cc pc (.invokevirtual idx) 3 pc') (hC : CV own idx ci y cy nLy ret n) (As : List Value) (hS : Sp l G y cy nLy ret dy (.ref b :: As) Λ sz μ (pV Q)) (hk : Λ b = some (.inl (ci, fs))) (hst : st0 = As.reverse ++ .ref b :: st) (hn : As.length = n) (hW : (st.map fun v => v.category).sum ≤ 8)
    (hR : dy + 1 ≤ d) (hcs : cs.1 ≤ rc.1 ∧ cs.2 ≤ rc.2) (kk : ∀ μ' : Mem, Q μ' → V G x cs Λ sz μ' pc' lv st) : V G x cs Λ sz μ pc lv st0 :=
  v_cV hx hd hC As hS hk hst hn hW hR hcs (fun v μ' h => by obtain ⟨rfl, h⟩ := h; exact kk μ' h)
theorem v_cVi (hx : XOK l G x cc own nL d rc) {Q : Int → Mem → Prop} (hd : dk cc pc (.invokevirtual idx) 3 pc') (hC : CV own idx ci y cy nLy ret n) (As : List Value) (hS : Sp l G y cy nLy ret dy (.ref b :: As) Λ sz μ (pI Q)) (hk : Λ b = some (.inl (ci, fs))) (hst : st0 = As.reverse ++ .ref b :: st) (hn : As.length = n) (hW : (st.map fun v => v.category).sum ≤ 8)
    (hR : dy + 1 ≤ d) (hcs : cs.1 ≤ rc.1 ∧ cs.2 ≤ rc.2) (kk : ∀ (z : Int) (μ' : Mem), Q z μ' → V G x cs Λ sz μ' pc' lv (iv z :: st)) : V G x cs Λ sz μ pc lv st0 :=
  v_cV hx hd hC As hS hk hst hn hW hR hcs (fun v μ' h => by obtain ⟨z, rfl, h⟩ := h; exact kk z μ' h)
theorem v_cVr (hx : XOK l G x cc own nL d rc) {Q : Nat → Mem → Prop} (hd : dk cc pc (.invokevirtual idx) 3 pc') (hC : CV own idx ci y cy nLy ret n) (As : List Value) (hS : Sp l G y cy nLy ret dy (.ref b :: As) Λ sz μ (pR Q)) (hk : Λ b = some (.inl (ci, fs))) (hst : st0 = As.reverse ++ .ref b :: st) (hn : As.length = n) (hW : (st.map fun v => v.category).sum ≤ 8)
    (hR : dy + 1 ≤ d) (hcs : cs.1 ≤ rc.1 ∧ cs.2 ≤ rc.2) (kk : ∀ (a : Nat) (μ' : Mem), Q a μ' → V G x cs Λ sz μ' pc' lv (.ref a :: st)) : V G x cs Λ sz μ pc lv st0 :=
  v_cV hx hd hC As hS hk hst hn hW hR hcs (fun v μ' h => by obtain ⟨z, rfl, h⟩ := h; exact kk z μ' h)
theorem v_cS (hx : XOK l G x cc own nL d rc) {P : Option Value → Mem → Prop} (hd : dk cc pc (.invokestatic idx) 3 pc') (hC : CS own idx y cy nLy ret n) (As : List Value) (hS : Sp l G y cy nLy ret dy As Λ sz μ P) (hst : st0 = As.reverse ++ st) (hn : As.length = n) (hW : (st.map fun v => v.category).sum ≤ 8)
    (hR : dy + 1 ≤ d) (hcs : cs.1 ≤ rc.1 ∧ cs.2 ≤ rc.2) (kk : ∀ (v : Option Value) (μ' : Mem), P v μ' → V G x cs Λ sz μ' pc' lv (v.toList ++ st)) : V G x cs Λ sz μ pc lv st0 := by
  obtain ⟨⟨c1, c2, c3, c4⟩, c6, c8⟩ := hC
  exact v_callS hx As hd hS c1 c2 c3 c4 c6 hst hn hW ⟨hR, c8⟩ hcs (fun v Λ' sz' μ' h => by obtain ⟨rfl, rfl, h⟩ := h; exact kk v μ' h)
theorem v_cSN (hx : XOK l G x cc own nL d rc) {P : Option Value → Mem → Prop} (hd : dk cc pc (.invokestatic idx) 3 pc') (hC : CSN own idx y cy nLy ret n) (As : List Value) (hS : Sp l G y cy nLy ret dy As Λ sz μ P) (hst : st0 = As.reverse ++ st) (hn : As.length = n) (hW : (st.map fun v => v.category).sum ≤ 8)
    (hR : dy + 1 ≤ d) (hcs : cs.1 ≤ rc.1 ∧ cs.2 ≤ rc.2) (kk : ∀ (v : Option Value) (μ' : Mem), P v μ' → V G x cs Λ sz μ' pc' lv (v.toList ++ st)) : V G x cs Λ sz μ pc lv st0 := by
  obtain ⟨⟨host, c1⟩, ⟨c2, c3, c4⟩, c6, c8⟩ := hC
  intro H locs ls hH hL hl
  obtain ⟨hd1, rfl⟩ := hd
  have hts := hx.2.2.2.2.1
  obtain ⟨-, -, -, -, -, hK, -, hfr, hlo, hce, hsl', hll⟩ := id hx
  have hrm : (rmD dy 0 0).frames + 1 ≤ (xR x).frames ∧ 8 + (nLy + 11) + (rmD dy 0 0).locals ≤ (xR x).locals := by
    constructor
    · show dy + 1 ≤ _
      omega
    · show 8 + (nLy + 11) + 40 * dy ≤ _
      omega
  subst hst
  have hM : Met (xl x) y (.code y cy nLy ret :: tb) (rmD dy 0 0) (SpP G Λ sz μ As) (SpQ G (fun v Λ' sz' μ' => Λ' = Λ ∧ sz' = sz ∧ P v μ')) 0 0 (fun q => gB G ≤ q) := by rw [hll]; exact hS
  refine v_back (y := y) (mc := 0) (ms := 0) (P := fun v Λ' sz' μ' => Λ' = Λ ∧ sz' = sz ∧ P v μ') hx (fun v Λ' sz' μ' h => by obtain ⟨rfl, rfl, h⟩ := h; exact kk v μ' h) hL hl (va_runSN (Ts := tb) (n := n) (host := host) ⟨hx.1, hx.2.1, rfl, hx.2.2.2.1, hts⟩ hM ⟨va_cnB n hts (good_tbl (memtb c3 rfl)) rfl rfl rfl (hK.2.2.2.1 _ c1 rfl) (hts _ (memtb c4 rfl)) c6 hrm, hts _ (memtb c2 rfl), trivial⟩ ⟨SpP.blind, SpP.at hK hH⟩ rfl hn hl.1 rfl (lv_room hW) hd1 ⟨by omega, by omega⟩)
theorem v_cSi (hx : XOK l G x cc own nL d rc) {Q : Int → Mem → Prop} (hd : dk cc pc (.invokestatic idx) 3 pc') (hC : CS own idx y cy nLy ret n) (As : List Value) (hS : Sp l G y cy nLy ret dy As Λ sz μ (pI Q)) (hst : st0 = As.reverse ++ st) (hn : As.length = n) (hW : (st.map fun v => v.category).sum ≤ 8)
    (hR : dy + 1 ≤ d) (hcs : cs.1 ≤ rc.1 ∧ cs.2 ≤ rc.2) (kk : ∀ (z : Int) (μ' : Mem), Q z μ' → V G x cs Λ sz μ' pc' lv (iv z :: st)) : V G x cs Λ sz μ pc lv st0 :=
  v_cS hx hd hC As hS hst hn hW hR hcs (fun v μ' h => by obtain ⟨z, rfl, h⟩ := h; exact kk z μ' h)
theorem v_cSv (hx : XOK l G x cc own nL d rc) {Q : Mem → Prop} (hd : dk cc pc (.invokestatic idx) 3 pc') (hC : CS own idx y cy nLy ret n) (As : List Value) (hS : Sp l G y cy nLy ret dy As Λ sz μ (pV Q)) (hst : st0 = As.reverse ++ st) (hn : As.length = n) (hW : (st.map fun v => v.category).sum ≤ 8)
    (hR : dy + 1 ≤ d) (hcs : cs.1 ≤ rc.1 ∧ cs.2 ≤ rc.2) (kk : ∀ (μ' : Mem), Q μ' → V G x cs Λ sz μ' pc' lv st) : V G x cs Λ sz μ pc lv st0 :=
  v_cS hx hd hC As hS hst hn hW hR hcs (fun v μ' h => by obtain ⟨rfl, h⟩ := h; exact kk μ' h)
theorem v_cSl (hx : XOK l G x cc own nL d rc) {Q : Int64 → Mem → Prop} (hd : dk cc pc (.invokestatic idx) 3 pc') (hC : CS own idx y cy nLy ret n) (As : List Value) (hS : Sp l G y cy nLy ret dy As Λ sz μ (pL Q)) (hst : st0 = As.reverse ++ st) (hn : As.length = n) (hW : (st.map fun v => v.category).sum ≤ 8)
    (hR : dy + 1 ≤ d) (hcs : cs.1 ≤ rc.1 ∧ cs.2 ≤ rc.2) (kk : ∀ (w : Int64) (μ' : Mem), Q w μ' → V G x cs Λ sz μ' pc' lv (.long w :: st)) : V G x cs Λ sz μ pc lv st0 :=
  v_cS hx hd hC As hS hst hn hW hR hcs (fun v μ' h => by obtain ⟨z, rfl, h⟩ := h; exact kk z μ' h)
theorem v_cNi (hx : XOK l G x cc own nL d rc) {Q : Int → Mem → Prop} (hd : dk cc pc (.invokestatic idx) 3 pc') (hC : CSN own idx y cy nLy ret n) (As : List Value) (hS : Sp l G y cy nLy ret dy As Λ sz μ (pI Q)) (hst : st0 = As.reverse ++ st) (hn : As.length = n) (hW : (st.map fun v => v.category).sum ≤ 8)
    (hR : dy + 1 ≤ d) (hcs : cs.1 ≤ rc.1 ∧ cs.2 ≤ rc.2) (kk : ∀ (z : Int) (μ' : Mem), Q z μ' → V G x cs Λ sz μ' pc' lv (iv z :: st)) : V G x cs Λ sz μ pc lv st0 :=
  v_cSN hx hd hC As hS hst hn hW hR hcs (fun v μ' h => by obtain ⟨z, rfl, h⟩ := h; exact kk z μ' h)
end cV
/-- the table of inverses -/
theorem v_getst (hx : XOK l G x cc own nL d rc) {idx : Nat} {rs : List (Option Nat)} (hd : dk cc pc (.getstatic idx) 3 pc') (hln : Cond.fieldLink own idx RX11 "INVERSES" "[I" ∈ lw_tbl) (hk : Λ (gS G) = some (.inr (9, 2, rs))) (kk : V G x cs Λ sz μ pc' lv (.ref (gI G) :: st)) : V G x cs Λ sz μ pc lv st := by
  intro H locs ls hH hL hl
  obtain ⟨h1, rfl⟩ := hd
  obtain ⟨cf, kf, fi, f, g1, g2, g3, g4, g5, g6⟩ := hx.2.2.2.2.2.1.2.2.2.2.2
  exact W.gets hx.1 hx.2.1 hx.2.2.2.1 (hx.2.2.2.2.1 _ (memtb hln rfl)) g1 g2 g3 g4 (hH.cst hk) g5 g6 rfl h1 (kk H locs ls hH hL hl)
end Rows2
