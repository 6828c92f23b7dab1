def rmD (d mc ms : Nat) : Room := { frames := d, cells := mc, slots := ms, locals := 40 * d }
def SpP (G : Gl) (Λ : Lay) (sz : Nat) (μ : Mem) (as : List Value) : Array Value → State → Prop := fun a U => a = as.toArray ∧ HR G Λ sz μ U.heap ∧ KK G U
def SpQ (G : Gl) (P : Option Value → Lay → Nat → Mem → Prop) : Array Value → State → Outcome → State → Prop := fun _ _ o t => ∃ (v : Option Value) (Λ' : Lay) (sz' : Nat) (μ' : Mem), o = .returned v ∧ HR G Λ' sz' μ' t.heap ∧ P v Λ' sz' μ'
/-- a method's contract: from this layout and memory it returns, with P -/
def SpN (l : Launch) (G : Gl) (y : MethodName) (cc : ByteArray) (nL : Nat) (ret : Option FieldType) (d mc ms : Nat) (as : List Value) (Λ : Lay) (sz : Nat) (μ : Mem) (P : Option Value → Lay → Nat → Mem → Prop) : Prop :=
  Met l y (.code y cc nL ret :: tb) (rmD d mc ms) (SpP G Λ sz μ as) (SpQ G P) mc ms (fun q => gB G ≤ q)
/-- .. that makes nothing -/
def Sp (l : Launch) (G : Gl) (y : MethodName) (cc : ByteArray) (nL : Nat) (ret : Option FieldType) (d : Nat) (as : List Value) (Λ : Lay) (sz : Nat) (μ : Mem) (P : Option Value → Mem → Prop) : Prop :=
  SpN l G y cc nL ret d 0 0 as Λ sz μ (fun v Λ' sz' μ' => Λ' = Λ ∧ sz' = sz ∧ P v μ')
/-- the end that a method owes -/
def BD (G : Gl) (x : Fx) (ret : Option FieldType) (mc ms : Nat) (P : Option Value → Lay → Nat → Mem → Prop) : Prop :=
  xQ x = MQ (xb x) (SpQ G P) (xa x) (xs x) mc ms (fun q => gB G ≤ q) ∧ (xM x).sig.returnType = ret
theorem tb_good {w : Cond} (h : w ∈ tb) : (w.onTables && w.keeps) = true ∨ ∃ ty, w = .arrayClass ty := good_of_word (List.mem_filter.mp h).2
theorem good_tbl {c' : Cond} (h : c' ∈ tb) : GoodIn tb (c' :: tb) := by
  intro w hw
  rcases List.mem_cons.mp hw with rfl | hw
  · exact ⟨h, tb_good h⟩
  · exact ⟨hw, tb_good hw⟩
theorem SpP.blind {G : Gl} {Λ : Lay} {sz : Nat} {μ : Mem} {as : List Value} : FrameBlind (SpP G Λ sz μ as) := fun a U g mk h => ⟨h.1, h.2.1, KK.same (u := U) (U := U.calling g mk a) rfl h.2.2⟩
theorem SpP.at {G : Gl} {Λ : Lay} {sz : Nat} {μ : Mem} {as : List Value} {s : State} {H : Heap} (hK : KK G s) (hH : HR G Λ sz μ H) : ∀ U : State, U.heap = H → s.WarmedH U.vm → SpP G Λ sz μ as as.toArray U := fun U hU hW => ⟨rfl, by rw [hU]; exact hH, hK.moved hW⟩
section Calls
variable {l : Launch} {G : Gl} {x : Fx} {cc : ByteArray} {own : String} {nL d : Nat} {rc cs : Nat × Nat} {Λ : Lay} {sz : Nat} {μ : Mem} {pc pc' : Nat} {lv lv' : List (Nat × Value)} {st : List Value}
theorem SpN.intro {y : MethodName} {ret : Option FieldType} {mc ms : Nat} {as : List Value} {P : Option Value → Lay → Nat → Mem → Prop} (hy : plainName y.cls = true) (hf : (lg_sl as).length ≤ nL)
    (body : ∀ x : Fx, XOK l G x cc y.cls nL d (mc, ms) → BD G x ret mc ms P → (xM x).name = y.name → V G x (0, 0) Λ sz μ 0 (lv_args 0 as) []) : SpN l G y cc nL ret d mc ms as Λ sz μ P := by
  refine Met.ofW (cc := cc) (maxL := nL) (ret := ret) hy rfl ?_
  intro p e s m args below meth c s₁ B hml hv
  obtain ⟨rfl, hH, hK⟩ := hv
  have hts := atoms_spec (ws := Cond.code y cc nL ret :: tb) B.pre
  have h := body (p, l, e, rmD d mc ms, s, m, as.toArray, below, meth, c, MQ below (SpQ G P) as.toArray s mc ms (fun q => gB G ≤ q))
    (show XOK l G (p, l, e, rmD d mc ms, s, m, as.toArray, below, meth, c, MQ below (SpQ G P) as.toArray s mc ms (fun q => gB G ≤ q)) cc y.cls nL d (mc, ms) from ⟨B.exec, B.bytes, hml, findClass_of_methodNamed B.named, fun w hw => hts w (List.mem_cons_of_mem _ hw), hK, B.notSynchronized, Nat.le_refl _, Nat.le_refl _, Nat.le_refl _, Nat.le_refl _, rfl⟩) ⟨rfl, B.returns⟩ (name_of_methodNamed B.named B.method).1
  have hl := lv_entry as (n := nL) hf
  rw [lg_entry_eq]
  exact h s.heap [] _ hH (fun q hq => by cases hq) (by rw [← hml] at hl ⊢; exact hl)
theorem v_ret (hx : XOK l G x cc own nL d rc) {P : Option Value → Lay → Nat → Mem → Prop} (hB : BD G x none cs.1 cs.2 P) (hd : dk cc pc .return_ 1 pc') (hP : P none Λ sz μ) : V G x cs Λ sz μ pc lv [] := by
  intro H locs ls hH hL hl
  rw [hB.1]
  exact W.vret hx.1 hx.2.1 hB.2 (fun t ht _ => ⟨none, Λ, sz, μ, rfl, by rw [ht]; exact hH, hP⟩) hL hd.1 hx.2.2.2.2.2.2.1
theorem v_iret (hx : XOK l G x cc own nL d rc) {P : Option Value → Lay → Nat → Mem → Prop} {z : Int} {ty : FieldType} (hB : BD G x (some ty) cs.1 cs.2 P) (hn : narrow ty (iv z) = iv z) (hd : dk cc pc .ireturn 1 pc') (hP : P (some (iv z)) Λ sz μ) : V G x cs Λ sz μ pc lv [iv z] := by
  intro H locs ls hH hL hl
  rw [hB.1]
  exact W.zret hx.1 hx.2.1 hB.2 hn (fun t ht _ => ⟨_, Λ, sz, μ, rfl, by rw [ht]; exact hH, hP⟩) hL hd.1 hx.2.2.2.2.2.2.1
theorem v_lret (hx : XOK l G x cc own nL d rc) {P : Option Value → Lay → Nat → Mem → Prop} {w : Int64} (hB : BD G x (some .long) cs.1 cs.2 P) (hd : dk cc pc .lreturn 1 pc') (hP : P (some (.long w)) Λ sz μ) : V G x cs Λ sz μ pc lv [.long w] := by
  intro H locs ls hH hL hl
  rw [hB.1]
  exact W.lret hx.1 hx.2.1 hB.2 (fun t ht _ => ⟨_, Λ, sz, μ, rfl, by rw [ht]; exact hH, hP⟩) hL hd.1 hx.2.2.2.2.2.2.1
theorem v_aret (hx : XOK l G x cc own nL d rc) {P : Option Value → Lay → Nat → Mem → Prop} {a : Nat} {C : String} (hB : BD G x (some (.object C)) cs.1 cs.2 P) (hd : dk cc pc .areturn 1 pc') (hP : P (some (.ref a)) Λ sz μ) : V G x cs Λ sz μ pc lv [.ref a] := by
  intro H locs ls hH hL hl
  rw [hB.1]
  exact W.aret hx.1 hx.2.1 hB.2 (Or.inl ⟨_, rfl⟩) (Or.inr ⟨a, rfl⟩) (fun t ht _ => ⟨_, Λ, sz, μ, rfl, by rw [ht]; exact hH, hP⟩) hL hd.1 hx.2.2.2.2.2.2.1
/-- behind a call -/
theorem v_back {y : MethodName} {mc ms : Nat} {a : Array Value} {P : Option Value → Lay → Nat → Mem → Prop} {st0 : List Value} (hx : XOK l G x cc own nL d rc)
    (kk : ∀ (v : Option Value) (Λ' : Lay) (sz' : Nat) (μ' : Mem), P v Λ' sz' μ' → V G x (cs.1 + mc, cs.2 + ms) Λ' sz' μ' (pc + 3) lv (v.toList ++ st)) {H : Heap} {locs : List Loc} {ls : Array Slot} (hL : ∀ q ∈ locs, gB G ≤ q.base) (hl : lv_has ls (xc x).maxLocals lv)
    (hr : va_Run (xp x) (xl x) (xe x) (xR x) (xs x) (xm x) (xa x) (xb x) (xM x) (xc x) H locs cs.1 cs.2 mc ms (F0 (xm x) pc ls st0) st (SpQ G P a) (fun q => gB G ≤ q)) :
    W (xp x) (xl x) (xe x) (xR x) (xs x) (xm x) (xa x) (xb x) (xM x) (xc x) H locs cs.1 cs.2 (xQ x) (F0 (xm x) pc ls st0) := by
  intro T hT X
  obtain ⟨v, st₀, t, T', L, h0, X', hL', e1, e2, ⟨w, Λ', sz', μ', hv, hh, hP⟩, go⟩ := hr T hT X
  cases hv
  obtain ⟨t2, a1, b1⟩ := kk v Λ' sz' μ' hP T'.heap (locs ++ L) ls (by rw [e1]; exact hh) (fun q hq => by
    rcases List.mem_append.mp hq with h | h
    · exact hL q h
    · exact hL' q h) hl T' rfl X'
  exact ⟨t2, go t2 a1, b1⟩
theorem v_callV (hx : XOK l G x cc own nL d rc) {y : MethodName} {cy : ByteArray} {nLy dy mc ms n idx ci b : Nat} {ret : Option FieldType} {fs : List (Option Value)} {P : Option Value → Lay → Nat → Mem → Prop} (As : List Value) {st0 : List Value} {T : u_T} {N : Nat}
    (hd : dk cc pc (.invokevirtual idx) 3 pc') (hS : SpN l G y cy nLy ret dy mc ms (.ref b :: As) Λ sz μ P) (hln : Cond.methodLink own idx y ∈ lw_tbl) (him : Cond.instanceMethod y ∈ lw_tbl) (hsl : Cond.selects y.cls y y ∈ lw_tbl) (hco : Cond.code y cy nLy ret ∈ lw_tbl) (hin : Cond.initialized y.cls ∈ lw_tbl)
    (hpd : y.cls ≠ "java/lang/invoke/MethodHandle" ∧ y.cls ≠ "java/lang/invoke/VarHandle" ∧ (parseMethodDescriptor y.desc).map (fun d => d.parameters.length) = some n) (hk : Λ b = some (.inl (ci, fs))) (hci : classes[ci]? = some (y.cls, T, N)) (hst : st0 = As.reverse ++ .ref b :: st) (hn : As.length = n) (hW : (st.map fun v => v.category).sum ≤ 8)
    (hR : dy + 1 ≤ d ∧ nLy ≤ 20) (hcs : cs.1 + mc ≤ rc.1 ∧ cs.2 + ms ≤ rc.2)
    (kk : ∀ (v : Option Value) (Λ' : Lay) (sz' : Nat) (μ' : Mem), P v Λ' sz' μ' → V G x (cs.1 + mc, cs.2 + ms) Λ' sz' μ' pc' lv (v.toList ++ st)) : V G x cs Λ sz μ pc lv st0 := by
  intro H locs ls hH hL hl
  obtain ⟨hd1, rfl⟩ := hd
  have hts := hx.2.2.2.2.1
  obtain ⟨-, -, -, -, -, hK, -, hfr, hlo, hce, hsl', hll⟩ := id hx
  have hrm : (rmD dy mc ms).frames + 1 ≤ (xR x).frames ∧ 8 + (nLy + 11) + (rmD dy mc ms).locals ≤ (xR x).locals := by
    constructor
    · show dy + 1 ≤ _
      omega
    · show 8 + (nLy + 11) + 40 * dy ≤ _
      omega
  have cw : CallW (xR x) (xs x) (xa x) own y.cls idx y cy nLy ret (.code y cy nLy ret :: tb) (rmD dy mc ms) mc ms n :=
    ⟨callB_of n hts (good_tbl (memtb hco rfl)) rfl rfl rfl (hts _ (memtb hin rfl)) (hts _ (memtb hln rfl)) hpd hrm, hts _ (memtb him rfl), hts _ (memtb hsl rfl)⟩
  obtain ⟨cell, q1, q2, q3, q4⟩ := hH.obj hk hci
  have hfc := (hK.1.1 ci _ hci).2.1
  subst hst
  have hM : Met (xl x) y (.code y cy nLy ret :: tb) (rmD dy mc ms) (SpP G Λ sz μ (.ref b :: As)) (SpQ G P) mc ms (fun q => gB G ≤ q) := by rw [hll]; exact hS
  refine v_back (y := y) hx kk hL hl (va_runV (Ts := tb) (n := n) ⟨hx.1, hx.2.1, rfl, hx.2.2.2.1, hts⟩ hM cw ⟨SpP.blind, ⟨cell, q1, by rw [q3]; rfl, by rw [q2]; exact hfc⟩, SpP.at hK hH⟩ rfl hn hl.1 rfl (lv_room hW) hd1 ⟨by omega, by omega⟩)
theorem v_callS (hx : XOK l G x cc own nL d rc) {y : MethodName} {cy : ByteArray} {nLy dy mc ms n idx : Nat} {ret : Option FieldType} {P : Option Value → Lay → Nat → Mem → Prop} (As : List Value) {st0 : List Value}
    (hd : dk cc pc (.invokestatic idx) 3 pc') (hS : SpN l G y cy nLy ret dy mc ms As Λ sz μ P) (hln : Cond.methodLink own idx y ∈ lw_tbl) (him : Cond.static y ∈ lw_tbl) (hco : Cond.code y cy nLy ret ∈ lw_tbl) (hin : Cond.initialized y.cls ∈ lw_tbl)
    (hpd : y.cls ≠ "java/lang/invoke/MethodHandle" ∧ y.cls ≠ "java/lang/invoke/VarHandle" ∧ (parseMethodDescriptor y.desc).map (fun d => d.parameters.length) = some n) (hst : st0 = As.reverse ++ st) (hn : As.length = n) (hW : (st.map fun v => v.category).sum ≤ 8)
    (hR : dy + 1 ≤ d ∧ nLy ≤ 20) (hcs : cs.1 + mc ≤ rc.1 ∧ cs.2 + ms ≤ rc.2)
    (kk : ∀ (v : Option Value) (Λ' : Lay) (sz' : Nat) (μ' : Mem), P v Λ' sz' μ' → V G x (cs.1 + mc, cs.2 + ms) Λ' sz' μ' pc' lv (v.toList ++ st)) : V G x cs Λ sz μ pc lv st0 := by
  intro H locs ls hH hL hl
  obtain ⟨hd1, rfl⟩ := hd
  have hts := hx.2.2.2.2.1
  obtain ⟨-, -, -, -, -, hK, -, hfr, hlo, hce, hsl', hll⟩ := id hx
  have hrm : (rmD dy mc ms).frames + 1 ≤ (xR x).frames ∧ 8 + (nLy + 11) + (rmD dy mc ms).locals ≤ (xR x).locals := by
    constructor
    · show dy + 1 ≤ _
      omega
    · show 8 + (nLy + 11) + 40 * dy ≤ _
      omega
  subst hst
  have hM : Met (xl x) y (.code y cy nLy ret :: tb) (rmD dy mc ms) (SpP G Λ sz μ As) (SpQ G P) mc ms (fun q => gB G ≤ q) := by rw [hll]; exact hS
  refine v_back (y := y) hx kk hL hl (va_runS (Ts := tb) (n := n) ⟨hx.1, hx.2.1, rfl, hx.2.2.2.1, hts⟩ hM ⟨callB_of n hts (good_tbl (memtb hco rfl)) rfl rfl rfl (hts _ (memtb hin rfl)) (hts _ (memtb hln rfl)) hpd hrm, hts _ (memtb him rfl)⟩ ⟨SpP.blind, SpP.at hK hH⟩ rfl hn hl.1 rfl (lv_room hW) hd1 ⟨by omega, by omega⟩)
end Calls
