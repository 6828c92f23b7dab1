/-! ===== rows that make cells ===== -/
def z0 : Int → Int := fun _ => 0
def z1 : Int → Int64 := fun _ => 0
def Zr (Λ : Lay) (μ : Mem) (e : Nat) : Prop := ∀ a, e ≤ a → Λ a = none ∧ μ.1 a = z0 ∧ μ.2 a = z1
def SmA (Λ : Lay) (μ : Mem) (Λ' : Lay) (μ' : Mem) (a : Nat) : Prop := Λ' a = Λ a ∧ μ'.1 a = μ.1 a ∧ μ'.2 a = μ.2 a
theorem SmA.rf {Λ : Lay} {μ : Mem} {a : Nat} : SmA Λ μ Λ μ a := ⟨rfl, rfl, rfl⟩
theorem SmA.trans {Λ Λ1 Λ2 : Lay} {μ μ1 μ2 : Mem} {a : Nat} (h : SmA Λ μ Λ1 μ1 a) (h' : SmA Λ1 μ1 Λ2 μ2 a) : SmA Λ μ Λ2 μ2 a := ⟨h'.1.trans h.1, h'.2.1.trans h.2.1, h'.2.2.trans h.2.2⟩
/-- what a constructor at t leaves: cells t .. e - 1 are its own -/
def CT (t e : Nat) (Λ : Lay) (μ : Mem) (R : Lay → Mem → Prop) : Option Value → Lay → Nat → Mem → Prop := fun v Λ' sz' μ' => v = none ∧ sz' = e ∧ (∀ a, a < t → SmA Λ μ Λ' μ' a) ∧ Zr Λ' μ' e ∧ R Λ' μ'
def nf (ty : FieldType) : Option Value := match ty with
  | .int => none
  | .boolean => none
  | _ => some .null
def nfOK (ty : FieldType) : Bool := match ty with
  | .int => true
  | .boolean => true
  | .object _ => true
  | .array _ => true
  | _ => false
def NW (own : String) (idx ci N : Nat) (fs : List (Option Value)) : Prop := ∃ (C : String) (T : u_T) (tys : Nat → FieldType), classes[ci]? = some (C, T, N) ∧ (∀ w ∈ u_ws C T N, w ∈ lw_tbl) ∧ (∀ k, k < N → parseFieldDescriptor (T k).2.2.1 = some (tys k)) ∧ Cond.classLink own idx C ∈ lw_tbl ∧ Cond.instantiable C N ∈ lw_tbl ∧ Cond.initialized C ∈ lw_tbl ∧ (∀ j, j < N → nfOK (tys j) = true) ∧ fs = (List.range N).map (fun j => nf (tys j))
theorem cOK.lt {G : Gl} {μ : Mem} {a : Nat} {kd : Kd} {H : Heap} (h : cOK G μ a kd H) : a < H.size := by
  cases kd with
  | inl o =>
    obtain ⟨r, g1, cell, g2, -⟩ := h
    exact (Array.getElem?_eq_some_iff.mp g2).1
  | inr q =>
    unfold cOK at h
    by_cases h9 : q.1 = 9
    · simp only [if_pos h9] at h
      exact (Array.getElem?_eq_some_iff.mp h).1
    · simp only [if_neg h9] at h
      exact (Array.getElem?_eq_some_iff.mp h).1
theorem HR.push {G : Gl} {Λ : Lay} {e : Nat} {μ : Mem} {H H' : Heap} (h : HR G Λ e μ H) (hz : H'.size = e + 1) (ho : ∀ q, q < e → H'[q]? = H[q]?) {kd : Kd} (hn : cOK G μ e kd H') (hg : gB G ≤ e) : HR G (fun q => if q = e then some kd else Λ q) (e + 1) μ H' := by
  refine ⟨hz, fun b kb hb => ?_⟩
  by_cases c : b = e
  · subst c
    dsimp only at hb
    rw [if_pos rfl] at hb
    cases hb
    exact ⟨hn, fun _ => hg⟩
  · dsimp only at hb
    rw [if_neg c] at hb
    have q := h.2 _ _ hb
    have l := q.1.lt
    rw [h.1] at l
    exact ⟨q.1.kept (ho b l) rfl rfl, q.2⟩
section Rows9
variable {l : Launch} {G : Gl} {x : Fx} {cc : ByteArray} {own : String} {nL d : Nat} {rc cs cs' : Nat × Nat} {Λ : Lay} {e : Nat} {μ : Mem} {pc pc' : Nat} {lv lv' : List (Nat × Value)} {st : List Value}
theorem v_widen (h : cs.1 ≤ cs'.1 ∧ cs.2 ≤ cs'.2) (h2 : cs'.1 ≤ (xR x).cells ∧ cs'.2 ≤ (xR x).slots) (kk : V G x cs' Λ e μ pc lv st) : V G x cs Λ e μ pc lv st := fun H locs ls hH hL hl => W.widen h.1 h.2 (kk H locs ls hH hL hl)
theorem v_objI (hx : XOK l G x cc own nL d rc) {idx a : Nat} (hd : dk cc pc (.invokespecial idx) 3 pc') (hln : Cond.methodLink own idx (⟨"java/lang/Object", "<init>", "()V"⟩ : MethodName) ∈ lw_tbl) (hd1 : 1 ≤ d) (hW : (st.map fun v => v.category).sum ≤ 8) (kk : V G x cs Λ e μ pc' lv st) : V G x cs Λ e μ pc lv (.ref a :: st) := by
  intro H locs ls hH hL hl
  obtain ⟨h1, rfl⟩ := hd
  have hts := hx.2.2.2.2.1
  obtain ⟨-, -, -, -, -, hK, -, hfr, hlo, -⟩ := id hx
  refine W.objInit hx.1 hx.2.1 hx.2.2.2.1 (hts _ (memtb hln rfl)) (hts _ (memtb (lwc1 (List.mem_of_getElem? (i := 24) rfl)) rfl)) (hts _ (memtb (lwc1 (List.mem_of_getElem? (i := 25) rfl)) rfl)) rfl hl.1 rfl h1 (by omega) ?_ (kk H locs ls hH hL hl)
  have hmr : (F0 (xm x) pc ls (.ref a :: st)).monitorRoom = 0 := rfl
  omega
theorem v_new (hx : XOK l G x cc own nL d rc) {idx ci N : Nat} {fs : List (Option Value)} (hd : dk cc pc (.new idx) 3 pc') (hN : NW own idx ci N fs) (hg : gB G ≤ e) (hZ : Zr Λ μ e) (hcs : (cs.1 + 1, cs.2 + N) = cs') (hcr : cs'.1 ≤ rc.1 ∧ cs'.2 ≤ rc.2)
    (kk : ∀ Λ' : Lay, Λ' e = some (.inl (ci, fs)) → (∀ a, a ≠ e → Λ' a = Λ a) → Zr Λ' μ (e + 1) → V G x cs' Λ' (e + 1) μ pc' lv (.ref e :: st)) : V G x cs Λ e μ pc lv st := by
  intro H locs ls hH hL hl
  obtain ⟨h1, rfl⟩ := hd
  obtain ⟨C, T, tys, hc, hin0, hty, hcl, hnw, hini, hok, hfs⟩ := hN
  have hin := u_tb hin0
  have hts := hx.2.2.2.2.1
  obtain ⟨-, -, -, -, -, hK, -, hfr, hlo, hce, hsl, -⟩ := id hx
  subst hcs
  have hKn := hK.1.1 ci _ hc
  refine W.newcK hx.1 hx.2.1 hx.2.2.2.1 (hts _ (memtb hcl rfl)) (hts _ (memtb hnw rfl)) (hts _ (memtb hini rfl)) rfl h1 (Nat.le_trans hcr.1 hce) (Nat.le_trans hcr.2 hsl) hKn.2.1 hH.1 fun H' kC hkC e1 zz o1 => ?_
  have hb := u_born tys hts hin hKn hkC e1 hty
  refine kk _ (if_pos rfl) (fun a ha => if_neg ha) (fun a ha => ⟨by show (if a = e then _ else Λ a) = none; rw [if_neg (by omega)]; exact (hZ a (by omega)).1, (hZ a (by omega)).2⟩) H' locs ls (hH.push (kd := .inl (ci, fs)) zz o1 ⟨_, hc, hb.to (fun j hj => ?_)⟩ hg) hL hl
  have hm := (hZ e (Nat.le_refl _)).2.1
  have ho := hok j hj
  show defaultValue (tys j) = fv μ e fs j
  unfold fv
  rw [hfs, hm, List.getElem?_map, List.getElem?_range hj]
  simp only [Option.map_some]
  cases q : tys j <;> simp only [q, nfOK, nf] at ho ⊢ <;> first | rfl | cases ho
/-- behind the call of a constructor -/
theorem v_cI (hx : XOK l G x cc own nL d rc) {y : MethodName} {cy : ByteArray} {nLy dy mc ms n idx b : Nat} {P : Option Value → Lay → Nat → Mem → Prop} (As : List Value) {st0 : List Value} (hd : dk cc pc (.invokespecial idx) 3 pc') (hC : CI own idx y cy nLy n) (hS : SpN l G y cy nLy none dy mc ms (.ref b :: As) Λ e μ P)
    (hst : st0 = As.reverse ++ .ref b :: st) (hn : As.length = n) (hW : (st.map fun v => v.category).sum ≤ 8) (hR : dy + 1 ≤ d) (hcs : (cs.1 + mc, cs.2 + ms) = cs') (hcr : cs'.1 ≤ rc.1 ∧ cs'.2 ≤ rc.2)
    (kk : ∀ (v : Option Value) (Λ' : Lay) (sz' : Nat) (μ' : Mem), P v Λ' sz' μ' → V G x cs' Λ' sz' μ' pc' lv (v.toList ++ st)) : V G x cs Λ e μ pc lv st0 := by
  obtain ⟨c1, ⟨c2, c3, c4, c5⟩, c6, c8⟩ := hC
  intro H locs ls hH hL hl
  obtain ⟨hd1, rfl⟩ := hd
  have hts := hx.2.2.2.2.1
  obtain ⟨-, -, -, -, -, hK, -, hfr, hlo, hce, hsl', hll⟩ := id hx
  have hrm : (rmD dy mc ms).frames + 1 ≤ (xR x).frames ∧ 8 + (nLy + 11) + (rmD dy mc ms).locals ≤ (xR x).locals := by
    constructor
    · show dy + 1 ≤ _
      omega
    · show 8 + (nLy + 11) + 40 * dy ≤ _
      omega
  subst hst
  subst hcs
  have hM : Met (xl x) y (.code y cy nLy none :: tb) (rmD dy mc ms) (SpP G Λ e μ (.ref b :: As)) (SpQ G P) mc ms (fun q => gB G ≤ q) := by rw [hll]; exact hS
  rcases c1 with c1 | ⟨host, c1⟩
  · exact v_back (y := y) hx kk hL hl (va_runI (Ts := tb) (n := n) ⟨hx.1, hx.2.1, rfl, hx.2.2.2.1, hts⟩ hM (cwI n hts (good_tbl (memtb c3 rfl)) rfl rfl rfl (hts _ (memtb c4 rfl)) (hts _ (memtb c1 rfl)) (hts _ (memtb c2 rfl)) c5 c6 hrm) ⟨SpP.blind, SpP.at hK hH⟩ rfl hn hl.1 rfl (lv_room hW) hd1 ⟨Nat.le_trans hcr.1 hce, Nat.le_trans hcr.2 hsl'⟩)
  · exact v_back (y := y) hx kk hL hl (va_runIN (Ts := tb) (n := n) (host := host) ⟨hx.1, hx.2.1, rfl, hx.2.2.2.1, hts⟩ hM ⟨va_cnB n hts (good_tbl (memtb c3 rfl)) rfl rfl rfl (hK.2.2.2.1 _ c1 rfl) (hts _ (memtb c4 rfl)) c6 hrm, c5, hts _ (memtb c2 rfl)⟩ ⟨SpP.blind, SpP.at hK hH⟩ rfl hn hl.1 rfl (lv_room hW) hd1 ⟨Nat.le_trans hcr.1 hce, Nat.le_trans hcr.2 hsl'⟩)
/-- new, dup, the constructor without arguments -/
theorem v_nw (hx : XOK l G x cc own nL d rc) {i1 i2 p1 p2 ci N e' dy mc ms nLy : Nat} {y : MethodName} {cy : ByteArray} {fs : List (Option Value)} {R : Lay → Mem → Prop} (hD0 : dk cc pc (.new i1) 3 p1) (hD1 : dk cc p1 .dup 1 p2) (hD2 : dk cc p2 (.invokespecial i2) 3 pc') (hN : NW own i1 ci N fs) (hC : CI own i2 y cy nLy 0) (hg : gB G ≤ e) (hZ : Zr Λ μ e)
    (hS : ∀ Λ1 : Lay, Λ1 e = some (.inl (ci, fs)) → Zr Λ1 μ (e + 1) → μ.1 e = z0 → SpN l G y cy nLy none dy mc ms [.ref e] Λ1 (e + 1) μ (CT e e' Λ1 μ R)) (hW : (st.map fun v => v.category).sum ≤ 7) (hR : dy + 1 ≤ d) (hcs : (cs.1 + 1 + mc, cs.2 + N + ms) = cs') (hcr : cs'.1 ≤ rc.1 ∧ cs'.2 ≤ rc.2)
    (kk : ∀ (Λ' : Lay) (μ' : Mem), (∀ a, a < e → SmA Λ μ Λ' μ' a) → Zr Λ' μ' e' → R Λ' μ' → V G x cs' Λ' e' μ' pc' lv (.ref e :: st)) : V G x cs Λ e μ pc lv st := by
  subst hcs
  refine v_new hx hD0 hN hg hZ rfl ⟨by have := hcr.1; dsimp only at this ⊢; omega, by have := hcr.2; dsimp only at this ⊢; omega⟩ (fun Λ1 h1 h2 h3 => ?_)
  refine v_dup hx hD1 rfl ?_
  refine v_cI hx [] hD2 hC (hS Λ1 h1 h3 (hZ e (Nat.le_refl _)).2.1) (st := .ref e :: st) rfl rfl (by simp only [List.map_cons, List.sum_cons]; show 1 + _ ≤ 8; omega) hR rfl hcr (fun v Λ' sz' μ' hP => ?_)
  obtain ⟨rfl, rfl, q1, q2, q3⟩ := hP
  exact kk Λ' μ' (fun a ha => SmA.trans ⟨h2 a (by omega), rfl, rfl⟩ (q1 a ha)) q2 q3
theorem v_newa (hx : XOK l G x cc own nL d rc) {t n : Nat} {ty : ArrayType} (hd : dk cc pc (.newarray ty) 2 pc') (ht : t < 3) (hat : newarray.typeOf ty = aty t) (hin : Cond.arrayClass (newarray.typeOf ty) ∈ lw_tbl) (hn : n ≤ 100000) (hg : gB G ≤ e) (hZ : Zr Λ μ e) (hcs : (cs.1 + 1, cs.2 + n) = cs') (hcr : cs'.1 ≤ rc.1 ∧ cs'.2 ≤ rc.2)
    (kk : ∀ Λ' : Lay, Λ' e = some (.inr (t, n, [])) → (∀ a, a ≠ e → Λ' a = Λ a) → Zr Λ' μ (e + 1) → V G x cs' Λ' (e + 1) μ pc' lv (.ref e :: st)) : V G x cs Λ e μ pc lv (iv (n : Int) :: st) := by
  intro H locs ls hH hL hl
  obtain ⟨h1, rfl⟩ := hd
  have hts := hx.2.2.2.2.1
  obtain ⟨-, -, -, -, -, hK, -, hfr, hlo, hce, hsl, -⟩ := id hx
  subst hcs
  have hi : inR (n : Int) := ⟨by omega, by omega⟩
  refine va_newaK (N := n) hx.1 hx.2.1 (hts _ (memtb hin rfl)) rfl h1 rfl (fun h => ?_) (by rw [ofI_nat hi]; rfl) ?_ (Nat.le_trans hcr.1 hce) (Nat.le_trans hcr.2 hsl) hH.1 fun H' cA e1 zz o1 hA hN => ?_
  · have : Int32.ofInt (n : Int) < Int32.ofInt 0 := h
    rw [ofI_lt hi (by decide)] at this
    omega
  · rw [hat]
    have : componentBytes (aty t) ≤ 8 := by
      rcases (by omega : t = 0 ∨ t = 1 ∨ t = 2) with rfl | rfl | rfl <;> decide
    calc n * componentBytes (aty t) ≤ n * 8 := Nat.mul_le_mul_left _ this
      _ ≤ 536870912 := by omega
  have hm := hZ e (Nat.le_refl _)
  refine kk _ (if_pos rfl) (fun a ha => if_neg ha) (fun a ha => ⟨by show (if a = e then _ else Λ a) = none; rw [if_neg (by omega)]; exact (hZ a (by omega)).1, (hZ a (by omega)).2⟩) H' locs ls (hH.push zz o1 ?_ hg) hL hl
  show (if t = 9 then _ else H'[e]? = some (arrV (gA G t) n (av μ e t [])))
  rw [if_neg (by omega), e1]
  have hra := (hK.2.1 t (by omega)).2
  rw [hat] at hN ⊢
  rcases (by omega : t = 0 ∨ t = 1 ∨ t = 2) with rfl | rfl | rfl
  · have : cA = gA G 0 := Option.some.inj (hN.symm.trans hra)
    subst this
    congr 2
    funext j
    simp [av, hm.2.1, z0]; rfl
  · have : cA = gA G 1 := Option.some.inj (hN.symm.trans hra)
    subst this
    congr 2
    funext j
    simp [av, hm.2.1, z0]; rfl
  · have : cA = gA G 2 := Option.some.inj (hN.symm.trans hra)
    subst this
    congr 2
    funext j
    simp [av, hm.2.2, z1]; rfl
end Rows9
