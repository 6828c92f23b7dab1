abbrev Mem : Type := (Nat → Int → Int) × (Nat → Int → Int64)
abbrev Kd : Type := (Nat × List (Option Value)) ⊕ (Nat × Nat × List (Option Nat))
abbrev Lay : Type := Nat → Option Kd
abbrev classes : List vw_C := [(RX0, TX0, 4), (RX1, TX1, 2), (RX2, TX2, 3), (RX3, TX3, 8), (RX4, TX4, 16), (RX5, TX5, 2), (RX6, TX6, 12), (RX7, TX7, 10), (RX8, TX8, 3), (RX9, TX9, 9), (RX10, TX10, 2), (RX11, TX11, 18), (RX12, TX12, 31)]
def aty : Nat → FieldType := fun t => match t with
  | 0 => .int
  | 1 => .boolean
  | 2 => .long
  | 3 => .object RX0
  | 4 => .object RX1
  | _ => .object RX8
def iv (z : Int) : Value := .int (Int32.ofInt z)
abbrev Gl : Type := va_G × (Nat → ClassId) × Nat × (Nat → Cell) × (Nat → Nat) × (Nat → Int → Int) × Nat × Nat
abbrev gD (G : Gl) : va_G := G.1
abbrev gA (G : Gl) : Nat → ClassId := G.2.1
abbrev gB (G : Gl) : Nat := G.2.2.1
abbrev gC (G : Gl) : Nat → Cell := G.2.2.2.1
abbrev gN (G : Gl) : Nat → Nat := G.2.2.2.2.1
abbrev gT (G : Gl) : Nat → Int → Int := G.2.2.2.2.2.1
/-- where the table of inverses lies, and the cell of the statics -/
abbrev gI (G : Gl) : Nat := G.2.2.2.2.2.2.1
abbrev gS (G : Gl) : Nat := G.2.2.2.2.2.2.2
def fv (μ : Mem) (a : Nat) (fs : List (Option Value)) (k : Nat) : Value := match fs[k]? with
  | some (some v) => v
  | _ => iv (μ.1 a (k : Int))
def av (μ : Mem) (a t : Nat) (rs : List (Option Nat)) (j : Nat) : Value := if t = 2 then .long (μ.2 a (j : Int)) else if t ≤ 1 then iv (μ.1 a (j : Int)) else va_rf (rs.getD j none)
def cOK (G : Gl) (μ : Mem) (a : Nat) (kd : Kd) (H : Heap) : Prop := match kd with
  | .inl o => ∃ r : vw_C, classes[o.1]? = some r ∧ t_OB a ((gD G).1 o.1) r.2.2 ((gD G).2 o.1) H (fv μ a o.2)
  | .inr q => if q.1 = 9 then H[a]? = some (gC G q.2.1) else H[a]? = some (arrV (gA G q.1) q.2.1 (av μ a q.1 q.2.2))
def wr (kd : Kd) : Prop := match kd with
  | .inl _ => True
  | .inr q => q.1 ≠ 9
def HR (G : Gl) (Λ : Lay) (sz : Nat) (μ : Mem) (H : Heap) : Prop := H.size = sz ∧ ∀ (a : Nat) (kd : Kd), Λ a = some kd → cOK G μ a kd H ∧ (wr kd → gB G ≤ a)
/-- the words that go over to a callee by themselves, and the others, which are moved by hand -/
def tb : List Cond := lw_tbl.filter goodWord
theorem memtb {w : Cond} (h : w ∈ lw_tbl) (hg : goodWord w = true) : w ∈ tb := List.mem_filter.mpr ⟨h, hg⟩
theorem u_good {C : String} {T : u_T} {N : Nat} : ∀ w ∈ u_ws C T N, goodWord w = true := by
  intro w hw
  obtain ⟨k, -, rfl⟩ := List.mem_map.mp hw
  unfold u_lay
  split <;> rfl
theorem u_tb {C : String} {T : u_T} {N : Nat} (h : ∀ w ∈ u_ws C T N, w ∈ lw_tbl) : ∀ w ∈ u_ws C T N, w ∈ tb := fun w hw => memtb (h w hw) (u_good w hw)
def isNest : Cond → Bool
  | .methodLinkNest _ _ _ _ => true
  | _ => false
def KK (G : Gl) (U : State) : Prop := va_K (gD G) classes [] U ∧ (∀ t, t < 6 → ArrOfT U (gA G t) (aty t) ∧ va_RA U (gA G t) (aty t)) ∧
  (∀ n, n < 2 → U.isArrayOf (gC G n) .int ∧ (gC G n).vm ≠ .unknown ∧ (gC G n).slots.size = gN G n ∧ ∀ j, j < gN G n → (gC G n).slots[j]? = some (iv (gT G n (j : Int)))) ∧
  (∀ w ∈ lw_tbl, isNest w = true → va_Nw w U) ∧ (va_AO RX0 U ∧ va_AO RX1 U ∧ va_AO RX8 U) ∧
  ∃ (cf : ClassId) (kf : Class) (fi : Nat) (f : Field), U.fieldFound? RX11 "INVERSES" "[I" = some (cf, kf, fi, f) ∧ f.isStatic = true ∧ kf.init = .initialized ∧ kf.statics = some (gS G) ∧ (gC G 2).vm ≠ .unknown ∧ (gC G 2).slots[f.slot]? = some (.ref (gI G))
theorem KK.moved {G : Gl} {u U : State} (hW : u.WarmedH U.vm) (h : KK G u) : KK G U := by
  have hvm := hW.alike
  obtain ⟨h1, h2, h3, h4, h5, cf, kf, fi, f, g1, g2, g3, g4, g5, g6⟩ := h
  obtain ⟨k', hi', he⟩ := State.fieldFound?_setVm hvm g1
  refine ⟨h1.moved hvm, fun t ht => ⟨arrOfT_moved hvm (h2 t ht).1, (h2 t ht).2.moved hvm⟩, fun n hn => ⟨State.isArrayOf_alike hvm (h3 n hn).1, (h3 n hn).2⟩, fun w hw hn => ?_, ⟨h5.1.moved hvm, h5.2.1.moved hvm, h5.2.2.moved hvm⟩, cf, k', fi, f, hi', g2, by rw [he]; exact g3, by rw [he]; exact g4, g5, g6⟩
  have h6 := h4 w hw hn
  cases w <;> first | (exact absurd hn (by decide)) | (exact va_Nw.warmM hW h6) | cases hn
theorem KK.same {G : Gl} {u U : State} (hv : u.vm = U.vm) (h : KK G u) : KK G U := by
  have hvm : u.vm.Alike U.vm := hv ▸ Vm.Alike.refl _
  obtain ⟨h1, h2, h3, h4, h5, cf, kf, fi, f, g1, g2, g3, g4, g5, g6⟩ := h
  obtain ⟨k', hi', he⟩ := State.fieldFound?_setVm hvm g1
  refine ⟨h1.moved hvm, fun t ht => ⟨arrOfT_moved hvm (h2 t ht).1, (h2 t ht).2.moved hvm⟩, fun n hn => ⟨State.isArrayOf_alike hvm (h3 n hn).1, (h3 n hn).2⟩, fun w hw hn => ?_, ⟨h5.1.moved hvm, h5.2.1.moved hvm, h5.2.2.moved hvm⟩, cf, k', fi, f, hi', g2, by rw [he]; exact g3, by rw [he]; exact g4, g5, g6⟩
  have h6 := h4 w hw hn
  refine va_Nw.same ?_ hv h6
  cases w <;> first | rfl | cases hn
abbrev Fx : Type := Program × Launch × Env × Room × State × MethodId × Array Value × List Frame × Method × Code × (State → Prop)
abbrev xp (x : Fx) := x.1
abbrev xl (x : Fx) := x.2.1
abbrev xe (x : Fx) := x.2.2.1
abbrev xR (x : Fx) := x.2.2.2.1
abbrev xs (x : Fx) := x.2.2.2.2.1
abbrev xm (x : Fx) := x.2.2.2.2.2.1
abbrev xa (x : Fx) := x.2.2.2.2.2.2.1
abbrev xb (x : Fx) := x.2.2.2.2.2.2.2.1
abbrev xM (x : Fx) := x.2.2.2.2.2.2.2.2.1
abbrev xc (x : Fx) := x.2.2.2.2.2.2.2.2.2.1
abbrev xQ (x : Fx) := x.2.2.2.2.2.2.2.2.2.2
/-- the machine in method x, at a pc, over a memory -/
def V (G : Gl) (x : Fx) (cs : Nat × Nat) (Λ : Lay) (sz : Nat) (μ : Mem) (pc : Nat) (lv : List (Nat × Value)) (st : List Value) : Prop :=
  ∀ (H : Heap) (locs : List Loc) (ls : Array Slot), HR G Λ sz μ H → (∀ q ∈ locs, gB G ≤ q.base) → lv_has ls (xc x).maxLocals lv →
    W (xp x) (xl x) (xe x) (xR x) (xs x) (xm x) (xa x) (xb x) (xM x) (xc x) H locs cs.1 cs.2 (xQ x) (F0 (xm x) pc ls st)
/-- what holds all along a method -/
def XOK (l : Launch) (G : Gl) (x : Fx) (cc : ByteArray) (own : String) (nL d : Nat) (rc : Nat × Nat) : Prop :=
  (xp x).tables.exec = Jvm.exec ∧ (xc x).code = cc ∧ (xc x).maxLocals = nL ∧ (xs x).vm.findClass own = some (xm x).cls ∧ (∀ w ∈ tb, w.before (xa x) (xs x) = true) ∧ KK G (xs x) ∧ (xM x).locks = false ∧
  d ≤ (xR x).frames ∧ 40 * d ≤ (xR x).locals ∧ rc.1 ≤ (xR x).cells ∧ rc.2 ≤ (xR x).slots ∧ xl x = l
def dk (c : ByteArray) (pc : Nat) (i : Instr) (n pc' : Nat) : Prop := decode c pc = .ok (i, n) ∧ pc + n = pc'
def di (c : ByteArray) (pc : Nat) (o : Jvm.ClassFile.Cond) (tgt pc' : Nat) : Prop := ∃ off : Int, decode c pc = .ok (.if_icmp o off, 3) ∧ (pc : Int) + off = (tgt : Int) ∧ pc + 3 = pc'
def dc (c : ByteArray) (pc : Nat) (o : Jvm.ClassFile.Cond) (tgt pc' : Nat) : Prop := ∃ off : Int, decode c pc = .ok (.ifCond o off, 3) ∧ (pc : Int) + off = (tgt : Int) ∧ pc + 3 = pc'
def dg (c : ByteArray) (pc tgt : Nat) : Prop := ∃ off : Int, decode c pc = .ok (.goto off, 3) ∧ (pc : Int) + off = (tgt : Int)
/-- a constant -/
def dp (c : ByteArray) (pc : Nat) (n : Int) (pc' : Nat) : Prop := (decode c pc = .ok (.iconst n, 1) ∧ pc + 1 = pc') ∨ (decode c pc = .ok (.bipush n, 2) ∧ pc + 2 = pc' ∧ (Int8.ofInt n).toInt32 = Int32.ofInt n) ∨ (decode c pc = .ok (.sipush n, 3) ∧ pc + 3 = pc' ∧ (Int16.ofInt n).toInt32 = Int32.ofInt n)
/-- loads and stores of locals: ints, references, longs -/
def dl (c : ByteArray) (pc : Nat) (i pc' : Nat) : Prop := (∃ k : Fin 4, decode c pc = .ok (.iload_n k, 1) ∧ (k : Nat) = i ∧ pc + 1 = pc') ∨ (decode c pc = .ok (.iload i, 2) ∧ pc + 2 = pc')
def da (c : ByteArray) (pc : Nat) (i pc' : Nat) : Prop := (∃ k : Fin 4, decode c pc = .ok (.aload_n k, 1) ∧ (k : Nat) = i ∧ pc + 1 = pc') ∨ (decode c pc = .ok (.aload i, 2) ∧ pc + 2 = pc')
def dll (c : ByteArray) (pc : Nat) (i pc' : Nat) : Prop := (∃ k : Fin 4, decode c pc = .ok (.lload_n k, 1) ∧ (k : Nat) = i ∧ pc + 1 = pc') ∨ (decode c pc = .ok (.lload i, 2) ∧ pc + 2 = pc')
def ds (c : ByteArray) (pc : Nat) (i pc' : Nat) : Prop := (∃ k : Fin 4, decode c pc = .ok (.istore_n k, 1) ∧ (k : Nat) = i ∧ pc + 1 = pc') ∨ (decode c pc = .ok (.istore i, 2) ∧ pc + 2 = pc')
def dsa (c : ByteArray) (pc : Nat) (i pc' : Nat) : Prop := (∃ k : Fin 4, decode c pc = .ok (.astore_n k, 1) ∧ (k : Nat) = i ∧ pc + 1 = pc') ∨ (decode c pc = .ok (.astore i, 2) ∧ pc + 2 = pc')
theorem iv_add (a b : Int) : Value.int (Int32.ofInt a + Int32.ofInt b) = iv (a + b) := by rw [iv, Int32.ofInt_add]
theorem iv_sub (a b : Int) : Value.int (Int32.ofInt a - Int32.ofInt b) = iv (a - b) := by rw [iv, Int32.ofInt_sub]
theorem iv_mul (a b : Int) : Value.int (Int32.ofInt a * Int32.ofInt b) = iv (a * b) := by rw [iv, Int32.ofInt_mul]
abbrev inR (z : Int) : Prop := -2147483648 ≤ z ∧ z ≤ 2147483647
theorem ofI_lt {a b : Int} (ha : inR a) (hb : inR b) : Int32.ofInt a < Int32.ofInt b ↔ a < b := Int32.ofInt_lt_iff_lt ha.1 ha.2 hb.1 hb.2
theorem ofI_le {a b : Int} (ha : inR a) (hb : inR b) : Int32.ofInt a ≤ Int32.ofInt b ↔ a ≤ b := Int32.ofInt_le_iff_le ha.1 ha.2 hb.1 hb.2
theorem ofI_int {a : Int} (ha : inR a) : (Int32.ofInt a).toInt = a := Int32.toInt_ofInt_of_le (by have := ha.1; omega) (by have := ha.2; omega)
theorem ofI_eq {a b : Int} (ha : inR a) (hb : inR b) : Int32.ofInt a = Int32.ofInt b ↔ a = b := by
  constructor
  · intro h
    rw [← ofI_int ha, ← ofI_int hb, h]
  · intro h; rw [h]
theorem ofI_nat {a : Int} (ha : inR a) : (Int32.ofInt a).toNatClampNeg = a.toNat := Int32.toNatClampNeg_ofInt_of_le (by have := ha.1; omega) (by have := ha.2; omega)
theorem ofI_in {z : Int} {n : Nat} (h0 : 0 ≤ z) (h1 : z < n) (hn : n ≤ 2147483647) : ¬ (Int32.ofInt z < 0 ∨ n ≤ (Int32.ofInt z).toNatClampNeg) := by
  have hz : inR z := ⟨by omega, by omega⟩
  rw [ofI_nat hz]
  rintro (h | h)
  · have : Int32.ofInt z < Int32.ofInt 0 := h
    rw [ofI_lt hz (by decide)] at this
    omega
  · omega
