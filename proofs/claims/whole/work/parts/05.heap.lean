/-- a field link: class number, field number -/
def FL (own : String) (idx ci k : Nat) : Prop := ∃ (C : String) (T : u_T) (N : Nat), classes[ci]? = some (C, T, N) ∧ (∀ w ∈ u_ws C T N, w ∈ lw_tbl) ∧ k < N ∧ Cond.fieldLink own idx (T k).1 (T k).2.1 (T k).2.2.1 ∈ lw_tbl
/-- .. that is stored to: its type, and whether it is final; 'own' is the class itself where it is -/
def FP (own : String) (idx ci k : Nat) (fin : Bool) (ty : FieldType) : Prop := ∃ (C : String) (T : u_T) (N : Nat) (tys : Nat → FieldType), classes[ci]? = some (C, T, N) ∧ (∀ w ∈ u_ws C T N, w ∈ lw_tbl) ∧ k < N ∧ Cond.fieldLink own idx (T k).1 (T k).2.1 (T k).2.2.1 ∈ lw_tbl ∧
  (∀ k, k < N → parseFieldDescriptor (T k).2.2.1 = some (tys k)) ∧ (∀ a, a < N → ∀ b, b < N → a ≠ b → (T a).2.1 ≠ (T b).2.1) ∧ (T k).2.2.2 = fin ∧ tys k = ty ∧ (fin = true → (T k).1 = own)
theorem HR.obj {G : Gl} {Λ : Lay} {sz : Nat} {μ : Mem} {H : Heap} (h : HR G Λ sz μ H) {a ci : Nat} {fs : List (Option Value)} (hk : Λ a = some (.inl (ci, fs))) {C : String} {T : u_T} {N : Nat} (hc : classes[ci]? = some (C, T, N)) :
    ∃ cell : Cell, H[a]? = some cell ∧ cell.cls = (gD G).1 ci ∧ cell.vm = .none ∧ ∀ k, k < N → cell.slots[(gD G).2 ci k]? = some (fv μ a fs k) := by
  obtain ⟨r, h1, cell, g1, g2, g3, g4⟩ := (h.2 _ _ hk).1
  cases hc.symm.trans h1
  exact ⟨cell, g1, g2, g3, g4⟩
theorem HR.arr {G : Gl} {Λ : Lay} {sz : Nat} {μ : Mem} {H : Heap} (h : HR G Λ sz μ H) {a t n : Nat} {rs : List (Option Nat)} (hk : Λ a = some (.inr (t, n, rs))) (h9 : t ≠ 9) : H[a]? = some (arrV (gA G t) n (av μ a t rs)) := by
  have h1 := (h.2 _ _ hk).1
  simp only [cOK] at h1
  rw [if_neg h9] at h1
  exact h1
theorem HR.cst {G : Gl} {Λ : Lay} {sz : Nat} {μ : Mem} {H : Heap} (h : HR G Λ sz μ H) {a n : Nat} {rs : List (Option Nat)} (hk : Λ a = some (.inr (9, n, rs))) : H[a]? = some (gC G n) := by
  have h1 := (h.2 _ _ hk).1
  simp only [cOK, if_true] at h1
  exact h1
section HRows
variable {l : Launch} {G : Gl} {x : Fx} {cc : ByteArray} {own : String} {nL d : Nat} {rc cs : Nat × Nat} {Λ : Lay} {sz : Nat} {μ : Mem} {pc pc' : Nat} {lv lv' : List (Nat × Value)} {st : List Value}
theorem v_get (hx : XOK l G x cc own nL d rc) {idx ci a k : Nat} {fs : List (Option Value)} (hd : dk cc pc (.getfield idx) 3 pc') (hF : FL own idx ci k) (hk : Λ a = some (.inl (ci, fs))) {v : Value} (hv : fv μ a fs k = v) (kk : V G x cs Λ sz μ pc' lv (v :: st)) : V G x cs Λ sz μ pc lv (.ref a :: st) := by
  intro H locs ls hH hL hl
  obtain ⟨h1, rfl⟩ := hd
  obtain ⟨C, T, N, hc, hin0, hkN, hlk⟩ := hF
  have hin := u_tb hin0
  obtain ⟨cell, q1, q2, q3, q4⟩ := hH.obj hk hc
  have hts := hx.2.2.2.2.1
  obtain ⟨hS, hfc, kC, hkC, hkind⟩ := hx.2.2.2.2.2.1.1.1 ci _ hc
  obtain ⟨cf, kf, fi, f, hi, hsl⟩ := hS k hkN
  refine W.getf hx.1 hx.2.1 hx.2.2.2.1 (hts _ (memtb hlk rfl)) hi (u_facts hfc hkC (u_lays hts hin hkN) hi).1 q1 (by rw [q3]; exact fun h => by cases h) (v := v) ?_ rfl rfl h1 (kk H locs ls hH hL hl)
  rw [hsl, q4 k hkN, hv]
theorem HR.setf {a ci k N : Nat} {fs fs' : List (Option Value)} {μ' : Mem} {H H' : Heap} {cell : Cell} {v : Value} {C : String} {T : u_T} (h : HR G Λ sz μ H) (hk : Λ a = some (.inl (ci, fs))) (hc : classes[ci]? = some (C, T, N)) (hsz : H'.size = H.size) (ho : ∀ q, q ≠ a → H'[q]? = H[q]?)
    (e1 : H'[a]? = some (cell.setSlot ((gD G).2 ci k) v)) (q2 : cell.cls = (gD G).1 ci) (q3 : cell.vm = .none) (q4 : ∀ k, k < N → cell.slots[(gD G).2 ci k]? = some (fv μ a fs k)) (hap : ∀ x y, x < N → y < N → x ≠ y → (gD G).2 ci x ≠ (gD G).2 ci y) (hkN : k < N)
    (hv : ∀ j, j < N → updV (fv μ a fs) k v j = fv μ' a fs' j) (h1 : ∀ b, b ≠ a → μ'.1 b = μ.1 b) (h2 : ∀ b, b ≠ a → μ'.2 b = μ.2 b) : HR G (fun q => if q = a then some (.inl (ci, fs')) else Λ q) sz μ' H' := by
  refine ⟨hsz.trans h.1, fun b kb hb => ?_⟩
  by_cases e : b = a
  · subst e
    dsimp only at hb
    rw [if_pos rfl] at hb
    cases hb
    exact ⟨⟨_, hc, t_OB.to (V := updV (fv μ b fs) k v) ⟨_, e1, q2, q3, t_set q4 hap hkN v⟩ hv⟩, fun _ => (h.2 _ _ hk).2 trivial⟩
  · dsimp only at hb
    rw [if_neg e] at hb
    exact ⟨(h.2 _ _ hb).1.kept (ho b e) (h1 b e) (h2 b e), (h.2 _ _ hb).2⟩
theorem lay_same {a : Nat} {kd : Kd} (hk : Λ a = some kd) : (fun q => if q = a then some kd else Λ q) = Λ := by
  funext q
  by_cases e : q = a
  · rw [if_pos e, e, hk]
  · rw [if_neg e]
theorem fv_upd {a k : Nat} {fs : List (Option Value)} {z : Int} (hfs : fs[k]? = some none) (j : Nat) : updV (fv μ a fs) k (iv z) j = fv (mI μ a k z) a fs j := by
  unfold updV
  by_cases e : j = k
  · subst e
    rw [if_pos rfl]
    simp [fv, hfs, mI, u2]
  · rw [if_neg e]
    unfold fv
    have : (mI μ a k z).1 a (j : Int) = μ.1 a (j : Int) := by
      show u2 μ.1 a (k : Int) z a (j : Int) = _
      rw [u2_at, if_neg (by omega)]
    rw [this]
theorem v_put (hx : XOK l G x cc own nL d rc) {idx ci a k : Nat} {fs : List (Option Value)} {ty : FieldType} {z : Int} (hd : dk cc pc (.putfield idx) 3 pc') (hF : FP own idx ci k false ty) (hk : Λ a = some (.inl (ci, fs))) (hfs : fs[k]? = some none) (hn : narrow ty (iv z) = iv z) (hfit : fits ty (iv z) = true)
    (kk : V G x cs Λ sz (mI μ a k z) pc' lv st) : V G x cs Λ sz μ pc lv (iv z :: .ref a :: st) := by
  intro H locs ls hH hL hl
  obtain ⟨h1, rfl⟩ := hd
  obtain ⟨C, T, N, tys, hc, hin0, hkN, hlk, hty, hnm, hfin, htk, -⟩ := hF
  have hin := u_tb hin0
  have hts := hx.2.2.2.2.1
  have hK := hx.2.2.2.2.2.1.1
  have hap := va_apart (own := own) hts hin tys hty hnm hK hc
  obtain ⟨cell, q1, q2, q3, q4⟩ := hH.obj hk hc
  obtain ⟨hS, hfc, kC, hkC, hkind⟩ := hK.1 ci _ hc
  obtain ⟨cf, kf, fi, f, hi, hsl⟩ := hS k hkN
  have hlay := hts _ (hin _ (u_in_lay hkN))
  unfold u_lay at hlay
  rw [if_neg (by rw [hfin]; decide)] at hlay
  have hst := (u_facts hfc hkC (u_lays hts hin hkN) hi).1
  have h6 := u_store hfc hkC hkind hlay hi ((hty k hkN).trans (congrArg some htk)) hn hfit
  refine W.putK hx.1 hx.2.1 (f := f) ⟨hx.2.2.2.1, hts _ (memtb hlk rfl), ⟨_, _, _, hi⟩, hst⟩ (by rw [q2]; exact h6) q1 q3 (by rw [hsl]; exact k2_hasslot (q4 k hkN)) rfl rfl h1 fun H' e1 e2 e3 => ?_
  rw [hsl] at e1
  have h7 := hH.setf (μ' := mI μ a k z) (fs' := fs) hk hc e2 e3 e1 q2 q3 q4 hap hkN (fun j _ => fv_upd hfs j) (fun b hb => u2_ne hb) (fun b _ => rfl)
  rw [lay_same hk] at h7
  exact kk H' _ ls h7 (fun q hq => by
    rcases List.mem_append.mp hq with h | h
    · exact hL q h
    · rw [List.mem_singleton.mp h]; exact (hH.2 _ _ hk).2 trivial) hl
/-- a reference is put into a final field, in a constructor: the layout changes -/
theorem v_putR (hx : XOK l G x cc own nL d rc) {idx ci a k : Nat} {fs fs' : List (Option Value)} {ty : FieldType} {v : Value} (hin2 : (xM x).name = "<init>") (hd : dk cc pc (.putfield idx) 3 pc') (hF : FP own idx ci k true ty) (hk : Λ a = some (.inl (ci, fs))) (hkl : k < fs.length) (hfs : fs.set k (some v) = fs') (hn : narrow ty v = v) (hfit : fits ty v = true)
    (kk : V G x cs (fun q => if q = a then some (.inl (ci, fs')) else Λ q) sz μ pc' lv st) : V G x cs Λ sz μ pc lv (v :: .ref a :: st) := by
  intro H locs ls hH hL hl
  obtain ⟨h1, rfl⟩ := hd
  obtain ⟨C, T, N, tys, hc, hin0, hkN, hlk, hty, hnm, hfin, htk, hdecl⟩ := hF
  have hin := u_tb hin0
  have hts := hx.2.2.2.2.1
  have hK := hx.2.2.2.2.2.1.1
  have hap := va_apart (own := own) hts hin tys hty hnm hK hc
  obtain ⟨cell, q1, q2, q3, q4⟩ := hH.obj hk hc
  obtain ⟨hS, hfc, kC, hkC, hkind⟩ := hK.1 ci _ hc
  obtain ⟨cf, kf, fi, f, hi, hsl⟩ := hS k hkN
  have hlay := hts _ (hin _ (u_in_lay hkN))
  unfold u_lay at hlay
  rw [if_pos hfin] at hlay
  have hst := (u_facts hfc hkC (u_lays hts hin hkN) hi).1
  have hcf : (xm x).cls = cf := by
    obtain ⟨_, _, c', _, _, _, -, -, hf', -, -, -, hown2, -⟩ := Cond.laysFinal_spec hlay
    have e1 : c' = cf := by have := hi.symm.trans hf'; simp at this; exact this.1.symm
    rw [hdecl rfl] at hown2
    rw [← e1]; exact Option.some.inj (hx.2.2.2.1.symm.trans hown2)
  have h6 := u_fits hfc hkC hkind (Or.inr hlay) hi ((hty k hkN).trans (congrArg some htk)) hn hfit
  refine W.putFinK hx.1 hx.2.1 hx.2.2.2.1 (hts _ (memtb hlk rfl)) hi hst hcf hin2 (by rw [q2]; exact h6) q1 q3 (by rw [hsl]; exact k2_hasslot (q4 k hkN)) rfl rfl h1 fun H' e1 e2 e3 => ?_
  rw [hsl] at e1
  have h7 := hH.setf (μ' := μ) (fs' := fs') hk hc e2 e3 e1 q2 q3 q4 hap hkN (fun j _ => by
    subst hfs
    unfold updV
    by_cases e : j = k
    · subst e
      rw [if_pos rfl]
      simp [fv, hkl]
    · rw [if_neg e]
      unfold fv
      rw [List.getElem?_set_ne (fun q => e q.symm)]) (fun b _ => rfl) (fun b _ => rfl)
  exact kk H' _ ls h7 (fun q hq => by
    rcases List.mem_append.mp hq with h | h
    · exact hL q h
    · rw [List.mem_singleton.mp h]; exact (hH.2 _ _ hk).2 trivial) hl
theorem v_alen (hx : XOK l G x cc own nL d rc) {a t n : Nat} {rs : List (Option Nat)} (hd : dk cc pc .arraylength 1 pc') (hk : Λ a = some (.inr (t, n, rs))) (ht : t < 6) (kk : V G x cs Λ sz μ pc' lv (iv n :: st)) : V G x cs Λ sz μ pc lv (.ref a :: st) := by
  intro H locs ls hH hL hl
  obtain ⟨h1, rfl⟩ := hd
  refine W.alen (n := Int32.ofInt n) hx.1 hx.2.1 (hH.arr hk (by omega)) ((hx.2.2.2.2.2.1.2.1 t ht).1 _ _) ?_ rfl rfl h1 (kk H locs ls hH hL hl)
  rw [arrV_size]
  exact Int32.ofInt_eq_ofNat.symm
theorem v_clen (hx : XOK l G x cc own nL d rc) {a n : Nat} {rs : List (Option Nat)} (hd : dk cc pc .arraylength 1 pc') (hk : Λ a = some (.inr (9, n, rs))) (hn : n < 2) (kk : V G x cs Λ sz μ pc' lv (iv (gN G n) :: st)) : V G x cs Λ sz μ pc lv (.ref a :: st) := by
  intro H locs ls hH hL hl
  obtain ⟨h1, rfl⟩ := hd
  obtain ⟨g1, g2, g3, g4⟩ := hx.2.2.2.2.2.1.2.2.1 n hn
  refine W.alen (n := Int32.ofInt (gN G n)) hx.1 hx.2.1 (hH.cst hk) g1 ?_ rfl rfl h1 (kk H locs ls hH hL hl)
  rw [g3]
  exact Int32.ofInt_eq_ofNat.symm
theorem v_iald (hx : XOK l G x cc own nL d rc) {a n : Nat} {rs : List (Option Nat)} {i : Int} (hd : dk cc pc .iaload 1 pc') (hk : Λ a = some (.inr (0, n, rs))) (h0 : 0 ≤ i ∧ i < n) (hn : n ≤ 2147483647) {z : Int} (hv : μ.1 a i = z) (kk : V G x cs Λ sz μ pc' lv (iv z :: st)) : V G x cs Λ sz μ pc lv (iv i :: .ref a :: st) := by
  intro H locs ls hH hL hl
  obtain ⟨h1, rfl⟩ := hd
  have hi : inR i := ⟨by omega, by omega⟩
  refine W.iald (v := iv z) hx.1 hx.2.1 (hH.arr hk (by omega)) ((hx.2.2.2.2.2.1.2.1 0 (by omega)).1 _ _) (fun q => by cases q) (by rw [arrV_size]; exact ofI_in h0.1 h0.2 hn) ?_ rfl rfl h1 (kk H locs ls hH hL hl)
  rw [arrV_read _ _ (by rw [ofI_nat hi]; omega), ofI_nat hi]
  simp only [av]
  rw [Int.toNat_of_nonneg h0.1, hv]
  simp
theorem v_cald (hx : XOK l G x cc own nL d rc) {a n : Nat} {rs : List (Option Nat)} {i : Int} (hd : dk cc pc .iaload 1 pc') (hk : Λ a = some (.inr (9, n, rs))) (hn : n < 2) (h0 : 0 ≤ i ∧ i < gN G n) (hN : gN G n ≤ 2147483647) {z : Int} (hv : gT G n i = z) (kk : V G x cs Λ sz μ pc' lv (iv z :: st)) : V G x cs Λ sz μ pc lv (iv i :: .ref a :: st) := by
  intro H locs ls hH hL hl
  obtain ⟨h1, rfl⟩ := hd
  obtain ⟨g1, g2, g3, g4⟩ := hx.2.2.2.2.2.1.2.2.1 n hn
  have hi : inR i := ⟨by omega, by omega⟩
  refine W.iald (v := iv z) hx.1 hx.2.1 (hH.cst hk) g1 g2 (by rw [g3]; exact ofI_in h0.1 h0.2 hN) ?_ rfl rfl h1 (kk H locs ls hH hL hl)
  rw [ofI_nat hi, g4 _ (by omega), Int.toNat_of_nonneg h0.1, hv]
theorem av_upd {a t : Nat} {rs : List (Option Nat)} {i z : Int} (h0 : 0 ≤ i) (ht : t ≤ 1) : updV (av μ a t rs) i.toNat (iv z) = av (mI μ a i z) a t rs := by
  funext j
  have h2 : ¬ t = 2 := by omega
  simp only [updV, av, if_neg h2, if_pos ht]
  show _ = iv (u2 μ.1 a i z a (j : Int))
  rw [u2_at]
  by_cases e : j = i.toNat
  · rw [if_pos e, if_pos (by omega)]
  · rw [if_neg e, if_neg (by omega)]
theorem av_updL {a : Nat} {rs : List (Option Nat)} {i : Int} {w : Int64} (h0 : 0 ≤ i) : updV (av μ a 2 rs) i.toNat (.long w) = av (mL μ a i w) a 2 rs := by
  funext j
  simp only [updV, av, if_true]
  show _ = Value.long (u2 μ.2 a i w a (j : Int))
  rw [u2_at]
  by_cases e : j = i.toNat
  · rw [if_pos e, if_pos (by omega)]
  · rw [if_neg e, if_neg (by omega)]
theorem HR.seta {a t n : Nat} {rs rs' : List (Option Nat)} {μ' : Mem} {H H' : Heap} {j : Nat} {v : Value} (h : HR G Λ sz μ H) (hk : Λ a = some (.inr (t, n, rs))) (h9 : t ≠ 9) (hsz : H'.size = H.size) (ho : ∀ q, q ≠ a → H'[q]? = H[q]?) (e1 : H'[a]? = some ((arrV (gA G t) n (av μ a t rs)).setSlot j v))
    (hv : updV (av μ a t rs) j v = av μ' a t rs') (h1 : ∀ b, b ≠ a → μ'.1 b = μ.1 b) (h2 : ∀ b, b ≠ a → μ'.2 b = μ.2 b) : HR G (fun q => if q = a then some (.inr (t, n, rs')) else Λ q) sz μ' H' := by
  refine ⟨hsz.trans h.1, fun b kb hb => ?_⟩
  by_cases e : b = a
  · subst e
    dsimp only at hb
    rw [if_pos rfl] at hb
    cases hb
    refine ⟨?_, fun _ => (h.2 _ _ hk).2 h9⟩
    simp only [cOK]
    rw [if_neg h9, e1, arrV_store, hv]
  · dsimp only at hb
    rw [if_neg e] at hb
    exact ⟨(h.2 _ _ hb).1.kept (ho b e) (h1 b e) (h2 b e), (h.2 _ _ hb).2⟩
theorem v_iast (hx : XOK l G x cc own nL d rc) {a n : Nat} {rs : List (Option Nat)} {i z : Int} (hd : dk cc pc .iastore 1 pc') (hk : Λ a = some (.inr (0, n, rs))) (h0 : 0 ≤ i ∧ i < n) (hn : n ≤ 2147483647) (kk : V G x cs Λ sz (mI μ a i z) pc' lv st) : V G x cs Λ sz μ pc lv (iv z :: iv i :: .ref a :: st) := by
  intro H locs ls hH hL hl
  obtain ⟨h1, rfl⟩ := hd
  have hi : inR i := ⟨by omega, by omega⟩
  refine W.iast hx.1 hx.2.1 (hH.arr hk (by omega)) ((hx.2.2.2.2.2.1.2.1 0 (by omega)).1 _ _) (fun q => by cases q) (by rw [arrV_size]; exact ofI_in h0.1 h0.2 hn) rfl rfl h1 fun H' e1 e2 e3 => ?_
  rw [ofI_nat hi] at e1
  have h7 := hH.seta (μ' := mI μ a i z) (rs' := rs) hk (by omega) e2 e3 e1 (av_upd h0.1 (by omega)) (fun b hb => u2_ne hb) (fun b _ => rfl)
  rw [lay_same hk] at h7
  exact kk H' _ ls h7 (fun q hq => by
    rcases List.mem_append.mp hq with h | h
    · exact hL q h
    · rw [List.mem_singleton.mp h]; exact (hH.2 _ _ hk).2 (fun q => by cases q)) hl
theorem v_zald (hx : XOK l G x cc own nL d rc) {a n : Nat} {rs : List (Option Nat)} {i : Int} (hd : dk cc pc .baload 1 pc') (hk : Λ a = some (.inr (1, n, rs))) (h0 : 0 ≤ i ∧ i < n) (hn : n ≤ 2147483647) {z : Int} (hv : μ.1 a i = z) (kk : V G x cs Λ sz μ pc' lv (iv z :: st)) : V G x cs Λ sz μ pc lv (iv i :: .ref a :: st) := by
  intro H locs ls hH hL hl
  obtain ⟨h1, rfl⟩ := hd
  have hi : inR i := ⟨by omega, by omega⟩
  refine W.zald (v := iv z) hx.1 hx.2.1 (hH.arr hk (by omega)) ((hx.2.2.2.2.2.1.2.1 1 (by omega)).1 _ _) (fun q => by cases q) (by rw [arrV_size]; exact ofI_in h0.1 h0.2 hn) ?_ rfl rfl h1 (kk H locs ls hH hL hl)
  rw [arrV_read _ _ (by rw [ofI_nat hi]; omega), ofI_nat hi]
  simp only [av]
  rw [Int.toNat_of_nonneg h0.1, hv]
  simp
theorem v_zast (hx : XOK l G x cc own nL d rc) {a n : Nat} {rs : List (Option Nat)} {i z : Int} (hd : dk cc pc .bastore 1 pc') (hk : Λ a = some (.inr (1, n, rs))) (h0 : 0 ≤ i ∧ i < n) (hn : n ≤ 2147483647) (hz : z = 0 ∨ z = 1) (kk : V G x cs Λ sz (mI μ a i z) pc' lv st) : V G x cs Λ sz μ pc lv (iv z :: iv i :: .ref a :: st) := by
  intro H locs ls hH hL hl
  obtain ⟨h1, rfl⟩ := hd
  have hi : inR i := ⟨by omega, by omega⟩
  refine W.zast hx.1 hx.2.1 (hH.arr hk (by omega)) ((hx.2.2.2.2.2.1.2.1 1 (by omega)).1 _ _) (fun q => by cases q) (by rw [arrV_size]; exact ofI_in h0.1 h0.2 hn) rfl rfl h1 fun H' e1 e2 e3 => ?_
  have hnar : narrow .boolean (.int (Int32.ofInt z)) = iv z := by rcases hz with rfl | rfl <;> decide +kernel
  rw [ofI_nat hi, hnar] at e1
  have h7 := hH.seta (μ' := mI μ a i z) (rs' := rs) hk (by omega) e2 e3 e1 (av_upd h0.1 (by omega)) (fun b hb => u2_ne hb) (fun b _ => rfl)
  rw [lay_same hk] at h7
  exact kk H' _ ls h7 (fun q hq => by
    rcases List.mem_append.mp hq with h | h
    · exact hL q h
    · rw [List.mem_singleton.mp h]; exact (hH.2 _ _ hk).2 (fun q => by cases q)) hl
theorem v_lald (hx : XOK l G x cc own nL d rc) {a n : Nat} {rs : List (Option Nat)} {i : Int} (hd : dk cc pc .laload 1 pc') (hk : Λ a = some (.inr (2, n, rs))) (h0 : 0 ≤ i ∧ i < n) (hn : n ≤ 2147483647) {w : Int64} (hv : μ.2 a i = w) (kk : V G x cs Λ sz μ pc' lv (.long w :: st)) : V G x cs Λ sz μ pc lv (iv i :: .ref a :: st) := by
  intro H locs ls hH hL hl
  obtain ⟨h1, rfl⟩ := hd
  have hi : inR i := ⟨by omega, by omega⟩
  refine W.lald (v := .long w) hx.1 hx.2.1 (hH.arr hk (by omega)) ((hx.2.2.2.2.2.1.2.1 2 (by omega)).1 _ _) (fun q => by cases q) (by rw [arrV_size]; exact ofI_in h0.1 h0.2 hn) ?_ rfl rfl h1 (kk H locs ls hH hL hl)
  rw [arrV_read _ _ (by rw [ofI_nat hi]; omega), ofI_nat hi]
  simp only [av]
  rw [Int.toNat_of_nonneg h0.1, hv]
  simp
theorem v_last (hx : XOK l G x cc own nL d rc) {a n : Nat} {rs : List (Option Nat)} {i : Int} {w : Int64} (hd : dk cc pc .lastore 1 pc') (hk : Λ a = some (.inr (2, n, rs))) (h0 : 0 ≤ i ∧ i < n) (hn : n ≤ 2147483647) (kk : V G x cs Λ sz (mL μ a i w) pc' lv st) : V G x cs Λ sz μ pc lv (.long w :: iv i :: .ref a :: st) := by
  intro H locs ls hH hL hl
  obtain ⟨h1, rfl⟩ := hd
  have hi : inR i := ⟨by omega, by omega⟩
  refine W.last hx.1 hx.2.1 (hH.arr hk (by omega)) ((hx.2.2.2.2.2.1.2.1 2 (by omega)).1 _ _) (fun q => by cases q) (by rw [arrV_size]; exact ofI_in h0.1 h0.2 hn) rfl rfl h1 fun H' e1 e2 e3 => ?_
  rw [ofI_nat hi] at e1
  have h7 := hH.seta (μ' := mL μ a i w) (rs' := rs) hk (by omega) e2 e3 e1 (av_updL h0.1) (fun b _ => rfl) (fun b hb => u2_ne hb)
  rw [lay_same hk] at h7
  exact kk H' _ ls h7 (fun q hq => by
    rcases List.mem_append.mp hq with h | h
    · exact hL q h
    · rw [List.mem_singleton.mp h]; exact (hH.2 _ _ hk).2 (fun q => by cases q)) hl
theorem v_aald (hx : XOK l G x cc own nL d rc) {a t n b : Nat} {rs : List (Option Nat)} {i : Int} (hd : dk cc pc .aaload 1 pc') (hk : Λ a = some (.inr (t, n, rs))) (ht : 3 ≤ t ∧ t < 6) (h0 : 0 ≤ i ∧ i < n) (hn : n ≤ 2147483647) (hv : rs.getD i.toNat none = some b) (kk : V G x cs Λ sz μ pc' lv (.ref b :: st)) : V G x cs Λ sz μ pc lv (iv i :: .ref a :: st) := by
  intro H locs ls hH hL hl
  obtain ⟨h1, rfl⟩ := hd
  have hi : inR i := ⟨by omega, by omega⟩
  have hty : (aty t).isReference = true := by
    rcases (by omega : t = 3 ∨ t = 4 ∨ t = 5) with rfl | rfl | rfl <;> rfl
  refine W.aald (v := .ref b) (ty := aty t) hx.1 hx.2.1 (hH.arr hk (by omega)) ((hx.2.2.2.2.2.1.2.1 t ht.2).1 _ _) hty (fun q => by cases q) (by rw [arrV_size]; exact ofI_in h0.1 h0.2 hn) ?_ rfl rfl h1 (kk H locs ls hH hL hl)
  rw [arrV_read _ _ (by rw [ofI_nat hi]; omega), ofI_nat hi]
  simp only [av]
  rw [if_neg (by omega), if_neg (by omega), hv]
  rfl
end HRows
