/-! ===== the reference: the row of residues ===== -/
noncomputable def rtP (a s : PS) : PS := (a.mul (s.der.inv s)).md s
noncomputable def pkP (a s : PS) : Nat → PS
  | 0 => PS.one
  | k + 1 => ((pkP a s k).mul (rtP a s)).md s
noncomputable def nwT (S : Nat → F) : Nat → Nat → F
  | 0 => fun _ => 1
  | k + 1 => fun i => if i ≤ k then nwT S k i else - (fsum (fun j => nwT S k (k + 1 - (j + 1)) * S (j + 1)) (k + 1)) * finv (fi ((k : Int) + 1))
noncomputable def nw (S : Nat → F) (k : Nat) : F := nwT S k k
theorem nwT_st (S : Nat → F) : ∀ k i : Nat, i ≤ k → nwT S k i = nw S i := by
  intro k
  induction k with
  | zero => intro i hi; rw [show i = 0 by omega]; rfl
  | succ k ih =>
    intro i hi
    by_cases c : i ≤ k
    · show (if i ≤ k then nwT S k i else _) = _
      rw [if_pos c]; exact ih i c
    · rw [show i = k + 1 by omega]; rfl
theorem nw_rec (S : Nat → F) (k : Nat) : nw S (k + 1) = - (fsum (fun j => nw S (k + 1 - (j + 1)) * S (j + 1)) (k + 1)) * finv (fi ((k : Int) + 1)) := by
  show (if k + 1 ≤ k then _ else _) = _
  rw [if_neg (by omega), fsum_congr (g := fun j => nw S (k + 1 - (j + 1)) * S (j + 1)) (fun j hj => by
    show nwT S k (k + 1 - (j + 1)) * _ = _
    rw [nwT_st S k _ (by omega)])]
noncomputable def rsS (a s : PS) (k : Nat) : F := trc s (s.size - 1) (pkP a s k)
noncomputable def rsK (S : Nat → F) (n k : Nat) : PS := fun m => if m ≤ n ∧ n - m < k then nw S (n - m) else 0
noncomputable def rsP (a s : PS) : PS := rsK (rsS a s) (s.size - 1) (s.size - 1 + 1)
theorem rsK_lt (S : Nat → F) (n k : Nat) : (rsK S n k).lt (n + 1) := fun m hm => by unfold rsK; rw [if_neg (by omega)]
theorem rsK_one (S : Nat → F) (n : Nat) : rsK S n 1 = PS.mo n := PS.ext fun m => by
  show (if m ≤ n ∧ n - m < 1 then nw S (n - m) else 0) = if m = n then 1 else 0
  by_cases c : m = n
  · rw [if_pos (by omega), if_pos c, c, Nat.sub_self]; rfl
  · rw [if_neg (by omega), if_neg c]
theorem rsK_set (S : Nat → F) {n k : Nat} (hk : k ≤ n) : (rsK S n k).set (n - k) (nw S k) = rsK S n (k + 1) := PS.ext fun m => by
  show (if m = n - k then nw S k else (if m ≤ n ∧ n - m < k then nw S (n - m) else 0)) = (if m ≤ n ∧ n - m < k + 1 then nw S (n - m) else 0)
  by_cases c : m = n - k
  · rw [if_pos c, if_pos (by omega), show n - m = k by omega]
  · rw [if_neg c]
    by_cases d : m ≤ n ∧ n - m < k
    · rw [if_pos d, if_pos (by omega)]
    · rw [if_neg d, if_neg (by omega)]
def sg (k : Nat) : F := if k % 2 = 0 then 1 else -1
theorem sg_mul (a b : Nat) : sg a * sg b = sg (a + b) := by
  unfold sg
  by_cases c : a % 2 = 0
  · by_cases d : b % 2 = 0
    · rw [if_pos c, if_pos d, if_pos (by omega)]; grind
    · rw [if_pos c, if_neg d, if_neg (by omega)]; grind
  · by_cases d : b % 2 = 0
    · rw [if_neg c, if_pos d, if_neg (by omega)]; grind
    · rw [if_neg c, if_neg d, if_pos (by omega)]; grind
/-- the inner sum of the parts -/
noncomputable def pSm (S : Nat → F) (k i : Nat) : F := fsum (fun l => (- sg (l + 1) * (sg (k - (l + 1)) * nw S (k - (l + 1)))) * S (l + 1)) i
theorem pSm_end (S : Nat → F) {k : Nat} (hk : 1 ≤ k) : pSm S k k * finv (fi (k : Int)) = sg k * nw S k := by
  unfold pSm
  rw [fsum_congr (g := fun l => (- sg k) * (nw S (k - (l + 1)) * S (l + 1))) (fun l hl => by
    show (- sg (l + 1) * (sg (k - (l + 1)) * nw S (k - (l + 1)))) * S (l + 1) = _
    have := sg_mul (l + 1) (k - (l + 1))
    rw [show l + 1 + (k - (l + 1)) = k by omega] at this
    rw [← this]; grind), fsum_mul]
  have r := nw_rec S (k - 1)
  rw [show k - 1 + 1 = k by omega, show ((k - 1 : Nat) : Int) + 1 = (k : Int) by omega] at r
  rw [r]; grind
theorem nw_sg (S : Nat → F) (k : Nat) : nw S k = sg k * (sg k * nw S k) := by
  have : sg k * sg k = 1 := by rw [sg_mul]; unfold sg; rw [if_pos (by omega)]
  have e : sg k * (sg k * nw S k) = sg k * sg k * nw S k := by grind
  rw [e, this]; grind
def RSm (μ : Mem) (ν : Nat) (S : Nat → F) (k : Int) : Prop := ∀ j : Nat, 1 ≤ j → (j : Int) < k → μ.1 (ν + 10) (j : Int) = ((S j).val : Int)
def RPt (μ : Mem) (ν : Nat) (S : Nat → F) (k : Int) : Prop := ∀ j : Nat, (j : Int) < k → μ.1 (ν + 11) (j : Int) = ((sg j * nw S j).val : Int)
theorem PS.ex_fin : ∀ (n : Nat) (A B s t : PS), A.fin → B.fin → s.fin → t.fin → (PS.ex n A B s t).2.fin := by
  intro n
  induction n with
  | zero => intro A B s t _ _ _ h; exact h
  | succ n ih =>
    intro A B s t hA hB hs ht
    by_cases c : B.size ≤ 1
    · rw [PS.ex_end c]; exact ht
    · rw [PS.ex_step c]
      have hB0 : B ≠ PS.zero := PS.ne_of_size (by omega)
      obtain ⟨m, -, zB⟩ := PS.fne_isz hB hB0
      obtain ⟨N, hN⟩ := hA
      have d := PS.div_spec zB hN
      exact ih _ _ _ _ hB ⟨_, d.2.1⟩ ht (PS.fin_sub hs (PS.fin_mul ⟨_, d.2.2⟩ ht))
theorem PS.inv_fin {a m : PS} (ha : a.fin) (hm : m.fin) (hm0 : m ≠ PS.zero) : (a.inv m).fin := by
  unfold PS.inv
  obtain ⟨n, -, zm⟩ := PS.fne_isz hm hm0
  exact PS.fin_sm _ (PS.ex_fin 200 _ _ _ _ hm ⟨_, (md_dvd zm ha).2⟩ PS.fin_zero PS.fin_one)
theorem rt_lt {a s : PS} {n : Nat} (zs : s.isz (n + 1)) (ha : a.fin) (hs0 : s ≠ PS.zero) : (rtP a s).lt n := (md_dvd zs (PS.fin_mul ha (PS.inv_fin (PS.fin_der ⟨_, zs.2⟩) ⟨_, zs.2⟩ hs0))).2
theorem pkP_lt {a s : PS} {n : Nat} (zs : s.isz (n + 1)) (ha : a.fin) (hs0 : s ≠ PS.zero) (hn : 1 ≤ n) (k : Nat) : (pkP a s k).lt n := by
  induction k with
  | zero => exact PS.lt_mono (PS.C_lt 1) hn
  | succ k ih => exact (md_dvd zs (PS.fin_mul ⟨_, ih⟩ ⟨_, rt_lt zs ha hs0⟩)).2
