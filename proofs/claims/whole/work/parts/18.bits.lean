/-! sets as bits -/
def bt (x : Int32) (i : Nat) : Bool := x.toBitVec.getLsbD i
theorem b_ext {x y : Int32} (h : ∀ i, i < 32 → bt x i = bt y i) : x = y := Int32.toBitVec_inj.mp (BitVec.eq_of_getLsbD_eq (fun i hi => h i hi))
theorem b_or (x y : Int32) (i : Nat) : bt (x ||| y) i = (bt x i || bt y i) := by unfold bt; rw [Int32.toBitVec_or, BitVec.getLsbD_or]
theorem b_and (x y : Int32) (i : Nat) : bt (x &&& y) i = (bt x i && bt y i) := by unfold bt; rw [Int32.toBitVec_and, BitVec.getLsbD_and]
theorem b_xor (x y : Int32) (i : Nat) : bt (x ^^^ y) i = (bt x i ^^ bt y i) := by unfold bt; rw [Int32.toBitVec_xor, BitVec.getLsbD_xor]
theorem b_m1 : ∀ i, i < 32 → bt (-1) i = true := by decide +kernel
theorem b_0 (i : Nat) : bt 0 i = false := BitVec.getLsbD_zero
theorem s_l : ∀ n, n < 32 → ((nI n &&& 31).toBitVec.smod 32).toNat = n := by decide +kernel
theorem b_shl (n : Nat) (hn : n < 32) (x : Int32) {i : Nat} (hi : i < 32) : bt (x <<< (nI n &&& 31)) i = (decide (n ≤ i) && bt x (i - n)) := by
  unfold bt
  rw [Int32.toBitVec_shiftLeft]
  show (x.toBitVec <<< ((nI n &&& 31).toBitVec.smod 32).toNat).getLsbD i = _
  rw [s_l n hn, BitVec.getLsbD_shiftLeft]
  rcases Nat.lt_or_ge i n with h | h
  · simp [h, Nat.not_le.mpr h]
  · simp [hi, h, Nat.not_lt.mpr h]
theorem b_sshr (n : Nat) (hn : n < 32) (x : Int32) {i : Nat} (hi : i < 32) : bt (x >>> (nI n &&& 31)) i = if n + i < 32 then bt x (n + i) else bt x 31 := by
  unfold bt
  rw [Int32.toBitVec_shiftRight]
  show (x.toBitVec.sshiftRight ((nI n &&& 31).toBitVec.smod 32).toNat).getLsbD i = _
  rw [s_l n hn, BitVec.getLsbD_sshiftRight, BitVec.msb_eq_getLsbD_last]
  simp [hi]
theorem b_1 : ∀ i, i < 32 → bt 1 i = decide (i = 0) := by decide +kernel
def bI (n : Nat) : Int32 := 1 <<< (nI n &&& 31)
theorem b_bI {n i : Nat} (hn : n < 32) (hi : i < 32) : bt (bI n) i = decide (i = n) := by
  unfold bI
  rw [b_shl n hn 1 hi]
  by_cases c : n ≤ i
  · rw [b_1 _ (by omega), decide_eq_true c, Bool.true_and]
    by_cases e : i = n
    · rw [decide_eq_true e, decide_eq_true (by omega)]
    · rw [decide_eq_false e, decide_eq_false (by omega)]
  · rw [decide_eq_false c, Bool.false_and, decide_eq_false (by omega)]
theorem or_0 (x : Int32) : x ||| 0 = x := b_ext (fun i _ => by rw [b_or, b_0, Bool.or_false])
theorem sb1 (x : Int32) {i : Nat} (hi : i < 32) : (x >>> (nI i &&& 31)) &&& 1 = if bt x i then 1 else 0 := by
  apply b_ext
  intro j hj
  rw [b_and, b_sshr i hi x hj, b_1 j hj]
  by_cases e : j = 0
  · subst e
    rw [Nat.add_zero, if_pos hi]
    cases bt x i <;> decide
  · rw [decide_eq_false e, Bool.and_false]
    cases bt x i
    · exact (b_0 j).symm
    · show false = bt 1 j
      rw [b_1 j hj, decide_eq_false e]
/-- the set of those below n with P -/
def ms (P : Nat → Bool) : Nat → Int32
  | 0 => 0
  | n + 1 => if P n then ms P n ||| bI n else ms P n
theorem b_ms {P : Nat → Bool} : ∀ {n : Nat}, n ≤ 32 → ∀ {i : Nat}, i < 32 → bt (ms P n) i = (decide (i < n) && P i)
  | 0, _, i, _ => by rw [ms, b_0, decide_eq_false (Nat.not_lt_zero i), Bool.false_and]
  | n + 1, hn, i, hi => by
    rw [ms]
    by_cases c : P n = true
    · rw [if_pos c, b_or, b_ms (by omega) hi, b_bI (by omega) hi]
      by_cases e : i = n
      · subst e; simp [c]
      · rw [decide_eq_false e, Bool.or_false]
        by_cases l : i < n
        · rw [decide_eq_true l, decide_eq_true (by omega)]
        · rw [decide_eq_false l, decide_eq_false (by omega)]
    · rw [if_neg c, b_ms (by omega) hi]
      by_cases e : i = n
      · subst e; rw [Bool.eq_false_iff.mpr c, Bool.and_false, Bool.and_false]
      · by_cases l : i < n
        · rw [decide_eq_true l, decide_eq_true (by omega)]
        · rw [decide_eq_false l, decide_eq_false (by omega)]
theorem ms_cong {P Q : Nat → Bool} : ∀ {n : Nat}, (∀ i, i < n → P i = Q i) → ms P n = ms Q n
  | 0, _ => rfl
  | n + 1, h => by rw [ms, ms, h n (by omega), ms_cong (fun i hi => h i (by omega))]
theorem ms_diff {A B : Nat → Bool} {n : Nat} (hn : n ≤ 32) : ms A n &&& (ms B n ^^^ (-1)) = ms (fun i => A i && !B i) n := by
  apply b_ext
  intro i hi
  rw [b_and, b_xor, b_m1 i hi, b_ms hn hi, b_ms hn hi, b_ms hn hi]
  cases decide (i < n) <;> cases A i <;> cases B i <;> rfl
theorem ms_and {A B : Nat → Bool} {n : Nat} (hn : n ≤ 32) : ms A n &&& ms B n = ms (fun i => A i && B i) n := by
  apply b_ext
  intro i hi
  rw [b_and, b_ms hn hi, b_ms hn hi, b_ms hn hi]
  cases decide (i < n) <;> cases A i <;> cases B i <;> rfl
theorem ms_del {A : Nat → Bool} {n k : Nat} (hn : n ≤ 32) (hk : k < n) : ms A n &&& (bI k ^^^ (-1)) = ms (fun i => A i && !(i == k)) n := by
  apply b_ext
  intro i hi
  rw [b_and, b_xor, b_m1 i hi, b_ms hn hi, b_bI (by omega) hi, b_ms hn hi]
  by_cases e : i = k
  · subst e; simp
  · have h2 : (i == k) = false := beq_false_of_ne e
    rw [h2, decide_eq_false e]; simp
theorem b_nI (k : Nat) {i : Nat} (hi : i < 32) : bt (nI k) i = k.testBit i := by
  show (BitVec.ofNat 32 k).getLsbD i = _
  rw [BitVec.getLsbD_ofNat, decide_eq_true hi, Bool.true_and]
theorem small {x : Int32} {n : Nat} (hn : n ≤ 31) (h : ∀ i, n ≤ i → i < 32 → bt x i = false) : ∃ k, k < 2 ^ n ∧ x = nI k := by
  refine ⟨x.toBitVec.toNat, ?_, ?_⟩
  · apply Nat.lt_pow_two_of_testBit
    intro i hi
    by_cases c : i < 32
    · exact h i hi c
    · exact Nat.testBit_lt_two_pow (Nat.lt_of_lt_of_le x.toBitVec.isLt (Nat.pow_le_pow_right (by omega) (by omega)))
  · apply b_ext
    intro i hi
    rw [b_nI _ hi]; rfl
def cnt (P : Nat → Bool) : Nat → Nat
  | 0 => 0
  | n + 1 => cnt P n + if P n then 1 else 0
theorem cnt_cong {P Q : Nat → Bool} : ∀ {n : Nat}, (∀ i, i < n → P i = Q i) → cnt P n = cnt Q n
  | 0, _ => rfl
  | n + 1, h => by rw [cnt, cnt, h n (by omega), cnt_cong (fun i hi => h i (by omega))]
theorem cnt_ext {P : Nat → Bool} {n : Nat} : ∀ (d : Nat), (∀ i, n ≤ i → i < n + d → P i = false) → cnt P (n + d) = cnt P n
  | 0, _ => rfl
  | d + 1, h => by
    rw [show n + (d + 1) = (n + d) + 1 by omega, cnt, h (n + d) (by omega) (by omega), cnt_ext d (fun i a b => h i a (by omega))]; rfl
theorem cnt_le (P : Nat → Bool) : ∀ n, cnt P n ≤ n
  | 0 => Nat.le_refl _
  | n + 1 => by rw [cnt]; have := cnt_le P n; split <;> omega
theorem bc_all' : ∀ a, a < 64 → ∀ b, b < 64 → fJ6_bitCount_0f7a4 (nI (64 * a + b)) = some (nI (cnt (fun i => (64 * a + b).testBit i) 12)) := by decide +kernel
theorem bc_all (k : Nat) (hk : k < 4096) : fJ6_bitCount_0f7a4 (nI k) = some (nI (cnt (fun i => k.testBit i) 12)) := by
  have := bc_all' (k / 64) (by omega) (k % 64) (by omega)
  rw [show 64 * (k / 64) + k % 64 = k by omega] at this
  exact this
theorem cnt_mono (P : Nat → Bool) (n : Nat) : ∀ d, cnt P n ≤ cnt P (n + d)
  | 0 => Nat.le_refl _
  | d + 1 => by
    have := cnt_mono P n d
    have e : cnt P (n + (d + 1)) = cnt P (n + d) + if P (n + d) then 1 else 0 := rfl
    omega
theorem bc_ms {P : Nat → Bool} {n : Nat} (hn : n ≤ 12) : fJ6_bitCount_0f7a4 (ms P n) = some (nI (cnt P n)) := by
  obtain ⟨k, hk, e⟩ := small (x := ms P n) (n := 12) (by omega) (fun i h1 h2 => by rw [b_ms (by omega) h2, decide_eq_false (by omega), Bool.false_and])
  rw [e, bc_all k hk]
  have : ∀ i, i < 12 → k.testBit i = (decide (i < n) && P i) := fun i hi => by rw [← b_nI k (show i < 32 by omega), ← e, b_ms (by omega) (by omega)]
  rw [cnt_cong this]
  have h2 := cnt_ext (P := fun i => decide (i < n) && P i) (n := n) (12 - n) (fun i a b => by rw [decide_eq_false (by omega), Bool.false_and])
  rw [show n + (12 - n) = 12 by omega] at h2
  rw [h2, cnt_cong (fun i hi => by rw [decide_eq_true hi, Bool.true_and])]
theorem m_bitsL {x : Int32} : ∀ (j i u a : Nat), i + j = 12 → j < u → a ≤ i → fX5_bits_L4 x u (nI a) (nI i) = some (nI (a + (cnt (bt x) 12 - cnt (bt x) i)))
  | 0, i, u, a, hi, hu, ha => by
    cases u with
    | zero => omega
    | succ u =>
      have e : i = 12 := by omega
      subst e
      rw [fX5_bits_L4, ifT (by decide), Nat.sub_self]; rfl
  | j + 1, i, u, a, hi, hu, ha => by
    cases u with
    | zero => omega
    | succ u =>
      have h1 := cnt_mono (bt x) (i + 1) j
      rw [show i + 1 + j = 12 by omega] at h1
      have ec : cnt (bt x) (i + 1) = cnt (bt x) i + if bt x i then 1 else 0 := rfl
      rw [fX5_bits_L4, ifF (by rw [show (12 : Int32) = nI 12 from rfl, nI_leI (by decide) (by omega)]; omega), sb1 x (by omega), show nI i + 1 = nI (i + 1) from nI_add i 1]
      by_cases c : bt x i = true
      · rw [if_pos c, show nI a + 1 = nI (a + 1) from nI_add a 1, m_bitsL j (i + 1) u (a + 1) (by omega) (by omega) (by omega)]
        rw [if_pos c] at ec
        congr 2; omega
      · rw [if_neg c, show nI a + 0 = nI a from nI_add a 0, m_bitsL j (i + 1) u a (by omega) (by omega) (by omega)]
        rw [if_neg c] at ec
        congr 2; omega
theorem m_bits (x : Int32) : fX5_bits x = some (nI (cnt (bt x) 12)) := by
  have := m_bitsL (x := x) 12 0 FU 0 (by omega) (FU_gt (by omega)) (Nat.le_refl _)
  rw [fX5_bits]
  refine Eq.trans this ?_
  congr 2
  show 0 + (cnt (bt x) 12 - 0) = _
  omega
theorem m_bits_ms {P : Nat → Bool} {n : Nat} (hn : n ≤ 12) : fX5_bits (ms P n) = some (nI (cnt P n)) := by
  rw [m_bits]
  have h2 := cnt_ext (P := fun i => decide (i < n) && P i) (n := n) (12 - n) (fun i a b => by rw [decide_eq_false (by omega), Bool.false_and])
  rw [show n + (12 - n) = 12 by omega] at h2
  rw [cnt_cong (fun i hi => b_ms (by omega) (show i < 32 by omega)), h2, cnt_cong (fun i hi => by rw [decide_eq_true hi, Bool.true_and])]
theorem m_has (x : Int32) {i : Nat} (hi : i < 32) : fX5_has x (nI i) = some (b01 (bt x i)) := by
  rw [fX5_has, sb1 x hi]
  cases bt x i <;> rfl
/-- a loop that gathers a set -/
theorem lpB {β : Type} {L : Nat → Int32 → Int32 → Option β} {n : Nat} {P : Nat → Bool} {fin : Int32 → Option β} (hx : ∀ k a, L (k + 1) a (nI n) = fin a) (hs : ∀ k i a, i < n → L (k + 1) a (nI i) = L k (if P i then a ||| bI i else a) (nI (i + 1))) : ∀ (j i k : Nat), i + j = n → j < k → L k (ms P i) (nI i) = fin (ms P n)
  | 0, i, k, hi, hk => by
    have e : i = n := by omega
    subst e
    cases k with
    | zero => omega
    | succ k => exact hx k _
  | j + 1, i, k, hi, hk => by
    cases k with
    | zero => omega
    | succ k =>
      rw [hs k i _ (by omega)]
      have := lpB hx hs j (i + 1) k (by omega) (by omega)
      rw [ms] at this
      exact this
