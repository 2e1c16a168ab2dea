/-! numbers: every int is nI of a natural number, or -4 .. -1 -/
theorem lI (n : Nat) : (OfNat.ofNat n : Int32) = nI n := rfl
theorem gB_t {α : Type} {x : Option α} : gB true x = x := rfl
theorem ib_t {k n : Nat} (h : k < n) (hn : n < 2 ^ 31) : ib (nI k) n = true := decide_eq_true (vp_in_nI h hn)
theorem gib {α : Type} {k n : Nat} {x : Option α} (h : k < n) (hn : n < 2 ^ 31) : gB (ib (nI k) n) x = x := by rw [ib_t h hn]; rfl
theorem nzI {α : Type} {k : Nat} {x : Option α} (h0 : 0 < k) (hk : k < 2 ^ 31) : gB (nz (nI k)) x = x := by
  have : nz (nI k) = true := decide_eq_true (nI_ne0 h0 hk)
  rw [this]; rfl
theorem bs {α β : Type} {a : α} {f : α → Option β} : (some a).bind f = f a := rfl
theorem ifT {α : Type} {c : Prop} [Decidable c] {a b : α} (h : c) : (if c then a else b) = a := if_pos h
theorem ifF {α : Type} {c : Prop} [Decidable c] {a b : α} (h : ¬ c) : (if c then a else b) = b := if_neg h
theorem m4T {a : Nat} (h : a < 2 ^ 31) : ¬ nI a = -4 := fun e => by
  have := congrArg Int32.toInt e
  rw [nI_toInt h] at this
  have h2 : (-4 : Int32).toInt = -4 := by decide
  omega
theorem m4lt {a : Nat} (h : a < 2 ^ 31) : (-4 : Int32) < nI a := by
  rw [Int32.lt_iff_toInt_lt, nI_toInt h]
  have h2 : (-4 : Int32).toInt = -4 := by decide
  omega
def wI (k : Nat) : Int32 := if k = 0 then -4 else nI (k - 1)
def rI (o : Option Nat) : Int32 := match o with
  | none => -4
  | some p => nI p
theorem wI_0 : wI 0 = -4 := rfl
theorem wI_s (k : Nat) : wI (k + 1) = nI k := by unfold wI; rw [if_neg (by omega)]; rfl
theorem wI_m4 {k : Nat} (h : k < 2 ^ 31) : (wI k = -4) ↔ k = 0 := by
  cases k with
  | zero => exact ⟨fun _ => rfl, fun _ => rfl⟩
  | succ k => rw [wI_s]; exact ⟨fun e => absurd e (m4T (by omega)), fun e => by omega⟩
theorem wI_nI {k j : Nat} (h : k < 2 ^ 31) (hj : j < 2 ^ 31) : (wI k = nI j) ↔ k = j + 1 := by
  cases k with
  | zero => exact ⟨fun e => absurd e.symm (m4T hj), fun e => by omega⟩
  | succ k => rw [wI_s, nI_eq (by omega) hj]; omega
theorem wI_inj {k j : Nat} (h : k < 2 ^ 31) (hj : j < 2 ^ 31) : (wI k = wI j) ↔ k = j := by
  cases j with
  | zero => exact wI_m4 h
  | succ j => rw [wI_s, wI_nI h (by omega)]
theorem rI_m4 {o : Option Nat} (h : ∀ p, o = some p → p < 2 ^ 31) : (rI o = -4) ↔ o = none := by
  cases o with
  | none => exact ⟨fun _ => rfl, fun _ => rfl⟩
  | some p => exact ⟨fun e => absurd e (m4T (h p rfl)), fun e => by cases e⟩
/-! pure loops -/
def fnd (P : Nat → Bool) : Nat → Nat → Option Nat
  | 0, _ => none
  | m + 1, i => if P i then some i else fnd P m (i + 1)
def itr {α : Type} (b : Nat → α → α) : Nat → Nat → α → α
  | 0, _, a => a
  | m + 1, i, a => itr b m (i + 1) (b i a)
theorem fnd_in {P : Nat → Bool} : ∀ (m i p : Nat), fnd P m i = some p → i ≤ p ∧ p < i + m ∧ P p = true
  | 0, i, p, h => by cases h
  | m + 1, i, p, h => by
    rw [fnd] at h
    by_cases c : P i = true
    · rw [if_pos c] at h; cases h; exact ⟨Nat.le_refl _, by omega, c⟩
    · rw [if_neg c] at h
      have := fnd_in m (i + 1) p h
      exact ⟨by omega, by omega, this.2.2⟩
theorem fnd_no {P : Nat → Bool} : ∀ (m i : Nat), fnd P m i = none ↔ ∀ p, i ≤ p → p < i + m → P p = false
  | 0, i => ⟨fun _ p h1 h2 => by omega, fun _ => rfl⟩
  | m + 1, i => by
    rw [fnd]
    by_cases c : P i = true
    · rw [if_pos c]
      exact ⟨fun h => (by cases h), fun h => absurd c (by rw [h i (Nat.le_refl _) (by omega)]; decide)⟩
    · rw [if_neg c, fnd_no m (i + 1)]
      constructor
      · intro h p h1 h2
        by_cases e : p = i
        · subst e; exact Bool.eq_false_iff.mpr c
        · exact h p (by omega) (by omega)
      · intro h p h1 h2
        exact h p (by omega) (by omega)
theorem fnd_ext {P : Nat → Bool} {k : Nat} : ∀ (m i : Nat), (∀ p, i + m ≤ p → p < i + m + k → P p = false) → fnd P (m + k) i = fnd P m i
  | 0, i, h => by
    rw [Nat.zero_add, fnd]
    exact (fnd_no k i).mpr (fun p h1 h2 => h p (by omega) (by omega))
  | m + 1, i, h => by
    rw [show m + 1 + k = (m + k) + 1 by omega, fnd, fnd, fnd_ext m (i + 1) (fun p h1 h2 => h p (by omega) (by omega))]
theorem fnd_cong {P Q : Nat → Bool} : ∀ (m i : Nat), (∀ p, i ≤ p → p < i + m → P p = Q p) → fnd P m i = fnd Q m i
  | 0, i, h => rfl
  | m + 1, i, h => by
    rw [fnd, fnd, h i (Nat.le_refl _) (by omega), fnd_cong m (i + 1) (fun p h1 h2 => h p (by omega) (by omega))]
/-- a search loop -/
theorem lpF {β : Type} {L : Nat → Int32 → Option β} {P : Nat → Bool} {n : Nat} {z : β} {g : Nat → β} (hx : ∀ k, L (k + 1) (nI n) = some z) (hs : ∀ k i, i < n → L (k + 1) (nI i) = if P i then some (g i) else L k (nI (i + 1))) : ∀ (m i k : Nat), i + m = n → m < k → L k (nI i) = some (match fnd P m i with | none => z | some p => g p)
  | 0, i, k, hi, hk => by
    cases k with
    | zero => omega
    | succ k => rw [show i = n by omega, hx]; rfl
  | m + 1, i, k, hi, hk => by
    cases k with
    | zero => omega
    | succ k =>
      rw [hs k i (by omega), fnd]
      by_cases c : P i = true
      · rw [if_pos c, if_pos c]
      · rw [if_neg c, if_neg c]
        exact lpF hx hs m (i + 1) k (by omega) (by omega)
/-- a loop with a store -/
theorem lpI {α β : Type} {L : Nat → α → Int32 → Option β} {n : Nat} {b : Nat → α → α} {fin : α → β} (I : Nat → α → Prop) (hx : ∀ k a, I n a → L (k + 1) a (nI n) = some (fin a)) (hs : ∀ k i a, i < n → I i a → L (k + 1) a (nI i) = L k (b i a) (nI (i + 1)) ∧ I (i + 1) (b i a)) : ∀ (m i k : Nat) (a : α), i + m = n → m < k → I i a → L k a (nI i) = some (fin (itr b m i a)) ∧ I n (itr b m i a)
  | 0, i, k, a, hi, hk, h => by
    have e : i = n := by omega
    subst e
    cases k with
    | zero => omega
    | succ k => exact ⟨hx k a h, h⟩
  | m + 1, i, k, a, hi, hk, h => by
    cases k with
    | zero => omega
    | succ k =>
      have h1 := hs k i a (by omega) h
      rw [h1.1, itr]
      exact lpI I hx hs m (i + 1) k (b i a) (by omega) (by omega) h1.2
theorem FU_gt {n : Nat} (h : n < 100000) : n < FU := h
/-! rows as functions of numbers, in the reference's layout -/
def ly (f : Nat → Nat) (yd p : Nat) : Nat := f (37 + (yd * 8 + p))
def vl (f : Nat → Nat) (i : Nat) : Nat := f (1 + 3 * i)
def kd (f : Nat → Nat) (i : Nat) : Nat := f (2 + 3 * i)
def fg (f : Nat → Nat) (i : Nat) : Nat := f (3 + 3 * i)
/-- the class's Yards holds the row f, N plots, the truce t -/
def RY (y : OS) (f : Nat → Nat) (N t : Nat) : Prop := y 0 0 = nI N ∧ y 0 1 = nI t ∧ y 0 2 = nI (f 0) ∧ y 0 3 = nI (f 53) ∧ (∀ i, i < f 0 → y 1 i = nI (vl f i) ∧ y 2 i = nI (kd f i) ∧ y 3 i = nI (fg f i)) ∧ (∀ k, k < 16 → y 4 k = wI (f (37 + k))) ∧ (∀ v, v < f 53 → y 5 v = nI (f (54 + 2 * v)) ∧ y 6 v = nI (f (55 + 2 * v)))
/-- a good row: those who lie are of the first m -/
def Ok (f : Nat → Nat) (N m : Nat) : Prop := (2 ≤ N ∧ N ≤ 8) ∧ f 0 ≤ 12 ∧ f 53 ≤ 6 ∧ (∀ i, i < f 0 → vl f i ≤ 1 ∧ kd f i ≤ 3 ∧ fg f i ≤ 9) ∧ (∀ v, v < f 53 → f (54 + 2 * v) < f 0 ∧ 1 ≤ f (55 + 2 * v) ∧ f (55 + 2 * v) ≤ 20) ∧
  (∀ yd p, yd < 2 → p < 8 → ly f yd p = 0 ∨ (p < N ∧ ∃ i, i < m ∧ ((ly f yd p = i + 1 ∧ vl f i = 1 - yd) ∨ (ly f yd p = i + 21 ∧ vl f i = yd ∧ kd f i = 3)))) ∧ (∀ yd p p', yd < 2 → p < 8 → p' < 8 → ly f yd p ≠ 0 → ly f yd p = ly f yd p' → p = p') ∧ m ≤ f 0
theorem Ok.lt {f : Nat → Nat} {N m : Nat} (h : Ok f N m) {yd p : Nat} (hy : yd < 2) (hp : p < 8) : ly f yd p ≤ 33 := by
  have h0 := h.2.2.2.2.2.2.2
  rcases h.2.2.2.2.2.1 yd p hy hp with e | ⟨-, i, hi, e | e⟩
  · omega
  · have := h.2.1; omega
  · have := h.2.1; omega
theorem Ok.out {f : Nat → Nat} {N m : Nat} (h : Ok f N m) {yd p : Nat} (hy : yd < 2) (hp : p < 8) (hN : N ≤ p) : ly f yd p = 0 := by
  rcases h.2.2.2.2.2.1 yd p hy hp with e | ⟨hl, -⟩
  · exact e
  · omega
theorem y_who {y : OS} {f : Nat → Nat} {N t m : Nat} (h : RY y f N t) (k : Ok f N m) {yd p : Nat} (hy : yd < 2) (hp : p < 8) : fX3_whoLies y (nI yd) (nI p) = some (wI (ly f yd p)) := by
  have hN := k.1
  rw [fX3_whoLies, h.1]
  simp (disch := omega) only [lI, nI_ltI, nI_leI, nI_add, pk_mul, gib, nI_clamp]
  rw [ifF (by omega), ifF (by omega), ifF (by omega)]
  by_cases c : N ≤ p
  · rw [ifT c, k.out hy hp c]; rfl
  · rw [ifF c, ifF (by omega), h.2.2.2.2.2.1 _ (by omega)]; rfl
def pin (f : Nat → Nat) (yd w : Nat) : Option Nat := fnd (fun p => ly f yd p == w + 1) 8 0
theorem y_place {y : OS} {f : Nat → Nat} {N t m : Nat} (h : RY y f N t) (k : Ok f N m) {yd w : Nat} (hy : yd < 2) (hw : w < 100) : fX3_placeIn y (nI yd) (nI w) = some (rI (pin f yd w)) := by
  have hN := k.1
  rw [fX3_placeIn]
  have := lpF (L := fun k i => fX3_placeIn_L2 y (nI yd) (nI w) k i) (P := fun p => ly f yd p == w + 1) (n := N) (z := -4) (g := nI) ?_ ?_ N 0 FU (by omega) (FU_gt (by omega))
  · have e : pin f yd w = fnd (fun p => ly f yd p == w + 1) N 0 := by
      have := fnd_ext (P := fun p => ly f yd p == w + 1) (k := 8 - N) N 0 (fun p h1 h2 => by
        rw [k.out hy (by omega) (by omega)]; exact beq_false_of_ne (by omega))
      rw [← this, show N + (8 - N) = 8 by omega]; rfl
    rw [e]
    exact this
  · intro j
    show fX3_placeIn_L2 y (nI yd) (nI w) (j + 1) (nI N) = some (-4)
    rw [fX3_placeIn_L2, h.1, ifT ((nI_leI (by omega) (by omega)).mpr (Nat.le_refl _))]
  · intro j i hi
    show fX3_placeIn_L2 y (nI yd) (nI w) (j + 1) (nI i) = _
    have hl := k.lt hy (show i < 8 by omega)
    rw [fX3_placeIn_L2, h.1, ifF (by rw [nI_leI (by omega) (by omega)]; omega), y_who h k hy (by omega), bs]
    simp (disch := omega) only [wI_nI, lI, nI_add, beq_iff_eq]
