/-! was -/
def sOk (g : Nat → Nat) (Z : Tz) (j : Nat) : Bool := decide (Z.2.1 j < g 0) && (plt g (Z.2.1 j) == some (Z.2.2 j))
def allS (g : Nat → Nat) (Z : Tz) : Bool := (fnd (fun j => !sOk g Z j) Z.1 0).isNone
theorem c_seen {Y : YS} {o : OS} {g : Nat → Nat} {N t m : Nat} {Z : Tz} (h : RY (Y 1) g N t) (k : Ok g N m) (hz : CZ o Z) (h8 : Z.1 ≤ 8 ∧ ∀ j, j < Z.1 → Z.2.1 j < 12 ∧ Z.2.2 j < 8) : fX4_isAllSeenSo Y o = some (b01 (allS g Z)) := by
  have h12 := k.2.1
  have := lpF (L := fun k i => fX4_isAllSeenSo_L2 Y o k i) (P := fun j => !sOk g Z j) (n := Z.1) (z := (1 : Int32)) (g := fun _ => 0) ?_ ?_ Z.1 0 FU (by omega) (FU_gt (by omega))
  · rw [fX4_isAllSeenSo]
    refine Eq.trans this ?_
    unfold allS
    cases fnd (fun j => !sOk g Z j) Z.1 0 <;> rfl
  · intro j
    show fX4_isAllSeenSo_L2 Y o (j + 1) (nI Z.1) = some 1
    rw [fX4_isAllSeenSo_L2, hz.1, ifT ((nI_leI (by omega) (by omega)).mpr (Nat.le_refl _))]
  · intro j i hi
    show fX4_isAllSeenSo_L2 Y o (j + 1) (nI i) = _
    obtain ⟨z1, z2⟩ := hz.2 i hi
    obtain ⟨b1, b2⟩ := h8.2 i hi
    rw [fX4_isAllSeenSo_L2, hz.1, ifF (by rw [nI_leI (by omega) (by omega)]; omega), ifF (show ¬ 8 ≤ nI i from fun e => absurd ((nI_leI (a := 8) (by decide) (by omega)).mp e) (by omega)), gib (by omega) (by decide), nI_clamp (by omega), z1, z2, show nI i + 1 = nI (i + 1) from nI_add i 1]
    unfold sOk
    by_cases c : Z.2.1 i < g 0
    · rw [y_plot h k c, bs, gib (by omega) (by decide), decide_eq_true c, Bool.true_and]
      by_cases e : plt g (Z.2.1 i) = some (Z.2.2 i)
      · rw [ifT (show rI (plt g (Z.2.1 i)) = nI (Z.2.2 i) by rw [e]; rfl), beq_iff_eq.mpr e]; rfl
      · rw [ifF (show ¬ rI (plt g (Z.2.1 i)) = nI (Z.2.2 i) from fun q => e ((rI_inj (b := some (Z.2.2 i)) plt_b (fun p hp => by cases hp; omega)).mp q)), beq_false_of_ne e]; rfl
    · rw [y_plot_no h k (by rw [iL_nI (by omega)]; exact decide_eq_false (by omega)), bs, gib (by omega) (by decide), ifF (fun e => m4T (show Z.2.2 i < 2 ^ 31 by omega) e.symm), decide_eq_false c]; rfl
theorem fnd_none_step {P : Nat → Bool} {n i : Nat} (h : P i = false) : fnd P (n + 1) i = fnd P n (i + 1) := by rw [fnd, h]; rfl
theorem m_seenL {S : OS} {g : Nat → Nat} {N m : Nat} {Z : Tz} {K : Int32 → Int32 → OS → Option (Int32 × OS)} {v1 v2 : Int32} {F : Nat} (h : RS S 8 g) (k : Ok g N m) (hz : MZ S Z) (h8 : Z.1 ≤ 8 ∧ ∀ j, j < Z.1 → Z.2.1 j < 12 ∧ Z.2.2 j < 8) : ∀ (j i u : Nat) (b : Bool), i + j = Z.1 → j < u → fX5_was_L51 K S v1 v2 (nI F) u (b01 b) (nI i) = K (if b && (fnd (fun j => !sOk g Z j) j i).isNone then v2 ||| bI F else v2) (nI (F + 1)) S
  | 0, i, u, b, hi, hu => by
    cases u with
    | zero => omega
    | succ u =>
      have hz1 := h8.1
      rw [fX5_was_L51, hz.1, ifT ((nI_leI (by omega) (by omega)).mpr (by omega)), or_0, show nI F + 1 = nI (F + 1) from nI_add F 1]
      cases b <;> rfl
  | j + 1, i, u, b, hi, hu => by
    cases u with
    | zero => omega
    | succ u =>
      have hz1 := h8.1
      have h12 := k.2.1
      have hi2 : i < Z.1 := by omega
      obtain ⟨z1, z2⟩ := hz.2 i hi2
      obtain ⟨b1, b2⟩ := h8.2 i hi2
      have e2 : (2 : Int32) * nI i = nI (2 * i) := by rw [show (2 : Int32) = nI 2 from rfl, pk_mul]
      have ih := m_seenL (K := K) (v1 := v1) (v2 := v2) (F := F) h k hz h8 j (i + 1) u
      rw [fX5_was_L51, hz.1, ifF (by rw [nI_leI (by omega) (by omega)]; omega), show nI i + 1 = nI (i + 1) from nI_add i 1, e2]
      have f0 := ih false (by omega) (by omega)
      have f1 := ih true (by omega) (by omega)
      cases b with
      | false => rw [ifT (by decide)]; exact f0
      | true =>
        rw [ifF (by decide), gib (by omega) (by decide), nI_clamp (by omega), z1, z0, h 0 (by omega), fnd]
        unfold sOk
        by_cases c : Z.2.1 i < g 0
        · rw [ifF (by rw [nI_leI (by omega) (by omega)]; omega), gib (by omega) (by decide), m_plotOf h rfl k c, bs, show nI (2 * i) + 1 = nI (2 * i + 1) from nI_add _ 1, gib (by omega) (by decide), nI_clamp (by omega), z2, decide_eq_true c, Bool.true_and]
          by_cases e : plt g (Z.2.1 i) = some (Z.2.2 i)
          · rw [ifT (show rI (plt g (Z.2.1 i)) = nI (Z.2.2 i) by rw [e]; rfl), beq_iff_eq.mpr e]; exact f1
          · rw [ifF (show ¬ rI (plt g (Z.2.1 i)) = nI (Z.2.2 i) from fun q => e ((rI_inj (b := some (Z.2.2 i)) plt_b (fun p hp => by cases hp; omega)).mp q)), beq_false_of_ne e]; exact f0
        · rw [ifT ((nI_leI (by omega) (by omega)).mpr (by omega)), decide_eq_false c]; exact f0
def wasP (f : Nat → Nat) (N i : Nat) (Z : Tz) (F : Nat) : Bool := allS (an (pt f (3 + 3 * i) F) N) Z
theorem c_wasL {o : OS} {f : Nat → Nat} {N t m i : Nat} {Z : Tz} (k : Ok f N m) (hi : i < f 0) (hz : CZ o Z) (h8 : Z.1 ≤ 8 ∧ ∀ j, j < Z.1 → Z.2.1 j < 12 ∧ Z.2.2 j < 8) : ∀ (j F u : Nat) (Y : YS), F + j = 10 → j < u → RY (Y 0) f N t → ∃ Y', fX4_was_L17 (nI i) u (ms (wasP f N i Z) F) (nI F) Y o = some (ms (wasP f N i Z) 10, Y', o) ∧ ∀ x, x ≠ 1 → Y' x = Y x
  | 0, F, u, Y, hF, hu, h => by
    cases u with
    | zero => omega
    | succ u =>
      have e : F = 10 := by omega
      subst e
      exact ⟨Y, by rw [fX4_was_L17, ifT (by decide)], fun _ _ => rfl⟩
  | j + 1, F, u, Y, hF, hu, h => by
    cases u with
    | zero => omega
    | succ u =>
      have h12 := k.2.1
      obtain ⟨Y1, e1, a1, r1⟩ := copyR (Y := Y) (o := o) (i0 := 1) (i1 := 0) (by decide) h k
      have kf := fg_ok k hi (show F ≤ 9 by omega)
      have r2 := r1.fgs (F := F) h12 hi
      obtain ⟨y3, e3, r3⟩ := y_digAll r2.b kf.1.b
      have ka := okb_an kf.1.b
      have hsn := c_seen (Y := va_up (va_up Y1 1 (u2 (Y1 1) 3 i (nI F))) 1 y3) (o := o) (g := an (pt f (3 + 3 * i) F) N) (Z := Z) (by rw [vu_s]; exact r3) ka.1 hz h8
      obtain ⟨Y', e5, a5⟩ := c_wasL k hi hz h8 j (F + 1) u (va_up (va_up Y1 1 (u2 (Y1 1) 3 i (nI F))) 1 y3) (by omega) (by omega) (by rw [vu_n (by decide), vu_n (by decide), a1 0 (by decide)]; exact h)
      refine ⟨Y', ?_, fun x hx => by rw [a5 x hx, vu_n hx, vu_n hx, a1 x hx]⟩
      rw [fX4_was_L17, ifF (show ¬ 9 < nI F from fun e => absurd ((nI_ltI (a := 9) (by decide) (by omega)).mp e) (by omega)), e1, bs, y_setF r1 k hi, bs, vu_s, e3, bs, hsn, bs, show nI F + 1 = nI (F + 1) from nI_add F 1, ← e5, ms]
      show (if b01 (wasP f N i Z F) = 0 then _ else _) = _
      cases wasP f N i Z F <;> rfl
theorem m_wasL {f : Nat → Nat} {N m i : Nat} {Z : Tz} (k : Ok f N m) (hi : i < f 0) (h8 : Z.1 ≤ 8 ∧ ∀ j, j < Z.1 → Z.2.1 j < 12 ∧ Z.2.2 j < 8) : ∀ (j F u : Nat) (S : OS), F + j = 10 → j < u → RS S 1 f → S 0 0 = nI N → MZ S Z → ∃ S', fX5_was_L14 (nI i) u (ms (wasP f N i Z) F) (nI F) S = some (ms (wasP f N i Z) 10, S') ∧ Eo S S' 8
  | 0, F, u, S, hF, hu, h, hN, hz => by
    cases u with
    | zero => omega
    | succ u =>
      have e : F = 10 := by omega
      subst e
      exact ⟨S, by rw [fX5_was_L14, ifT (by decide)], Eo.rf⟩
  | j + 1, F, u, S, hF, hu, h, hN, hz => by
    cases u with
    | zero => omega
    | succ u =>
      have h12 := k.2.1
      obtain ⟨S1, e1, o1, r1⟩ := m_from (c := 1) (by decide) rfl h
      have kf := fg_ok k hi (show F ≤ 9 by omega)
      have r2 := r1.put (k := 3 + 3 * i) (v := F)
      have o2 := o1.tr (Eo.u2 (S := S1) (c := 8) (k := 3 + 3 * i) (x := nI F))
      obtain ⟨S3, e3, r3, o3⟩ := m_anew r2 (by rw [o2 0 (by decide)]; exact hN) kf.1.b
      have oo := o2.tr o3
      have ka := okb_an kf.1.b
      have hz3 : MZ S3 Z := hz.cg (by rw [oo 0 (by decide)]) (oo 4 (by decide))
      obtain ⟨S', e5, o5⟩ := m_wasL k hi h8 j (F + 1) u S3 (by omega) (by omega) (h.eo oo (by decide)) (by rw [oo 0 (by decide)]; exact hN) hz3
      refine ⟨S', ?_, oo.tr o5⟩
      have hs := m_seenL (S := S3) (Z := Z) (K := fun kv2 kv3 kS => fX5_was_L14 (nI i) u kv2 kv3 kS) (v1 := nI i) (v2 := ms (wasP f N i Z) F) (F := F) r3 ka.1 hz3 h8 Z.1 0 FU true (by omega) (FU_gt (by omega))
      rw [fX5_was_L14, ifF (show ¬ 10 ≤ nI F from fun e => absurd ((nI_leI (a := 10) (by decide) (by omega)).mp e) (by omega)), e1, bs, ix3, gib (by omega) (by decide), nI_clamp (by omega), e3, bs]
      refine Eq.trans hs ?_
      rw [← e5, ms]
      rfl
theorem op_was {Y : YS} {o S : OS} (h : Inv Y o S) (x : Int32) : OpW (fX4_was Y o x) (fX5_was S x) := by
  obtain ⟨f, N, t, P, K, Z, X, hC, hM, hG⟩ := id h
  have c1 := hC.1
  have m1 := hM.1
  have g1 := hG.1
  have h12 := g1.2.1
  rw [fX4_was, fX5_was, y_hasDead c1 g1, m_isDead m1 h12, bs, bs]
  cases hx : iL x 0 ((f 0 : Int) - 1) with
  | false => exact ⟨_, _, _, _, rfl, rfl, h⟩
  | true =>
    obtain ⟨i, hi, rfl⟩ := iL_j (by omega) hx
    obtain ⟨Y', e1, a1⟩ := c_wasL (o := o) (t := t) g1 hi hC.2.2.2.1 hG.2.2.2.2.1 10 0 FU Y (by omega) (FU_gt (by omega)) c1
    obtain ⟨S', e2, o2⟩ := m_wasL g1 hi hG.2.2.2.2.1 10 0 FU S (by omega) (FU_gt (by omega)) m1 hM.2.1 hM.2.2.2.2.2.1
    exact ⟨_, Y', o, S', by rw [ibt]; exact e1, by rw [ibt]; exact e2, Inv.sc hC hM hG (fun i h1 h2 => a1 i h1) (fun _ _ => rfl) rfl (fun c h1 h2 => o2 c (by omega)) (fun k _ => by rw [o2 0 (by decide)])⟩
/-! names -/
theorem low_all' : ∀ a, a < 64 → ∀ b, b < 64 → 64 * a + b ≠ 0 → nI (64 * a + b) &&& -nI (64 * a + b) = bI ((fnd (fun i => (64 * a + b).testBit i) 12 0).getD 0) := by decide +kernel
theorem low_ms {A : Nat → Bool} {n : Nat} (hn : n ≤ 12) (h : ¬ ms A n = 0) : ∃ i, fnd A n 0 = some i ∧ ms A n &&& -ms A n = bI i := by
  obtain ⟨k, hk, e⟩ := small (x := ms A n) (n := 12) (by omega) (fun i h1 h2 => by rw [b_ms (by omega) h2, decide_eq_false (by omega), Bool.false_and])
  have hb : ∀ i, i < 12 → k.testBit i = (decide (i < n) && A i) := fun i hi => by rw [← b_nI k (show i < 32 by omega), ← e, b_ms (by omega) (by omega)]
  have hk0 : k ≠ 0 := fun z => h (by rw [e, z]; rfl)
  have h1 := low_all' (k / 64) (by omega) (k % 64) (by omega) (by omega)
  rw [show 64 * (k / 64) + k % 64 = k by omega, ← e] at h1
  have h2 : fnd (fun i => k.testBit i) 12 0 = fnd A n 0 := by
    rw [fnd_cong (Q := fun i => decide (i < n) && A i) 12 0 (fun p _ hp => hb p (by omega))]
    have := fnd_ext (P := fun i => decide (i < n) && A i) (k := 12 - n) n 0 (fun p a b => by rw [decide_eq_false (by omega), Bool.false_and])
    rw [show n + (12 - n) = 12 by omega] at this
    rw [this]
    exact fnd_cong n 0 (fun p _ hp => by rw [decide_eq_true (by omega), Bool.true_and])
  cases q : fnd A n 0 with
  | some i => exact ⟨i, rfl, by rw [h1, h2, q]; rfl⟩
  | none =>
    exfalso
    apply h
    apply b_ext
    intro i hi
    rw [b_ms (by omega) hi, b_0]
    by_cases c : i < n
    · rw [(fnd_no n 0).mp q i (by omega) (by omega), Bool.and_false]
    · rw [decide_eq_false c, Bool.false_and]
theorem ms_zero {A : Nat → Bool} {n : Nat} (hn : n ≤ 12) : ms A n = 0 ↔ fnd A n 0 = none := by
  constructor
  · intro h
    rw [fnd_no]
    intro p _ hp
    have := b_ms (P := A) (n := n) (by omega) (show p < 32 by omega)
    rw [h, b_0, decide_eq_true (by omega), Bool.true_and] at this
    exact this.symm
  · intro h
    apply b_ext
    intro i hi
    rw [b_ms (by omega) hi, b_0]
    by_cases c : i < n
    · rw [(fnd_no n 0).mp h i (by omega) (by omega), Bool.and_false]
    · rw [decide_eq_false c, Bool.false_and]
def oB (w : Option Nat) : Int32 := match w with
  | none => 0
  | some i => bI i
/-- whose name is worn off next -/
def worn (f : Nat → Nat) (A : Nat → Bool) (yd : Nat) : Option Nat := match fnd (fun i => A i && isV f (1 - yd) i) (f 0) 0 with
  | some i => some i
  | none => fnd A (f 0) 0
def wA (A : Nat → Bool) (w : Option Nat) : Nat → Bool := match w with
  | some k => fun i => A i && !(i == k)
  | none => A
def nmA (f : Nat → Nat) (A : Nat → Bool) : Nat → Nat → Nat → Bool
  | 0, _ => A
  | j + 1, w => nmA f (wA A (worn f A (w % 2))) j (w + 1)
theorem m_first {S : OS} {f : Nat → Nat} {N m yd : Nat} {A : Nat → Bool} (h : RS S 1 f) (k : Ok f N m) (hy : yd ≤ 1) : fX5_firstIn S (nI yd) (ms A (f 0)) = some (oB (fnd (fun i => A i && isV f (1 - yd) i) (f 0) 0)) := by
  have h12 := k.2.1
  rw [fX5_firstIn]
  refine lpF (L := fun k i => fX5_firstIn_L2 S (nI yd) (ms A (f 0)) k i) (P := fun i => A i && isV f (1 - yd) i) (n := f 0) (z := (0 : Int32)) (g := bI) (fun j => ?_) (fun j i hi => ?_) (f 0) 0 FU (by omega) (FU_gt (by omega))
  · show fX5_firstIn_L2 S (nI yd) (ms A (f 0)) (j + 1) (nI (f 0)) = _
    rw [fX5_firstIn_L2, z0, h 0 (by omega), ifT ((nI_leI (by omega) (by omega)).mpr (Nat.le_refl _))]
  · show fX5_firstIn_L2 S (nI yd) (ms A (f 0)) (j + 1) (nI i) = _
    have hv := (k.2.2.2.1 i hi).1
    rw [fX5_firstIn_L2, z0, h 0 (by omega), ifF (by rw [nI_leI (by omega) (by omega)]; omega), m_has _ (by omega), bs, b_ms (by omega) (by omega), decide_eq_true hi, Bool.true_and, ix1, gib (by omega) (by decide), nI_clamp (by omega), h _ (by omega), show f (1 + 3 * i) = vl f i from rfl, vs1 hy, show nI i + 1 = nI (i + 1) from nI_add i 1]
    cases A i with
    | false => rfl
    | true =>
      rw [ibt, Bool.true_and]
      unfold isV
      by_cases c : vl f i = 1 - yd
      · rw [ifT (by rw [c]), beq_iff_eq.mpr c]; rfl
      · rw [ifF (fun e => c ((nI_eq (by omega) (by omega)).mp e)), beq_false_of_ne c]; rfl
theorem c_worn {Y : YS} {o : OS} {f : Nat → Nat} {N t m yd : Nat} {A : Nat → Bool} (h : RY (Y 0) f N t) (k : Ok f N m) (hy : yd ≤ 1) : fX4_nextWornOff Y o (ms A (f 0)) (nI yd) = some (oB (worn f A yd)) := by
  have h12 := k.2.1
  rw [fX4_nextWornOff, vs1 hy, y_allV h k (by omega), bs, ms_and (by omega)]
  unfold worn
  by_cases c : ms (fun i => A i && isV f (1 - yd) i) (f 0) = 0
  · rw [ifT c, (ms_zero h12).mp c]
    by_cases c2 : ms A (f 0) = 0
    · rw [c2, (ms_zero h12).mp c2]; rfl
    · obtain ⟨i, q1, q2⟩ := low_ms h12 c2
      rw [q1, q2]; rfl
  · obtain ⟨i, q1, q2⟩ := low_ms h12 c
    rw [ifF c, q1, q2]; rfl
theorem x0 (x : Int32) : x &&& (0 ^^^ (-1)) = x := b_ext (fun i hi => by rw [b_and, b_xor, b_0, b_m1 i hi, Bool.false_xor, Bool.and_true])
theorem wA_ms {A : Nat → Bool} {n : Nat} (hn : n ≤ 12) {w : Option Nat} (hw : ∀ i, w = some i → i < n) : ms A n &&& (oB w ^^^ (-1)) = ms (wA A w) n := by
  cases w with
  | none => exact x0 _
  | some i => exact ms_del (by omega) (hw i rfl)
theorem worn_lt {f : Nat → Nat} {A : Nat → Bool} {yd i : Nat} (h : worn f A yd = some i) : i < f 0 := by
  unfold worn at h
  cases q : fnd (fun i => A i && isV f (1 - yd) i) (f 0) 0 with
  | some j =>
    rw [q] at h; cases h
    have := (fnd_in (f 0) 0 i q).2.1; omega
  | none =>
    rw [q] at h
    have := (fnd_in (f 0) 0 i h).2.1; omega
theorem c_namesL {Y : YS} {o : OS} {f : Nat → Nat} {N t m n : Nat} (h : RY (Y 0) f N t) (k : Ok f N m) (hn : n ≤ 20) : ∀ (j w u : Nat) (A : Nat → Bool), w + j = n → j < u → fX4_names_L22 Y o (nI n) u (ms A (f 0)) (nI w) = some (ms (nmA f A j w) (f 0))
  | 0, w, u, A, hw, hu => by
    cases u with
    | zero => omega
    | succ u => rw [fX4_names_L22, ifT ((nI_leI (by omega) (by omega)).mpr (by omega))]; rfl
  | j + 1, w, u, A, hw, hu => by
    cases u with
    | zero => omega
    | succ u =>
      have h12 := k.2.1
      have e1 : nI w &&& 1 = nI (w % 2) := pk_andN (by omega) 1 (by decide)
      rw [fX4_names_L22, ifF (by rw [nI_leI (by omega) (by omega)]; omega), e1, c_worn h k (by omega), bs, wA_ms h12 (fun i hi => worn_lt hi), show nI w + 1 = nI (w + 1) from nI_add w 1, c_namesL h k hn j (w + 1) u _ (by omega) (by omega)]
      rfl
theorem m_namesL {S : OS} {f : Nat → Nat} {N m n : Nat} (h : RS S 1 f) (k : Ok f N m) (hn : n ≤ 20) : ∀ (j w u : Nat) (A : Nat → Bool), w + j = n → j < u → fX5_names_L55 S (nI n) u (ms A (f 0)) (nI w) = some (ms (nmA f A j w) (f 0))
  | 0, w, u, A, hw, hu => by
    cases u with
    | zero => omega
    | succ u => rw [fX5_names_L55, ifT ((nI_leI (by omega) (by omega)).mpr (by omega))]; rfl
  | j + 1, w, u, A, hw, hu => by
    cases u with
    | zero => omega
    | succ u =>
      have h12 := k.2.1
      have e1 : nI w - nI w / 2 * 2 = nI (w % 2) := remN (d := 2) (by omega) (by omega) (by decide)
      have ih := m_namesL h k hn j (w + 1) u (wA A (worn f A (w % 2))) (by omega) (by omega)
      have hw' : ∀ i, worn f A (w % 2) = some i → i < f 0 := fun i hi => worn_lt hi
      rw [fX5_names_L55, ifF (by rw [nI_leI (by omega) (by omega)]; omega), e1, m_first h k (by omega), bs, show nI w + 1 = nI (w + 1) from nI_add w 1]
      rw [← wA_ms h12 hw'] at ih
      show _ = some (ms (nmA f (wA A (worn f A (w % 2))) j (w + 1)) (f 0))
      rw [← ih]
      unfold worn
      cases q : fnd (fun i => A i && isV f (1 - w % 2) i) (f 0) 0 with
      | some i =>
        have hi := (fnd_in (f 0) 0 i q).2.1
        have hne : ¬ bI i = 0 := fun e => by
          have := b_bI (n := i) (i := i) (by omega) (by omega)
          rw [e, b_0, decide_eq_true rfl] at this
          cases this
        rw [ifF (show ¬ oB (some i) = 0 from hne)]
      | none =>
        have e2 : fnd (fun i => A i && isV f (1 - (1 - w % 2)) i) (f 0) 0 = fnd A (f 0) 0 := by
          apply fnd_cong
          intro p _ hp
          have hv := (k.2.2.2.1 p (by omega)).1
          have := (fnd_no (f 0) 0).mp q p (by omega) hp
          cases hA : A p with
          | false => rfl
          | true =>
            rw [hA, Bool.true_and] at this
            unfold isV at this ⊢
            have h1 : vl f p ≠ 1 - w % 2 := by
              intro e; rw [e, beq_self_eq_true] at this; cases this
            rw [beq_iff_eq.mpr (show vl f p = 1 - (1 - w % 2) by omega)]; rfl
        rw [ifT (show oB none = 0 from rfl), vs1 (by omega), m_first h k (by omega), bs, e2]
theorem op_names {Y : YS} {o S : OS} (h : Inv Y o S) (x : Int32) : OpR (fX4_names Y o x) (fX5_names S x) := by
  obtain ⟨f, N, t, P, K, Z, X, ⟨c1, -⟩, ⟨m1, m2, -⟩, ⟨g1, -⟩⟩ := id h
  have h12 := g1.2.1
  rw [fX4_names, fX5_names, m_in, bs, show (0 : Int32).toInt = 0 from rfl, show (20 : Int32).toInt = 20 from rfl]
  cases hx : iL x 0 20 with
  | false =>
    have hx := of_decide_eq_false hx
    refine ⟨-1, ?_, by rw [ibf]⟩
    by_cases c : x < 0
    · rw [ifT c]
    · rw [ifF c, ifF (fun e => hx (by rw [Int32.lt_iff_toInt_lt] at c; rw [Int32.le_iff_toInt_le] at e; have : (0 : Int32).toInt = 0 := rfl; have : (20 : Int32).toInt = 20 := rfl; omega))]
  | true =>
    obtain ⟨n, -, hn, rfl⟩ := iL_b (lo := 0) (hi := 20) (by decide) hx
    refine ⟨ms (nmA f (lies f) n 0) (f 0), ?_, ?_⟩
    · rw [ifF (nI_pos (by omega)), ifT (show nI n ≤ 20 from (nI_leI (b := 20) (by omega) (by decide)).mpr hn), y_allL c1 g1, bs]
      exact c_namesL c1 g1 hn n 0 FU (lies f) (by omega) (FU_gt (by omega))
    · rw [ibt]
      refine Eq.trans (lpB (L := fun k a i => fX5_names_L16 S (nI n) k a i) (n := f 0) (P := lies f) (fin := fun a => fX5_names_L55 S (nI n) FU a 0) (fun j a => ?_) (fun j i a hi => ?_) (f 0) 0 FU (by omega) (FU_gt (by omega))) (m_namesL m1 g1 hn n 0 FU (lies f) (by omega) (FU_gt (by omega)))
      · show fX5_names_L16 S (nI n) (j + 1) a (nI (f 0)) = _
        rw [fX5_names_L16, z0, m1 0 (by omega), ifT ((nI_leI (by omega) (by omega)).mpr (Nat.le_refl _))]
      · show fX5_names_L16 S (nI n) (j + 1) a (nI i) = _
        rw [fX5_names_L16, z0, m1 0 (by omega), ifF (by rw [nI_leI (by omega) (by omega)]; omega), m_plotOf m1 rfl g1 hi, bs, or_0, show nI i + 1 = nI (i + 1) from nI_add i 1]
        unfold lies
        cases q : plt f i with
        | none => rw [ifT (show rI none < 0 by decide)]; rfl
        | some p => rw [ifF (show ¬ rI (some p) < 0 from nI_pos (plt_b p q))]; rfl
