/-! count -/
theorem sm_cong {g h : Nat → Nat} : ∀ {n : Nat}, (∀ i, i < n → g i = h i) → sm g n = sm h n
  | 0, _ => rfl
  | n + 1, e => by rw [sm, sm, e n (by omega), sm_cong (fun i hi => e i (by omega))]
theorem sm_zero {g : Nat → Nat} : ∀ {n : Nat}, (∀ i, i < n → g i = 0) → sm g n = 0
  | 0, _ => rfl
  | n + 1, e => by rw [sm, e n (by omega), sm_zero (fun i hi => e i (by omega))]
theorem sm_add (g h : Nat → Nat) : ∀ n, sm (fun i => g i + h i) n = sm g n + sm h n
  | 0 => rfl
  | n + 1 => by rw [sm, sm, sm, sm_add g h n]; omega
theorem sm_swap (a : Nat → Nat → Nat) (m : Nat) : ∀ n, sm (fun k => sm (fun i => a k i) n) m = sm (fun i => sm (fun k => a k i) m) n
  | 0 => sm_zero (fun _ _ => rfl)
  | n + 1 => by
    rw [sm, ← sm_swap a m n, ← sm_add]
    rfl
theorem sm_split (g : Nat → Nat) (m : Nat) : ∀ n, sm g (m + n) = sm g m + sm (fun p => g (m + p)) n
  | 0 => rfl
  | n + 1 => by
    rw [show m + (n + 1) = (m + n) + 1 by omega, sm, sm, sm_split g m n]; omega
theorem cnt_one {P : Nat → Bool} : ∀ {n : Nat}, (∀ p q, p < n → q < n → P p = true → P q = true → p = q) → cnt P n = if (fnd P n 0).isSome then 1 else 0
  | 0, _ => rfl
  | n + 1, hu => by
    have ih := cnt_one (P := P) (n := n) (fun p q hp hq => hu p q (by omega) (by omega))
    rw [cnt]
    cases e : fnd P n 0 with
    | some p =>
      have hp := fnd_in n 0 p e
      have hn : P n = false := by
        cases q : P n with
        | false => rfl
        | true => have := hu p n (by omega) (by omega) hp.2.2 q; omega
      have e2 : fnd P (n + 1) 0 = some p := by
        have := fnd_ext (P := P) (k := 1) n 0 (fun r h1 h2 => by rw [show r = n by omega]; exact hn)
        rw [this, e]
      rw [ih, e, e2, hn]; rfl
    | none =>
      rw [ih, e]
      cases q : P n with
      | false =>
        have e2 : fnd P (n + 1) 0 = none := by
          rw [fnd_no]
          intro p h1 h2
          by_cases c : p = n
          · rw [c]; exact q
          · exact (fnd_no n 0).mp e p h1 (by omega)
        rw [e2]; rfl
      | true =>
        have e2 : (fnd P (n + 1) 0).isSome = true := by
          cases r : fnd P (n + 1) 0 with
          | some _ => rfl
          | none => have := (fnd_no (n + 1) 0).mp r n (by omega) (by omega); rw [q] at this; cases this
        rw [e2]; rfl
def hasD (f : Nat → Nat) (i : Nat) : Bool := (pin f (vl f i) (i + 20)).isSome
theorem row21 : ∀ x, x < 33 → sm (fun i => if x = i + 21 then 1 else 0) 12 = if 20 < x then 1 else 0 := by decide
theorem dbl_eq {f : Nat → Nat} {N : Nat} (k : Ok f N (f 0)) : cnt (hasD f) (f 0) = cnt (fun j => decide (20 < f (37 + j))) 16 := by
  obtain ⟨k1, k2, k3, k4, k5, k6, k7, k8⟩ := k
  have hlt : ∀ j, j < 16 → f (37 + j) < 33 := by
    intro j hj
    have := k6 (j / 8) (j % 8) (by omega) (by omega)
    unfold ly at this
    rw [show 37 + (j / 8 * 8 + j % 8) = 37 + j by omega] at this
    rcases this with e | ⟨-, i, hi, e | e⟩ <;> omega
  have h1 : sm (fun j => sm (fun i => if f (37 + j) = i + 21 then 1 else 0) 12) 16 = cnt (fun j => decide (20 < f (37 + j))) 16 := by
    rw [← sm_cnt]
    apply sm_cong
    intro j hj
    show sm (fun i => if f (37 + j) = i + 21 then 1 else 0) 12 = _
    rw [row21 _ (hlt j hj)]
    by_cases c : 20 < f (37 + j)
    · rw [if_pos c, decide_eq_true c]; rfl
    · rw [if_neg c, decide_eq_false c]; rfl
  rw [← h1, sm_swap]
  have h2 : cnt (hasD f) (f 0) = sm (fun i => if decide (i < f 0) && hasD f i then 1 else 0) 12 := by
    rw [sm_cnt]
    have := cnt_ext (P := fun i => decide (i < f 0) && hasD f i) (n := f 0) (12 - f 0) (fun i a b => by rw [decide_eq_false (by omega), Bool.false_and])
    rw [show f 0 + (12 - f 0) = 12 by omega] at this
    rw [this]
    exact cnt_cong (fun i hi => by rw [decide_eq_true hi, Bool.true_and])
  rw [h2]
  apply sm_cong
  intro i hi
  show _ = sm (fun j => if f (37 + j) = i + 21 then 1 else 0) 16
  have ev : ∀ yd p, yd < 2 → p < 8 → ly f yd p = i + 21 → i < f 0 ∧ vl f i = yd := by
    intro yd p hy hp e
    rcases k6 yd p hy hp with e' | ⟨-, j, hj, e' | e'⟩
    · omega
    · omega
    · have : j = i := by omega
      subst this; exact ⟨hj, e'.2.1⟩
  have e16 := sm_split (fun j => if f (37 + j) = i + 21 then 1 else 0) 8 8
  rw [show (16 : Nat) = 8 + 8 from rfl, e16]
  have y0 : sm (fun j => if f (37 + j) = i + 21 then 1 else 0) 8 = cnt (fun p => ly f 0 p == i + 21) 8 := by
    rw [← sm_cnt]
    apply sm_cong
    intro p hp
    show (if f (37 + p) = i + 21 then 1 else 0) = if (ly f 0 p == i + 21) = true then 1 else 0
    unfold ly
    rw [show 37 + (0 * 8 + p) = 37 + p by omega]
    simp only [beq_iff_eq]
  have y1 : sm (fun p => (fun j => if f (37 + j) = i + 21 then 1 else 0) (8 + p)) 8 = cnt (fun p => ly f 1 p == i + 21) 8 := by
    rw [← sm_cnt]
    apply sm_cong
    intro p hp
    show (if f (37 + (8 + p)) = i + 21 then 1 else 0) = if (ly f 1 p == i + 21) = true then 1 else 0
    unfold ly
    rw [show 37 + (1 * 8 + p) = 37 + (8 + p) by omega]
    simp only [beq_iff_eq]
  rw [y0, y1]
  have z : ∀ yd, yd < 2 → ¬ (i < f 0 ∧ vl f i = yd) → cnt (fun p => ly f yd p == i + 21) 8 = 0 := by
    intro yd hy hn
    rw [← sm_cnt]
    apply sm_zero
    intro p hp
    show (if (ly f yd p == i + 21) = true then 1 else 0) = 0
    rw [if_neg]
    intro q
    exact hn (ev yd p hy hp (by simpa using q))
  by_cases c : i < f 0
  · have hv := (k4 i c).1
    rw [decide_eq_true c, Bool.true_and]
    have one : cnt (fun p => ly f (vl f i) p == i + 21) 8 = if hasD f i then 1 else 0 := by
      rw [cnt_one (fun p q hp hq a b => by
        have a : ly f (vl f i) p = i + 21 := by simpa using a
        have b : ly f (vl f i) q = i + 21 := by simpa using b
        exact k7 (vl f i) p q (by omega) hp hq (by omega) (by omega))]
      rfl
    rw [← one]
    rcases (show vl f i = 0 ∨ vl f i = 1 by omega) with e | e
    · rw [e, z 1 (by omega) (by omega)]; rfl
    · rw [e, z 0 (by omega) (by omega)]; omega
  · rw [decide_eq_false c, z 0 (by omega) (by omega), z 1 (by omega) (by omega)]; rfl
theorem pin_b {f : Nat → Nat} {yd w : Nat} : ∀ p, pin f yd w = some p → p < 2 ^ 31 := fun p h => by have := (fnd_in (P := fun p => ly f yd p == w + 1) 8 0 p h).2.1; omega
theorem y_dbls {y : OS} {f : Nat → Nat} {N t m : Nat} (h : RY y f N t) (k : Ok f N m) : fX3_doubles y = some (nI (cnt (hasD f) (f 0))) := by
  have h12 := k.2.1
  rw [fX3_doubles, ← sm_cnt]
  refine lpN (L := fun k a i => fX3_doubles_L4 y k a i) (n := f 0) (g := fun i => if hasD f i then 1 else 0) (fin := fun a => some a) (fun j a => ?_) (fun j i a hi => ?_) (f 0) 0 FU (by omega) (FU_gt (by omega))
  · show fX3_doubles_L4 y (j + 1) a (nI (f 0)) = _
    rw [fX3_doubles_L4, h.2.2.1, ifT ((nI_leI (by omega) (by omega)).mpr (Nat.le_refl _))]
  · show fX3_doubles_L4 y (j + 1) (nI a) (nI i) = _
    rw [fX3_doubles_L4, h.2.2.1, ifF (by rw [nI_leI (by omega) (by omega)]; omega), y_dbl h k hi, bs, show nI i + 1 = nI (i + 1) from nI_add i 1, show nI a + 1 = nI (a + 1) from nI_add a 1]
    unfold hasD
    cases q : pin f (vl f i) (i + 20) with
    | none => rw [ifT (show rI none = -4 from rfl)]; rfl
    | some p => rw [ifF (show ¬ rI (some p) = -4 from m4T (pin_b p q))]; rfl
theorem m_dbls {S : OS} {f : Nat → Nat} {N m : Nat} (h : RS S 1 f) (k : Ok f N m) : ∀ (j i u a : Nat), i + j = 16 → j < u → fX5_doubles_L5 S u (nI a) (nI (37 + i)) = some (nI (a + sm (fun p => if decide (20 < f (37 + (i + p))) then 1 else 0) j))
  | 0, i, u, a, hi, hu => by
    cases u with
    | zero => omega
    | succ u => rw [fX5_doubles_L5, ifT (by rw [show i = 16 by omega]; decide)]; rfl
  | j + 1, i, u, a, hi, hu => by
    cases u with
    | zero => omega
    | succ u =>
      have hb : f (37 + i) ≤ 33 := by
        have := k.lt (show i / 8 < 2 by omega) (show i % 8 < 8 by omega)
        unfold ly at this
        rw [show 37 + (i / 8 * 8 + i % 8) = 37 + i by omega] at this
        exact this
      have es : sm (fun p => if decide (20 < f (37 + (i + p))) then 1 else 0) (j + 1) = (if decide (20 < f (37 + i)) then 1 else 0) + sm (fun p => if decide (20 < f (37 + (i + 1 + p))) then 1 else 0) j := by
        have := sm_split (fun p => if decide (20 < f (37 + (i + p))) then 1 else 0) 1 j
        rw [show j + 1 = 1 + j by omega, this]
        have e1 : sm (fun p => if decide (20 < f (37 + (i + p))) then 1 else 0) 1 = if decide (20 < f (37 + i)) then 1 else 0 := by
          rw [sm, sm, Nat.zero_add]; rfl
        rw [e1]
        congr 1
        apply sm_cong
        intro p _
        show (if decide (20 < f (37 + (i + (1 + p)))) = true then 1 else 0) = _
        rw [show i + (1 + p) = i + 1 + p by omega]
      rw [fX5_doubles_L5, ifF (show ¬ 53 ≤ nI (37 + i) from fun e => absurd ((nI_leI (a := 53) (by decide) (by omega)).mp e) (by omega)), gib (by omega) (by decide), nI_clamp (by omega), h _ (by omega), show nI (37 + i) + 1 = nI (37 + i + 1) from nI_add _ 1, show 37 + i + 1 = 37 + (i + 1) by omega, show nI a + 0 = nI a from nI_add a 0, show nI a + 1 = nI (a + 1) from nI_add a 1, es]
      by_cases c : 20 < f (37 + i)
      · rw [ifF (show ¬ nI (f (37 + i)) ≤ 20 from fun e => absurd ((nI_leI (b := 20) (by omega) (by decide)).mp e) (by omega)), m_dbls h k j (i + 1) u (a + 1) (by omega) (by omega), decide_eq_true c]
        congr 2; show a + 1 + _ = a + (1 + _); omega
      · rw [ifT (show nI (f (37 + i)) ≤ 20 from (nI_leI (b := 20) (by omega) (by decide)).mpr (by omega)), m_dbls h k j (i + 1) u a (by omega) (by omega), decide_eq_false c]
        congr 2; show a + _ = a + (0 + _); omega
theorem op_count {Y : YS} {o S : OS} (h : Inv Y o S) (x : Int32) : OpR (fX4_count Y o x) (fX5_count S x) := by
  obtain ⟨f, N, t, P, K, Z, X, ⟨c1, c2, c3, c4, c5⟩, ⟨m1, m2, m3, m4, m5, m6, m7⟩, ⟨g1, -⟩⟩ := id h
  have ed := y_dbls c1 g1
  have em : fX5_doubles S = some (nI (cnt (hasD f) (f 0))) := by
    rw [fX5_doubles, dbl_eq g1, ← sm_cnt]
    refine Eq.trans (m_dbls m1 g1 16 0 FU 0 (by omega) (FU_gt (by omega))) ?_
    congr 2
    rw [Nat.zero_add]
    apply sm_cong
    intro p _
    show (if decide (20 < f (37 + (0 + p))) = true then 1 else 0) = _
    rw [Nat.zero_add]
  rw [fX4_count, fX5_count, c1.1, c1.2.1, c1.2.2.1, c1.2.2.2.1, c2.1, c3.1, c4.1, c5.1, m2, m3, m4.1, m5.1, m6.1, m7.1, z0, show (53 : Int32).toNatClampNeg = 53 from rfl, m1 0 (by omega), m1 53 (by omega), ed, em]
  by_cases b : x.toInt < 0 ∨ 8 < x.toInt
  · have q : ∀ k : Nat, k ≤ 8 → ¬ x = nI k := fun k hk e => by rw [e, nI_toInt (by omega)] at b; omega
    refine ⟨-1, ?_, ?_⟩ <;> rw [ifF (show ¬ x = 0 from q 0 (by omega)), ifF (show ¬ x = 1 from q 1 (by omega)), ifF (show ¬ x = 2 from q 2 (by omega)), ifF (show ¬ x = 3 from q 3 (by omega)), ifF (show ¬ x = 4 from q 4 (by omega)), ifF (show ¬ x = 5 from q 5 (by omega)), ifF (show ¬ x = 6 from q 6 (by omega)), ifF (show ¬ x = 7 from q 7 (by omega)), ifF (show ¬ x = 8 from q 8 (by omega)), ifT b]
  · obtain ⟨k, hk, rfl⟩ := vp_in_of (x := x) (n := 9) (vp_in_iff.mpr ⟨by omega, by omega⟩) (by decide)
    rcases (show k = 0 ∨ k = 1 ∨ k = 2 ∨ k = 3 ∨ k = 4 ∨ k = 5 ∨ k = 6 ∨ k = 7 ∨ k = 8 by omega) with rfl | rfl | rfl | rfl | rfl | rfl | rfl | rfl | rfl <;> exact ⟨_, rfl, rfl⟩
/-! year -/
def dN (z w : Nat) : Nat := ((7919 * z + 6151 * w + 1) * (7919 * z + 6151 * w + 1)) % 65521 / 2
theorem dN_lt (z w : Nat) : dN z w < 32761 := by unfold dN; omega
theorem drawE {z w : Nat} (hz : z ≤ 9999) (hw : w ≤ 30) : (((((((7919 : Int64) * (nI z).toInt64) + ((6151 : Int64) * (nI w).toInt64)) + (1 : Int64)) * ((((7919 : Int64) * (nI z).toInt64) + ((6151 : Int64) * (nI w).toInt64)) + (1 : Int64))) - (((((7919 : Int64) * (nI z).toInt64) + ((6151 : Int64) * (nI w).toInt64)) + (1 : Int64)) * ((((7919 : Int64) * (nI z).toInt64) + ((6151 : Int64) * (nI w).toInt64)) + (1 : Int64))) / (65521 : Int64) * (65521 : Int64)) / (2 : Int64)).toInt32 = nI (dN z w) := by
  have hx : 7919 * z + 6151 * w + 1 < 80000000 := by omega
  have hm : (7919 * z + 6151 * w + 1) * (7919 * z + 6151 * w + 1) < 80000000 * 80000000 := Nat.mul_lt_mul_of_lt_of_lt hx hx
  generalize e : 7919 * z + 6151 * w + 1 = x at hx hm
  have ex : (7919 : Int64) * (nI z).toInt64 + (6151 : Int64) * (nI w).toInt64 + (1 : Int64) = lN x := by
    rw [nI_l (by omega), nI_l (by omega), show (7919 : Int64) = lN 7919 from rfl, show (6151 : Int64) = lN 6151 from rfl, show (1 : Int64) = lN 1 from rfl, lN_mul, lN_mul, lN_add, lN_add, e]
  rw [ex, lN_mul, show (65521 : Int64) = lN 65521 from rfl, show (2 : Int64) = lN 2 from rfl, pk_lRem (by omega) (by omega) (by omega), pk_lDiv (by omega) (by omega) (by omega), lN_i]
  unfold dN
  rw [e]
/-- a winter -/
def wst (f : Nat → Nat) (N D : Nat) : Nat → Nat := sw (if f 0 < 12 then (bry f N (D % 2) (D / 2 % 4) (D / 8 % 10)).2 else f) (D / 64 % 2) (D / 16 % N) (D / 32 % N)
theorem wst1_ok {f : Nat → Nat} {N : Nat} (D : Nat) (k : Ok f N (f 0)) : Ok (if f 0 < 12 then (bry f N (D % 2) (D / 2 % 4) (D / 8 % 10)).2 else f) N ((if f 0 < 12 then (bry f N (D % 2) (D / 2 % 4) (D / 8 % 10)).2 else f) 0) := by
  by_cases c : f 0 < 12
  · rw [if_pos c]
    have := bry_ok (v := D % 2) (k := D / 2 % 4) (F := D / 8 % 10) k c (by omega) (by omega) (by omega)
    rw [this.2]; exact this.1
  · rw [if_neg c]; exact k
theorem wst_ok {f : Nat → Nat} {N : Nat} (D : Nat) (k : Ok f N (f 0)) : Ok (wst f N D) N (wst f N D 0) := by
  have hN := k.1
  have h1 := wst1_ok D k
  have hp := Nat.mod_lt (D / 16) (show 0 < N by omega)
  have hq := Nat.mod_lt (D / 32) (show 0 < N by omega)
  unfold wst
  rw [sw_lo (by omega) (by omega) (by omega) (by omega)]
  exact sw_ok h1 (by omega) hp hq
theorem qI {a d : Nat} (ha : a < 2 ^ 31) (h0 : 0 < d) (hd : d < 2 ^ 31) : nI a / nI d = nI (a / d) := pk_div ha h0 hd
theorem y_winter {y : OS} {f : Nat → Nat} {N t D : Nat} (h : RY y f N t) (k : Ok f N (f 0)) (hD : D < 32761) : ∃ y', fX4_passWinter y (nI D) = some y' ∧ RY y' (wst f N D) N t := by
  have hN := k.1
  have h12 := k.2.1
  have k1 := wst1_ok D k
  have hp := Nat.mod_lt (D / 16) (show 0 < N by omega)
  have hq := Nat.mod_lt (D / 32) (show 0 < N by omega)
  have e64 : nI D / 64 = nI (D / 64) := qI (d := 64) (by omega) (by decide) (by decide)
  have e16 : nI D / 16 = nI (D / 16) := qI (d := 16) (by omega) (by decide) (by decide)
  have e32 : nI D / 32 = nI (D / 32) := qI (d := 32) (by omega) (by decide) (by decide)
  have e2 : nI D / 2 = nI (D / 2) := qI (d := 2) (by omega) (by decide) (by decide)
  have e8 : nI D / 8 = nI (D / 8) := qI (d := 8) (by omega) (by decide) (by decide)
  have r64 : nI (D / 64) - nI (D / 64) / 2 * 2 = nI (D / 64 % 2) := remN (d := 2) (by decide) (by omega) (by decide)
  have r16 : nI (D / 16) - nI (D / 16) / nI N * nI N = nI (D / 16 % N) := remN (by omega) (by omega) (by omega)
  have r32 : nI (D / 32) - nI (D / 32) / nI N * nI N = nI (D / 32 % N) := remN (by omega) (by omega) (by omega)
  have rv : nI D - nI D / 2 * 2 = nI (D % 2) := remN (d := 2) (by decide) (by omega) (by decide)
  have rk : nI (D / 2) - nI (D / 2) / 4 * 4 = nI (D / 2 % 4) := remN (d := 4) (by decide) (by omega) (by decide)
  have rf : nI (D / 8) - nI (D / 8) / 10 * 10 = nI (D / 8 % 10) := remN (d := 10) (by decide) (by omega) (by decide)
  rw [fX4_passWinter, h.2.2.1, rv, e64, e16, e32, e2, e8, r64, rk, rf]
  unfold wst
  by_cases c : f 0 < 12
  · rw [if_pos c] at k1 ⊢
    obtain ⟨y1, d1, s1⟩ := y_addDead (v := D % 2) (k := D / 2 % 4) (F := D / 8 % 10) h k c (by omega) (by omega) (by omega)
    obtain ⟨y2, d2, s2⟩ := y_swap (yd := D / 64 % 2) s1 k1 (by omega) hp hq
    refine ⟨y2, ?_, s2⟩
    rw [ifF (show ¬ 12 ≤ nI (f 0) from fun e => absurd ((nI_leI (a := 12) (by decide) (by omega)).mp e) (by omega)), d1, bs]
    simp only [s1.1]
    rw [ifF (show ¬ nI N ≤ 0 from nI_nle (by omega) (by omega)), nzI (by omega) (by omega), nzI (by omega) (by omega), r16, r32, d2]
    rfl
  · rw [if_neg c] at k1 ⊢
    obtain ⟨y2, d2, s2⟩ := y_swap (yd := D / 64 % 2) h k (by omega) hp hq
    refine ⟨y2, ?_, s2⟩
    rw [ifT (show 12 ≤ nI (f 0) from (nI_leI (a := 12) (by decide) (by omega)).mpr (by omega)), h.1, ifF (show ¬ nI N ≤ 0 from nI_nle (by omega) (by omega)), nzI (by omega) (by omega), nzI (by omega) (by omega), r16, r32, d2]
    rfl
def yst (z N : Nat) : Nat → Nat → (Nat → Nat) → (Nat → Nat)
  | 0, _, f => f
  | j + 1, w, f => yst z N j (w + 1) (wst f N (dN z w))
theorem yst_ok {z N : Nat} : ∀ (j w : Nat) (f : Nat → Nat), Ok f N (f 0) → Ok (yst z N j w f) N (yst z N j w f 0)
  | 0, _, _, k => k
  | j + 1, w, f, k => yst_ok j (w + 1) _ (wst_ok _ k)
def yAns (g : Nat → Nat) (N wh : Nat) : Int32 := if wh = 0 then nI (cnt (owe g 0) (g 0)) + nI (cnt (owe g 1) (g 0)) else nI (cnt (mvd g (an g N)) (g 0))
theorem c_yearL {o : OS} {N t z n wh : Nat} (hz : z ≤ 9999) (hn : n ≤ 30) (hw : wh ≤ 1) : ∀ (j w u : Nat) (Y : YS) (f : Nat → Nat), w + j = n → j < u → RY (Y 2) f N t → Ok f N (f 0) → ∃ Y', fX4_year_L49 (nI z) (nI n) (nI wh) u (nI w) Y o = some (yAns (yst z N j w f) N wh, Y', o) ∧ ∀ x, x ≠ 1 → x ≠ 2 → Y' x = Y x
  | 0, w, u, Y, f, hj, hu, h, k => by
    have h12 := k.2.1
    cases u with
    | zero => omega
    | succ u =>
      rw [fX4_year_L49, ifT ((nI_leI (by omega) (by omega)).mpr (by omega))]
      unfold yAns yst
      rcases (show wh = 0 ∨ wh = 1 by omega) with rfl | rfl
      · have a0 := y_owed (v := 0) h k (by omega)
        have a1 := y_owed (v := 1) h k (by omega)
        refine ⟨Y, ?_, fun _ _ _ => rfl⟩
        rw [ifT (by decide), show fX3_owedOf (Y 2) 0 = _ from a0, bs, show fX3_owedOf (Y 2) 1 = _ from a1]
        rfl
      · obtain ⟨Y', e1, a1, r1⟩ := c_lbr (o := o) h k (by decide)
        have ka := okb_an k.b
        refine ⟨Y', ?_, fun x h1 _ => a1 x h1⟩
        rw [ifF (by decide), fX4_movedIn, e1, bs, c_mvL (by rw [a1 2 (by decide)]; exact h) k r1 ka.1 ka.2, bs, bc_ms h12]
        rfl
  | j + 1, w, u, Y, f, hj, hu, h, k => by
    cases u with
    | zero => omega
    | succ u =>
      obtain ⟨y', e1, r1⟩ := y_winter h k (dN_lt z w)
      obtain ⟨Y', e2, a2⟩ := c_yearL hz hn hw j (w + 1) u (va_up Y 2 y') (wst f N (dN z w)) (by omega) (by omega) (by rw [vu_s]; exact r1) (wst_ok _ k)
      refine ⟨Y', ?_, fun x h1 h2 => by rw [a2 x h1 h2, vu_n h2]⟩
      rw [fX4_year_L49, ifF (by rw [nI_leI (by omega) (by omega)]; omega), fX4_draw, bs, drawE hz (by omega), e1, bs, show nI w + 1 = nI (w + 1) from nI_add w 1]
      exact e2
theorem m_yearL {N z n wh : Nat} (hz : z ≤ 9999) (hn : n ≤ 30) (hw : wh ≤ 1) : ∀ (j w u : Nat) (S : OS) (f : Nat → Nat), w + j = n → j < u → RS S 8 f → S 0 0 = nI N → Ok f N (f 0) → ∃ S', fX5_year_L43 (nI z) (nI n) (nI wh) u (nI w) S = some (yAns (yst z N j w f) N wh, S') ∧ ∀ c, c ≠ 8 → c ≠ 9 → S' c = S c
  | 0, w, u, S, f, hj, hu, h, hN, k => by
    have h12 := k.2.1
    cases u with
    | zero => omega
    | succ u =>
      rw [fX5_year_L43, ifT ((nI_leI (by omega) (by omega)).mpr (by omega))]
      unfold yAns yst
      rcases (show wh = 0 ∨ wh = 1 by omega) with rfl | rfl
      · have a0 := m_owedOn (v := 0) h rfl k (by omega)
        have a1 := m_owedOn (v := 1) h rfl k (by omega)
        refine ⟨S, ?_, fun _ _ _ => rfl⟩
        rw [ifT (by decide), show fX5_owedOn S 8 0 = _ from a0, bs, show fX5_owedOn S 8 1 = _ from a1]
        rfl
      · obtain ⟨S1, e1, o1, r1⟩ := m_put66 (c1 := 9) (c3 := 8) (by decide) rfl rfl h
        obtain ⟨S2, e2, r2, o2⟩ := m_anew (h.eo o1 (by decide)) (by rw [o1 0 (by decide)]; exact hN) k.b
        have ka := okb_an k.b
        refine ⟨S2, ?_, fun c h8 h9 => by rw [o2 c h8, o1 c h9]⟩
        rw [ifF (by decide), e1, bs, e2, bs, m_mvL (r1.eo o2 (by decide)) k r2 ka.1 ka.2, bs, m_bits_ms h12]
        rfl
  | j + 1, w, u, S, f, hj, hu, h, hN, k => by
    cases u with
    | zero => omega
    | succ u =>
      have hN8 := k.1
      have h12 := k.2.1
      have hD := dN_lt z w
      generalize eD : dN z w = D at hD
      have hp := Nat.mod_lt (D / 16) (show 0 < N by omega)
      have hq := Nat.mod_lt (D / 32) (show 0 < N by omega)
      have e64 : nI D / 64 = nI (D / 64) := qI (d := 64) (by omega) (by decide) (by decide)
      have e16 : nI D / 16 = nI (D / 16) := qI (d := 16) (by omega) (by decide) (by decide)
      have e32 : nI D / 32 = nI (D / 32) := qI (d := 32) (by omega) (by decide) (by decide)
      have e2 : nI D / 2 = nI (D / 2) := qI (d := 2) (by omega) (by decide) (by decide)
      have e8 : nI D / 8 = nI (D / 8) := qI (d := 8) (by omega) (by decide) (by decide)
      have r64 : nI (D / 64) - nI (D / 64) / 2 * 2 = nI (D / 64 % 2) := remN (d := 2) (by decide) (by omega) (by decide)
      have r16 : nI (D / 16) - nI (D / 16) / nI N * nI N = nI (D / 16 % N) := remN (by omega) (by omega) (by omega)
      have r32 : nI (D / 32) - nI (D / 32) / nI N * nI N = nI (D / 32 % N) := remN (by omega) (by omega) (by omega)
      have rv : nI D - nI (D / 2) * 2 = nI (D % 2) := by rw [← e2]; exact remN (d := 2) (by decide) (by omega) (by decide)
      have rk : nI (D / 2) - nI (D / 2) / 4 * 4 = nI (D / 2 % 4) := remN (d := 4) (by decide) (by omega) (by decide)
      have rf : nI (D / 8) - nI (D / 8) / 10 * 10 = nI (D / 8 % 10) := remN (d := 10) (by decide) (by omega) (by decide)
      have dr := drawE hz (show w ≤ 30 by omega)
      rw [eD] at dr
      have kw := wst_ok D k
      have k1 := wst1_ok D k
      rw [fX5_year_L43, ifF (by rw [nI_leI (by omega) (by omega)]; omega)]
      simp only [dr, e64, e16, e32, e2, e8]
      rw [z0, h 0 (by omega), show nI w + 1 = nI (w + 1) from nI_add w 1, r64, rv, rk, rf, yst, eD]
      by_cases c : f 0 < 12
      · rw [if_pos c] at k1
        obtain ⟨S1, d1, s1, o1⟩ := m_addsDead (v := D % 2) (k := D / 2 % 4) (F := D / 8 % 10) h c
        obtain ⟨S2, d2, s2, o2⟩ := m_bur s1 (show S1 0 0 = nI N by rw [o1 0 (by decide)]; exact hN) (adn_ok (v := D % 2) (k := D / 2 % 4) (F := D / 8 % 10) k c (by omega) (by omega) (by omega)) (Nat.le_refl _) (show f 0 < adn f (D % 2) (D / 2 % 4) (D / 8 % 10) 0 by rw [adn_0]; omega)
        have e80 : S1 8 0 - 1 = nI (f 0) := by rw [s1 0 (by omega), adn_0]; exact nI_pred _
        have hN2 : S2 0 0 = nI N := by rw [o2 0 (by decide), o1 0 (by decide)]; exact hN
        obtain ⟨S3, d3, s3, o3⟩ := m_changes (yd := D / 64 % 2) (p := D / 16 % N) (q := D / 32 % N) s2 rfl (by omega) (by omega) (by omega)
        have oo := (o1.tr o2).tr o3
        have hw3 : wst f N D = sw (bur (adn f (D % 2) (D / 2 % 4) (D / 8 % 10)) N (f 0)).2 (D / 64 % 2) (D / 16 % N) (D / 32 % N) := by unfold wst; rw [if_pos c]; rfl
        obtain ⟨S', d4, a4⟩ := m_yearL hz hn hw j (w + 1) u S3 (wst f N D) (by omega) (by omega) (by rw [hw3]; exact s3) (by rw [oo 0 (by decide)]; exact hN) kw
        refine ⟨S', ?_, fun c h8 h9 => by rw [a4 c h8 h9, oo c h8]⟩
        rw [ifF (show ¬ 12 ≤ nI (f 0) from fun e => absurd ((nI_leI (a := 12) (by decide) (by omega)).mp e) (by omega)), d1, bs, e80, d2, bs]
        simp only [hN2]
        rw [nzI (by omega) (by omega), nzI (by omega) (by omega), r16, r32, d3, bs]
        exact d4
      · rw [if_neg c] at k1
        obtain ⟨S3, d3, s3, o3⟩ := m_changes (yd := D / 64 % 2) (p := D / 16 % N) (q := D / 32 % N) h rfl (by omega) (by omega) (by omega)
        have hw3 : wst f N D = sw f (D / 64 % 2) (D / 16 % N) (D / 32 % N) := by unfold wst; rw [if_neg c]
        obtain ⟨S', d4, a4⟩ := m_yearL hz hn hw j (w + 1) u S3 (wst f N D) (by omega) (by omega) (by rw [hw3]; exact s3) (by rw [o3 0 (by decide)]; exact hN) kw
        refine ⟨S', ?_, fun c h8 h9 => by rw [a4 c h8 h9, o3 c h8]⟩
        rw [ifT (show 12 ≤ nI (f 0) from (nI_leI (a := 12) (by decide) (by omega)).mpr (by omega)), hN, nzI (by omega) (by omega), nzI (by omega) (by omega), r16, r32, d3, bs]
        exact d4
theorem op_year {Y : YS} {o S : OS} (h : Inv Y o S) (a b c : Int32) : OpW (fX4_year Y o a b c) (fX5_year S a b c) := by
  obtain ⟨f, N, t, P, K, Z, X, hC, hM, hG⟩ := id h
  have c1 := hC.1
  have m1 := hM.1
  have g1 := hG.1
  have hlt : ∀ x y : Int32, x < y ↔ x.toInt < y.toInt := fun x y => Int32.lt_iff_toInt_lt
  have hle : ∀ x y : Int32, x ≤ y ↔ x.toInt ≤ y.toInt := fun x y => Int32.le_iff_toInt_le
  have t0 : (0 : Int32).toInt = 0 := rfl
  have t1 : (1 : Int32).toInt = 1 := rfl
  have t30 : (30 : Int32).toInt = 30 := rfl
  have t9 : (9999 : Int32).toInt = 9999 := rfl
  rw [fX4_year, fX5_year, m_in, m_in, m_in, bs, t0, t1, t30, t9]
  cases ha : iL a 0 9999 with
  | false =>
    have ha := of_decide_eq_false ha
    refine ⟨-1, Y, o, S, ?_, by rw [ibf], h⟩
    by_cases q : a < 0
    · rw [ifT q]
    · rw [ifF q, ifT (by rw [hlt] at q ⊢; omega)]
  | true =>
    have ha' := of_decide_eq_true ha
    rw [ibt, bs, ifF (by rw [hlt]; omega), ifF (by rw [hlt]; omega)]
    cases hb : iL b 1 30 with
    | false =>
      have hb := of_decide_eq_false hb
      refine ⟨-1, Y, o, S, ?_, by rw [ibf], h⟩
      by_cases q : b < 1
      · rw [ifT q]
      · rw [ifF q, ifF (by rw [hlt] at q; rw [hle]; omega)]
    | true =>
      have hb' := of_decide_eq_true hb
      rw [ibt, bs, ifF (by rw [hlt]; omega), ifT (by rw [hle]; omega)]
      obtain ⟨z, -, hz, rfl⟩ := iL_b (lo := 0) (hi := 9999) (by decide) ha
      obtain ⟨n, hn1, hn, rfl⟩ := iL_b (lo := 1) (hi := 30) (by decide) hb
      obtain ⟨Y1, e1, a1, r1⟩ := copyR (Y := Y) (o := o) (i0 := 2) (i1 := 0) (by decide) c1 g1
      obtain ⟨S1, e2, o1, s1⟩ := m_from (c := 1) (by decide) rfl m1
      cases hc : iL c 0 1 with
      | false =>
        have hc := of_decide_eq_false hc
        refine ⟨-1, Y, o, S, ?_, by rw [ibf], h⟩
        rw [ifF (fun e => hc (by rw [e, t0]; omega)), ifF (fun e => hc (by rw [e, t1]; omega))]
      | true =>
        obtain ⟨wh, -, hw, rfl⟩ := iL_b (lo := 0) (hi := 1) (by decide) hc
        obtain ⟨Y2, e3, a3⟩ := c_yearL (o := o) hz hn hw n 0 FU Y1 f (by omega) (FU_gt (by omega)) r1 g1
        obtain ⟨S2, e4, a4⟩ := m_yearL hz hn hw n 0 FU S1 f (by omega) (FU_gt (by omega)) s1 (by rw [o1 0 (by decide)]; exact hM.2.1) g1
        refine ⟨_, Y2, o, S2, ?_, by rw [ibt, e2, bs]; exact e4, Inv.sc hC hM hG (fun i h1 h2 => by rw [a3 i h1 h2, a1 i h2]) (fun _ _ => rfl) rfl (fun c h1 h2 => by rw [a4 c (by omega) (by omega), o1 c (by omega)]) (fun k _ => by rw [a4 0 (by decide) (by decide), o1 0 (by decide)])⟩
        rw [e1, bs]
        rcases (show wh = 0 ∨ wh = 1 by omega) with rfl | rfl
        · rw [ifT (by decide)]; exact e3
        · rw [ifF (by decide), ifT (by decide)]; exact e3
