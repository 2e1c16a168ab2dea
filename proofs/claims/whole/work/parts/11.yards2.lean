/-! ranges -/
def iL (x : Int32) (lo hi : Int) : Bool := decide (lo ≤ x.toInt ∧ x.toInt ≤ hi)
def b01 (b : Bool) : Int32 := if b then 1 else 0
theorem b01_0 (b : Bool) : (b01 b = 0) ↔ b = false := by cases b <;> decide
theorem b01_c (b : Bool) : isC .boolean (b01 b) = true := by cases b <;> decide
theorem m_in (x a b : Int32) : fX5_in x a b = some (b01 (iL x a.toInt b.toInt)) := by
  rw [fX5_in]
  simp only [Int32.lt_iff_toInt_lt]
  unfold iL
  by_cases c1 : x.toInt < a.toInt
  · rw [if_pos c1, decide_eq_false (by omega)]; rfl
  · rw [if_neg c1]
    by_cases c2 : b.toInt < x.toInt
    · rw [if_pos c2, decide_eq_false (by omega)]; rfl
    · rw [if_neg c2, decide_eq_true (by omega)]; rfl
theorem iL_j {x : Int32} {n : Nat} (hn : n < 2 ^ 31) (h : iL x 0 ((n : Int) - 1) = true) : ∃ j, j < n ∧ x = nI j := by
  have h := of_decide_eq_true h
  exact vp_in_of (vp_in_iff.mpr ⟨h.1, by omega⟩) hn
theorem iL_b {x : Int32} {lo hi : Nat} (hn : hi < 2 ^ 31 - 1) (h : iL x (lo : Int) (hi : Int) = true) : ∃ j, lo ≤ j ∧ j ≤ hi ∧ x = nI j := by
  have h := of_decide_eq_true h
  obtain ⟨j, hj, e⟩ := vp_in_of (x := x) (n := hi + 1) (vp_in_iff.mpr ⟨by omega, by omega⟩) (by omega)
  refine ⟨j, ?_, by omega, e⟩
  rw [e, nI_toInt (by omega)] at h
  omega
theorem iL_nI {j : Nat} (hj : j < 2 ^ 31) (lo hi : Int) : iL (nI j) lo hi = decide (lo ≤ (j : Int) ∧ (j : Int) ≤ hi) := by unfold iL; rw [nI_toInt hj]
theorem nm1 {n : Nat} (hn : n < 2 ^ 30) : (nI n - 1).toInt = (n : Int) - 1 := pk_sub_toInt (b := 1) hn (by decide)
theorem has3 {x : Int32} {n m : Nat} (hn : n ≤ m) (hm : m < 2 ^ 31) : (if x < 0 then some 0 else if nI n ≤ x then some 0 else if nI m ≤ x then some 0 else some (1 : Int32)) = some (b01 (iL x 0 ((n : Int) - 1))) := by
  simp only [Int32.lt_iff_toInt_lt, Int32.le_iff_toInt_le]
  rw [nI_toInt (by omega), nI_toInt hm, show (0 : Int32).toInt = 0 from rfl]
  unfold iL
  by_cases c1 : x.toInt < 0
  · rw [if_pos c1, decide_eq_false (by omega)]; rfl
  · rw [if_neg c1]
    by_cases c2 : (n : Int) ≤ x.toInt
    · rw [if_pos c2, decide_eq_false (by omega)]; rfl
    · rw [if_neg c2, if_neg (by omega), decide_eq_true (by omega)]; rfl
theorem rng {x lo hi : Int32} : (if x < lo then some 0 else if hi < x then some 0 else some (1 : Int32)) = some (b01 (iL x lo.toInt hi.toInt)) := m_in x lo hi
theorem y_hasDead {y : OS} {f : Nat → Nat} {N t m : Nat} (h : RY y f N t) (k : Ok f N m) (x : Int32) : fX3_hasDead y x = some (b01 (iL x 0 ((f 0 : Int) - 1))) := by
  rw [fX3_hasDead, h.2.2.1]; exact has3 (m := 12) k.2.1 (by decide)
theorem y_hasPlot {y : OS} {f : Nat → Nat} {N t m : Nat} (h : RY y f N t) (k : Ok f N m) (x : Int32) : fX3_hasPlot y x = some (b01 (iL x 0 ((N : Int) - 1))) := by
  rw [fX3_hasPlot, h.1]; exact has3 (m := 8) k.1.2 (by decide)
theorem y_hasVis {y : OS} {f : Nat → Nat} {N t m : Nat} (h : RY y f N t) (k : Ok f N m) (x : Int32) : fX3_hasVisitor y x = some (b01 (iL x 0 ((f 53 : Int) - 1))) := by
  rw [fX3_hasVisitor, h.2.2.2.1]; exact has3 (m := 6) k.2.2.1 (by decide)
theorem c_isSide (x : Int32) : fX4_isSide x = some (b01 (iL x 0 1)) := by
  rw [fX4_isSide]
  unfold iL
  have e0 : (0 : Int32).toInt = 0 := rfl
  have e1 : (1 : Int32).toInt = 1 := rfl
  by_cases c0 : x = 0
  · rw [if_pos c0, c0, decide_eq_true (by rw [e0]; decide)]; rfl
  · rw [if_neg c0]
    by_cases c1 : x = 1
    · rw [if_pos c1, c1, decide_eq_true (by rw [e1]; decide)]; rfl
    · rw [if_neg c1, decide_eq_false]
      · rfl
      · intro hh
        have h0 : x.toInt ≠ 0 := fun e => c0 (Int32.toInt_inj.mp (e.trans e0.symm))
        have h1 : x.toInt ≠ 1 := fun e => c1 (Int32.toInt_inj.mp (e.trans e1.symm))
        omega
theorem c_isForgiven (x : Int32) : fX4_isForgiven x = some (b01 (iL x 0 9)) := by rw [fX4_isForgiven]; exact rng
theorem c_isMinutes (x : Int32) : fX4_isMinutes x = some (b01 (iL x 1 20)) := by rw [fX4_isMinutes]; exact rng
theorem c_isOne (a b c : Int32) : fX4_isOneOfTheDead a b c = some (b01 (iL a 0 1 && iL b 0 3 && iL c 0 9)) := by
  have hr : (if b < 0 then some 0 else if 3 < b then some 0 else some (1 : Int32)) = some (b01 (iL b 0 3)) := rng
  rw [fX4_isOneOfTheDead, c_isSide, bs]
  cases h1 : iL a 0 1 with
  | false => rfl
  | true =>
    rw [ifF (by decide), c_isForgiven]
    simp only [bs]
    cases h2 : iL b 0 3 with
    | false =>
      rw [h2] at hr
      by_cases c1 : b < 0
      · rw [ifT c1]; rfl
      · rw [ifF c1] at hr ⊢
        by_cases c2 : 3 < b
        · rw [ifT c2]; rfl
        · rw [ifF c2] at hr; cases hr
    | true =>
      rw [h2] at hr
      by_cases c1 : b < 0
      · rw [ifT c1] at hr; cases hr
      · rw [ifF c1] at hr ⊢
        by_cases c2 : 3 < b
        · rw [ifT c2] at hr; cases hr
        · rw [ifF c2]
          cases iL c 0 9 <;> rfl
/-! reads of a Yards -/
section YR
variable {y : OS} {f : Nat → Nat} {N t m : Nat}
theorem iLt {j n : Nat} (h : j < n) (hn : n < 2 ^ 31) : iL (nI j) 0 ((n : Int) - 1) = true := by rw [iL_nI (by omega)]; exact decide_eq_true (by omega)
theorem y_vil (h : RY y f N t) (k : Ok f N m) {i : Nat} (hi : i < f 0) : fX3_villageOf y (nI i) = some (nI (vl f i)) := by
  have := k.2.1
  rw [fX3_villageOf, y_hasDead h k, iLt hi (by omega), bs, ifF (by decide), gib (by omega) (by decide), nI_clamp (by omega), (h.2.2.2.2.1 i hi).1]
theorem y_kind (h : RY y f N t) (k : Ok f N m) {i : Nat} (hi : i < f 0) : fX3_kindOf y (nI i) = some (nI (kd f i)) := by
  have := k.2.1
  rw [fX3_kindOf, y_hasDead h k, iLt hi (by omega), bs, ifF (by decide), gib (by omega) (by decide), nI_clamp (by omega), (h.2.2.2.2.1 i hi).2.1]
theorem y_forg (h : RY y f N t) (k : Ok f N m) {i : Nat} (hi : i < f 0) : fX3_forgivenOf y (nI i) = some (nI (fg f i)) := by
  have := k.2.1
  rw [fX3_forgivenOf, y_hasDead h k, iLt hi (by omega), bs, ifF (by decide), gib (by omega) (by decide), nI_clamp (by omega), (h.2.2.2.2.1 i hi).2.2]
theorem y_visited (h : RY y f N t) (k : Ok f N m) {i : Nat} (hi : i < f 53) : fX3_visitedBy y (nI i) = some (nI (f (54 + 2 * i))) := by
  have := k.2.2.1
  rw [fX3_visitedBy, y_hasVis h k, iLt hi (by omega), bs, ifF (by decide), gib (by omega) (by decide), nI_clamp (by omega), (h.2.2.2.2.2.2 i hi).1]
theorem y_minutes (h : RY y f N t) (k : Ok f N m) {i : Nat} (hi : i < f 53) : fX3_minutesOf y (nI i) = some (nI (f (55 + 2 * i))) := by
  have := k.2.2.1
  rw [fX3_minutesOf, y_hasVis h k, iLt hi (by omega), bs, ifF (by decide), gib (by omega) (by decide), nI_clamp (by omega), (h.2.2.2.2.2.2 i hi).2]
theorem vs1 {v : Nat} (h : v ≤ 1) : (1 : Int32) - nI v = nI (1 - v) := pk_sub (a := 1) h
/-- where one lies -/
def plt (f : Nat → Nat) (i : Nat) : Option Nat := pin f (1 - vl f i) i
theorem y_plot (h : RY y f N t) (k : Ok f N m) {i : Nat} (hi : i < f 0) : fX3_plotOf y (nI i) = some (rI (plt f i)) := by
  have h12 := k.2.1
  have hv := (k.2.2.2.1 i hi).1
  rw [fX3_plotOf, y_hasDead h k, iLt hi (by omega), bs, ifF (by decide), gib (by omega) (by decide), nI_clamp (by omega), (h.2.2.2.2.1 i hi).1, vs1 hv, y_place h k (by omega) (by omega)]
  rfl
theorem y_dbl (h : RY y f N t) (k : Ok f N m) {i : Nat} (hi : i < f 0) : fX3_plotOfDouble y (nI i) = some (rI (pin f (vl f i) (i + 20))) := by
  have h12 := k.2.1
  have hv := (k.2.2.2.1 i hi).1
  rw [fX3_plotOfDouble, y_hasDead h k, iLt hi (by omega), bs, ifF (by decide), gib (by omega) (by decide), nI_clamp (by omega), (h.2.2.2.2.1 i hi).1, show nI i + 20 = nI (i + 20) from nI_add i 20, y_place h k (by omega) (by omega)]
  rfl
theorem y_plot_no (h : RY y f N t) (k : Ok f N m) {x : Int32} (hx : iL x 0 ((f 0 : Int) - 1) = false) : fX3_plotOf y x = some (-4) := by
  rw [fX3_plotOf, y_hasDead h k, hx]; rfl
theorem plt_lt {i p : Nat} (h : plt f i = some p) : p < 8 ∧ ly f (1 - vl f i) p = i + 1 := by
  have := fnd_in (P := fun p => ly f (1 - vl f i) p == i + 1) 8 0 p h
  exact ⟨by omega, by simpa using this.2.2⟩
end YR
/-! free plots -/
def nxt (N : Nat) (fw : Bool) (p : Nat) : Nat := if fw then (if p + 1 < N then p + 1 else 0) else (if p = 0 then N - 1 else p - 1)
def sf (f : Nat → Nat) (N yd : Nat) (fw : Bool) : Nat → Nat → Option Nat
  | 0, _ => none
  | m + 1, p => if ly f yd p = 0 then some p else sf f N yd fw m (nxt N fw p)
def fp (f : Nat → Nat) (N yd k F : Nat) : Option Nat := if k = 2 then sf f N yd true N 0 else if k = 1 then sf f N yd false N ((9 - F) * N / 10) else sf f N yd true N ((9 - F) * N / 10)
theorem nxt_lt {N p : Nat} (fw : Bool) (hN : 2 ≤ N) (hp : p < N) : nxt N fw p < N := by
  unfold nxt
  cases fw
  · simp only [Bool.false_eq_true, if_false]; split <;> omega
  · simp only [if_true]; split <;> omega
theorem sf_in {f : Nat → Nat} {N yd : Nat} (fw : Bool) (hN : 2 ≤ N) : ∀ (m p q : Nat), p < N → sf f N yd fw m p = some q → q < N ∧ ly f yd q = 0
  | 0, p, q, _, h => by cases h
  | m + 1, p, q, hp, h => by
    rw [sf] at h
    by_cases c : ly f yd p = 0
    · rw [if_pos c] at h; cases h; exact ⟨hp, c⟩
    · rw [if_neg c] at h; exact sf_in fw hN m _ q (nxt_lt fw hN hp) h
theorem fp_w {N F : Nat} (hN : 2 ≤ N) (hN8 : N ≤ 8) : (9 - F) * N / 10 < N := by
  have : (9 - F) * N ≤ 9 * N := Nat.mul_le_mul_right N (by omega)
  omega
theorem fp_in {f : Nat → Nat} {N yd k F q : Nat} (hN : 2 ≤ N) (hN8 : N ≤ 8) (h : fp f N yd k F = some q) : q < N ∧ ly f yd q = 0 := by
  unfold fp at h
  have hw := fp_w (F := F) hN hN8
  by_cases c : k = 2
  · rw [if_pos c] at h; exact sf_in _ hN N 0 q (by omega) h
  · rw [if_neg c] at h
    by_cases c1 : k = 1
    · rw [if_pos c1] at h; exact sf_in _ hN N _ q hw h
    · rw [if_neg c1] at h; exact sf_in _ hN N _ q hw h
theorem nI_m1 {p : Nat} (h : 0 < p) : nI p + (-1) = nI (p - 1) := sb_m1 h
theorem y_freeL {y : OS} {f : Nat → Nat} {N t m : Nat} (h : RY y f N t) (k : Ok f N m) {yd : Nat} (hy : yd < 2) (fw : Bool) : ∀ (j p c u : Nat), c + j = N → p < N → j < u → fX3_freePlot_L38 y (nI yd) (if fw then 1 else -1) u (nI p) (nI c) = some (rI (sf f N yd fw j p))
  | 0, p, c, u, hc, hp, hu => by
    have hN := k.1
    cases u with
    | zero => omega
    | succ u =>
      rw [fX3_freePlot_L38, h.1, ifT ((nI_leI (by omega) (by omega)).mpr (by omega))]; rfl
  | j + 1, p, c, u, hc, hp, hu => by
    have hN := k.1
    cases u with
    | zero => omega
    | succ u =>
      have hl := k.lt hy (show p < 8 by omega)
      rw [fX3_freePlot_L38, h.1, ifF (by rw [nI_leI (by omega) (by omega)]; omega), y_who h k hy (by omega), bs, sf]
      by_cases c0 : ly f yd p = 0
      · rw [if_pos c0, ifT ((wI_m4 (by omega)).mpr c0)]; rfl
      · rw [if_neg c0, ifF (fun e => c0 ((wI_m4 (by omega)).mp e))]
        have ec : nI c + 1 = nI (c + 1) := nI_add c 1
        cases fw with
        | true =>
          have ih := y_freeL h k hy true j
          simp only [if_true] at ih ⊢
          have ep : nI p + 1 = nI (p + 1) := nI_add p 1
          rw [ep, ec]
          by_cases c1 : p + 1 < N
          · rw [ifT ((nI_ltI (by omega) (by omega)).mpr c1), ifT (nI_pos' (by omega)), ih _ _ _ (by omega) c1 (by omega)]
            simp [nxt, c1]
          · rw [ifF (fun e => c1 ((nI_ltI (by omega) (by omega)).mp e))]
            have := ih 0 (c + 1) u (by omega) (by omega) (by omega)
            rw [show (0 : Int32) = nI 0 from rfl, this]
            simp [nxt, c1]
        | false =>
          have ih := y_freeL h k hy false j
          simp only [Bool.false_eq_true, if_false] at ih ⊢
          rw [ec]
          by_cases c1 : p = 0
          · subst c1
            have e1 : nI 0 + (-1) = (-1 : Int32) := by decide
            rw [e1, ifT (by rw [Int32.lt_iff_toInt_lt, nI_toInt (by omega)]; show (-1 : Int) < _; omega), ifF (by decide), show nI N - 1 = nI (N - 1) from pk_sub (b := 1) (by omega), ih _ _ _ (by omega) (by omega) (by omega)]
            simp [nxt]
          · rw [nI_m1 (by omega), ifT ((nI_ltI (by omega) (by omega)).mpr (by omega)), ifT (nI_pos' (by omega)), ih _ _ _ (by omega) (by omega) (by omega)]
            simp [nxt, c1]
theorem wants {N F : Nat} (hN8 : N ≤ 8) (hF : F ≤ 9) : ((9 - nI F) * nI N) / 10 = nI ((9 - F) * N / 10) := by
  have e : (9 : Int32) - nI F = nI (9 - F) := pk_sub (a := 9) hF
  have hb : (9 - F) * N ≤ 9 * 8 := Nat.mul_le_mul (by omega) hN8
  rw [e, pk_mul]
  exact pk_div (d := 10) (by omega) (by decide) (by decide)
theorem y_free {y : OS} {f : Nat → Nat} {N t m : Nat} (h : RY y f N t) (k : Ok f N m) {yd kk F : Nat} (hy : yd < 2) (hk : kk < 4) (hF : F ≤ 9) : fX3_freePlot y (nI yd) (nI kk) (nI F) = some (rI (fp f N yd kk F)) := by
  have hN := k.1
  have hw := fp_w (F := F) hN.1 hN.2
  rw [fX3_freePlot, h.1, wants hN.2 hF]
  have a1 := y_freeL h k hy true N 0 0 FU (by omega) (by omega) (FU_gt (by omega))
  have a2 := y_freeL h k hy true N ((9 - F) * N / 10) 0 FU (by omega) hw (FU_gt (by omega))
  have a3 := y_freeL h k hy false N ((9 - F) * N / 10) 0 FU (by omega) hw (FU_gt (by omega))
  simp only [if_true, Bool.false_eq_true, if_false] at a1 a2 a3
  have e2 : (nI kk = 2) ↔ kk = 2 := nI_eq (b := 2) (by omega) (by decide)
  have e1 : (nI kk = 1) ↔ kk = 1 := nI_eq (b := 1) (by omega) (by decide)
  simp only [e1, e2]
  unfold fp
  by_cases c2 : kk = 2
  · rw [if_pos c2, if_pos c2, if_neg (by omega)]; exact a1
  · rw [if_neg c2, if_neg c2]
    by_cases c1 : kk = 1
    · rw [if_pos c1, if_pos c1]; exact a3
    · rw [if_neg c1, if_neg c1]; exact a2
