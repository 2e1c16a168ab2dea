/-! parts of the invariant, one by one -/
section CG
variable {Y Y' : YS} {o o' S S' : OS} {N t : Nat} {P K : Tp} {Z : Tz} {X : Tx}
theorem CP.cg (h : CP Y o N t P) (h13 : o' 13 = o 13) (h14 : o' 14 = o 14) (hY : ∀ i, 3 ≤ i → i < 11 → Y' i = Y i) (hP : P.1 ≤ 8) : CP Y' o' N t P := by
  obtain ⟨p1, pr, p2, p3, p4⟩ := h
  refine ⟨by rw [h13]; exact p1, pr, fun j hj => by rw [h14]; exact p2 j hj, p3, fun j hj => ?_⟩
  have := p2 j (by omega)
  rw [hY _ (by omega) (by omega)]; exact p4 j hj
theorem CK.cg (h : CK Y o N t K) (h15 : o' 15 = o 15) (h16 : o' 16 = o 16) (hY : ∀ i, 11 ≤ i → Y' i = Y i) : CK Y' o' N t K := by
  obtain ⟨k1, k2, k3, k4⟩ := h
  exact ⟨by rw [h15]; exact k1, by rw [h16]; exact k2, by rw [h16]; exact k3, fun j hj => by rw [hY _ (by omega)]; exact k4 j hj⟩
theorem CZ.cg (h : CZ o Z) (h0 : o' 0 9 = o 0 9) (h1 : o' 1 = o 1) (h2 : o' 2 = o 2) : CZ o' Z := ⟨by rw [h0]; exact h.1, fun j hj => by rw [h1, h2]; exact h.2 j hj⟩
theorem CX.cg (h : CX o X) (h3 : o' 3 0 = o 3 0) (h4 : o' 4 = o 4) : CX o' X := ⟨by rw [h3]; exact h.1, fun j hj => by rw [h4]; exact h.2 j hj⟩
theorem MP.cg (h : MP S P) (h0 : S' 0 3 = S 0 3) (h2 : S' 2 = S 2) : MP S' P := ⟨by rw [h0]; exact h.1, fun j k a b => by rw [h2]; exact h.2 j k a b⟩
theorem MK.cg (h : MK S K) (h0 : S' 0 5 = S 0 5) (h3 : S' 3 = S 3) : MK S' K := ⟨by rw [h0]; exact h.1, fun j k a b => by rw [h3]; exact h.2 j k a b⟩
theorem MZ.cg (h : MZ S Z) (h0 : S' 0 7 = S 0 7) (h4 : S' 4 = S 4) : MZ S' Z := ⟨by rw [h0]; exact h.1, fun j a => by rw [h4]; exact h.2 j a⟩
theorem MX.cg (h : MX S X) (h0 : S' 0 10 = S 0 10) (h5 : S' 5 = S 5) : MX S' X := ⟨by rw [h0]; exact h.1, fun j a => by rw [h5]; exact h.2 j a⟩
end CG
/-- class and reference answer alike, and the invariant holds again -/
def OpW (c : Option (Int32 × YS × OS)) (m : Option (Int32 × OS)) : Prop := ∃ r Y' o' S', c = some (r, Y', o') ∧ m = some (r, S') ∧ Inv Y' o' S'
def OpR (c m : Option Int32) : Prop := ∃ r, c = some r ∧ m = some r
theorem ibt {α : Type} {a b : α} : (if b01 true = 0 then a else b) = b := rfl
theorem ibf {α : Type} {a b : α} : (if b01 false = 0 then a else b) = a := rfl
theorem iff0 {x : Int32} {lo hi : Int} (h : ¬ (lo ≤ x.toInt ∧ x.toInt ≤ hi)) : iL x lo hi = false := decide_eq_false h
theorem cN {j : Nat} (h : j < 65536) : ((nI j).toUInt32 % 65536).toInt32 = nI j := by
  rw [pk_char, pk_tn (by omega), Nat.mod_eq_of_lt h]
theorem upd_pt {g : Nat → Int32} {T : Nat → Nat} {n x : Nat} (h : ∀ j, j < n → g j = nI (T j)) : ∀ j, j < n + 1 → upd g n (nI x) j = nI (pt T n x j) := by
  intro j hj
  by_cases e : j = n
  · subst e; rw [upd_s, pt_s]
  · rw [upd_n e, pt_n e]; exact h j (by omega)
theorem op_write {Y : YS} {o S : OS} (h : Inv Y o S) (x : Int32) : OpW (fX4_write Y o x) (fX5_write S x) := by
  obtain ⟨f, N, t, P, K, Z, X, hC, hM, hG⟩ := id h
  obtain ⟨c1, c2, c3, c4, c5⟩ := hC
  obtain ⟨m1, m2, m3, m4, m5, m6, m7⟩ := hM
  obtain ⟨g1, g2, g3, g4, g5, g6⟩ := hG
  have e32 : (32 : Int32).toInt = 32 := rfl
  have e126 : (126 : Int32).toInt = 126 := rfl
  rw [fX4_write, fX5_write, m_in, bs, e32, e126]
  by_cases b1 : x < 32
  · rw [ifT b1, iff0 (by rw [Int32.lt_iff_toInt_lt, e32] at b1; omega), ibf]
    exact ⟨_, _, _, _, rfl, rfl, h⟩
  · rw [ifF b1]
    by_cases b2 : x ≤ 126
    · have hi : iL x 32 126 = true := decide_eq_true (by rw [Int32.lt_iff_toInt_lt, e32] at b1; rw [Int32.le_iff_toInt_le, e126] at b2; omega)
      obtain ⟨j, j1, j2, rfl⟩ := iL_b (lo := 32) (hi := 126) (by decide) hi
      rw [ifT b2, hi, ibt, c5.1, m7.1]
      by_cases b3 : X.1 = 200
      · rw [ifF (by rw [b3]; decide), ifT (by rw [b3]; rfl)]
        exact ⟨_, _, _, _, rfl, rfl, h⟩
      · have hX := g6.1
        rw [ifT (show nI X.1 < 200 from (nI_ltI (b := 200) (by omega) (by decide)).mpr (by omega)), ifF (show ¬ nI X.1 = 200 from fun e => b3 ((nI_eq (b := 200) (by omega) (by decide)).mp e)), fX2_append, c5.1, ifF (nI_pos (by omega)), ifF (show ¬ 200 ≤ nI X.1 from fun e => absurd ((nI_leI (a := 200) (by decide) (by omega)).mp e) (by omega)), gib (by omega) (by decide), gib (by omega) (by decide), pk_vc, cN (by omega), bs, nI_clamp (by omega)]
        have ec : u2 o 4 X.1 (nI j) 3 0 + 1 = nI (X.1 + 1) := by rw [u2_ne (by decide), c5.1]; exact nI_add _ 1
        have em : u2 S 5 X.1 (nI j) 0 10 + 1 = nI (X.1 + 1) := by rw [u2_ne (by decide), m7.1]; exact nI_add _ 1
        rw [ec, em]
        refine ⟨nI (X.1 + 1), Y, u2 (u2 o 4 X.1 (nI j)) 3 0 (nI (X.1 + 1)), u2 (u2 S 5 X.1 (nI j)) 0 10 (nI (X.1 + 1)), ?_, ?_, f, N, t, P, K, Z, (X.1 + 1, pt X.2 X.1 j), ⟨c1, c2.cg ?_ ?_ (fun _ _ _ => rfl) g3.1, c3.cg ?_ ?_ (fun _ _ => rfl), c4.cg ?_ ?_ ?_, ?_⟩, ⟨fun k hk => ?_, ?_, ?_, m4.cg ?_ ?_, m5.cg ?_ ?_, m6.cg ?_ ?_, ?_⟩, g1, g2, g3, g4, g5, ⟨?_, ?_⟩⟩
        · show some (u2 (u2 o 4 X.1 (nI j)) 3 0 (nI (X.1 + 1)) 3 0, _, _) = _
          rw [u2_eq, upd_s]
        · rw [u2_eq, upd_s]
        all_goals (first | (rw [u2_ne (by decide), u2_ne (by decide)]; done) | skip)
        · refine ⟨by rw [u2_eq, upd_s], fun k hk => ?_⟩
          rw [u2_ne (by decide), u2_eq]
          exact upd_pt c5.2 k hk
        · rw [u2_ne (by decide), u2_ne (by decide)]; exact m1 k hk
        · rw [u2_eq, upd_n (by decide), u2_ne (by decide)]; exact m2
        · rw [u2_eq, upd_n (by decide), u2_ne (by decide)]; exact m3
        · rw [u2_eq, upd_n (by decide), u2_ne (by decide)]
        · rw [u2_eq, upd_n (by decide), u2_ne (by decide)]
        · rw [u2_eq, upd_n (by decide), u2_ne (by decide)]
        · refine ⟨by rw [u2_eq, upd_s], fun k hk => ?_⟩
          rw [u2_ne (by decide), u2_eq]
          exact upd_pt m7.2 k hk
        · show X.1 + 1 ≤ 200; omega
        · intro k hk
          show 32 ≤ pt X.2 X.1 j k ∧ pt X.2 X.1 j k ≤ 126
          have hk : k < X.1 + 1 := hk
          by_cases e : k = X.1
          · subst e; rw [pt_s]; omega
          · rw [pt_n e]; exact g6.2 k (by omega)
    · rw [ifF b2, iff0 (by rw [Int32.le_iff_toInt_le, e126] at b2; omega), ibf]
      exact ⟨_, _, _, _, rfl, rfl, h⟩
theorem op_wipe {Y : YS} {o S : OS} (h : Inv Y o S) : OpW (fX4_wipe Y o) (fX5_wipe S) := by
  obtain ⟨f, N, t, P, K, Z, X, hC, hM, hG⟩ := id h
  obtain ⟨c1, c2, c3, c4, c5⟩ := hC
  obtain ⟨m1, m2, m3, m4, m5, m6, m7⟩ := hM
  obtain ⟨g1, g2, g3, g4, g5, g6⟩ := hG
  rw [fX4_wipe, fX5_wipe, c5.1, m7.1]
  refine ⟨_, _, _, _, rfl, rfl, f, N, t, P, K, Z, (0, X.2), ⟨c1, c2.cg ?_ ?_ (fun _ _ _ => rfl) g3.1, c3.cg ?_ ?_ (fun _ _ => rfl), c4.cg ?_ ?_ ?_, ⟨?_, fun j hj => absurd hj (Nat.not_lt_zero j)⟩⟩, ⟨fun k hk => ?_, ?_, ?_, m4.cg ?_ ?_, m5.cg ?_ ?_, m6.cg ?_ ?_, ⟨?_, fun j hj => absurd hj (Nat.not_lt_zero j)⟩⟩, g1, g2, g3, g4, g5, ⟨Nat.zero_le _, fun j hj => absurd hj (Nat.not_lt_zero j)⟩⟩
  all_goals (first | (rw [u2_ne (by decide)]; done) | (rw [u2_eq, upd_n (by decide)]; done) | skip)
  · rw [u2_eq, upd_s]; rfl
  · rw [u2_ne (by decide)]; exact m1 k hk
  · rw [u2_eq, upd_n (by decide)]; exact m2
  · rw [u2_eq, upd_n (by decide)]; exact m3
  · rw [u2_eq, upd_s]; rfl
theorem m_isDead {S : OS} {f : Nat → Nat} (h : RS S 1 f) (h12 : f 0 ≤ 12) (x : Int32) : fX5_isDead S x = some (b01 (iL x 0 ((f 0 : Int) - 1))) := by
  rw [fX5_isDead, m_in, bs, b01_c, gB_t, z0, h 0 (by omega), nm1 (by omega)]; rfl
theorem m_isPlot {S : OS} {N : Nat} (h : S 0 0 = nI N) (hN : N ≤ 8) (x : Int32) : fX5_isPlot S x = some (b01 (iL x 0 ((N : Int) - 1))) := by
  rw [fX5_isPlot, m_in, bs, b01_c, gB_t, h, nm1 (by omega)]; rfl
theorem m_isOne (S : OS) (a b c : Int32) : fX5_isOne S a b c = some (b01 (iL a 0 1 && iL b 0 3 && iL c 0 9)) := by
  rw [fX5_isOne, m_in, m_in, m_in]
  simp only [bs]
  show (if b01 (iL a 0 1) = 0 then _ else if b01 (iL b 0 3) = 0 then _ else if b01 (iL c 0 9) = 0 then _ else _) = _
  cases iL a 0 1 <;> cases iL b 0 3 <;> cases iL c 0 9 <;> rfl
theorem op_dead {Y : YS} {o S : OS} (h : Inv Y o S) (x w : Int32) : OpR (fX4_dead Y o x w) (fX5_dead S x w) := by
  obtain ⟨f, N, t, P, K, Z, X, ⟨c1, -⟩, ⟨m1, m2, -⟩, ⟨g1, -⟩⟩ := id h
  have h12 := g1.2.1
  rw [fX4_dead, fX5_dead, y_hasDead c1 g1, m_isDead m1 h12, bs, bs]
  cases hx : iL x 0 ((f 0 : Int) - 1) with
  | false => exact ⟨_, rfl, rfl⟩
  | true =>
    obtain ⟨i, hi, rfl⟩ := iL_j (by omega) hx
    have hv := g1.2.2.2.1 i hi
    rw [ibt, ibt, m_in, bs, show (0 : Int32).toInt = 0 from rfl, show (4 : Int32).toInt = 4 from rfl]
    cases hw : iL w 0 4 with
    | false =>
      have hw := of_decide_eq_false hw
      have q : ∀ k : Nat, k ≤ 4 → ¬ w = nI k := fun k hk e => hw (by rw [e, nI_toInt (by omega)]; omega)
      refine ⟨-1, ?_, by rw [ibf]⟩
      rw [ifF (show ¬ w = 0 from q 0 (by omega)), ifF (show ¬ w = 1 from q 1 (by omega)), ifF (show ¬ w = 2 from q 2 (by omega)), ifF (show ¬ w = 3 from q 3 (by omega)), ifF (show ¬ w = 4 from q 4 (by omega)), ifT (by omega)]
    | true =>
      obtain ⟨k, -, hk, rfl⟩ := iL_b (lo := 0) (hi := 4) (by decide) hw
      rw [ibt]
      rcases (show k = 0 ∨ k = 1 ∨ k = 2 ∨ k = 3 ∨ k = 4 by omega) with rfl | rfl | rfl | rfl | rfl
      · refine ⟨nI (vl f i), ?_, ?_⟩
        · rw [ifT (by decide), y_vil c1 g1 hi, bs]
        · rw [ifF (by decide), ix1, nI_add, gib (by omega) (by decide), nI_clamp (by omega), m1 _ (by omega)]; rfl
      · refine ⟨nI (kd f i), ?_, ?_⟩
        · rw [ifF (by decide), ifT (by decide), y_kind c1 g1 hi, bs]
        · rw [ifF (by decide), ix1, nI_add, gib (by omega) (by decide), nI_clamp (by omega), m1 _ (by omega), show f (1 + 3 * i + 1) = kd f i from congrArg f (by omega)]
      · refine ⟨nI (fg f i), ?_, ?_⟩
        · rw [ifF (by decide), ifF (by decide), ifT (by decide), y_forg c1 g1 hi, bs]
        · rw [ifF (by decide), ix1, nI_add, gib (by omega) (by decide), nI_clamp (by omega), m1 _ (by omega), show f (1 + 3 * i + 2) = fg f i from congrArg f (by omega)]
      · refine ⟨rI (plt f i), ?_, ?_⟩
        · rw [ifF (by decide), ifF (by decide), ifF (by decide), ifT (by decide), y_plot c1 g1 hi, bs]
        · rw [ifT (by decide), ifT (by decide), m_plotOf m1 rfl g1 hi, bs]
      · refine ⟨rI (pin f (vl f i) (i + 20)), ?_, ?_⟩
        · rw [ifF (by decide), ifF (by decide), ifF (by decide), ifF (by decide), ifT (by decide), y_dbl c1 g1 hi, bs]
        · rw [ifT (by decide), ifF (by decide), ix1, gib (by omega) (by decide), nI_clamp (by omega), m1 _ (by omega), show f (1 + 3 * i) = vl f i from rfl, show nI i + 20 = nI (i + 20) from nI_add i 20, m_plotIn m1 rfl g1 (by omega) (by omega), bs]
theorem m_whoIs {k : Nat} (hk : k < 2 ^ 31) : fX5_whoIs (nI k) = some (wI k) := by
  rw [fX5_whoIs]
  cases k with
  | zero => rfl
  | succ k => rw [ifF (nI_ne0 (by omega) hk), show nI (k + 1) - 1 = nI k from nI_pred k, wI_s]
theorem op_plot {Y : YS} {o S : OS} {f : Nat → Nat} {N t : Nat} (c1 : RY (Y 0) f N t) (m1 : RS S 1 f) (m2 : S 0 0 = nI N) (g1 : Ok f N (f 0)) (x w : Int32) : OpR (fX4_plot Y o x w) (fX5_plot S x w) := by
  have hN := g1.1
  rw [fX4_plot, fX5_plot, c_isSide, m_in, bs, bs, show (0 : Int32).toInt = 0 from rfl, show (1 : Int32).toInt = 1 from rfl]
  cases hx : iL x 0 1 with
  | false => exact ⟨_, rfl, rfl⟩
  | true =>
    obtain ⟨yd, -, hy, rfl⟩ := iL_b (lo := 0) (hi := 1) (by decide) hx
    rw [ibt, ibt, y_hasPlot c1 g1, m_isPlot m2 hN.2, bs, bs]
    cases hw : iL w 0 ((N : Int) - 1) with
    | false => exact ⟨_, rfl, rfl⟩
    | true =>
      obtain ⟨p, hp, rfl⟩ := iL_j (by omega) hw
      have hl := g1.lt (show yd < 2 by omega) (show p < 8 by omega)
      rw [ibt, ibt, y_who c1 g1 (by omega) (by omega), ixL, gib (by omega) (by decide), nI_clamp (by omega), m1 _ (by omega), show f (37 + (yd * 8 + p)) = ly f yd p from rfl, m_whoIs (by omega)]
      exact ⟨_, rfl, rfl⟩
theorem op_plot' {Y : YS} {o S : OS} (h : Inv Y o S) (x w : Int32) : OpR (fX4_plot Y o x w) (fX5_plot S x w) := by
  obtain ⟨f, N, t, P, K, Z, X, ⟨c1, -⟩, ⟨m1, m2, -⟩, ⟨g1, -⟩⟩ := h
  exact op_plot c1 m1 m2 g1 x w
theorem op_visitor {Y : YS} {o S : OS} (h : Inv Y o S) (x w : Int32) : OpR (fX4_visitor Y o x w) (fX5_visitor S x w) := by
  obtain ⟨f, N, t, P, K, Z, X, ⟨c1, -⟩, ⟨m1, m2, -⟩, ⟨g1, -⟩⟩ := id h
  have h6 := g1.2.2.1
  rw [fX4_visitor, fX5_visitor, y_hasVis c1 g1, m_in, bs, bs, show (53 : Int32).toNatClampNeg = 53 from rfl, m1 53 (by omega), nm1 (by omega), show (0 : Int32).toInt = 0 from rfl]
  cases hx : iL x 0 ((f 53 : Int) - 1) with
  | false => exact ⟨_, rfl, rfl⟩
  | true =>
    obtain ⟨i, hi, rfl⟩ := iL_j (by omega) hx
    rw [ibt, ibt, m_in, bs, show (0 : Int32).toInt = 0 from rfl, show (1 : Int32).toInt = 1 from rfl]
    have e54 : (54 : Int32) + (2 * nI i) = nI (54 + 2 * i) := by rw [show (54 : Int32) = nI 54 from rfl, show (2 : Int32) = nI 2 from rfl, pk_mul, nI_add]
    cases hw : iL w 0 1 with
    | false =>
      have hw := of_decide_eq_false hw
      have q : ∀ k : Nat, k ≤ 1 → ¬ w = nI k := fun k hk e => hw (by rw [e, nI_toInt (by omega)]; omega)
      exact ⟨-1, by rw [ifF (show ¬ w = 0 from q 0 (by omega)), ifF (show ¬ w = 1 from q 1 (by omega))], by rw [ibf]⟩
    | true =>
      obtain ⟨k, -, hk, rfl⟩ := iL_b (lo := 0) (hi := 1) (by decide) hw
      rw [ibt, e54, nI_add, gib (by omega) (by decide), nI_clamp (by omega), m1 _ (by omega)]
      rcases (show k = 0 ∨ k = 1 by omega) with rfl | rfl
      · exact ⟨nI (f (54 + 2 * i)), by rw [ifT (by decide), y_visited c1 g1 hi, bs], rfl⟩
      · exact ⟨_, by rw [ifF (by decide), ifT (by decide), y_minutes c1 g1 hi, bs], by rw [show 54 + 2 * i + 1 = 55 + 2 * i by omega]⟩
theorem op_forget {Y : YS} {o S : OS} (h : Inv Y o S) : OpW (fX4_forget Y o) (fX5_forget S) := by
  obtain ⟨f, N, t, P, K, Z, X, hC, hM, hG⟩ := id h
  obtain ⟨c1, c2, c3, c4, c5⟩ := hC
  obtain ⟨m1, m2, m3, m4, m5, m6, m7⟩ := hM
  obtain ⟨g1, g2, g3, g4, g5, g6⟩ := hG
  rw [fX4_forget, fX5_forget, c4.1, m6.1]
  refine ⟨_, _, _, _, rfl, rfl, f, N, t, P, K, (0, Z.2), X, ⟨c1, c2.cg ?_ ?_ (fun _ _ _ => rfl) g3.1, c3.cg ?_ ?_ (fun _ _ => rfl), ⟨?_, fun j hj => absurd hj (Nat.not_lt_zero j)⟩, c5.cg ?_ ?_⟩, ⟨fun k hk => ?_, ?_, ?_, m4.cg ?_ ?_, m5.cg ?_ ?_, ⟨?_, fun j hj => absurd hj (Nat.not_lt_zero j)⟩, m7.cg ?_ ?_⟩, g1, g2, g3, g4, ⟨Nat.zero_le _, fun j hj => absurd hj (Nat.not_lt_zero j)⟩, g6⟩
  all_goals (first | (rw [u2_ne (by decide)]; done) | (rw [u2_eq, upd_n (by decide)]; done) | skip)
  · rw [u2_eq, upd_s]; rfl
  · rw [u2_ne (by decide)]; exact m1 k hk
  · rw [u2_eq, upd_n (by decide)]; exact m2
  · rw [u2_eq, upd_n (by decide)]; exact m3
  · rw [u2_eq, upd_s]; rfl
theorem op_seen {Y : YS} {o S : OS} (h : Inv Y o S) (x w : Int32) : OpW (fX4_seen Y o x w) (fX5_seen S x w) := by
  obtain ⟨f, N, t, P, K, Z, X, hC, hM, hG⟩ := id h
  obtain ⟨c1, c2, c3, c4, c5⟩ := hC
  obtain ⟨m1, m2, m3, m4, m5, m6, m7⟩ := hM
  obtain ⟨g1, g2, g3, g4, g5, g6⟩ := hG
  have h12 := g1.2.1
  have hN := g1.1
  rw [fX4_seen, fX5_seen, y_hasDead c1 g1, m_isDead m1 h12, bs, bs]
  cases hx : iL x 0 ((f 0 : Int) - 1) with
  | false => exact ⟨_, _, _, _, rfl, rfl, h⟩
  | true =>
    obtain ⟨i, hi, rfl⟩ := iL_j (by omega) hx
    rw [ibt, ibt, y_hasPlot c1 g1, m_isPlot m2 hN.2, bs, bs]
    cases hw : iL w 0 ((N : Int) - 1) with
    | false => exact ⟨_, _, _, _, rfl, rfl, h⟩
    | true =>
      obtain ⟨p, hp, rfl⟩ := iL_j (by omega) hw
      have hz := g5.1
      rw [ibt, ibt, c4.1, m6.1, ifF (nI_pos (by omega))]
      by_cases b : Z.1 = 8
      · rw [ifF (by rw [b]; decide), ifT (by rw [b]; rfl)]
        exact ⟨_, _, _, _, rfl, rfl, h⟩
      · have e2 : ∀ k, (2 : Int32) * nI k = nI (2 * k) := fun k => by rw [show (2 : Int32) = nI 2 from rfl, pk_mul]
        rw [ifT (show nI Z.1 < 8 from (nI_ltI (b := 8) (by omega) (by decide)).mpr (by omega)), ifF (show ¬ nI Z.1 = 8 from fun e => b ((nI_eq (b := 8) (by omega) (by decide)).mp e))]
        simp only [u2_ne (show (0 : Nat) ≠ 1 by decide), u2_ne (show (0 : Nat) ≠ 2 by decide), u2_ne (show (0 : Nat) ≠ 4 by decide), c4.1, m6.1, e2, nI_clamp (show Z.1 < 2 ^ 31 by omega), u2_eq, upd_s]
        rw [show nI (2 * Z.1) + 1 = nI (2 * Z.1 + 1) from nI_add _ 1, show nI Z.1 + 1 = nI (Z.1 + 1) from nI_add _ 1, gib (by omega) (by decide), gib (by omega) (by decide), gib (by omega) (by decide), gib (by omega) (by decide), nI_clamp (by omega), nI_clamp (by omega)]
        refine ⟨_, _, _, _, rfl, rfl, f, N, t, P, K, (Z.1 + 1, pt Z.2.1 Z.1 i, pt Z.2.2 Z.1 p), X, ⟨c1, c2.cg ?_ ?_ (fun _ _ _ => rfl) g3.1, c3.cg ?_ ?_ (fun _ _ => rfl), ⟨?_, fun j hj => ⟨?_, ?_⟩⟩, c5.cg ?_ ?_⟩, ⟨fun k hk => ?_, ?_, ?_, m4.cg ?_ ?_, m5.cg ?_ ?_, ⟨?_, fun j hj => ⟨?_, ?_⟩⟩, m7.cg ?_ ?_⟩, g1, g2, g3, g4, ⟨?_, fun j hj => ?_⟩, g6⟩
        all_goals (first | (rw [u2_ne (by decide), u2_ne (by decide), u2_ne (by decide)]; done) | (rw [u2_eq, upd_n (by decide), u2_ne (by decide), u2_ne (by decide)]; done) | skip)
        · rw [u2_eq, upd_s]
        · rw [u2_ne (by decide), u2_ne (by decide), u2_eq]; exact upd_pt (fun j hj => (c4.2 j hj).1) j hj
        · rw [u2_ne (by decide), u2_eq, u2_ne (by decide)]; exact upd_pt (fun j hj => (c4.2 j hj).2) j hj
        · rw [u2_ne (by decide), u2_ne (by decide), u2_ne (by decide)]; exact m1 k hk
        · rw [u2_eq, upd_n (by decide), u2_ne (by decide), u2_ne (by decide)]; exact m2
        · rw [u2_eq, upd_n (by decide), u2_ne (by decide), u2_ne (by decide)]; exact m3
        · rw [u2_eq, upd_s]
        · have hj : j < Z.1 + 1 := hj
          rw [u2_ne (by decide), u2_eq, u2_eq]
          show upd _ _ _ _ = nI (pt Z.2.1 Z.1 i j)
          by_cases e : j = Z.1
          · subst e; rw [upd_n (by omega), upd_s, pt_s]
          · rw [upd_n (by omega), upd_n (by omega), pt_n e]; exact (m6.2 j (by omega)).1
        · have hj : j < Z.1 + 1 := hj
          rw [u2_ne (by decide), u2_eq, u2_eq]
          show upd _ _ _ _ = nI (pt Z.2.2 Z.1 p j)
          by_cases e : j = Z.1
          · subst e; rw [upd_s, pt_s]
          · rw [upd_n (by omega), upd_n (by omega), pt_n e]; exact (m6.2 j (by omega)).2
        · show Z.1 + 1 ≤ 8; omega
        · have hj : j < Z.1 + 1 := hj
          show pt Z.2.1 Z.1 i j < 12 ∧ pt Z.2.2 Z.1 p j < 8
          by_cases e : j = Z.1
          · subst e; rw [pt_s, pt_s]; omega
          · rw [pt_n e, pt_n e]; exact g5.2 j (by omega)
theorem Inv.mS {Y : YS} {o S S' : OS} {f : Nat → Nat} {N t : Nat} {P K : Tp} {Z : Tz} {X : Tx} (hC : CI Y o f N t P K Z X) (hM : MI S f N t P K Z X) (hG : GI f N t P K Z X) (hS : ∀ c, 1 ≤ c → c ≤ 5 → S' c = S c) (h0 : ∀ k, (k = 0 ∨ k = 1 ∨ k = 3 ∨ k = 5 ∨ k = 7 ∨ k = 10) → S' 0 k = S 0 k) : Inv Y o S' := ⟨f, N, t, P, K, Z, X, hC, hM.cg hS h0, hG⟩
theorem op_next {Y : YS} {o S : OS} (h : Inv Y o S) (a b c : Int32) : ∃ r S', fX4_next Y o a b c = some r ∧ fX5_next S a b c = some (r, S') ∧ Inv Y o S' := by
  obtain ⟨f, N, t, P, K, Z, X, hC, hM, hG⟩ := id h
  have c1 := hC.1
  have m1 := hM.1
  have m2 := hM.2.1
  have g1 := hG.1
  rw [fX4_next, fX5_next, c_isOne, m_isOne, bs, bs]
  cases hx : (iL a 0 1 && iL b 0 3 && iL c 0 9) with
  | false => exact ⟨_, _, rfl, rfl, h⟩
  | true =>
    simp only [Bool.and_eq_true] at hx
    obtain ⟨v, -, hv, rfl⟩ := iL_b (lo := 0) (hi := 1) (by decide) hx.1.1
    obtain ⟨k, -, hk, rfl⟩ := iL_b (lo := 0) (hi := 3) (by decide) hx.1.2
    obtain ⟨F, -, hF, rfl⟩ := iL_b (lo := 0) (hi := 9) (by decide) hx.2
    obtain ⟨S1, e1, o1, r1⟩ := m_from (c := 1) (by decide) rfl m1
    have hp := m_place r1 (by rw [o1 0 (by decide)]; exact m2) g1 (yd := 1 - v) (kk := k) (by omega) (by omega) hF
    rw [ibt, ibt, vs1 hv, y_free c1 g1 (by omega) (by omega) hF, e1]
    exact ⟨rI (fp f N (1 - v) k F), S1, rfl, by rw [bs, hp, bs], Inv.mS hC hM hG (fun c a b => o1 c (by omega)) (fun k _ => by rw [o1 0 (by decide)])⟩
