/-! acts: bury, change, forgive, visit -/
theorem act {Y Y1 : YS} {o o1 S S1 S' y' : OS} {f f' : Nat → Nat} {N t : Nat} {P K : Tp} {Z : Tz} {X : Tx} (hC : CI Y o f N t P K Z X) (hM : MI S f N t P K Z X) (hG : GI f N t P K Z X) (a1 : ∀ i, (i < 3 ∨ 11 ≤ i) → Y1 i = Y i) (a2 : ∀ c, c ≠ 13 → c ≠ 14 → o1 c = o c) (a3 : CP Y1 o1 N t (psh P f)) (b1 : MP S1 (psh P f)) (b2 : ∀ c, c ≠ 0 → c ≠ 2 → S1 c = S c) (b3 : ∀ k, k ≠ 3 → S1 0 k = S 0 k) (hr : RY y' f' N t) (hs : RS S' 1 f') (hS : ∀ c, 2 ≤ c → c ≤ 5 → S' c = S1 c) (hS0 : ∀ k, k ≤ 10 → S' 0 k = S1 0 k) (hk : Ok f' N (f' 0)) : Inv (va_up Y1 0 y') o1 S' := by
  obtain ⟨c1, c2, c3, c4, c5⟩ := hC
  obtain ⟨m1, m2, m3, m4, m5, m6, m7⟩ := hM
  obtain ⟨g1, g2, g3, g4, g5, g6⟩ := hG
  have gp := psh_ok g3 g1
  refine ⟨f', N, t, psh P f, K, Z, X, ⟨by rw [vu_s]; exact hr, a3.cg rfl rfl (fun i h1 h2 => vu_n (by omega)) gp.1, c3.cg (a2 15 (by decide) (by decide)) (a2 16 (by decide) (by decide)) (fun i hi => by rw [vu_n (by omega), a1 i (by omega)]), c4.cg (by rw [a2 0 (by decide) (by decide)]) (a2 1 (by decide) (by decide)) (a2 2 (by decide) (by decide)), c5.cg (by rw [a2 3 (by decide) (by decide)]) (a2 4 (by decide) (by decide))⟩, ⟨hs, ?_, ?_, b1.cg (hS0 3 (by omega)) (hS 2 (by omega) (by omega)), m5.cg ?_ ?_, m6.cg ?_ ?_, m7.cg ?_ ?_⟩, hk, g2, gp, g4, g5, g6⟩
  · rw [hS0 0 (by omega), b3 0 (by decide)]; exact m2
  · rw [hS0 1 (by omega), b3 1 (by decide)]; exact m3
  · rw [hS0 5 (by omega), b3 5 (by decide)]
  · rw [hS 3 (by omega) (by omega), b2 3 (by decide) (by decide)]
  · rw [hS0 7 (by omega), b3 7 (by decide)]
  · rw [hS 4 (by omega) (by omega), b2 4 (by decide) (by decide)]
  · rw [hS0 10 (by omega), b3 10 (by decide)]
  · rw [hS 5 (by omega) (by omega), b2 5 (by decide) (by decide)]
/-- one more of the dead -/
def adn (f : Nat → Nat) (v k F : Nat) : Nat → Nat := pt (pt (pt (pt f (1 + 3 * f 0) v) (2 + 3 * f 0) k) (3 + 3 * f 0) F) 0 (f 0 + 1)
theorem adn_0 (f : Nat → Nat) (v k F : Nat) : adn f v k F 0 = f 0 + 1 := pt_s _ _ _
theorem adn_hi {f : Nat → Nat} {v k F j : Nat} (h : f 0 < 12) (hj : 37 ≤ j) : adn f v k F j = f j := by
  unfold adn; rw [pt_n (by omega), pt_n (by omega), pt_n (by omega), pt_n (by omega)]
theorem adn_ly {f : Nat → Nat} {v k F yd p : Nat} (h : f 0 < 12) : ly (adn f v k F) yd p = ly f yd p := adn_hi h (by omega)
theorem adn_v {f : Nat → Nat} {v k F i : Nat} (hi : i < f 0) : vl (adn f v k F) i = vl f i ∧ kd (adn f v k F) i = kd f i ∧ fg (adn f v k F) i = fg f i := by
  unfold vl kd fg adn
  refine ⟨?_, ?_, ?_⟩ <;> rw [pt_n (by omega), pt_n (by omega), pt_n (by omega), pt_n (by omega)]
theorem adn_n (f : Nat → Nat) (v k F : Nat) : vl (adn f v k F) (f 0) = v ∧ kd (adn f v k F) (f 0) = k ∧ fg (adn f v k F) (f 0) = F := by
  unfold vl kd fg adn
  refine ⟨?_, ?_, ?_⟩
  · rw [pt_n (by omega), pt_n (by omega), pt_n (by omega), pt_s]
  · rw [pt_n (by omega), pt_n (by omega), pt_s]
  · rw [pt_n (by omega), pt_s]
theorem adn_ok {f : Nat → Nat} {N m v k F : Nat} (h : Ok f N m) (h12 : f 0 < 12) (hv : v ≤ 1) (hk : k ≤ 3) (hF : F ≤ 9) : Ok (adn f v k F) N m := by
  obtain ⟨k1, k2, k3, k4, k5, k6, k7, k8⟩ := h
  have e0 := adn_0 f v k F
  have e53 : adn f v k F 53 = f 53 := adn_hi h12 (by omega)
  refine ⟨k1, by omega, by omega, fun i hi => ?_, fun x hx => ?_, fun yd p hy hp => ?_, fun yd p p' hy hp hp' => ?_, by omega⟩
  · by_cases c : i = f 0
    · subst c
      obtain ⟨a, b, c⟩ := adn_n f v k F
      rw [a, b, c]; exact ⟨hv, hk, hF⟩
    · obtain ⟨a, b, c⟩ := adn_v (f := f) (v := v) (k := k) (F := F) (show i < f 0 by omega)
      rw [a, b, c]; exact k4 i (by omega)
  · rw [e0, adn_hi h12 (by omega), adn_hi h12 (by omega)]
    have := k5 x (by omega)
    omega
  · rw [adn_ly h12]
    rcases k6 yd p hy hp with e | ⟨hl, i, hi, e⟩
    · exact Or.inl e
    · refine Or.inr ⟨hl, i, hi, ?_⟩
      obtain ⟨a, b, -⟩ := adn_v (f := f) (v := v) (k := k) (F := F) (show i < f 0 by omega)
      rw [a, b]; exact e
  · rw [adn_ly h12, adn_ly h12]; exact k7 yd p p' hy hp hp'
theorem ry_adn {y : OS} {f : Nat → Nat} {N t v k F : Nat} (h : RY y f N t) (h12 : f 0 < 12) : RY (u2 (u2 (u2 (u2 y 1 (f 0) (nI v)) 2 (f 0) (nI k)) 3 (f 0) (nI F)) 0 2 (nI (f 0 + 1))) (adn f v k F) N t := by
  obtain ⟨h1, h2, h3, h4, h5, h6, h7⟩ := h
  have e0 := adn_0 f v k F
  have e53 : adn f v k F 53 = f 53 := adn_hi h12 (by omega)
  refine ⟨?_, ?_, ?_, ?_, fun i hi => ?_, fun j hj => ?_, fun x hx => ?_⟩
  · rw [u2_eq, upd_n (by decide), u2_ne (by decide), u2_ne (by decide), u2_ne (by decide)]; exact h1
  · rw [u2_eq, upd_n (by decide), u2_ne (by decide), u2_ne (by decide), u2_ne (by decide)]; exact h2
  · rw [u2_eq, upd_s, e0]
  · rw [u2_eq, upd_n (by decide), u2_ne (by decide), u2_ne (by decide), u2_ne (by decide), e53]; exact h4
  · rw [u2_ne (by decide), u2_ne (by decide), u2_ne (by decide), u2_eq, u2_ne (by decide), u2_ne (by decide), u2_eq, u2_ne (by decide), u2_ne (by decide), u2_eq, u2_ne (by decide), u2_ne (by decide)]
    by_cases c : i = f 0
    · subst c
      obtain ⟨a, b, c⟩ := adn_n f v k F
      rw [upd_s, upd_s, upd_s, a, b, c]; exact ⟨rfl, rfl, rfl⟩
    · obtain ⟨a, b, d⟩ := adn_v (f := f) (v := v) (k := k) (F := F) (show i < f 0 by omega)
      rw [upd_n c, upd_n c, upd_n c, a, b, d]; exact h5 i (by omega)
  · rw [u2_ne (by decide), u2_ne (by decide), u2_ne (by decide), u2_ne (by decide), adn_hi h12 (by omega)]; exact h6 j hj
  · rw [e53] at hx
    rw [u2_ne (by decide), u2_ne (by decide), u2_ne (by decide), u2_ne (by decide), u2_ne (by decide), u2_ne (by decide), u2_ne (by decide), u2_ne (by decide), adn_hi h12 (by omega), adn_hi h12 (by omega)]; exact h7 x hx
/-- one more is buried -/
def bry (f : Nat → Nat) (N v k F : Nat) : Option Nat × (Nat → Nat) := bur (adn f v k F) N (f 0)
theorem bry_ok {f : Nat → Nat} {N v k F : Nat} (h : Ok f N (f 0)) (h12 : f 0 < 12) (hv : v ≤ 1) (hk : k ≤ 3) (hF : F ≤ 9) : Ok (bry f N v k F).2 N (f 0 + 1) ∧ (bry f N v k F).2 0 = f 0 + 1 := by
  have := bur_ok (adn_ok h h12 hv hk hF) (Nat.le_refl _) (show f 0 < adn f v k F 0 by rw [adn_0]; omega)
  exact ⟨this.1, this.2.1.trans (adn_0 f v k F)⟩
theorem y_addDead {y : OS} {f : Nat → Nat} {N t v k F : Nat} (h : RY y f N t) (kk : Ok f N (f 0)) (h12 : f 0 < 12) (hv : v ≤ 1) (hk : k ≤ 3) (hF : F ≤ 9) : ∃ y', fX3_addDead y (nI v) (nI k) (nI F) = some (rI (bry f N v k F).1, y') ∧ RY y' (bry f N v k F).2 N t := by
  obtain ⟨y', e, r⟩ := y_dig (ry_adn (v := v) (k := k) (F := F) h h12) (adn_ok kk h12 hv hk hF) (Nat.le_refl _) (show f 0 < adn f v k F 0 by rw [adn_0]; omega)
  refine ⟨y', ?_, r⟩
  rw [fX3_addDead, h.2.2.1, ifF (nI_pos (by omega)), ifT (show nI (f 0) < 12 from (nI_ltI (b := 12) (by omega) (by decide)).mpr h12), gib (by omega) (by decide), gib (by omega) (by decide), gib (by omega) (by decide), nI_clamp (by omega), u2_ne (by decide), u2_ne (by decide), u2_ne (by decide), h.2.2.1, show nI (f 0) + 1 = nI (f 0 + 1) from nI_add _ 1, e]
  rfl
theorem m_addsDead {S : OS} {f : Nat → Nat} {v k F : Nat} (h : RS S 8 f) (h12 : f 0 < 12) : ∃ S', fX5_addsDead S (nI v) (nI k) (nI F) = some S' ∧ RS S' 8 (adn f v k F) ∧ Eo S S' 8 := by
  refine ⟨u2 (u2 (u2 (u2 S 8 (1 + 3 * f 0) (nI v)) 8 (2 + 3 * f 0) (nI k)) 8 (3 + 3 * f 0) (nI F)) 8 0 (nI (f 0 + 1)), ?_, (((h.put (k := 1 + 3 * f 0) (v := v)).put (k := 2 + 3 * f 0) (v := k)).put (k := 3 + 3 * f 0) (v := F)).put (k := 0) (v := f 0 + 1), ((Eo.u2.tr Eo.u2).tr Eo.u2).tr Eo.u2⟩
  have e0 : u2 (u2 (u2 S 8 (1 + 3 * f 0) (nI v)) 8 (2 + 3 * f 0) (nI k)) 8 (3 + 3 * f 0) (nI F) 8 0 = nI (f 0) := by
    rw [u2_eq, upd_n (by omega), u2_eq, upd_n (by omega), u2_eq, upd_n (by omega)]; exact h 0 (by omega)
  rw [fX5_addsDead, z0, h 0 (by omega), ix3, ix2, ix1, gib (by omega) (by decide), gib (by omega) (by decide), gib (by omega) (by decide), nI_clamp (by omega), nI_clamp (by omega), nI_clamp (by omega), e0, show nI (f 0) + 1 = nI (f 0 + 1) from nI_add _ 1]
theorem op_bury {Y : YS} {o S : OS} (h : Inv Y o S) (a b c : Int32) : OpW (fX4_bury Y o a b c) (fX5_bury S a b c) := by
  obtain ⟨f, N, t, P, K, Z, X, hC, hM, hG⟩ := id h
  have c1 := hC.1
  have m1 := hM.1
  have m2 := hM.2.1
  have g1 := hG.1
  have h12 := g1.2.1
  rw [fX4_bury, fX5_bury, c_isOne, m_isOne, bs, bs]
  cases hx : (iL a 0 1 && iL b 0 3 && iL c 0 9) with
  | false => exact ⟨_, _, _, _, rfl, rfl, h⟩
  | true =>
    simp only [Bool.and_eq_true] at hx
    obtain ⟨v, -, hv, rfl⟩ := iL_b (lo := 0) (hi := 1) (by decide) hx.1.1
    obtain ⟨k, -, hk, rfl⟩ := iL_b (lo := 0) (hi := 3) (by decide) hx.1.2
    obtain ⟨F, -, hF, rfl⟩ := iL_b (lo := 0) (hi := 9) (by decide) hx.2
    rw [ibt, ibt, c1.2.2.1, z0, m1 0 (by omega)]
    by_cases q : f 0 = 12
    · rw [q, ifF (by decide), ifT (by decide)]
      exact ⟨_, _, _, _, rfl, rfl, h⟩
    · rw [ifT (show nI (f 0) < 12 from (nI_ltI (b := 12) (by omega) (by decide)).mpr (by omega)), ifF (show ¬ nI (f 0) = 12 from fun e => q ((nI_eq (b := 12) (by omega) (by decide)).mp e))]
      obtain ⟨Y1, o1, e1, a1, a2, a3⟩ := sh_put hC.2.1 hG.2.2.1.1 c1 g1
      obtain ⟨S1, d1, b1, b2, b3⟩ := m_rem hM.2.2.2.1 hG.2.2.1.1 m1
      have hk' := bry_ok g1 (show f 0 < 12 by omega) hv hk hF
      obtain ⟨y', e2, r2⟩ := y_addDead (y := Y1 0) (by rw [a1 0 (by omega)]; exact c1) g1 (show f 0 < 12 by omega) hv hk hF
      obtain ⟨S2, d2, o2, s2⟩ := m_from (S := S1) (c := 1) (by decide) rfl (fun j hj => by rw [b2 1 (by decide) (by decide)]; exact m1 j hj)
      obtain ⟨S3, d3, s3, o3⟩ := m_addsDead (v := v) (k := k) (F := F) s2 (show f 0 < 12 by omega)
      obtain ⟨S4, d4, s4, o4⟩ := m_bur s3 (show S3 0 0 = nI N by rw [o3 0 (by decide), o2 0 (by decide), b3 0 (by decide)]; exact m2) (adn_ok g1 (show f 0 < 12 by omega) hv hk hF) (Nat.le_refl _) (show f 0 < adn f v k F 0 by rw [adn_0]; omega)
      obtain ⟨S5, d5, o5, s5⟩ := m_put66 (c1 := 1) (c3 := 8) (by decide) rfl rfl s4
      have e80 : S3 8 0 - 1 = nI (f 0) := by rw [s3 0 (by omega), adn_0]; exact nI_pred _
      refine ⟨rI (bry f N v k F).1, va_up Y1 0 y', o1, S5, by rw [e1, bs, e2, bs], ?_, act hC hM hG a1 a2 a3 b1 b2 b3 r2 s5 (fun c h1 h2 => by rw [o5 c (by omega), o4 c (by omega), o3 c (by omega), o2 c (by omega)]) (fun k _ => by rw [o5 0 (by decide), o4 0 (by decide), o3 0 (by decide), o2 0 (by decide)]) (by rw [hk'.2]; exact hk'.1)⟩
      rw [d1, bs, d2, bs, d3, bs, e80, d4, bs, d5]
      rfl
/-! change -/
def sw (f : Nat → Nat) (yd p q : Nat) : Nat → Nat := pt (pt f (37 + (yd * 8 + p)) (ly f yd q)) (37 + (yd * 8 + q)) (ly f yd p)
def tau (p q r : Nat) : Nat := if r = q then p else if r = p then q else r
theorem tau_inj {p q r s : Nat} (h : tau p q r = tau p q s) : r = s := by
  unfold tau at h
  repeat' split at h
  all_goals omega
theorem tau_lt {p q r n : Nat} (hp : p < n) (hq : q < n) (hr : r < n) : tau p q r < n := by
  unfold tau; split <;> (try split) <;> omega
theorem sw_ly {f : Nat → Nat} {yd p q yd' r : Nat} (hp : p < 8) (hq : q < 8) (hr : r < 8) : ly (sw f yd p q) yd' r = if yd' = yd then ly f yd' (tau p q r) else ly f yd' r := by
  unfold sw
  rw [ly_pt hq hr, ly_pt hp hr]
  unfold tau
  by_cases a : yd' = yd
  · subst a
    by_cases b : r = q
    · simp [b]
    · by_cases c : r = p
      · subst c; simp [b]
      · simp [b, c]
  · simp [a]
theorem sw_lo {f : Nat → Nat} {yd p q j : Nat} (hy : yd < 2) (hp : p < 8) (hq : q < 8) (hj : j < 37 ∨ 53 ≤ j) : sw f yd p q j = f j := by
  unfold sw; rw [pt_n (by omega), pt_n (by omega)]
theorem sw_ok {f : Nat → Nat} {N m yd p q : Nat} (h : Ok f N m) (hy : yd < 2) (hp : p < N) (hq : q < N) : Ok (sw f yd p q) N m := by
  obtain ⟨k1, k2, k3, k4, k5, k6, k7, k8⟩ := h
  have p8 : p < 8 := by omega
  have q8 : q < 8 := by omega
  have e0 : sw f yd p q 0 = f 0 := sw_lo hy p8 q8 (by omega)
  have e53 : sw f yd p q 53 = f 53 := sw_lo hy p8 q8 (by omega)
  have ev : ∀ i, i < 12 → vl (sw f yd p q) i = vl f i ∧ kd (sw f yd p q) i = kd f i ∧ fg (sw f yd p q) i = fg f i := by
    intro i hi
    unfold vl kd fg
    exact ⟨sw_lo hy p8 q8 (by omega), sw_lo hy p8 q8 (by omega), sw_lo hy p8 q8 (by omega)⟩
  refine ⟨k1, by omega, by omega, fun i hi => ?_, fun x hx => ?_, fun yd' r h1 h2 => ?_, fun yd' r s h1 h2 h3 => ?_, by omega⟩
  · obtain ⟨a, b, c⟩ := ev i (by omega)
    rw [a, b, c]; exact k4 i (by omega)
  · rw [e0, sw_lo hy p8 q8 (by omega), sw_lo hy p8 q8 (by omega)]; exact k5 x (by omega)
  · rw [sw_ly p8 q8 h2]
    by_cases c : yd' = yd
    · rw [if_pos c]
      rcases k6 yd' (tau p q r) h1 (tau_lt p8 q8 h2) with e | ⟨hl, i, hi, e⟩
      · exact Or.inl e
      · obtain ⟨a, b, -⟩ := ev i (by omega)
        refine Or.inr ⟨?_, i, hi, by rw [a, b]; exact e⟩
        unfold tau at hl
        by_cases c1 : r = q
        · omega
        · by_cases c2 : r = p
          · omega
          · rw [if_neg c1, if_neg c2] at hl; exact hl
    · rw [if_neg c]
      rcases k6 yd' r h1 h2 with e | ⟨hl, i, hi, e⟩
      · exact Or.inl e
      · obtain ⟨a, b, -⟩ := ev i (by omega)
        exact Or.inr ⟨hl, i, hi, by rw [a, b]; exact e⟩
  · rw [sw_ly p8 q8 h2, sw_ly p8 q8 h3]
    by_cases c : yd' = yd
    · rw [if_pos c, if_pos c]
      intro h0 he
      exact tau_inj (k7 yd' _ _ h1 (tau_lt p8 q8 h2) (tau_lt p8 q8 h3) h0 he)
    · rw [if_neg c, if_neg c]; exact k7 yd' r s h1 h2 h3
theorem y_put' {y : OS} {N yd p : Nat} (h0 : y 0 0 = nI N) (hN : N ≤ 8) (x : Int32) (hy : yd < 2) (hp : p < N) : fX3_put y (nI yd) (nI p) x = some (u2 y 4 (yd * 8 + p) x) := by
  have e1 : iL (nI yd) 0 1 = true := by rw [iL_nI (by omega)]; exact decide_eq_true (by omega)
  have e2 : fX3_hasPlot y (nI p) = some (b01 (iL (nI p) 0 ((N : Int) - 1))) := by rw [fX3_hasPlot, h0]; exact has3 (m := 8) hN (by decide)
  rw [fX3_put, c_isSide, e1, bs, ibt, e2, iLt hp (by omega), bs, ibt]
  rw [show nI yd * 8 + nI p = nI (yd * 8 + p) from (by rw [show (8 : Int32) = nI 8 from rfl, pk_mul, nI_add]), gib (by omega) (by decide), nI_clamp (by omega)]
theorem y_swap {y : OS} {f : Nat → Nat} {N t m yd p q : Nat} (h : RY y f N t) (k : Ok f N m) (hy : yd < 2) (hp : p < N) (hq : q < N) : ∃ y', fX3_swap y (nI yd) (nI p) (nI q) = some y' ∧ RY y' (sw f yd p q) N t := by
  have hN := k.1
  have h12 := k.2.1
  have r1 := h.putw (k := yd * 8 + p) (w := ly f yd q) h12 (by omega)
  have r2 := r1.putw (k := yd * 8 + q) (w := ly f yd p) (by rw [pt_n (by omega)]; exact h12) (by omega)
  refine ⟨_, ?_, r2⟩
  rw [fX3_swap, y_who h k hy (by omega), bs, y_who h k hy (by omega), bs, y_put' h.1 hN.2 _ hy hp, bs, y_put' r1.1 hN.2 _ hy hq]
  rfl
theorem m_changes {S : OS} {c : Nat} {f : Nat → Nat} {yd p q : Nat} (h : RS S c f) (hc : lenM c = 66) (hy : yd < 2) (hp : p < 8) (hq : q < 8) : ∃ S', fX5_changes S c (nI yd) (nI p) (nI q) = some S' ∧ RS S' c (sw f yd p q) ∧ Eo S S' c := by
  refine ⟨_, ?_, (h.put (k := 37 + (yd * 8 + p)) (v := ly f yd q)).put (k := 37 + (yd * 8 + q)) (v := ly f yd p), Eo.u2.tr Eo.u2⟩
  rw [fX5_changes, ixL, ixL, hc, gib (by omega) (by decide), gib (by omega) (by decide), gib (by omega) (by decide), gib (by omega) (by decide), nI_clamp (by omega), nI_clamp (by omega), h _ (by omega), h _ (by omega)]
  rfl
theorem m_plotj {S : OS} {f : Nat → Nat} {N m yd p : Nat} (m1 : RS S 1 f) (m2 : S 0 0 = nI N) (g1 : Ok f N m) (hy : yd < 2) (hp : p < N) : fX5_plot S (nI yd) (nI p) = some (wI (ly f yd p)) := by
  have hN := g1.1
  have hl := g1.lt hy (show p < 8 by omega)
  have e1 : iL (nI yd) 0 1 = true := by rw [iL_nI (by omega)]; exact decide_eq_true (by omega)
  rw [fX5_plot, m_in, bs, show (0 : Int32).toInt = 0 from rfl, show (1 : Int32).toInt = 1 from rfl, e1, ibt, m_isPlot m2 hN.2, bs, iLt hp (by omega), ibt, ixL, gib (by omega) (by decide), nI_clamp (by omega), m1 _ (by omega), show f (37 + (yd * 8 + p)) = ly f yd p from rfl, m_whoIs (by omega)]
  rfl
theorem op_change {Y : YS} {o S : OS} (h : Inv Y o S) (a b c : Int32) : OpW (fX4_change Y o a b c) (fX5_change S a b c) := by
  obtain ⟨f, N, t, P, K, Z, X, hC, hM, hG⟩ := id h
  have c1 := hC.1
  have m1 := hM.1
  have m2 := hM.2.1
  have g1 := hG.1
  have hN := g1.1
  rw [fX4_change, fX5_change, c_isSide, m_in, bs, bs, show (0 : Int32).toInt = 0 from rfl, show (1 : Int32).toInt = 1 from rfl]
  cases hx : iL a 0 1 with
  | false => exact ⟨_, _, _, _, rfl, rfl, h⟩
  | true =>
    obtain ⟨yd, -, hy, rfl⟩ := iL_b (lo := 0) (hi := 1) (by decide) hx
    rw [ibt, ibt, y_hasPlot c1 g1, m_isPlot m2 hN.2, bs, bs]
    cases hb : iL b 0 ((N : Int) - 1) with
    | false => exact ⟨_, _, _, _, rfl, rfl, h⟩
    | true =>
      obtain ⟨p, hp, rfl⟩ := iL_j (by omega) hb
      rw [ibt, ibt, y_hasPlot c1 g1, m_isPlot m2 hN.2, bs, bs]
      cases hc : iL c 0 ((N : Int) - 1) with
      | false => exact ⟨_, _, _, _, rfl, rfl, h⟩
      | true =>
        obtain ⟨q, hq, rfl⟩ := iL_j (by omega) hc
        rw [ibt, ibt]
        by_cases e : nI p = nI q
        · rw [ifT e, ifT e]
          exact ⟨_, _, _, _, rfl, rfl, h⟩
        · rw [ifF e, ifF e]
          obtain ⟨Y1, o1, e1, a1, a2, a3⟩ := sh_put hC.2.1 hG.2.2.1.1 c1 g1
          obtain ⟨S1, d1, b1, b2, b3⟩ := m_rem hM.2.2.2.1 hG.2.2.1.1 m1
          have kk := sw_ok g1 (show yd < 2 by omega) hp hq
          obtain ⟨y', e2, r2⟩ := y_swap (y := Y1 0) (by rw [a1 0 (by omega)]; exact c1) g1 (show yd < 2 by omega) hp hq
          obtain ⟨S2, d2, s2, o2⟩ := m_changes (S := S1) (c := 1) (f := f) (yd := yd) (p := p) (q := q) (fun j hj => by rw [b2 1 (by decide) (by decide)]; exact m1 j hj) rfl (by omega) (by omega) (by omega)
          have e0 : sw f yd p q 0 = f 0 := sw_lo (by omega) (by omega) (by omega) (by omega)
          refine ⟨wI (ly (sw f yd p q) yd p), va_up Y1 0 y', o1, S2, ?_, ?_, act hC hM hG a1 a2 a3 b1 b2 b3 r2 s2 (fun c h1 h2 => o2 c (by omega)) (fun k _ => by rw [o2 0 (by decide)]) (by rw [e0]; exact kk)⟩
          · rw [e1, bs, e2, bs, vu_s, y_who r2 kk (by omega) (by omega), bs]
          · rw [d1, bs, d2, bs, m_plotj s2 (by rw [o2 0 (by decide), b3 0 (by decide)]; exact m2) kk (by omega) hp, bs]
/-! forgive -/
theorem fg_ok {f : Nat → Nat} {N m i F : Nat} (h : Ok f N m) (hi : i < f 0) (hF : F ≤ 9) : Ok (pt f (3 + 3 * i) F) N m ∧ pt f (3 + 3 * i) F 0 = f 0 := by
  obtain ⟨k1, k2, k3, k4, k5, k6, k7, k8⟩ := h
  have e0 : pt f (3 + 3 * i) F 0 = f 0 := pt_n (by omega)
  have e53 : pt f (3 + 3 * i) F 53 = f 53 := pt_n (by omega)
  have ev : ∀ j, vl (pt f (3 + 3 * i) F) j = vl f j ∧ kd (pt f (3 + 3 * i) F) j = kd f j := fun j => by
    unfold vl kd; rw [pt_n (by omega), pt_n (by omega)]; exact ⟨rfl, rfl⟩
  have el : ∀ yd p, ly (pt f (3 + 3 * i) F) yd p = ly f yd p := fun yd p => by unfold ly; rw [pt_n (by omega)]
  refine ⟨⟨k1, by omega, by omega, fun j hj => ?_, fun x hx => ?_, fun yd p hy hp => ?_, fun yd p q hy hp hq => ?_, by omega⟩, e0⟩
  · obtain ⟨a, b⟩ := ev j
    have := k4 j (by omega)
    refine ⟨by omega, by omega, ?_⟩
    unfold fg at this ⊢
    by_cases c : j = i
    · subst c; rw [pt_s]; exact hF
    · rw [pt_n (by omega)]; exact this.2.2
  · rw [e0, pt_n (by omega), pt_n (by omega)]; exact k5 x (by omega)
  · rw [el]
    rcases k6 yd p hy hp with e | ⟨hl, j, hj, e⟩
    · exact Or.inl e
    · refine Or.inr ⟨hl, j, hj, ?_⟩
      rw [(ev j).1, (ev j).2]; exact e
  · rw [el, el]; exact k7 yd p q hy hp hq
theorem RY.fgs {y : OS} {f : Nat → Nat} {N t i F : Nat} (h : RY y f N t) (h12 : f 0 ≤ 12) (hi : i < f 0) : RY (u2 y 3 i (nI F)) (pt f (3 + 3 * i) F) N t := by
  obtain ⟨h1, h2, h3, h4, h5, h6, h7⟩ := h
  have e0 : pt f (3 + 3 * i) F 0 = f 0 := pt_n (by omega)
  have e53 : pt f (3 + 3 * i) F 53 = f 53 := pt_n (by omega)
  refine ⟨by rw [u2_ne (by decide)]; exact h1, by rw [u2_ne (by decide)]; exact h2, by rw [u2_ne (by decide), e0]; exact h3, by rw [u2_ne (by decide), e53]; exact h4, fun j hj => ?_, fun j hj => by rw [u2_ne (by decide), pt_n (by omega)]; exact h6 j hj, fun x hx => by rw [u2_ne (by decide), u2_ne (by decide), pt_n (by omega), pt_n (by omega)]; exact h7 x (by omega)⟩
  rw [u2_ne (by decide), u2_ne (by decide), u2_eq]
  have := h5 j (by omega)
  unfold vl kd fg at this ⊢
  rw [pt_n (by omega), pt_n (by omega)]
  refine ⟨this.1, this.2.1, ?_⟩
  by_cases c : j = i
  · subst c; rw [upd_s, pt_s]
  · rw [upd_n c, pt_n (by omega)]; exact this.2.2
theorem y_setF {y : OS} {f : Nat → Nat} {N t m i F : Nat} (h : RY y f N t) (k : Ok f N m) (hi : i < f 0) : fX3_setForgiven y (nI i) (nI F) = some (u2 y 3 i (nI F)) := by
  have := k.2.1
  rw [fX3_setForgiven, y_hasDead h k, iLt hi (by omega), bs, ibt, gib (by omega) (by decide), nI_clamp (by omega)]
theorem op_forgive {Y : YS} {o S : OS} (h : Inv Y o S) (a b : Int32) : OpW (fX4_forgive Y o a b) (fX5_forgive S a b) := by
  obtain ⟨f, N, t, P, K, Z, X, hC, hM, hG⟩ := id h
  have c1 := hC.1
  have m1 := hM.1
  have g1 := hG.1
  have h12 := g1.2.1
  rw [fX4_forgive, fX5_forgive, y_hasDead c1 g1, m_isDead m1 h12, bs, bs]
  cases hx : iL a 0 ((f 0 : Int) - 1) with
  | false => exact ⟨_, _, _, _, rfl, rfl, h⟩
  | true =>
    obtain ⟨i, hi, rfl⟩ := iL_j (by omega) hx
    rw [ibt, ibt, c_isForgiven, m_in, bs, bs, show (0 : Int32).toInt = 0 from rfl, show (9 : Int32).toInt = 9 from rfl]
    cases hb : iL b 0 9 with
    | false => exact ⟨_, _, _, _, rfl, rfl, h⟩
    | true =>
      obtain ⟨F, -, hF, rfl⟩ := iL_b (lo := 0) (hi := 9) (by decide) hb
      rw [ibt, ibt]
      obtain ⟨Y1, o1, e1, a1, a2, a3⟩ := sh_put hC.2.1 hG.2.2.1.1 c1 g1
      obtain ⟨S1, d1, b1, b2, b3⟩ := m_rem hM.2.2.2.1 hG.2.2.1.1 m1
      have r1 : RY (Y1 0) f N t := by rw [a1 0 (by omega)]; exact c1
      have kk := fg_ok g1 hi hF
      have s1 : RS S1 1 f := fun j hj => by rw [b2 1 (by decide) (by decide)]; exact m1 j hj
      refine ⟨nI (fg f i), va_up Y1 0 (u2 (Y1 0) 3 i (nI F)), o1, u2 S1 1 (3 + 3 * i) (nI F), ?_, ?_, act hC hM hG a1 a2 a3 b1 b2 b3 (r1.fgs h12 hi) s1.put (fun c h1 h2 => u2_ne (by omega)) (fun k _ => by rw [u2_ne (by decide)]) (by rw [kk.2]; exact kk.1)⟩
      · rw [e1, bs, y_forg r1 g1 hi, bs, y_setF r1 g1 hi, bs]
      · rw [d1, bs, ix3, gib (by omega) (by decide), gib (by omega) (by decide), nI_clamp (by omega), s1 _ (by omega)]; rfl
/-! visit -/
def vis (f : Nat → Nat) (i c : Nat) : Nat → Nat := pt (pt (pt f (54 + 2 * f 53) i) (55 + 2 * f 53) c) 53 (f 53 + 1)
theorem vis_lo {f : Nat → Nat} {i c j : Nat} (hj : j < 53) : vis f i c j = f j := by unfold vis; rw [pt_n (by omega), pt_n (by omega), pt_n (by omega)]
theorem vis_53 (f : Nat → Nat) (i c : Nat) : vis f i c 53 = f 53 + 1 := pt_s _ _ _
theorem vis_n (f : Nat → Nat) (i c : Nat) : vis f i c (54 + 2 * f 53) = i ∧ vis f i c (55 + 2 * f 53) = c := by
  unfold vis
  refine ⟨?_, ?_⟩
  · rw [pt_n (by omega), pt_n (by omega), pt_s]
  · rw [pt_n (by omega), pt_s]
theorem vis_o {f : Nat → Nat} {i c v : Nat} (hv : v < f 53) : vis f i c (54 + 2 * v) = f (54 + 2 * v) ∧ vis f i c (55 + 2 * v) = f (55 + 2 * v) := by
  unfold vis
  refine ⟨?_, ?_⟩ <;> rw [pt_n (by omega), pt_n (by omega), pt_n (by omega)]
theorem vis_ok {f : Nat → Nat} {N m i c : Nat} (h : Ok f N m) (h6 : f 53 < 6) (hi : i < f 0) (hc : 1 ≤ c ∧ c ≤ 20) : Ok (vis f i c) N m ∧ vis f i c 0 = f 0 := by
  obtain ⟨k1, k2, k3, k4, k5, k6, k7, k8⟩ := h
  have e0 : vis f i c 0 = f 0 := vis_lo (by omega)
  have e53 := vis_53 f i c
  have ev : ∀ j, j < 12 → vl (vis f i c) j = vl f j ∧ kd (vis f i c) j = kd f j ∧ fg (vis f i c) j = fg f j := fun j hj => by
    unfold vl kd fg; exact ⟨vis_lo (by omega), vis_lo (by omega), vis_lo (by omega)⟩
  have el : ∀ yd p, yd < 2 → p < 8 → ly (vis f i c) yd p = ly f yd p := fun yd p hy hp => vis_lo (by omega)
  refine ⟨⟨k1, by omega, by omega, fun j hj => ?_, fun x hx => ?_, fun yd p hy hp => ?_, fun yd p q hy hp hq => ?_, by omega⟩, e0⟩
  · obtain ⟨a, b, d⟩ := ev j (by omega)
    rw [a, b, d]; exact k4 j (by omega)
  · rw [e0]
    by_cases q : x = f 53
    · subst q
      rw [(vis_n f i c).1, (vis_n f i c).2]; exact ⟨hi, hc⟩
    · have := vis_o (i := i) (c := c) (show x < f 53 by omega)
      rw [this.1, this.2]; exact k5 x (by omega)
  · rw [el yd p hy hp]
    rcases k6 yd p hy hp with e | ⟨hl, j, hj, e⟩
    · exact Or.inl e
    · refine Or.inr ⟨hl, j, hj, ?_⟩
      obtain ⟨a, b, -⟩ := ev j (by omega)
      rw [a, b]; exact e
  · rw [el yd p hy hp, el yd q hy hq]; exact k7 yd p q hy hp hq
theorem y_addV {y : OS} {f : Nat → Nat} {N t i c : Nat} (h : RY y f N t) (h12 : f 0 ≤ 12) (h6 : f 53 < 6) : ∃ y', fX3_addVisitor y (nI i) (nI c) = some y' ∧ RY y' (vis f i c) N t := by
  obtain ⟨h1, h2, h3, h4, h5, h6', h7⟩ := h
  refine ⟨u2 (u2 (u2 y 5 (f 53) (nI i)) 6 (f 53) (nI c)) 0 3 (nI (f 53 + 1)), ?_, ?_⟩
  · rw [fX3_addVisitor]
    simp only [u2_ne (show (0 : Nat) ≠ 5 by decide), u2_ne (show (0 : Nat) ≠ 6 by decide), h4]
    rw [ifF (nI_pos (by omega)), ifF (show ¬ 6 ≤ nI (f 53) from fun e => absurd ((nI_leI (a := 6) (by decide) (by omega)).mp e) (by omega)), gib (by omega) (by decide), gib (by omega) (by decide), nI_clamp (by omega), show nI (f 53) + 1 = nI (f 53 + 1) from nI_add _ 1]
  · have e0 : vis f i c 0 = f 0 := vis_lo (by omega)
    have e53 := vis_53 f i c
    refine ⟨?_, ?_, ?_, ?_, fun j hj => ?_, fun j hj => ?_, fun x hx => ?_⟩
    · rw [u2_eq, upd_n (by decide), u2_ne (by decide), u2_ne (by decide)]; exact h1
    · rw [u2_eq, upd_n (by decide), u2_ne (by decide), u2_ne (by decide)]; exact h2
    · rw [u2_eq, upd_n (by decide), u2_ne (by decide), u2_ne (by decide), e0]; exact h3
    · rw [u2_eq, upd_s, e53]
    · rw [u2_ne (by decide), u2_ne (by decide), u2_ne (by decide), u2_ne (by decide), u2_ne (by decide), u2_ne (by decide), u2_ne (by decide), u2_ne (by decide), u2_ne (by decide)]
      have := h5 j (by omega)
      unfold vl kd fg at this ⊢
      rw [vis_lo (by omega), vis_lo (by omega), vis_lo (by omega)]; exact this
    · rw [u2_ne (by decide), u2_ne (by decide), u2_ne (by decide), vis_lo (by omega)]; exact h6' j hj
    · rw [u2_ne (by decide), u2_ne (by decide), u2_eq, u2_ne (by decide), u2_eq, u2_ne (by decide)]
      by_cases q : x = f 53
      · subst q
        rw [(vis_n f i c).1, (vis_n f i c).2, upd_s, upd_s]; exact ⟨rfl, rfl⟩
      · have := vis_o (i := i) (c := c) (show x < f 53 by omega)
        rw [this.1, this.2, upd_n q, upd_n q]; exact h7 x (by omega)
theorem op_visit {Y : YS} {o S : OS} (h : Inv Y o S) (a b : Int32) : OpW (fX4_visit Y o a b) (fX5_visit S a b) := by
  obtain ⟨f, N, t, P, K, Z, X, hC, hM, hG⟩ := id h
  have c1 := hC.1
  have m1 := hM.1
  have g1 := hG.1
  have h12 := g1.2.1
  have h6 := g1.2.2.1
  rw [fX4_visit, fX5_visit, y_hasDead c1 g1, m_isDead m1 h12, bs, bs]
  cases hx : iL a 0 ((f 0 : Int) - 1) with
  | false => exact ⟨_, _, _, _, rfl, rfl, h⟩
  | true =>
    obtain ⟨i, hi, rfl⟩ := iL_j (by omega) hx
    rw [ibt, ibt, c_isMinutes, m_in, bs, bs, show (1 : Int32).toInt = 1 from rfl, show (20 : Int32).toInt = 20 from rfl]
    cases hb : iL b 1 20 with
    | false => exact ⟨_, _, _, _, rfl, rfl, h⟩
    | true =>
      obtain ⟨c, hc1, hc2, rfl⟩ := iL_b (lo := 1) (hi := 20) (by decide) hb
      have z53 : (53 : Int32).toNatClampNeg = 53 := rfl
      rw [ibt, ibt, c1.2.2.2.1, z53, m1 53 (by omega)]
      by_cases q : f 53 = 6
      · rw [q, ifF (by decide), ifT (by decide)]
        exact ⟨_, _, _, _, rfl, rfl, h⟩
      · rw [ifT (show nI (f 53) < 6 from (nI_ltI (b := 6) (by omega) (by decide)).mpr (by omega)), ifF (show ¬ nI (f 53) = 6 from fun e => q ((nI_eq (b := 6) (by omega) (by decide)).mp e))]
        obtain ⟨Y1, o1, e1, a1, a2, a3⟩ := sh_put hC.2.1 hG.2.2.1.1 c1 g1
        obtain ⟨S1, d1, b1, b2, b3⟩ := m_rem hM.2.2.2.1 hG.2.2.1.1 m1
        have r1 : RY (Y1 0) f N t := by rw [a1 0 (by omega)]; exact c1
        have s1 : RS S1 1 f := fun j hj => by rw [b2 1 (by decide) (by decide)]; exact m1 j hj
        have kk := vis_ok g1 (show f 53 < 6 by omega) hi ⟨hc1, hc2⟩
        obtain ⟨y', e2, r2⟩ := y_addV (i := i) (c := c) r1 h12 (show f 53 < 6 by omega)
        have s2 := ((s1.put (k := 54 + 2 * f 53) (v := i)).put (k := 55 + 2 * f 53) (v := c)).put (k := 53) (v := f 53 + 1)
        have e54 : (54 : Int32) + (2 * nI (f 53)) = nI (54 + 2 * f 53) := by rw [show (54 : Int32) = nI 54 from rfl, show (2 : Int32) = nI 2 from rfl, pk_mul, nI_add]
        have e55 : nI (54 + 2 * f 53) + 1 = nI (55 + 2 * f 53) := by rw [show nI (54 + 2 * f 53) + 1 = nI (54 + 2 * f 53 + 1) from nI_add _ 1]; congr 1; omega
        refine ⟨nI (f 53 + 1), va_up Y1 0 y', o1, _, ?_, ?_, act hC hM hG a1 a2 a3 b1 b2 b3 r2 s2 (fun c h1 h2 => by rw [u2_ne (by omega), u2_ne (by omega), u2_ne (by omega)]) (fun k _ => by rw [u2_ne (by decide), u2_ne (by decide), u2_ne (by decide)]) (by rw [kk.2]; exact kk.1)⟩
        · rw [e1, bs, e2, bs, vu_s, r2.2.2.2.1, vis_53]
        · have e53 : u2 (u2 S1 1 (54 + 2 * f 53) (nI i)) 1 (55 + 2 * f 53) (nI c) 1 53 = nI (f 53) := by
            rw [u2_eq, upd_n (by omega), u2_eq, upd_n (by omega)]; exact s1 53 (by omega)
          rw [d1, bs]
          simp only [s1 53 (by omega), e54, e55, nI_clamp (show 54 + 2 * f 53 < 2 ^ 31 by omega), nI_clamp (show 55 + 2 * f 53 < 2 ^ 31 by omega), e53]
          rw [gib (by omega) (by decide), gib (by omega) (by decide), show nI (f 53) + 1 = nI (f 53 + 1) from nI_add _ 1, u2_eq, upd_s]
