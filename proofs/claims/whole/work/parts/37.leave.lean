/-! leave -/
def tb (i b : Nat) : Bool := i.testBit b
theorem ms_tb {i : Nat} (hi : i < 64) : nI i = ms (tb i) 6 := by
  have : ∀ i, i < 64 → nI i = ms (tb i) 6 := by decide +kernel
  exact this i hi
def un (f : Nat → Nat) (i v : Nat) : Bool := gr f v && !tb i v
theorem ms_un {f : Nat → Nat} {i : Nat} (hi : i < 64) : ms (gq f) 6 &&& (nI i ^^^ (-1)) = ms (qu f (un f i)) 6 := by
  rw [ms_tb hi, ms_diff (by decide)]
  refine ms_cong (fun v hv => ?_)
  unfold gq qu un
  rw [Bool.and_assoc]
theorem tb_kn {f : Nat → Nat} {v : Nat} (hv : v < 6) : tb (kn (gq f)) v = gq f v := by
  have := b_nI (kn (gq f)) (i := v) (by omega)
  rw [← (kn_I (gq f)).1, b_ms (by decide) (by omega), decide_eq_true hv, Bool.true_and] at this
  exact this.symm
theorem px_un {f : Nat → Nat} {i : Nat} (h6 : f 53 ≤ 6) : ∀ v, v < f 53 → px f (ms (qu f (un f i)) 6) v = un f i v := by
  intro v hv
  unfold px
  rw [b_ms (by decide) (by omega), decide_eq_true (show v < 6 by omega)]
  unfold qu un
  rw [decide_eq_true hv]
  cases gr f v <;> simp
theorem D_empty {f : Nat → Nat} {u : Nat → Bool} (h : ∀ v, v < f 53 → u v = false) : D1 f u = some 0 := by
  have hz := cnt_z.mpr h
  unfold D1; rw [hz]; rfl
/-- no fewer, and not the same: fewer -/
theorem cnt_pr {f : Nat → Nat} {i : Nat} (hi : i < 64) (hs : ∀ v, v < 6 → tb i v = true → gq f v = true) (hne : i ≠ kn (gq f)) : cnt (tb i) 6 < cnt (tb (kn (gq f))) 6 := by
  have ex : ∃ v, v < 6 ∧ gq f v = true ∧ tb i v = false := by
    apply Classical.byContradiction
    intro z
    apply hne
    have e : nI i = nI (kn (gq f)) := by
      rw [ms_tb hi, ← (kn_I (gq f)).1]
      refine ms_cong (fun v hv => ?_)
      cases a : tb i v with
      | true => exact (hs v hv a).symm
      | false =>
        cases b : gq f v with
        | false => rfl
        | true => exact absurd ⟨v, hv, b, a⟩ z
    exact (nI_eq (by omega) (by have := (kn_I (gq f)).2; omega)).mp e
  obtain ⟨w, hw, h1, h2⟩ := ex
  have s := cnt_set (tb i) w true hw
  rw [h2] at s
  simp only [Bool.false_eq_true, if_false, if_true] at s
  have := cnt_sub (P := fun r => if r = w then true else tb i r) (Q := tb (kn (gq f))) 6 (fun v hv h => by
    rw [tb_kn hv]
    by_cases z : v = w
    · rw [z]; exact h1
    · simp only [if_neg z] at h; exact hs v hv h)
  omega
theorem leaveL {Y : YS} {o : OS} {f : Nat → Nat} {N m t : Nat} (k : Ok f N m) (h6 : f 53 ≤ 6) (ht1 : 1 ≤ t) (htb : t ≤ 99) (hc : CB o f) (hct : CT f o (fin f)) : ∀ (r i u u' : Nat) (S : OS) (b : Nat) (mb : Option Nat), i + r = 64 → r < u → r < u' → b < 64 → RS S 1 f → S 0 1 = nI t → (mb = some b ∨ (mb = none ∧ b = kn (gq f) ∧ i ≤ kn (gq f))) → ∃ S' b', fX0_fewestToStay_L7 Y o (nI t) u (nI b) (nI i) = some (nI b') ∧ fX5_leave_L40 (ms (gq f) 6) u' (rI mb) (nI i) S = some (nI b', S') ∧ (∀ c, c ≠ 0 → c ≠ 10 → c ≠ 11 → c ≠ 12 → S' c = S c) ∧ (∀ q, q ≠ 20 → q ≠ 21 → q ≠ 22 → q ≠ 23 → S' 0 q = S 0 q)
  | 0, i, u, u', S, b, mb, hi, hu, hu', hb, h1, hS, hm => by
    have klt := (kn_I (gq f)).2
    cases u with
    | zero => omega
    | succ u =>
      cases u' with
      | zero => omega
      | succ u' =>
        rcases hm with rfl | ⟨-, -, h⟩
        · refine ⟨S, b, ?_, ?_, fun _ _ _ _ _ => rfl, fun _ _ _ _ _ => rfl⟩
          · rw [fX0_fewestToStay_L7, ifT (by rw [show i = 64 by omega]; decide)]
          · rw [fX5_leave_L40, ifT (by rw [show i = 64 by omega]; decide)]; rfl
        · omega
  | r + 1, i, u, u', S, b, mb, hi, hu, hu', hb, h1, hS, hm => by
    have klt := (kn_I (gq f)).2
    cases u with
    | zero => omega
    | succ u =>
      cases u' with
      | zero => omega
      | succ u' =>
        have hi64 : i < 64 := by omega
        have n64 : ¬ 64 ≤ nI i := fun e => absurd ((nI_leI (a := 64) (by decide) (by omega)).mp e) (by omega)
        have bci : fJ6_bitCount_0f7a4 (nI i) = some (nI (cnt (tb i) 6)) := by rw [ms_tb hi64]; exact bc_ms (by decide)
        have bcb : fJ6_bitCount_0f7a4 (nI b) = some (nI (cnt (tb b) 6)) := by rw [ms_tb hb]; exact bc_ms (by decide)
        have mbi : fX5_bits (nI i) = some (nI (cnt (tb i) 6)) := by rw [ms_tb hi64]; exact m_bits_ms (by decide)
        have mbb : fX5_bits (nI b) = some (nI (cnt (tb b) 6)) := by rw [ms_tb hb]; exact m_bits_ms (by decide)
        have li := cnt_le (tb i) 6
        have lb := cnt_le (tb b) 6
        have sub : (nI i &&& (ms (gq f) 6 ^^^ (-1)) = 0) ↔ ∀ v, v < 6 → tb i v = true → gq f v = true := by
          rw [ms_tb hi64, ms_diff (by decide), ms_0 (by decide), cnt_z]
          constructor
          · intro h v hv ht
            have := h v hv
            rw [ht] at this
            simpa using this
          · intro h v hv
            cases a : tb i v with
            | false => rfl
            | true => rw [h v hv a]; rfl
        have next := leaveL (Y := Y) k h6 ht1 htb hc hct r (i + 1) u u'
        have ei : nI i + 1 = nI (i + 1) := nI_add i 1
        rw [fX0_fewestToStay_L7, fX5_leave_L40, ifF n64, ifF n64, hc.1, ms_gq h6, ei]
        by_cases cs : nI i &&& (ms (gq f) 6 ^^^ (-1)) = 0
        · have hsub := sub.mp cs
          rw [ifT cs, ifT cs, bci, bs, bcb, bs, mbi, bs]
          obtain ⟨ti, d1, tib, e3⟩ := c_soon (Y := Y) (u := un f i) h6 hct (fun v _ h => by unfold un at h; rw [Bool.and_eq_true] at h; exact h.1)
          obtain ⟨S1, ti', d2, e4, -, -, f3, f4⟩ := m_soon (S := S) (ms (qu f (un f i)) 6) k h1
          rw [(D_cong (px_un h6)).1, d1] at d2
          cases d2
          have s1 : S1 0 1 = nI t := by rw [f4 1 (by decide) (by decide) (by decide) (by decide)]; exact hS
          have rs1 : RS S1 1 f := fun q hq => by rw [f3 1 (by decide) (by decide) (by decide) (by decide)]; exact h1 q hq
          rw [ms_un hi64, e3, bs, e4, bs]
          dsimp only
          have go : ∀ (S2 : OS) (b2 : Nat) (mb2 : Option Nat), b2 < 64 → RS S2 1 f → S2 0 1 = nI t → (∀ c, c ≠ 0 → c ≠ 10 → c ≠ 11 → c ≠ 12 → S2 c = S c) → (∀ q, q ≠ 20 → q ≠ 21 → q ≠ 22 → q ≠ 23 → S2 0 q = S 0 q) → (mb2 = some b2 ∨ (mb2 = none ∧ b2 = kn (gq f) ∧ i + 1 ≤ kn (gq f))) → ∃ S' b', fX0_fewestToStay_L7 Y o (nI t) u (nI b2) (nI (i + 1)) = some (nI b') ∧ fX5_leave_L40 (ms (gq f) 6) u' (rI mb2) (nI (i + 1)) S2 = some (nI b', S') ∧ (∀ c, c ≠ 0 → c ≠ 10 → c ≠ 11 → c ≠ 12 → S' c = S c) ∧ (∀ q, q ≠ 20 → q ≠ 21 → q ≠ 22 → q ≠ 23 → S' 0 q = S 0 q) := by
            intro S2 b2 mb2 q1 q2 q3 q4 q5 q6
            obtain ⟨S', b', x1, x2, x3, x4⟩ := next S2 b2 mb2 (by omega) (by omega) (by omega) q1 q2 q3 q6
            exact ⟨S', b', x1, x2, fun c a1 a2 a3 a4 => by rw [x3 c a1 a2 a3 a4, q4 c a1 a2 a3 a4], fun q a1 a2 a3 a4 => by rw [x4 q a1 a2 a3 a4, q5 q a1 a2 a3 a4]⟩
          have ct : (nI t < nI ti) ↔ t < ti := nI_ltI (by omega) (by omega)
          rcases hm with rfl | ⟨rfl, hbg, hig⟩
          · -- somebody is best already
            rw [ifF (show ¬ rI (some b) < 0 from nI_pos (by omega)), show fX5_bits (rI (some b)) = _ from mbb, bs]
            by_cases c1 : nI (cnt (tb b) 6) ≤ nI (cnt (tb i) 6)
            · rw [ifT c1, ifT c1]
              exact go S b (some b) hb h1 hS (fun _ _ _ _ _ => rfl) (fun _ _ _ _ _ => rfl) (Or.inl rfl)
            · rw [ifF c1, ifF c1]
              by_cases c2 : nI t < nI ti
              · rw [ifT c2, ifT (show S1 0 1 < nI ti by rw [s1]; exact c2)]
                exact go S1 b (some b) hb rs1 s1 f3 f4 (Or.inl rfl)
              · rw [ifF c2, ifF (show ¬ S1 0 1 < nI ti by rw [s1]; exact c2)]
                exact go S1 i (some i) hi64 rs1 s1 f3 f4 (Or.inl rfl)
          · rw [ifT (show rI none < 0 by decide)]
            by_cases cg : i = kn (gq f)
            · -- all stay
              have hz : D1 f (un f i) = some 0 := D_empty (fun v hv => by
                unfold un
                rw [cg, tb_kn (by omega)]
                unfold gq
                rw [decide_eq_true hv]
                cases gr f v <;> rfl)
              rw [d1] at hz
              cases hz
              rw [ifT (show nI (cnt (tb b) 6) ≤ nI (cnt (tb i) 6) by rw [hbg, cg]; exact Int32.le_refl _), ifF (show ¬ S1 0 1 < nI 0 by rw [s1, nI_ltI (by omega) (by omega)]; omega), show b = i by omega]
              exact go S1 i (some i) hi64 rs1 s1 f3 f4 (Or.inl rfl)
            · have hlt := cnt_pr hi64 hsub cg
              rw [← hbg] at hlt
              rw [ifF (show ¬ nI (cnt (tb b) 6) ≤ nI (cnt (tb i) 6) by rw [nI_leI (by omega) (by omega)]; omega)]
              by_cases c2 : nI t < nI ti
              · rw [ifT c2, ifT (show S1 0 1 < nI ti by rw [s1]; exact c2)]
                exact go S1 b none hb rs1 s1 f3 f4 (Or.inr ⟨rfl, hbg, by omega⟩)
              · rw [ifF c2, ifF (show ¬ S1 0 1 < nI ti by rw [s1]; exact c2)]
                exact go S1 i (some i) hi64 rs1 s1 f3 f4 (Or.inl rfl)
        · rw [ifF cs, ifF cs, bci, bs, bcb, bs]
          obtain ⟨S', b', x1, x2, x3, x4⟩ := next S b mb (by omega) (by omega) (by omega) hb h1 hS (by
            rcases hm with h | ⟨h1, h2, h3⟩
            · exact Or.inl h
            · refine Or.inr ⟨h1, h2, ?_⟩
              have : i ≠ kn (gq f) := fun z => cs (sub.mpr (fun v hv h => by rw [z, tb_kn hv] at h; exact h))
              omega)
          refine ⟨S', b', ?_, x2, x3, x4⟩
          split <;> exact x1
theorem pt_self (L : Nat → Nat) (j : Nat) : pt L j (L j) = L := by
  funext d
  by_cases c : d = j
  · subst c; rw [pt_s]
  · rw [pt_n c]
theorem m_goersL {S : OS} {n : Nat} {e : Nat → Nat} (hn : n ≤ 6) (he : ∀ d, d < n → e d < 6) (h20 : S 0 20 = nI n) (h10 : ∀ d, d < n → S 10 d = nI (e d)) : ∀ (r i u : Nat), i + r = n → r < u → fX5_leave_L10 S u (ms (hs i e) 6) (nI i) = fX5_leave_L40 (ms (hs n e) 6) FU (-4) 0 S
  | 0, i, u, hi, hu => by
    have z : i = n := by omega
    subst z
    cases u with
    | zero => omega
    | succ u => rw [fX5_leave_L10, h20, ifT ((nI_leI (by omega) (by omega)).mpr (Nat.le_refl _))]
  | r + 1, i, u, hi, hu => by
    cases u with
    | zero => omega
    | succ u =>
      have e1 := ms_hs (L := e) (j := i) (v := e i) (he i (by omega))
      rw [pt_self] at e1
      rw [fX5_leave_L10, h20, ifF (by rw [nI_leI (by omega) (by omega)]; omega), gib (by omega) (by decide), nI_clamp (by omega), h10 i (by omega), e1, show nI i + 1 = nI (i + 1) from nI_add i 1]
      exact m_goersL hn he h20 h10 r (i + 1) u (by omega) (by omega)
theorem op_leave {Y : YS} {o S : OS} (h : Inv Y o S) : OpW (fX4_leave Y o) (fX5_leave S) := by
  obtain ⟨f, N, t, P, K, Z, X, hC, hM, hG⟩ := id h
  have c1 := hC.1
  have g1 := hG.1
  have h6 := g1.2.2.1
  have hcl := cnt_le (gr f) (f 53)
  obtain ⟨o1, e1, b1, fr1⟩ := c_gather (o := o) c1 g1
  obtain ⟨o2, e2, t2, b2, fr2⟩ := c_all (Y := Y) g1 b1
  obtain ⟨S1, d1, s20, s10, sc, s0⟩ := m_find (S := S) 63 g1 hM.1
  rw [cnt_cong (fun v hv => px63 (f := f) (show v < 6 by omega))] at s20 s10
  rw [en_cong (f 53) (fun v hv => px63 (f := f) (show v < 6 by omega))] at s10
  have eg := m_goersL (S := S1) (e := en (gr f) (f 53)) (n := cnt (gr f) (f 53)) (by omega) (fun d hd => by have := (en_in (P := gr f) (f 53) d hd).1; omega) s20 s10 (cnt (gr f) (f 53)) 0 FU (by omega) (FU_gt (by omega))
  have em : ms (hs (cnt (gr f) (f 53)) (en (gr f) (f 53))) 6 = ms (gq f) 6 := by
    refine ms_cong (fun v hv => ?_)
    unfold gq
    cases y : hs (cnt (gr f) (f 53)) (en (gr f) (f 53)) v with
    | true =>
      obtain ⟨d, hd, z⟩ := (hs_in _).mp y
      have := en_in (P := gr f) (f 53) d hd
      rw [z] at this
      rw [decide_eq_true this.1, this.2]; rfl
    | false =>
      by_cases z : v < f 53
      · rw [decide_eq_true z, Bool.true_and]
        cases w : gr f v with
        | false => rfl
        | true =>
          rw [(hs_in _).mpr ⟨cnt (gr f) v, cnt_lt w z, en_at w (f 53) z⟩] at y; cases y
      · rw [decide_eq_false z]; rfl
  rw [em] at eg
  have klt := (kn_I (gq f)).2
  obtain ⟨S', b', x1, x2, x3, x4⟩ := leaveL (Y := Y) (o := o2) g1 h6 hG.2.1.1 hG.2.1.2 b2 t2 64 0 FU FU S1 (kn (gq f)) none (by omega) (FU_gt (by omega)) (FU_gt (by omega)) klt (fun q hq => by rw [sc 1 (by decide) (by decide)]; exact hM.1 q hq) (by rw [s0 1 (by decide)]; exact hM.2.2.1) (Or.inr ⟨rfl, rfl, by omega⟩)
  refine ⟨nI b', Y, o2, S', ?_, ?_, Inv.br hC hM hG (fun c hc => by rw [fr2 c hc, fr1 c (by omega)]) (fun c a1 a2 a3 a4 => by rw [x3 c a1 a2 a3 a4, sc c a1 a2]) (fun q a1 a2 a3 a4 => by rw [x4 q a1 a2 a3 a4, s0 q a1])⟩
  · rw [fX4_leave, e1, bs]
    dsimp only
    rw [e2, bs]
    dsimp only
    rw [c1.2.1, fX0_fewestToStay, b2.1, ms_gq h6, (kn_I (gq f)).1, show fX0_fewestToStay_L7 Y o2 (nI t) FU (nI (kn (gq f))) 0 = _ from x1]; rfl
  · rw [fX5_leave, d1, bs, show fX5_leave_L10 S1 FU 0 0 = _ from eg]; exact x2
