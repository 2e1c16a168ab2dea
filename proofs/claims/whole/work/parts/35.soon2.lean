/-! the soonest: the reference -/
theorem ds_lt {n : Nat} (hn : 0 < n) : ∀ (k c d : Nat), d < k → ds n k c d < n
  | 0, _, d, h => absurd h (Nat.not_lt_zero d)
  | k + 1, c, d, h => by
    rw [ds]
    by_cases e : d = k
    · subst e; rw [pt_s]; exact Nat.mod_lt _ hn
    · rw [pt_n e]; exact ds_lt hn k _ d (by omega)
theorem m_ordL {n : Nat} {e : Nat → Nat} (hn : 0 < n) (hn6 : n ≤ 6) : ∀ (k u c : Nat) (M : Int32) (S : OS), k ≤ n → k < u → c < 2 ^ 31 → S 0 20 = nI n → (∀ d, d < n → S 10 d = nI (e d)) → ∃ S' M', fX5_isOrder_L12 u (nI c) M (nI k - 1) S = (if M' = ((1 <<< (nI n &&& 31)) - 1) then some (1, S') else some (0, S')) ∧ (∀ d, d < k → S' 11 d = nI (e (ds n k c d))) ∧ (∀ d, k ≤ d → S' 11 d = S 11 d) ∧ (∀ i, i < 32 → bt M' i = (bt M i || hs k (ds n k c) i)) ∧ Eo S S' 11
  | 0, u, c, M, S, hk, hu, hc, h20, h10 => by
    cases u with
    | zero => omega
    | succ u =>
      refine ⟨S, M, ?_, fun d hd => absurd hd (Nat.not_lt_zero d), fun _ _ => rfl, fun i _ => by show _ = (bt M i || false); rw [Bool.or_false], Eo.rf⟩
      rw [fX5_isOrder_L12, h20, ifT (show nI 0 - 1 < 0 by decide)]
  | k + 1, u, c, M, S, hk, hu, hc, h20, h10 => by
    cases u with
    | zero => omega
    | succ u =>
      have hm := Nat.mod_lt c hn
      have hd : c / n ≤ c := Nat.div_le_self c n
      obtain ⟨S', M', e1, a1, a2, a3, a4⟩ := m_ordL (e := e) hn hn6 k u (c / n) (M ||| bI (c % n)) (u2 S 11 k (nI (e (c % n)))) (by omega) (by omega) (by omega) (by rw [u2_ne (by decide)]; exact h20) (fun d hd => by rw [u2_ne (by decide)]; exact h10 d hd)
      refine ⟨S', M', ?_, fun d hd => ?_, fun d hd => by rw [a2 d (by omega), u2_eq, upd_n (by omega)], fun i hi => ?_, Eo.u2.tr a4⟩
      · rw [← e1, fX5_isOrder_L12, show nI (k + 1) - 1 = nI k from pk_sub (a := k + 1) (b := 1) (by omega), ifF (nI_pos (by omega)), h20, nzI hn (by omega), pk_rem hc hn (by omega), gib (by omega) (by decide), gib (by omega) (by decide), nI_clamp (by omega), nI_clamp (by omega), h10 _ hm, u2_ne (show (0 : Nat) ≠ 11 by decide), h20, nzI hn (by omega), nzI hn (by omega), pk_rem hc hn (by omega), pk_div hc hn (by omega), show nI k + (-1) = nI k - 1 from (Int32.sub_eq_add_neg _ _).symm]
        rfl
      · rw [ds]
        by_cases z : d = k
        · subst z; rw [a2 d (by omega), u2_eq, upd_s, pt_s]
        · rw [pt_n z]; exact a1 d (by omega)
      · rw [a3 i hi, b_or, b_bI (by omega) hi, ds, hs_pt]
        show _ = (bt M i || (hs k (ds n k (c / n)) i || (c % n == i)))
        cases bt M i with
        | true => rfl
        | false =>
          rw [Bool.false_or, Bool.false_or, Bool.or_comm]
          congr 1
          by_cases z : i = c % n
          · rw [decide_eq_true z, z]; simp
          · rw [decide_eq_false z, beq_false_of_ne (fun y => z y.symm)]
theorem full_m : ∀ n, n < 7 → ((1 : Int32) <<< (nI n &&& 31)) - 1 = ms (fun _ => true) n := by decide +kernel
theorem m_isOrder {n c : Nat} {e : Nat → Nat} {S : OS} (hn : 0 < n) (hn6 : n ≤ 6) (hc : c < 2 ^ 31) (h20 : S 0 20 = nI n) (h10 : ∀ d, d < n → S 10 d = nI (e d)) : ∃ S', fX5_isOrder S (nI c) = some (b01 (nd n (ds n n c)), S') ∧ (∀ d, d < n → S' 11 d = nI (e (ds n n c d))) ∧ Eo S S' 11 := by
  obtain ⟨S', M', e1, a1, a2, a3, a4⟩ := m_ordL (e := e) hn hn6 n FU c 0 S (Nat.le_refl _) (FU_gt (by omega)) hc h20 h10
  refine ⟨S', ?_, a1, a4⟩
  rw [fX5_isOrder, h20, e1, full_m n (by omega)]
  have hl := hs_cnt (L := ds n n c) (n := n) n (fun d hd => ds_lt hn n c d hd)
  have iffM : M' = ms (fun _ => true) n ↔ nd n (ds n n c) = true := by
    rw [← hl.2, cnt_full]
    constructor
    · intro h i hi
      have := a3 i (by omega)
      rw [h, b_ms (by omega) (by omega), decide_eq_true hi, b_0] at this
      simpa using this.symm
    · intro h
      refine b_ext (fun i hi => ?_)
      rw [a3 i hi, b_0, b_ms (by omega) hi, Bool.false_or]
      by_cases z : i < n
      · rw [h i z, decide_eq_true z]; rfl
      · rw [decide_eq_false z]
        cases y : hs n (ds n n c) i with
        | false => rfl
        | true =>
          obtain ⟨d, hd, ed⟩ := (hs_in n).mp y
          have := ds_lt hn n c d hd
          omega
  cases q : nd n (ds n n c) with
  | true => rw [ifT (iffM.mpr q)]; rfl
  | false => rw [ifF (fun z => by rw [iffM.mp z] at q; cases q)]; rfl
def vI (a : Option Nat) : Int32 := match a with
  | none => 1000000
  | some t => nI t
def FS (S S' : OS) : Prop := (∀ c, c ≠ 0 → c ≠ 11 → c ≠ 12 → S' c = S c) ∧ ∀ k, k ≠ 21 → k ≠ 22 → k ≠ 23 → S' 0 k = S 0 k
theorem FS.tr {o o' o'' : OS} (h : FS o o') (k : FS o' o'') : FS o o'' := ⟨fun c a b d => (k.1 c a b d).trans (h.1 c a b d), fun m a b c => (k.2 m a b c).trans (h.2 m a b c)⟩
theorem m_codes {f : Nat → Nat} {N m n : Nat} {e : Nat → Nat} (k : Ok f N m) (hn : 0 < n) (hn6 : n ≤ 6) (he : ∀ d, d < n → e d < f 53 ∧ gr f (e d) = true) {W : Nat} (hW : W < 2 ^ 30) : ∀ (r i u : Nat) (S : OS) (a : Option Nat × (Nat → Nat)), i + r = W → r < u → RS S 1 f → S 0 20 = nI n → (∀ d, d < n → S 10 d = nI (e d)) → (∀ t, a.1 = some t → t ≤ 1000) → (a.1 ≠ none → ∀ d, d < n → S 12 d = nI (a.2 d)) → ∃ S' a', a' = itr (fun c a => if nd n (ds n n c) then F2 f n (fun d => e (ds n n c d)) a else a) r i a ∧ fX5_soonest_L45 (nI W) u (vI a.1) (nI i) S = some (vI a'.1, S') ∧ (a'.1 ≠ none → ∀ d, d < n → S' 12 d = nI (a'.2 d)) ∧ FS S S'
  | 0, i, u, S, a, hi, hu, h1, h20, h10, ht, h12 => by
    cases u with
    | zero => omega
    | succ u => exact ⟨S, a, rfl, by rw [fX5_soonest_L45, ifT ((nI_leI (by omega) (by omega)).mpr (by omega))], h12, ⟨fun _ _ _ _ => rfl, fun _ _ _ _ => rfl⟩⟩
  | r + 1, i, u, S, a, hi, hu, h1, h20, h10, ht, h12 => by
    cases u with
    | zero => omega
    | succ u =>
      obtain ⟨S1, e1, b1, b2⟩ := m_isOrder (e := e) (c := i) hn hn6 (by omega) h20 h10
      have fs1 : FS S S1 := ⟨fun c _ h _ => b2 c h, fun q _ _ _ => by rw [b2 0 (by decide)]⟩
      rw [fX5_soonest_L45, ifF (by rw [nI_leI (by omega) (by omega)]; omega), e1, bs, show nI i + 1 = nI (i + 1) from nI_add i 1]
      dsimp only
      rw [itr]
      cases q : nd n (ds n n i) with
      | false =>
        obtain ⟨S', a', ea, e2, c2, c3⟩ := m_codes k hn hn6 he hW r (i + 1) u S1 a (by omega) (by omega) (fun q hq => by rw [b2 1 (by decide)]; exact h1 q hq) (by rw [b2 0 (by decide)]; exact h20) (fun d hd => by rw [b2 10 (by decide)]; exact h10 d hd) ht (fun hne d hd => by rw [b2 12 (by decide)]; exact h12 hne d hd)
        exact ⟨S', a', ea, by rw [ibf]; exact e2, c2, fs1.tr c3⟩
      | true =>
        obtain ⟨S2, e2, fn2⟩ := m_takesSo (S := S1) (n := n) (L := fun d => e (ds n n i d)) k hn6 (fun d hd => he _ (ds_lt hn n i d hd)) (fun q hq => by rw [b2 1 (by decide)]; exact h1 q hq) (by rw [b2 0 (by decide)]; exact h20) b1
        have tb := tmo_b k hn6 (L := fun d => e (ds n n i d)) (fun d hd => (he _ (ds_lt hn n i d hd)).1)
        have fs2 : FS S S2 := fs1.tr ⟨fun c h _ _ => fn2.1 c h, fn2.2⟩
        have e2 : fX5_takesSo S1 = some (nI (tmo f n (fun d => e (ds n n i d))), S2) := e2
        rw [ibt, e2, bs]
        dsimp only
        have cmp : (vI a.1 ≤ nI (tmo f n (fun d => e (ds n n i d)))) ↔ ¬ bl a.1 (tmo f n (fun d => e (ds n n i d))) = true := by
          cases y : a.1 with
          | none =>
            refine ⟨fun z => absurd ((nI_leI (a := 1000000) (by decide) (by omega)).mp z) (by omega), fun z => absurd rfl z⟩
          | some t =>
            have := ht t y
            show nI t ≤ _ ↔ ¬ decide (_ < t) = true
            rw [nI_leI (by omega) (by omega), decide_eq_true_eq]; omega
        have hF : (if true = true then F2 f n (fun d => e (ds n n i d)) a else a) = if bl a.1 (tmo f n (fun d => e (ds n n i d))) then (some (tmo f n (fun d => e (ds n n i d))), trn n (fun d => e (ds n n i d))) else a := rfl
        rw [hF]
        by_cases c : bl a.1 (tmo f n (fun d => e (ds n n i d))) = true
        · rw [ifF (fun z => (cmp.mp z) c), if_pos c]
          obtain ⟨S3, e3, p1, p2, p3⟩ := m_put (S := S2) (c1 := 12) (c3 := 11) (a := 0) (n := n) (by decide) (by show 0 + n ≤ 6; omega) (by show n ≤ 6; omega) (by decide) (by decide)
          have fs3 : FS S S3 := fs2.tr ⟨fun c _ _ h => p1 c h, fun q _ _ _ => by rw [p1 0 (by decide)]⟩
          have hs20 : S2 0 20 = nI n := by rw [fs2.2 20 (by decide) (by decide) (by decide)]; exact h20
          obtain ⟨S', a', ea, e4, c2, c3⟩ := m_codes k hn hn6 he hW r (i + 1) u S3 (some (tmo f n (fun d => e (ds n n i d))), trn n (fun d => e (ds n n i d))) (by omega) (by omega) (fun q hq => by rw [fs3.1 1 (by decide) (by decide) (by decide)]; exact h1 q hq) (by rw [fs3.2 20 (by decide) (by decide) (by decide)]; exact h20) (fun d hd => by rw [fs3.1 10 (by decide) (by decide) (by decide)]; exact h10 d hd) (fun t z => by cases z; omega) (fun _ d hd => by
            have := p2 d hd
            rw [Nat.zero_add] at this
            rw [this, fn2.1 11 (by decide), b1 d hd]
            show _ = nI (if d < n then _ else 0)
            rw [if_pos hd])
          refine ⟨S', a', ea, ?_, c2, fs3.tr c3⟩
          rw [hs20, show fX5_put S2 12 0 11 (nI n) = _ from e3, bs]
          exact e4
        · rw [ifT (cmp.mpr c), if_neg c]
          obtain ⟨S', a', ea, e4, c2, c3⟩ := m_codes k hn hn6 he hW r (i + 1) u S2 a (by omega) (by omega) (fun q hq => by rw [fs2.1 1 (by decide) (by decide) (by decide)]; exact h1 q hq) (by rw [fs2.2 20 (by decide) (by decide) (by decide)]; exact h20) (fun d hd => by rw [fs2.1 10 (by decide) (by decide) (by decide)]; exact h10 d hd) ht (fun hne d hd => by rw [fn2.1 12 (by decide), b2 12 (by decide)]; exact h12 hne d hd)
          exact ⟨S', a', ea, e4, c2, fs2.tr c3⟩
theorem m_pow {S : OS} {n : Nat} (h20 : S 0 20 = nI n) (hn : n ≤ 6) : ∀ (r i u : Nat), i + r = n → r < u → fX5_soonest_L18 S u (nI (n ^ i)) (nI i) = fX5_soonest_L45 (nI (n ^ n)) FU 1000000 0 S
  | 0, i, u, hi, hu => by
    have e : i = n := by omega
    subst e
    cases u with
    | zero => omega
    | succ u => rw [fX5_soonest_L18, h20, ifT ((nI_leI (by omega) (by omega)).mpr (Nat.le_refl _))]
  | r + 1, i, u, hi, hu => by
    cases u with
    | zero => omega
    | succ u =>
      rw [fX5_soonest_L18, h20, ifF (by rw [nI_leI (by omega) (by omega)]; omega), pk_mul, ← Nat.pow_succ, show nI i + 1 = nI (i + 1) from nI_add i 1]
      exact m_pow h20 hn r (i + 1) u (by omega) (by omega)
theorem m_soon {f : Nat → Nat} {N m : Nat} {S : OS} (x : Int32) (k : Ok f N m) (h1 : RS S 1 f) : ∃ S' t, D1 f (px f x) = some t ∧ fX5_soonest S x = some (nI t, S') ∧ S' 0 20 = nI (cnt (px f x) (f 53)) ∧ (0 < cnt (px f x) (f 53) → ∀ d, d < cnt (px f x) (f 53) → S' 12 d = nI ((D2 f (px f x)).2 d)) ∧ (∀ c, c ≠ 0 → c ≠ 10 → c ≠ 11 → c ≠ 12 → S' c = S c) ∧ (∀ q, q ≠ 20 → q ≠ 21 → q ≠ 22 → q ≠ 23 → S' 0 q = S 0 q) := by
  have h6 := k.2.2.1
  have hcl := cnt_le (px f x) (f 53)
  obtain ⟨S1, e1, a1, a2, a3, a4⟩ := m_find x k h1
  rcases Nat.eq_zero_or_pos (cnt (px f x) (f 53)) with hz | hp
  · refine ⟨S1, 0, ?_, ?_, a1, fun z => by omega, fun c h1 h2 _ _ => a3 c h1 h2, fun q h1 _ _ _ => a4 q h1⟩
    · unfold D1; rw [hz]; rfl
    · rw [fX5_soonest, e1, bs, a1, hz]; rfl
  · have hb : ∀ n, n < 7 → n ^ n < 50000 := by decide
    have hb := hb _ (show cnt (px f x) (f 53) < 7 by omega)
    obtain ⟨S', a', ea, e2, c2, c3⟩ := m_codes (e := en (px f x) (f 53)) (W := cnt (px f x) (f 53) ^ cnt (px f x) (f 53)) k hp (by omega) (fun d hd => by
      have := en_in (P := px f x) (f 53) d hd
      refine ⟨this.1, ?_⟩
      have h2 := this.2
      unfold px at h2
      rw [Bool.and_eq_true] at h2
      exact h2.2) (by omega) (cnt (px f x) (f 53) ^ cnt (px f x) (f 53)) 0 FU S1 (none, trn (cnt (px f x) (f 53)) zr) (by omega) (FU_gt (by omega)) (fun q hq => by rw [a3 1 (by decide) (by decide)]; exact h1 q hq) a1 a2 (fun t z => by cases z) (fun z => absurd rfl z)
    have ed : a' = D2 f (px f x) := by
      rw [ea]; unfold D2
      rw [df_codes hp _ _ (cnt (px f x) (f 53)) 0 (by omega)]
      rfl
    have e11 := D2_1 f (px f x)
    cases y : D1 f (px f x) with
    | none => exact absurd y (D1_some f _)
    | some t =>
      rw [y, ← ed] at e11
      refine ⟨S', t, rfl, ?_, ?_, fun _ d hd => ?_, fun c h1 h2 h3 h4 => by rw [c3.1 c h1 h3 h4, a3 c h1 h2], fun q h1 h2 h3 h4 => by rw [c3.2 q h2 h3 h4, a4 q h1]⟩
      · rw [fX5_soonest, e1, bs, a1, ifF (fun z => by have := (nI_eq (b := 0) (by omega) (by omega)).mp z; omega), show fX5_soonest_L18 S1 FU 1 0 = _ from m_pow a1 (by omega) (cnt (px f x) (f 53)) 0 FU (by omega) (FU_gt (by omega)), show fX5_soonest_L45 _ FU 1000000 0 S1 = _ from e2, e11]; rfl
      · rw [c3.2 20 (by decide) (by decide) (by decide)]; exact a1
      · rw [c2 (by rw [e11]; exact Option.some_ne_none t) d hd, ed]
