/-! takes -/
theorem en_cong {P Q : Nat → Bool} : ∀ (V : Nat), (∀ v, v < V → P v = Q v) → en P V = en Q V
  | 0, _ => rfl
  | m + 1, h => by
    rw [en, en, h m (by omega), en_cong m (fun v hv => h v (by omega)), cnt_cong (fun v hv => h v (by omega))]
theorem m_takesSo {f : Nat → Nat} {N m n : Nat} {L : Nat → Nat} {S : OS} (k : Ok f N m) (hn : n ≤ 6) (hL : ∀ d, d < n → L d < f 53 ∧ gr f (L d) = true) (h1 : RS S 1 f) (h20 : S 0 20 = nI n) (h11 : ∀ d, d < n → S 11 d = nI (L d)) : ∃ S', fX5_takesSo S = some (nI (bk f (stt f n L)), S') ∧ FN S S' := by
  have f0 : FN S (u2 (u2 S 0 21 0) 0 22 (-4)) := (FN.u (Or.inl rfl)).tr (FN.u (Or.inr (Or.inl rfl)))
  obtain ⟨S', e, fn⟩ := m_so k hn hL n 0 FU (u2 (u2 S 0 21 0) 0 22 (-4)) (0, none, 0) (by omega) (FU_gt (by omega)) (fun q hq => by rw [f0.1 1 (by decide)]; exact h1 q hq) (by rw [f0.2 20 (by decide) (by decide) (by decide)]; exact h20) (fun d hd => by rw [f0.1 11 (by decide)]; exact h11 d hd) ⟨by rw [u2_eq, upd_n (by decide), u2_eq, upd_s]; rfl, by rw [u2_eq, upd_s]; rfl, fun v hv => by cases hv⟩ ⟨Nat.zero_le _, Nat.zero_le _, fun v hv => by cases hv⟩ (fun v hv => by cases hv)
  exact ⟨S', by rw [fX5_takesSo]; exact e, f0.tr fn⟩
def px (f : Nat → Nat) (x : Int32) (v : Nat) : Bool := bt x v && gr f v
theorem m_findL {f : Nat → Nat} {N m : Nat} {x : Int32} (k : Ok f N m) : ∀ (j i u : Nat) (S : OS), i + j = f 53 → j < u → RS S 1 f → S 0 20 = nI (cnt (px f x) i) → (∀ d, d < cnt (px f x) i → S 10 d = nI (en (px f x) i d)) → ∃ S', fX5_findGuests_L7 x u (nI i) S = some S' ∧ S' 0 20 = nI (cnt (px f x) (f 53)) ∧ (∀ d, d < cnt (px f x) (f 53) → S' 10 d = nI (en (px f x) (f 53) d)) ∧ (∀ c, c ≠ 0 → c ≠ 10 → S' c = S c) ∧ (∀ q, q ≠ 20 → S' 0 q = S 0 q)
  | 0, i, u, S, hi, hu, h1, h20, h10 => by
    have h6 := k.2.2.1
    have e : i = f 53 := by omega
    subst e
    cases u with
    | zero => omega
    | succ u => exact ⟨S, by rw [fX5_findGuests_L7, z53, h1 53 (by omega), ifT ((nI_leI (by omega) (by omega)).mpr (Nat.le_refl _))], h20, h10, fun _ _ _ => rfl, fun _ _ => rfl⟩
  | j + 1, i, u, S, hi, hu, h1, h20, h10 => by
    have h6 := k.2.2.1
    have h12 := k.2.1
    cases u with
    | zero => omega
    | succ u =>
      have hd := (k.2.2.2.2.1 i (by omega)).1
      have hcl := cnt_le (px f x) i
      have skip : px f x i = false → ∃ S', fX5_findGuests_L7 x u (nI (i + 1)) S = some S' ∧ S' 0 20 = nI (cnt (px f x) (f 53)) ∧ (∀ d, d < cnt (px f x) (f 53) → S' 10 d = nI (en (px f x) (f 53) d)) ∧ (∀ c, c ≠ 0 → c ≠ 10 → S' c = S c) ∧ (∀ q, q ≠ 20 → S' 0 q = S 0 q) := fun hp =>
        m_findL k j (i + 1) u S (by omega) (by omega) h1 (by rw [cnt_f hp]; exact h20) (by rw [cnt_f hp, en_f hp]; exact h10)
      rw [fX5_findGuests_L7, z53, h1 53 (by omega), ifF (by rw [nI_leI (by omega) (by omega)]; omega), m_has x (by omega), bs, show nI i + 1 = nI (i + 1) from nI_add i 1]
      cases c1 : bt x i with
      | false =>
        rw [ibf]
        exact skip (by unfold px; rw [c1]; rfl)
      | true =>
        rw [ibt, ix4, gib (by omega) (by decide), nI_clamp (by omega), h1 _ (by omega), m_plotOf h1 rfl k hd, bs]
        cases e : gp f i with
        | none =>
          have hg : px f x i = false := by unfold px gr; rw [e, c1]; rfl
          have e : plt f (f (54 + 2 * i)) = none := e
          rw [e, ifT (show rI none < 0 by decide)]
          exact skip hg
        | some p =>
          have hg : px f x i = true := by unfold px gr; rw [e, c1]; rfl
          have hp := gp_b e
          have e : plt f (f (54 + 2 * i)) = some p := e
          rw [e, ifF (show ¬ rI (some p) < 0 from nI_pos (by omega)), h20, gib (by omega) (by decide), nI_clamp (by omega)]
          obtain ⟨S', e', a1, a2, a3, a4⟩ := m_findL (x := x) k j (i + 1) u (u2 (u2 S 10 (cnt (px f x) i) (nI i)) 0 20 (u2 S 10 (cnt (px f x) i) (nI i) 0 20 + 1)) (by omega) (by omega) (fun q hq => by rw [u2_ne (by decide), u2_ne (by decide)]; exact h1 q hq) (by rw [u2_eq, upd_s, u2_ne (by decide), h20, cnt_t hg]; exact nI_add _ 1) (fun d hd' => by
            rw [u2_ne (by decide), u2_eq, en_t hg]
            by_cases z : d = cnt (px f x) i
            · subst z; rw [upd_s, pt_s]
            · rw [cnt_t hg] at hd'; rw [upd_n z, pt_n z]; exact h10 d (by omega))
          exact ⟨S', e', a1, a2, fun c h1 h2 => by rw [a3 c h1 h2, u2_ne h1, u2_ne h2], fun q hq => by rw [a4 q hq, u2_eq, upd_n hq, u2_ne (by decide)]⟩
theorem m_find {f : Nat → Nat} {N m : Nat} {S : OS} (x : Int32) (k : Ok f N m) (h1 : RS S 1 f) : ∃ S', fX5_findGuests S x = some S' ∧ S' 0 20 = nI (cnt (px f x) (f 53)) ∧ (∀ d, d < cnt (px f x) (f 53) → S' 10 d = nI (en (px f x) (f 53) d)) ∧ (∀ c, c ≠ 0 → c ≠ 10 → S' c = S c) ∧ (∀ q, q ≠ 20 → S' 0 q = S 0 q) := by
  have h6 := k.2.2.1
  obtain ⟨S', e, a1, a2, a3, a4⟩ := m_findL (x := x) k (f 53) 0 FU (u2 S 0 20 0) (by omega) (FU_gt (by omega)) (fun q hq => by rw [u2_ne (by decide)]; exact h1 q hq) (by rw [u2_eq, upd_s]; rfl) (fun d hd => absurd hd (Nat.not_lt_zero d))
  exact ⟨S', by rw [fX5_findGuests]; exact e, a1, a2, fun c h1 h2 => by rw [a3 c h1 h2, u2_ne h1], fun q hq => by rw [a4 q hq, u2_eq, upd_n hq]⟩
theorem px63 {f : Nat → Nat} {v : Nat} (h : v < 6) : px f 63 v = gr f v := by
  have : ∀ v, v < 6 → bt 63 v = true := by decide +kernel
  unfold px; rw [this v h]; rfl
/-- the copy of an order -/
theorem m_takL {S0 : OS} {a : Int32} {n : Nat} {g W : Nat → Nat} (hn : n ≤ 6) (hW : (a = 0 ∧ ∀ i, i < n → W i = i) ∨ (a = 1 ∧ ∀ i, i < n → W i = n - 1 - i)) : ∀ (j i u : Nat) (S : OS), i + j = n → j < u → S 0 20 = nI n → (∀ d, d < n → S 10 d = nI (g d)) → (∀ d, d < i → S 11 d = nI (g (W d))) → ∃ S', fX5_takes_L19 a u (nI i) S = (fX5_takesSo S').bind (fun r2 => (some (r2.1, r2.2))) ∧ (∀ d, d < n → S' 11 d = nI (g (W d))) ∧ Eo S S' 11
  | 0, i, u, S, hi, hu, h20, h10, h11 => by
    have e : i = n := by omega
    subst e
    cases u with
    | zero => omega
    | succ u => exact ⟨S, by rw [fX5_takes_L19, h20, ifT ((nI_leI (by omega) (by omega)).mpr (Nat.le_refl _))], h11, Eo.rf⟩
  | j + 1, i, u, S, hi, hu, h20, h10, h11 => by
    cases u with
    | zero => omega
    | succ u =>
      have hw : W i < n := by
        rcases hW with ⟨-, hw⟩ | ⟨-, hw⟩
        · rw [hw i (by omega)]; omega
        · rw [hw i (by omega)]; omega
      obtain ⟨S', e, a1, a2⟩ := m_takL (S0 := S0) hn hW j (i + 1) u (u2 S 11 i (nI (g (W i)))) (by omega) (by omega) (by rw [u2_ne (by decide)]; exact h20) (fun d hd => by rw [u2_ne (by decide)]; exact h10 d hd) (fun d hd => by
        rw [u2_eq]
        by_cases z : d = i
        · subst z; rw [upd_s]
        · rw [upd_n z]; exact h11 d (by omega))
      refine ⟨S', ?_, a1, Eo.u2.tr a2⟩
      rw [← e, fX5_takes_L19, h20, ifF (by rw [nI_leI (by omega) (by omega)]; omega), show nI i + 1 = nI (i + 1) from nI_add i 1]
      rcases hW with ⟨rfl, hw2⟩ | ⟨rfl, hw2⟩
      · rw [ifT (show (0 : Int32) = 0 from rfl), gib (by omega) (by decide), gib (by omega) (by decide), nI_clamp (by omega), h10 i (by omega), hw2 i (by omega)]
      · rw [ifF (show ¬ (1 : Int32) = 0 by decide), show nI n - 1 = nI (n - 1) from pk_sub (b := 1) (by omega), pk_sub (by omega), gib (by omega) (by decide), gib (by omega) (by decide), nI_clamp (by omega), nI_clamp (by omega), h10 _ (by omega), hw2 i (by omega)]
theorem op_takes {Y : YS} {o S : OS} (h : Inv Y o S) (x : Int32) : OpW (fX4_takes Y o x) (fX5_takes S x) := by
  obtain ⟨f, N, t, P, K, Z, X, hC, hM, hG⟩ := id h
  have c1 := hC.1
  have m1 := hM.1
  have g1 := hG.1
  have h6 := g1.2.2.1
  rw [fX5_takes, m_in, bs, show (0 : Int32).toInt = 0 from rfl, show (1 : Int32).toInt = 1 from rfl]
  have run : ∀ (a : Int32) (W W' : Nat → Nat), ((a = 0 ∧ ∀ i, i < f 53 → W i = i) ∨ (a = 1 ∧ ∀ i, i < f 53 → W i = f 53 - 1 - i)) → ((a = 0 ∧ ∀ i, i < cnt (gr f) (f 53) → W' i = i) ∨ (a = 1 ∧ ∀ i, i < cnt (gr f) (f 53) → W' i = cnt (gr f) (f 53) - 1 - i)) → itr (fun n s => if gr f (W n) then snv f s (W n) else s) (f 53) 0 ((0, none, 0) : BS) = itr (fun d s => snv f s (en (gr f) (f 53) (W' d))) (cnt (gr f) (f 53)) 0 (0, none, 0) → OpW ((fX0_gather Y o 0).bind (fun r2 => (fX0_minutesByNumber r2.1 r2.2 a).bind (fun r7 => (some (r7.1, r7.2.1, r7.2.2))))) ((fX5_findGuests S 63).bind (fun r13 => (fX5_takes_L19 a FU 0 r13))) := by
    intro a W W' hW hW' hit
    have hcl := cnt_le (gr f) (f 53)
    obtain ⟨o1, e1, b1, fr1⟩ := c_gather (o := o) c1 g1
    have fb0 : FB o1 (u2 (u2 (u2 o1 6 8 0) 6 9 (-4)) 6 10 0) := ((FB.u (Or.inl rfl)).tr (FB.u (Or.inr (Or.inl rfl)))).tr (FB.u (Or.inr (Or.inr rfl)))
    obtain ⟨o2, e2, fb⟩ := c_mbn (Y := Y) (a := a) (W := W) g1 (fun i hi => by
      rcases hW with ⟨-, hw⟩ | ⟨-, hw⟩
      · rw [hw i hi]; exact hi
      · rw [hw i hi]; omega) hW (f 53) 0 FU (u2 (u2 (u2 o1 6 8 0) 6 9 (-4)) 6 10 0) (0, none, 0) (by omega) (FU_gt (by omega)) (fb0.cb b1) ⟨by rw [u2_eq, upd_n (by decide), u2_eq, upd_n (by decide), u2_eq, upd_s]; rfl, by rw [u2_eq, upd_n (by decide), u2_eq, upd_s]; rfl, by rw [u2_eq, upd_s]; rfl⟩ ⟨Nat.zero_le _, Nat.zero_le _, fun v hv => by cases hv⟩
    have fb2 := fb0.tr fb
    obtain ⟨S1, d1, s20, s10, sc, s0⟩ := m_find (S := S) 63 g1 m1
    rw [cnt_cong (fun v hv => px63 (f := f) (show v < 6 by omega))] at s20 s10
    rw [en_cong (f 53) (fun v hv => px63 (f := f) (show v < 6 by omega))] at s10
    obtain ⟨S2, d2, s11, eo2⟩ := m_takL (S0 := S) (a := a) (W := W') (show cnt (gr f) (f 53) ≤ 6 by omega) hW' (cnt (gr f) (f 53)) 0 FU S1 (by omega) (FU_gt (by omega)) s20 s10 (fun d hd => absurd hd (Nat.not_lt_zero d))
    obtain ⟨S3, d3, fn⟩ := m_takesSo (S := S2) (n := cnt (gr f) (f 53)) (L := fun d => en (gr f) (f 53) (W' d)) g1 (by omega) (fun d hd => en_in (P := gr f) (f 53) (W' d) (by
      rcases hW' with ⟨-, hw⟩ | ⟨-, hw⟩
      · rw [hw d hd]; exact hd
      · rw [hw d hd]; omega)) (fun q hq => by rw [eo2 1 (by decide), sc 1 (by decide) (by decide)]; exact m1 q hq) (by rw [eo2 0 (by decide)]; exact s20) s11
    refine ⟨nI (bk f (stt f (cnt (gr f) (f 53)) (fun d => en (gr f) (f 53) (W' d)))), Y, o2, S3, ?_, ?_, Inv.sc hC hM hG (fun _ _ _ => rfl) (fun c hc => by rw [fb2.1 c (by omega), fr1 c (by omega)]) (by rw [fb2.1 3 (by decide), fr1 3 (by omega)]) (fun c h1 h2 => by rw [fn.1 c (by omega), eo2 c (by omega), sc c (by omega) (by omega)]) (fun q hq => by rw [fn.2 q (by omega) (by omega) (by omega), eo2 0 (by decide), s0 q (by omega)])⟩
    · rw [e1, bs]
      dsimp only
      rw [fX0_minutesByNumber, fX0_begin, bs]
      dsimp only
      rw [show fX0_minutesByNumber_L6 a FU 0 Y _ = _ from e2, bs, hit]; rfl
    · rw [d1, bs, show fX5_takes_L19 a FU 0 S1 = _ from d2, d3, bs]
  cases hx : iL x 0 1 with
  | false =>
    rw [ibf, fX4_takes]
    have n0 : ¬ x = 0 := fun e => by rw [e] at hx; exact absurd hx (by decide)
    have n1 : ¬ x = 1 := fun e => by rw [e] at hx; exact absurd hx (by decide)
    rw [ifF n0, ifF n1]
    exact ⟨_, _, _, _, rfl, rfl, h⟩
  | true =>
    obtain ⟨a, -, ha, rfl⟩ := iL_b (lo := 0) (hi := 1) (by decide) hx
    rw [ibt, fX4_takes]
    by_cases c : a = 0
    · subst c
      rw [ifT (show nI 0 = 0 from rfl)]
      have := run 0 id id (Or.inl ⟨rfl, fun _ _ => rfl⟩) (Or.inl ⟨rfl, fun _ _ => rfl⟩) (itr_enum (f 53) _)
      simp only [ifF (show ¬ nI 0 = 1 by decide)]
      exact this
    · have c : a = 1 := by omega
      subst c
      rw [ifF (show ¬ nI 1 = 0 by decide), ifT (show nI 1 = 1 from rfl)]
      have := run 1 (fun i => f 53 - 1 - i) (fun i => cnt (gr f) (f 53) - 1 - i) (Or.inr ⟨rfl, fun _ _ => rfl⟩) (Or.inr ⟨rfl, fun _ _ => rfl⟩) (itr_back (P := gr f) (h := fun v s => snv f s v) (f 53) _)
      simp only [ifT (show nI 1 = 1 from rfl)]
      exact this
