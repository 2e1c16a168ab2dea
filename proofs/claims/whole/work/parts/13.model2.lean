/-! the reference's rows -/
def RS (S : OS) (c : Nat) (f : Nat → Nat) : Prop := ∀ j, j < 66 → S c j = nI (f j)
def Eo (S S' : OS) (c : Nat) : Prop := ∀ c', c' ≠ c → S' c' = S c'
theorem z0 : (0 : Int32).toNatClampNeg = 0 := rfl
theorem RS.put {S : OS} {c k v : Nat} {f : Nat → Nat} (h : RS S c f) : RS (u2 S c k (nI v)) c (pt f k v) := by
  intro j hj
  rw [u2_eq]
  by_cases e : j = k
  · subst e; rw [upd_s, pt_s]
  · rw [upd_n e, pt_n e]; exact h j hj
theorem Eo.u2 {S : OS} {c k : Nat} {x : Int32} : Eo S (u2 S c k x) c := fun _ h => u2_ne h
theorem Eo.rf {S : OS} {c : Nat} : Eo S S c := fun _ _ => rfl
theorem Eo.tr {S S' S'' : OS} {c : Nat} (h : Eo S S' c) (h' : Eo S' S'' c) : Eo S S'' c := fun c' hc => (h' c' hc).trans (h c' hc)
theorem RS.eo {S S' : OS} {c c' : Nat} {f : Nat → Nat} (h : RS S c f) (e : Eo S S' c') (hc : c ≠ c') : RS S' c f := fun j hj => by rw [e c hc]; exact h j hj
theorem ixL (yd p : Nat) : (37 + (8 * nI yd)) + nI p = nI (37 + (yd * 8 + p)) := by
  rw [show (37 : Int32) = nI 37 from rfl, show (8 : Int32) = nI 8 from rfl, pk_mul, nI_add, nI_add]
  congr 1; omega
theorem ix1 (i : Nat) : (1 : Int32) + (3 * nI i) = nI (1 + 3 * i) := by
  rw [show (1 : Int32) = nI 1 from rfl, show (3 : Int32) = nI 3 from rfl, pk_mul, nI_add]
theorem ix2 (i : Nat) : ((1 : Int32) + (3 * nI i)) + 1 = nI (2 + 3 * i) := by
  rw [ix1, show (1 : Int32) = nI 1 from rfl, nI_add]; congr 1; omega
theorem ix3 (i : Nat) : ((1 : Int32) + (3 * nI i)) + 2 = nI (3 + 3 * i) := by
  rw [ix1, show (2 : Int32) = nI 2 from rfl, nI_add]; congr 1; omega
section MB
variable {S : OS} {f : Nat → Nat} {N m c : Nat}
theorem m_plotIn (h : RS S c f) (hc : lenM c = 66) (k : Ok f N m) {yd w : Nat} (hy : yd < 2) (hw : w < 100) : fX5_plotIn S c (nI yd) (nI w) = some (rI (pin f yd w)) := by
  rw [fX5_plotIn]
  have := lpF (L := fun k i => fX5_plotIn_L2 c S (nI yd) (nI w) k i) (P := fun p => ly f yd p == w + 1) (n := 8) (z := -4) (g := nI) ?_ ?_ 8 0 FU (by omega) (FU_gt (by omega))
  · exact this
  · intro j
    show fX5_plotIn_L2 c S (nI yd) (nI w) (j + 1) (nI 8) = some (-4)
    rw [fX5_plotIn_L2, ifT (by decide)]
  · intro j i hi
    show fX5_plotIn_L2 c S (nI yd) (nI w) (j + 1) (nI i) = _
    have hl := k.lt hy hi
    rw [fX5_plotIn_L2, ifF (by rw [show (8 : Int32) = nI 8 from rfl, nI_leI (by decide) (by omega)]; omega), ixL, hc, gib (by omega) (by decide), nI_clamp (by omega), h _ (by omega), show nI w + 1 = nI (w + 1) from nI_add w 1]
    show (if nI (ly f yd i) = nI (w + 1) then _ else _) = _
    simp (disch := omega) only [nI_eq, show nI i + 1 = nI (i + 1) from nI_add i 1, beq_iff_eq]
theorem m_plotOf (h : RS S c f) (hc : lenM c = 66) (k : Ok f N m) {i : Nat} (hi : i < f 0) : fX5_plotOf S c (nI i) = some (rI (plt f i)) := by
  have h12 := k.2.1
  have hv := (k.2.2.2.1 i hi).1
  rw [fX5_plotOf, ix1, hc, gib (by omega) (by decide), nI_clamp (by omega), h _ (by omega), show f (1 + 3 * i) = vl f i from rfl, vs1 hv, m_plotIn h hc k (by omega) (by omega)]
  rfl
theorem remN {a d : Nat} (h0 : 0 < d) (ha : a < 2 ^ 31) (hd : d < 2 ^ 31) : nI a - nI a / nI d * nI d = nI (a % d) := pk_rem ha h0 hd
theorem m_freeL (h : RS S 8 f) (hN : S 0 0 = nI N) (k : Ok f N m) {yd : Nat} (hy : yd < 2) (fw : Bool) : ∀ (j p cc u : Nat), cc + j = N → p < N → j < u → fX5_freeFrom_L6 S (nI yd) (if fw then 1 else -1) u (nI p) (nI cc) = some (rI (sf f N yd fw j p))
  | 0, p, cc, u, hc, hp, hu => by
    have hN8 := k.1
    cases u with
    | zero => omega
    | succ u => rw [fX5_freeFrom_L6, hN, ifT ((nI_leI (by omega) (by omega)).mpr (by omega))]; rfl
  | j + 1, p, cc, u, hc, hp, hu => by
    have hN8 := k.1
    cases u with
    | zero => omega
    | succ u =>
      have hl := k.lt hy (show p < 8 by omega)
      rw [fX5_freeFrom_L6, hN, ifF (by rw [nI_leI (by omega) (by omega)]; omega), ixL, gib (by omega) (by decide), nI_clamp (by omega), h _ (by omega), sf]
      show (if nI (ly f yd p) = 0 then _ else _) = _
      by_cases c0 : ly f yd p = 0
      · rw [if_pos c0, ifT (by rw [c0]; rfl)]; rfl
      · rw [if_neg c0, ifF (nI_ne0 (by omega) (by omega)), nzI (by omega) (by omega)]
        have ec : nI cc + 1 = nI (cc + 1) := nI_add cc 1
        have key : (nI p + (if fw then 1 else -1)) + nI N = nI (if fw then p + 1 + N else p + N - 1) := by
          cases fw
          · simp only [Bool.false_eq_true, if_false]
            by_cases c1 : p = 0
            · subst c1
              rw [show nI 0 + (-1) = (-1 : Int32) by decide, show (-1 : Int32) + nI N = nI N + (-1) from Int32.add_comm _ _, nI_m1 (by omega)]
              congr 1; omega
            · rw [nI_m1 (by omega), nI_add]; congr 1; omega
          · simp only [if_true]
            rw [show nI p + 1 = nI (p + 1) from nI_add p 1, nI_add]
        rw [key, remN (by omega) (by split <;> omega) (by omega), ec]
        have en : (if fw then p + 1 + N else p + N - 1) % N = nxt N fw p := by
          unfold nxt
          cases fw
          · simp only [Bool.false_eq_true, if_false]
            by_cases c1 : p = 0
            · rw [if_pos c1, c1, Nat.mod_eq_of_lt (by omega)]; omega
            · rw [if_neg c1, show p + N - 1 = (p - 1) + N by omega, Nat.add_mod_right, Nat.mod_eq_of_lt (by omega)]
          · simp only [if_true]
            rw [Nat.add_mod_right]
            by_cases c1 : p + 1 < N
            · rw [if_pos c1, Nat.mod_eq_of_lt c1]
            · rw [if_neg c1, show p + 1 = N by omega, Nat.mod_self]
        rw [en]
        exact m_freeL h hN k hy fw j _ _ u (by omega) (nxt_lt fw (by omega) hp) (by omega)
theorem m_place (h : RS S 8 f) (hN : S 0 0 = nI N) (k : Ok f N m) {yd kk F : Nat} (hy : yd < 2) (hk : kk < 4) (hF : F ≤ 9) : fX5_placeFor S (nI yd) (nI kk) (nI F) = some (rI (fp f N yd kk F)) := by
  have hN8 := k.1
  have hw := fp_w (F := F) hN8.1 hN8.2
  have a1 := m_freeL h hN k hy true N 0 0 FU (by omega) (by omega) (FU_gt (by omega))
  have a2 := m_freeL h hN k hy true N ((9 - F) * N / 10) 0 FU (by omega) hw (FU_gt (by omega))
  have a3 := m_freeL h hN k hy false N ((9 - F) * N / 10) 0 FU (by omega) hw (FU_gt (by omega))
  simp only [if_true, Bool.false_eq_true, if_false] at a1 a2 a3
  have e2 : (nI kk = 2) ↔ kk = 2 := nI_eq (b := 2) (by omega) (by decide)
  have e1 : (nI kk = 1) ↔ kk = 1 := nI_eq (b := 1) (by omega) (by decide)
  rw [fX5_placeFor, hN, wants hN8.2 hF]
  simp only [e1, e2]
  unfold fp fX5_freeFrom
  by_cases c2 : kk = 2
  · rw [if_pos c2, if_pos c2]; exact (congrArg (fun o => Option.bind o (fun r => some r)) a1)
  · rw [if_neg c2, if_neg c2]
    by_cases c1 : kk = 1
    · rw [if_pos c1, if_pos c1]; exact (congrArg (fun o => Option.bind o (fun r => some r)) a3)
    · rw [if_neg c1, if_neg c1]; exact (congrArg (fun o => Option.bind o (fun r => some r)) a2)
theorem m_bur {i : Nat} (h : RS S 8 f) (hN : S 0 0 = nI N) (k : Ok f N m) (hm : m ≤ i) (hi : i < f 0) : ∃ S', fX5_buries S (nI i) = some (rI (bur f N i).1, S') ∧ RS S' 8 (bur f N i).2 ∧ Eo S S' 8 := by
  obtain ⟨hv, hk3, hF⟩ := k.2.2.2.1 i hi
  have h12 := k.2.1
  have hN8 := k.1
  rw [fX5_buries, ix3, ix2, ix1, gib (by omega) (by decide), gib (by omega) (by decide), gib (by omega) (by decide), nI_clamp (by omega), nI_clamp (by omega), nI_clamp (by omega), h _ (by omega), h _ (by omega), h _ (by omega), show f (1 + 3 * i) = vl f i from rfl, show f (2 + 3 * i) = kd f i from rfl, show f (3 + 3 * i) = fg f i from rfl, vs1 hv, m_place h hN k (by omega) (by omega) hF, bs]
  unfold bur
  cases e : fp f N (1 - vl f i) (kd f i) (fg f i) with
  | none => exact ⟨S, by rw [ifF (by decide)]; rfl, h, Eo.rf⟩
  | some p =>
    obtain ⟨a, b⟩ := fp_in k.1.1 k.1.2 e
    have k1 := bur_1 k hm hi e
    have e1 : nI i + 1 = nI (i + 1) := nI_add i 1
    have h1 := h.put (k := 37 + ((1 - vl f i) * 8 + p)) (v := i + 1)
    have o1 := Eo.u2 (S := S) (c := 8) (k := 37 + ((1 - vl f i) * 8 + p)) (x := nI (i + 1))
    have hN1 : u2 S 8 (37 + ((1 - vl f i) * 8 + p)) (nI (i + 1)) 0 0 = nI N := by rw [u2_ne (by decide)]; exact hN
    rw [show rI (some p) = nI p from rfl, ifT (nI_pos' (by omega)), ixL, gib (by omega) (by decide), nI_clamp (by omega), e1]
    by_cases c3 : kd f i = 3
    · have hp0 : fX5_placeFor (u2 S 8 (37 + ((1 - vl f i) * 8 + p)) (nI (i + 1))) (nI (vl f i)) 0 (nI (fg f i)) = some (rI (fp (pt f (37 + ((1 - vl f i) * 8 + p)) (i + 1)) N (vl f i) 0 (fg f i))) := m_place h1 hN1 k1 (yd := vl f i) (kk := 0) (by omega) (by omega) hF
      rw [ifT (by rw [c3]; rfl), hp0, bs]
      simp only [if_pos c3, fp_3]
      cases e2 : fp (pt f (37 + ((1 - vl f i) * 8 + p)) (i + 1)) N (vl f i) 0 (fg f i) with
      | none => exact ⟨_, by rw [ifT (by decide)], h1, o1⟩
      | some p2 =>
        obtain ⟨a2, b2⟩ := fp_in k1.1.1 k1.1.2 e2
        refine ⟨_, ?_, h1.put (k := 37 + (vl f i * 8 + p2)) (v := i + 21), o1.tr Eo.u2⟩
        rw [show rI (some p2) = nI p2 from rfl, ifF (nI_pos (by omega)), ixL, gib (by omega) (by decide), nI_clamp (by omega), show nI i + 21 = nI (i + 21) from nI_add i 21]
    · rw [ifF (show ¬ nI (kd f i) = 3 from fun e => c3 ((nI_eq (b := 3) (by omega) (by decide)).mp e))]
      simp only [if_neg c3]
      exact ⟨_, rfl, h1, o1⟩
end MB
theorem m_anewC : ∀ (j i u : Nat) (S : OS) (f : Nat → Nat), i + j = 53 → 37 ≤ i → j < u → RS S 8 f → (∀ k, 37 ≤ k → k < i → S 8 k = 0) → ∃ S', fX5_anew_L3 u (nI i) S = fX5_anew_L24 FU 0 S' ∧ RS S' 8 (cl f) ∧ Eo S S' 8
  | 0, i, u, S, f, hi, h37, hu, h, hz => by
    cases u with
    | zero => omega
    | succ u =>
      refine ⟨S, by rw [fX5_anew_L3, ifT (by rw [show i = 53 by omega]; decide)], ?_, Eo.rf⟩
      intro k hk
      by_cases c : 37 ≤ k ∧ k < 53
      · rw [hz k c.1 (by omega), show cl f k = 0 from if_pos c]; rfl
      · rw [h k hk, cl_n (by omega)]
  | j + 1, i, u, S, f, hi, h37, hu, h, hz => by
    cases u with
    | zero => omega
    | succ u =>
      have h1 : RS (u2 S 8 i 0) 8 (pt f i 0) := h.put (k := i) (v := 0)
      obtain ⟨S', e, h2, o2⟩ := m_anewC j (i + 1) u (u2 S 8 i 0) (pt f i 0) (by omega) (by omega) (by omega) h1 (fun k a b => by
        rw [u2_eq]
        by_cases e : k = i
        · subst e; exact upd_s
        · rw [upd_n e]; exact hz k a (by omega))
      refine ⟨S', ?_, ?_, Eo.u2.tr o2⟩
      · rw [fX5_anew_L3, ifF (by rw [show (53 : Int32) = nI 53 from rfl, nI_leI (by decide) (by omega)]; omega), gib (by omega) (by decide), nI_clamp (by omega), show nI i + 1 = nI (i + 1) from nI_add i 1]
        exact e
      · have : cl (pt f i 0) = cl f := by
          funext k
          unfold cl pt
          by_cases c : 37 ≤ k ∧ k < 53
          · rw [if_pos c, if_pos c]
          · rw [if_neg c, if_neg c, if_neg (by omega)]
        rw [this] at h2
        exact h2
theorem m_anewL {N n : Nat} : ∀ (j i u : Nat) (S : OS) (g : Nat → Nat), i + j = n → j < u → g 0 = n → RS S 8 g → S 0 0 = nI N → Ok g N i → ∃ S', fX5_anew_L24 u (nI i) S = some S' ∧ RS S' 8 (itr (fun i g => (bur g N i).2) j i g) ∧ Eo S S' 8
  | 0, i, u, S, g, hi, hu, h0, h, hN, k => by
    have := k.2.1
    cases u with
    | zero => omega
    | succ u => exact ⟨S, by rw [fX5_anew_L24, z0, h 0 (by omega), ifT ((nI_leI (by omega) (by omega)).mpr (by omega))], h, Eo.rf⟩
  | j + 1, i, u, S, g, hi, hu, h0, h, hN, k => by
    have := k.2.1
    cases u with
    | zero => omega
    | succ u =>
      obtain ⟨S1, e1, h1, o1⟩ := m_bur h hN k (Nat.le_refl _) (show i < g 0 by omega)
      have hb := bur_ok k (Nat.le_refl _) (show i < g 0 by omega)
      obtain ⟨S', e, h2, o2⟩ := m_anewL (n := n) j (i + 1) u S1 (bur g N i).2 (by omega) (by omega) (by rw [hb.2.1]; exact h0) h1 (by rw [o1 0 (by decide)]; exact hN) hb.1
      refine ⟨S', ?_, h2, o1.tr o2⟩
      rw [fX5_anew_L24, z0, h 0 (by omega), ifF (by rw [nI_leI (by omega) (by omega)]; omega), e1, bs, show nI i + 1 = nI (i + 1) from nI_add i 1]
      exact e
theorem m_anew {S : OS} {f : Nat → Nat} {N : Nat} (h : RS S 8 f) (hN : S 0 0 = nI N) (k : Okb f N) : ∃ S', fX5_anew S = some S' ∧ RS S' 8 (an f N) ∧ Eo S S' 8 := by
  have h12 := k.2.1
  obtain ⟨S1, e1, h1, o1⟩ := m_anewC 16 37 FU S f (by omega) (by omega) (FU_gt (by omega)) h (fun k a b => by omega)
  obtain ⟨S', e, h2, o2⟩ := m_anewL (N := N) (n := f 0) (f 0) 0 FU S1 (cl f) (by omega) (FU_gt (by omega)) (cl_n (by omega)) h1 (by rw [o1 0 (by decide)]; exact hN) (okb_cl k)
  exact ⟨S', by rw [fX5_anew]; exact e1.trans e, h2, o1.tr o2⟩
/-- put: n cells of row c3 into row c1 from place a on -/
theorem m_putL {c1 c3 a n : Nat} (hne : c1 ≠ c3) (hl1 : a + n ≤ lenM c1) (hl3 : n ≤ lenM c3) (hb1 : lenM c1 < 1000) (hb3 : lenM c3 < 1000) : ∀ (j i u : Nat) (S : OS), i + j = n → j < u → ∃ S', fX5_put_L3 c1 c3 (nI a) (nI n) u (nI i) S = some S' ∧ Eo S S' c1 ∧ (∀ k, i ≤ k → k < n → S' c1 (a + k) = S c3 k) ∧ (∀ k, (k < a + i ∨ a + n ≤ k) → S' c1 k = S c1 k)
  | 0, i, u, S, hi, hu => by
    cases u with
    | zero => omega
    | succ u => exact ⟨S, by rw [fX5_put_L3, ifT ((nI_leI (by omega) (by omega)).mpr (by omega))], Eo.rf, fun k h1 h2 => by omega, fun _ _ => rfl⟩
  | j + 1, i, u, S, hi, hu => by
    cases u with
    | zero => omega
    | succ u =>
      obtain ⟨S', e, o, h1, h2⟩ := m_putL hne hl1 hl3 hb1 hb3 j (i + 1) u (u2 S c1 (a + i) (S c3 i)) (by omega) (by omega)
      refine ⟨S', ?_, Eo.u2.tr o, ?_, ?_⟩
      · rw [fX5_put_L3, ifF (by rw [nI_leI (by omega) (by omega)]; omega), nI_add, gib (by omega) (by omega), gib (by omega) (by omega), nI_clamp (by omega), nI_clamp (by omega), show nI i + 1 = nI (i + 1) from nI_add i 1]
        exact e
      · intro k hk1 hk2
        by_cases c : k = i
        · subst c; rw [h2 _ (by omega), u2_eq, upd_s]
        · rw [h1 k (by omega) hk2, u2_ne (fun e => hne e.symm)]
      · intro k hk
        rw [h2 k (by omega), u2_eq, upd_n (by omega)]
theorem m_put {S : OS} {c1 c3 a n : Nat} (hne : c1 ≠ c3) (hl1 : a + n ≤ lenM c1) (hl3 : n ≤ lenM c3) (hb1 : lenM c1 < 1000) (hb3 : lenM c3 < 1000) : ∃ S', fX5_put S c1 (nI a) c3 (nI n) = some S' ∧ Eo S S' c1 ∧ (∀ k, k < n → S' c1 (a + k) = S c3 k) ∧ (∀ k, (k < a ∨ a + n ≤ k) → S' c1 k = S c1 k) := by
  obtain ⟨S', e, o, h1, h2⟩ := m_putL hne hl1 hl3 hb1 hb3 n 0 FU S (by omega) (FU_gt (by omega))
  exact ⟨S', by rw [fX5_put]; exact e, o, fun k hk => h1 k (Nat.zero_le _) hk, fun k hk => h2 k (by omega)⟩
/-- a whole row -/
theorem m_put66 {S : OS} {c1 c3 : Nat} {f : Nat → Nat} (hne : c1 ≠ c3) (hl1 : lenM c1 = 66) (hl3 : lenM c3 = 66) (h : RS S c3 f) : ∃ S', fX5_put S c1 0 c3 66 = some S' ∧ Eo S S' c1 ∧ RS S' c1 f := by
  obtain ⟨S', e, o, h1, h2⟩ := m_put (S := S) (a := 0) (n := 66) hne (by omega) (by omega) (by omega) (by omega)
  refine ⟨S', e, o, fun j hj => ?_⟩
  have := h1 j hj
  rw [Nat.zero_add] at this
  rw [this]; exact h j hj
theorem m_from {S : OS} {c : Nat} {f : Nat → Nat} (hne : 8 ≠ c) (hl : lenM c = 66) (h : RS S c f) : ∃ S', fX5_from S c = some S' ∧ Eo S S' 8 ∧ RS S' 8 f := by
  obtain ⟨S', e, o, h1⟩ := m_put66 (c1 := 8) hne rfl hl h
  exact ⟨S', by rw [fX5_from, e]; rfl, o, h1⟩
theorem m_byRight {S : OS} {f : Nat → Nat} {N : Nat} (h : RS S 1 f) (hN : S 0 0 = nI N) (k : Okb f N) : ∃ S', fX5_byRight S 1 = some S' ∧ RS S' 8 (an f N) ∧ RS S' 9 f ∧ (∀ c, c ≠ 8 → c ≠ 9 → S' c = S c) := by
  obtain ⟨S1, e1, o1, h1⟩ := m_put66 (c1 := 9) (c3 := 1) (by decide) rfl rfl h
  obtain ⟨S2, e2, o2, h2⟩ := m_from (c := 1) (by decide) rfl (h.eo o1 (by decide))
  obtain ⟨S3, e3, h3, o3⟩ := m_anew h2 (by rw [o2 0 (by decide), o1 0 (by decide)]; exact hN) k
  refine ⟨S3, ?_, h3, (h1.eo o2 (by decide)).eo o3 (by decide), fun c h8 h9 => by rw [o3 c h8, o2 c h8, o1 c h9]⟩
  rw [fX5_byRight, e1, bs, e2, bs, e3]; rfl
