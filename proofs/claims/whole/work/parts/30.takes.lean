/-! orders -/
theorem itr_cong {α : Type} {b b' : Nat → α → α} : ∀ (m i : Nat) (a : α), (∀ d x, i ≤ d → d < i + m → b d x = b' d x) → itr b m i a = itr b' m i a
  | 0, _, _, _ => rfl
  | m + 1, i, a, h => by
    rw [itr, itr, h i a (by omega) (by omega)]
    exact itr_cong m (i + 1) _ (fun d x h1 h2 => h d x (by omega) (by omega))
theorem itr_shift {α : Type} (b : Nat → α → α) : ∀ (m i : Nat) (a : α), itr b m (i + 1) a = itr (fun n => b (n + 1)) m i a
  | 0, _, _ => rfl
  | m + 1, i, a => by rw [itr, itr]; exact itr_shift b m (i + 1) _
def stt (f : Nat → Nat) (n : Nat) (L : Nat → Nat) : BS := itr (fun d s => snv f s (L d)) n 0 (0, none, 0)
theorem stt_s (f : Nat → Nat) (n : Nat) (L : Nat → Nat) : stt f (n + 1) L = snv f (stt f n L) (L n) := by unfold stt; rw [itr_last, Nat.zero_add]
theorem stt_cong {f : Nat → Nat} {n : Nat} {L L' : Nat → Nat} (h : ∀ d, d < n → L d = L' d) : stt f n L = stt f n L' := itr_cong n 0 _ (fun d x _ h2 => by rw [h d (by omega)])
def en (P : Nat → Bool) : Nat → Nat → Nat
  | 0 => fun _ => 0
  | m + 1 => if P m then pt (en P m) (cnt P m) m else en P m
theorem en_t {P : Nat → Bool} {m : Nat} (h : P m = true) : en P (m + 1) = pt (en P m) (cnt P m) m := if_pos h
theorem en_f {P : Nat → Bool} {m : Nat} (h : P m = false) : en P (m + 1) = en P m := if_neg (by rw [h]; decide)
theorem cnt_t {P : Nat → Bool} {m : Nat} (h : P m = true) : cnt P (m + 1) = cnt P m + 1 := by rw [cnt, h]; rfl
theorem cnt_f {P : Nat → Bool} {m : Nat} (h : P m = false) : cnt P (m + 1) = cnt P m := by rw [cnt, h]; rfl
theorem en_in {P : Nat → Bool} : ∀ (V d : Nat), d < cnt P V → en P V d < V ∧ P (en P V d) = true
  | 0, d, h => absurd h (Nat.not_lt_zero d)
  | m + 1, d, h => by
    cases c : P m with
    | true =>
      rw [cnt_t c] at h
      rw [en_t c]
      by_cases e : d = cnt P m
      · subst e; rw [pt_s]; exact ⟨by omega, c⟩
      · rw [pt_n e]; have := en_in (P := P) m d (by omega); exact ⟨by omega, this.2⟩
    | false =>
      rw [cnt_f c] at h
      rw [en_f c]; have := en_in (P := P) m d h; exact ⟨by omega, this.2⟩
theorem itr_enum {α : Type} {P : Nat → Bool} {h : Nat → α → α} : ∀ (V : Nat) (a : α), itr (fun v a => if P v then h v a else a) V 0 a = itr (fun d a => h (en P V d) a) (cnt P V) 0 a
  | 0, a => rfl
  | m + 1, a => by
    rw [itr_last, Nat.zero_add, itr_enum m a]
    cases c : P m with
    | true =>
      rw [cnt_t c, itr_last, Nat.zero_add, en_t c]
      simp only [if_true]
      rw [pt_s]
      congr 1
      exact itr_cong _ 0 a (fun d x _ h2 => by rw [pt_n (by omega)])
    | false => rw [cnt_f c, en_f c]; rfl
theorem itr_back {α : Type} {P : Nat → Bool} {h : Nat → α → α} : ∀ (V : Nat) (a : α), itr (fun n a => if P (V - 1 - n) then h (V - 1 - n) a else a) V 0 a = itr (fun d a => h (en P V (cnt P V - 1 - d)) a) (cnt P V) 0 a
  | 0, a => rfl
  | m + 1, a => by
    rw [itr, itr_shift]
    have e : itr (fun n a => if P (m + 1 - 1 - (n + 1)) then h (m + 1 - 1 - (n + 1)) a else a) m 0 (if P (m + 1 - 1 - 0) then h (m + 1 - 1 - 0) a else a) = itr (fun n a => if P (m - 1 - n) then h (m - 1 - n) a else a) m 0 (if P m then h m a else a) := by
      rw [show m + 1 - 1 - 0 = m by omega]
      exact itr_cong m 0 _ (fun d x _ _ => by rw [show m + 1 - 1 - (d + 1) = m - 1 - d by omega])
    rw [e, itr_back m]
    cases c : P m with
    | true =>
      rw [cnt_t c, en_t c]
      simp only [if_true]
      rw [itr, itr_shift, show cnt P m + 1 - 1 - 0 = cnt P m by omega, pt_s]
      exact itr_cong _ 0 _ (fun d x _ h2 => by rw [show cnt P m + 1 - 1 - (d + 1) = cnt P m - 1 - d by omega, pt_n (by omega)])
    | false => rw [cnt_f c, en_f c]; rfl
/-! minutes by number -/
theorem c_mbn {Y : YS} {f : Nat → Nat} {N m : Nat} {a : Int32} {W : Nat → Nat} (k : Ok f N m) (hW : ∀ i, i < f 53 → W i < f 53) (ha : (a = 0 ∧ ∀ i, i < f 53 → W i = i) ∨ (a = 1 ∧ ∀ i, i < f 53 → W i = f 53 - 1 - i)) : ∀ (j i u : Nat) (o : OS) (s : BS), i + j = f 53 → j < u → CB o f → CS o s → BB s (60 * i) (f 53) → ∃ o', fX0_minutesByNumber_L6 a u (nI i) Y o = some (nI (bk f (itr (fun n s => if gr f (W n) then snv f s (W n) else s) j i s)), Y, o') ∧ FB o o'
  | 0, i, u, o, s, hi, hu, hc, hs, hb => by
    have h6 := k.2.2.1
    cases u with
    | zero => omega
    | succ u =>
      refine ⟨o, ?_, ⟨fun _ _ => rfl, fun _ _ _ _ => rfl⟩⟩
      rw [fX0_minutesByNumber_L6, hc.2.1, ifT ((nI_leI (by omega) (by omega)).mpr (by omega)), c_back k (by omega) hc hs hb, bs]; rfl
  | j + 1, i, u, o, s, hi, hu, hc, hs, hb => by
    have h6 := k.2.2.1
    have hw := hW i (by omega)
    cases u with
    | zero => omega
    | succ u =>
      have main : ∃ o', ((fX0_isGoer Y o (nI (W i))).bind (fun r4 => (if r4 = 0 then fX0_minutesByNumber_L6 a u (nI i + 1) Y o else (fX0_sendOver Y o (nI (W i))).bind (fun r6 => (fX0_minutesByNumber_L6 a u (nI i + 1) r6.1 r6.2))))) = some (nI (bk f (itr (fun n s => if gr f (W n) then snv f s (W n) else s) (j + 1) i s)), Y, o') ∧ FB o o' := by
        rw [c_goer k hc hw, bs, show nI i + 1 = nI (i + 1) from nI_add i 1, itr]
        cases c : gr f (W i) with
        | false =>
          obtain ⟨o', e, fb⟩ := c_mbn k hW ha j (i + 1) u o s (by omega) (by omega) hc hs ⟨by have := hb.1; omega, by have := hb.2.1; omega, hb.2.2⟩
          exact ⟨o', e, fb⟩
        | true =>
          obtain ⟨o1, e1, f1, s1⟩ := c_send (Y := Y) k (by omega) hc hs hb hw c
          obtain ⟨o', e, fb⟩ := c_mbn k hW ha j (i + 1) u o1 (snv f s (W i)) (by omega) (by omega) (f1.cb hc) s1 (snv_b k hb hw)
          exact ⟨o', by rw [ibt, e1, bs]; exact e, f1.tr fb⟩
      rw [fX0_minutesByNumber_L6, hc.2.1, ifF (by rw [nI_leI (by omega) (by omega)]; omega)]
      rcases ha with ⟨rfl, hw2⟩ | ⟨rfl, hw2⟩
      · rw [ifT (show (0 : Int32) = 0 from rfl)]
        have e := hw2 i (by omega)
        rw [e] at main
        exact main
      · rw [ifF (show ¬ (1 : Int32) = 0 by decide), show nI (f 53) - 1 = nI (f 53 - 1) from pk_sub (b := 1) (by omega), pk_sub (by omega)]
        have e := hw2 i (by omega)
        rw [e] at main
        exact main
/-! the reference -/
def MS (S : OS) (f : Nat → Nat) (s : BS) : Prop := S 0 21 = nI s.1 ∧ S 0 22 = rI s.2.1 ∧ ∀ v, s.2.1 = some v → ∃ co, S 0 23 = nI co ∧ s.2.2 = co + sy f v
def FN (S S' : OS) : Prop := (∀ c, c ≠ 0 → S' c = S c) ∧ ∀ k, k ≠ 21 → k ≠ 22 → k ≠ 23 → S' 0 k = S 0 k
theorem FN.tr {o o' o'' : OS} (h : FN o o') (k : FN o' o'') : FN o o'' := ⟨fun c hc => (k.1 c hc).trans (h.1 c hc), fun m a b c => (k.2 m a b c).trans (h.2 m a b c)⟩
theorem FN.u {o : OS} {k : Nat} {x : Int32} (h : k = 21 ∨ k = 22 ∨ k = 23) : FN o (u2 o 0 k x) := ⟨fun c hc => u2_ne hc, fun m a b c => by rw [u2_eq, upd_n (by omega)]⟩
theorem m_comes {S : OS} {f : Nat → Nat} {N m b v : Nat} {fr rd : Nat} (k : Ok f N m) (h1 : RS S 1 f) (hf : S 0 21 = nI fr) (ho : S 0 22 = nI v) (hr : ∃ co, S 0 23 = nI co ∧ rd = co + sy f v) (hb : BB (fr, some v, rd) b (f 53)) (hbb : b < 2 ^ 20) (hg : gr f v = true) : fX5_comesBack S = some (u2 S 0 21 (nI (bk f (fr, some v, rd)))) := by
  have h6 := k.2.2.1
  have h12 := k.2.1
  have hv : v < f 53 := hb.2.2 v rfl
  have hd := (k.2.2.2.2.1 v hv).1
  obtain ⟨co, hco, hrd⟩ := hr
  have b1 : fr ≤ b := hb.1
  have b2 : rd ≤ b := hb.2.1
  cases e : gp f v with
  | none => unfold gr at hg; rw [e] at hg; cases hg
  | some p =>
    have hs : sy f v = p + 1 := by unfold sy; rw [e]
    have e : plt f (f (54 + 2 * v)) = some p := e
    rw [fX5_comesBack, ho, ix4, gib (by omega) (by decide), nI_clamp (by omega), h1 _ (by omega), m_plotOf h1 rfl k hd, e, bs, hco, hf, show nI co + rI (some p) + 1 = nI (co + p + 1) by
      show nI co + nI p + 1 = _
      rw [nI_add]; exact nI_add _ 1, show nI (54 + 2 * v) + 1 = nI (54 + 2 * v + 1) from nI_add _ 1, gib (by omega) (by decide), gib (by omega) (by decide), nI_clamp (by omega), h1 _ (by omega), show f (54 + 2 * v + 1) = mn f v by unfold mn; congr 1; omega, nI_add, nI_add, show co + p + 1 = rd by omega]
    show _ = some (u2 S 0 21 (nI ((if fr < rd then rd else fr) + mn f v)))
    by_cases c : fr < rd
    · rw [ifF (show ¬ nI rd ≤ nI fr from fun z => by have := (nI_leI (by omega) (by omega)).mp z; omega), if_pos c]
    · rw [ifT (show nI rd ≤ nI fr from (nI_leI (by omega) (by omega)).mpr (by omega)), if_neg c]
theorem m_vilOf {S : OS} {f : Nat → Nat} {N m v : Nat} (k : Ok f N m) (h1 : RS S 1 f) (hv : v < f 53) : fX5_villageOf S (nI v) = some (nI (vw f v)) := by
  have h6 := k.2.2.1
  have h12 := k.2.1
  have hd := (k.2.2.2.2.1 v hv).1
  rw [fX5_villageOf, ix4, gib (by omega) (by decide), nI_clamp (by omega), h1 _ (by omega), ix1, gib (by omega) (by decide), nI_clamp (by omega), h1 _ (by omega)]; rfl
theorem m_so {f : Nat → Nat} {N m n : Nat} {L : Nat → Nat} (k : Ok f N m) (hn : n ≤ 6) (hL : ∀ d, d < n → L d < f 53 ∧ gr f (L d) = true) : ∀ (j i u : Nat) (S : OS) (s : BS), i + j = n → j < u → RS S 1 f → S 0 20 = nI n → (∀ d, d < n → S 11 d = nI (L d)) → MS S f s → BB s (60 * i) (f 53) → (∀ v, s.2.1 = some v → gr f v = true) → ∃ S', fX5_takesSo_L13 u (nI i) S = some (nI (bk f (itr (fun d s => snv f s (L d)) j i s)), S') ∧ FN S S'
  | 0, i, u, S, s, hi, hu, h1, h20, h11, hs, hb, hg => by
    cases u with
    | zero => omega
    | succ u =>
      rw [fX5_takesSo_L13, h20, ifT ((nI_leI (by omega) (by omega)).mpr (by omega))]
      obtain ⟨fr, yo, rd⟩ := s
      obtain ⟨s1, s2, s3⟩ := hs
      cases yo with
      | none =>
        have s2 : S 0 22 = -4 := s2
        refine ⟨S, ?_, ⟨fun _ _ => rfl, fun _ _ _ _ => rfl⟩⟩
        rw [s2, ifT (by decide), s1]; rfl
      | some v =>
        have s2 : S 0 22 = nI v := s2
        have h6 := k.2.2.1
        have hv : v < f 53 := hb.2.2 v rfl
        refine ⟨u2 S 0 21 (nI (bk f (fr, some v, rd))), ?_, FN.u (Or.inl rfl)⟩
        rw [s2, ifF (nI_pos (by omega)), m_comes k h1 s1 s2 (s3 v rfl) hb (by omega) (hg v rfl), bs, u2_eq, upd_s]; rfl
  | j + 1, i, u, S, s, hi, hu, h1, h20, h11, hs, hb, hg => by
    cases u with
    | zero => omega
    | succ u =>
      have h6 := k.2.2.1
      obtain ⟨hw, hgw⟩ := hL i (by omega)
      have hm := mn_b k hw
      have hv1 := vw_b k hw
      have nb := snv_b (s := s) k hb hw
      have next : ∀ (S4 : OS), FN S S4 → MS S4 f (snv f s (L i)) → ∃ S', fX5_takesSo_L13 u (nI i + 1) S4 = some (nI (bk f (itr (fun d s => snv f s (L d)) (j + 1) i s)), S') ∧ FN S S' := by
        intro S4 fn ms4
        have gv : ∀ v, (snv f s (L i)).2.1 = some v → gr f v = true := by
          intro v hv
          have : (snv f s (L i)).2.1 = some (L i) := by
            unfold snv
            cases s.2.1 with
            | none => rfl
            | some x => show (if _ then sg f _ (L i) else sg f s (L i)).2.1 = _; split <;> rfl
          rw [this] at hv; cases hv; exact hgw
        obtain ⟨S', e, fn'⟩ := m_so k hn hL j (i + 1) u S4 (snv f s (L i)) (by omega) (by omega) (fun q hq => by rw [fn.1 1 (by decide)]; exact h1 q hq) (by rw [fn.2 20 (by decide) (by decide) (by decide)]; exact h20) (fun d hd => by rw [fn.1 11 (by decide)]; exact h11 d hd) ms4 nb gv
        exact ⟨S', by rw [show nI i + 1 = nI (i + 1) from nI_add i 1]; exact e, fn.tr fn'⟩
      rw [fX5_takesSo_L13, h20, ifF (by rw [nI_leI (by omega) (by omega)]; omega), gib (by omega) (by decide), nI_clamp (by omega), h11 i (by omega), ix5, gib (by omega) (by decide), nI_clamp (by omega), h1 _ (by omega), show f (55 + 2 * L i) = mn f (L i) from rfl]
      obtain ⟨fr, yo, rd⟩ := s
      obtain ⟨s1, s2, s3⟩ := hs
      have s1 : S 0 21 = nI fr := s1
      have bf : fr ≤ 60 * i := hb.1
      have br : rd ≤ 60 * i := hb.2.1
      cases yo with
      | none =>
        have s2 : S 0 22 = -4 := s2
        rw [ifT (show S 0 22 < 0 by rw [s2]; decide), ifT (show S 0 22 < 0 by rw [s2]; decide), s1, nI_add]
        refine next _ ((FN.u (Or.inl rfl)).tr ((FN.u (Or.inr (Or.inl rfl))).tr (FN.u (Or.inr (Or.inr rfl))))) ⟨?_, ?_, fun v hv => ⟨fr + mn f (L i), ?_, ?_⟩⟩
        · rw [u2_eq, upd_n (by decide), u2_eq, upd_n (by decide), u2_eq, upd_s]; rfl
        · rw [u2_eq, upd_n (by decide), u2_eq, upd_s]; rfl
        · rw [u2_eq, upd_s, u2_eq, upd_s]
        · cases hv; rfl
      | some x =>
        have s2 : S 0 22 = nI x := s2
        have hx : x < f 53 := hb.2.2 x rfl
        have hx1 := vw_b k hx
        have nn : ¬ S 0 22 < 0 := by rw [s2]; exact nI_pos (by omega)
        have hsn : snv f (fr, some x, rd) (L i) = if vw f x = vw f (L i) then sg f (bk f (fr, some x, rd), none, rd) (L i) else sg f (fr, some x, rd) (L i) := rfl
        rw [ifF nn]
        simp only [ifF nn]
        rw [s2, m_vilOf k h1 hx, bs, m_vilOf k h1 hw, bs]
        by_cases c : vw f x = vw f (L i)
        · rw [if_pos c] at hsn
          rw [ifT (show nI (vw f x) = nI (vw f (L i)) by rw [c]), m_comes k h1 s1 s2 (s3 x rfl) hb (by omega) (hg x rfl), bs, gib (by omega) (by decide), u2_ne (show (1 : Nat) ≠ 0 by decide), h1 _ (by omega), show f (55 + 2 * L i) = mn f (L i) from rfl]
          rw [show u2 S 0 21 (nI (bk f (fr, some x, rd))) 0 21 + nI (mn f (L i)) = nI (bk f (fr, some x, rd) + mn f (L i)) by rw [u2_eq, upd_s, nI_add]]
          refine next _ ((FN.u (Or.inl rfl)).tr ((FN.u (Or.inl rfl)).tr ((FN.u (Or.inr (Or.inl rfl))).tr (FN.u (Or.inr (Or.inr rfl)))))) ⟨?_, ?_, fun v hv => ⟨bk f (fr, some x, rd) + mn f (L i), ?_, ?_⟩⟩
          · rw [u2_eq, upd_n (by decide), u2_eq, upd_n (by decide), u2_eq, upd_s, hsn]; rfl
          · rw [u2_eq, upd_n (by decide), u2_eq, upd_s, hsn]; rfl
          · rw [u2_eq, upd_s, u2_eq, upd_s]
          · rw [hsn] at hv ⊢; cases hv; rfl
        · rw [if_neg c] at hsn
          have fn1 : FN S (u2 S 0 21 (nI (fr + mn f (L i)))) := FN.u (Or.inl rfl)
          have cb := m_comes (S := u2 S 0 21 (nI (fr + mn f (L i)))) (fr := fr + mn f (L i)) (v := x) (rd := rd) (b := 60 * i + 20) k (fun q hq => by rw [fn1.1 1 (by decide)]; exact h1 q hq) (by rw [u2_eq, upd_s]) (by rw [u2_eq, upd_n (by decide)]; exact s2) (by obtain ⟨co, a, b⟩ := s3 x rfl; exact ⟨co, by rw [u2_eq, upd_n (by decide)]; exact a, b⟩) ⟨by show fr + mn f (L i) ≤ 60 * i + 20; omega, by show rd ≤ 60 * i + 20; omega, fun v hv => by cases hv; exact hx⟩ (by omega) (hg x rfl)
          rw [ifF (show ¬ nI (vw f x) = nI (vw f (L i)) from fun z => c ((nI_eq (by omega) (by omega)).mp z)), s1, nI_add, cb, bs, gib (by omega) (by decide)]
          refine next _ (fn1.tr ((FN.u (Or.inl rfl)).tr ((FN.u (Or.inr (Or.inl rfl))).tr (FN.u (Or.inr (Or.inr rfl)))))) ⟨?_, ?_, fun v hv => ⟨fr + mn f (L i), ?_, ?_⟩⟩
          · rw [u2_eq, upd_n (by decide), u2_eq, upd_n (by decide), u2_eq, upd_s, hsn]; rfl
          · rw [u2_eq, upd_n (by decide), u2_eq, upd_s, hsn]; rfl
          · rw [u2_eq, upd_s, u2_eq, upd_s]
          · rw [hsn] at hv ⊢; cases hv; rfl
