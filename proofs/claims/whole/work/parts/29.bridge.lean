/-! the bridge -/
def mn (f : Nat → Nat) (v : Nat) : Nat := f (55 + 2 * v)
def vw (f : Nat → Nat) (v : Nat) : Nat := vl f (f (54 + 2 * v))
def gp (f : Nat → Nat) (v : Nat) : Option Nat := plt f (f (54 + 2 * v))
def gr (f : Nat → Nat) (v : Nat) : Bool := (gp f v).isSome
def sy (f : Nat → Nat) (v : Nat) : Nat := match gp f v with
  | none => 0
  | some p => p + 1
abbrev BS := Nat × Option Nat × Nat
def bk (f : Nat → Nat) (s : BS) : Nat := match s.2.1 with
  | none => s.1
  | some v => (if s.1 < s.2.2 then s.2.2 else s.1) + mn f v
def sg (f : Nat → Nat) (s : BS) (v : Nat) : BS := (bk f (s.1 + mn f v, s.2.1, s.2.2), some v, s.1 + mn f v + sy f v)
def snv (f : Nat → Nat) (s : BS) (v : Nat) : BS := match s.2.1 with
  | none => sg f s v
  | some x => if vw f x = vw f v then sg f (bk f s, none, s.2.2) v else sg f s v
def CB (o : OS) (f : Nat → Nat) : Prop := o 6 0 = ms (gr f) (f 53) ∧ o 6 1 = nI (f 53) ∧ ∀ v, v < f 53 → o 7 v = nI (vw f v) ∧ o 9 v = nI (mn f v) ∧ (gr f v = true → o 8 v = nI (sy f v))
def CS (o : OS) (s : BS) : Prop := o 6 8 = nI s.1 ∧ o 6 9 = rI s.2.1 ∧ o 6 10 = nI s.2.2
def BB (s : BS) (b V : Nat) : Prop := s.1 ≤ b ∧ s.2.2 ≤ b ∧ ∀ v, s.2.1 = some v → v < V
def FB (o o' : OS) : Prop := (∀ c, c ≠ 6 → o' c = o c) ∧ ∀ k, k ≠ 8 → k ≠ 9 → k ≠ 10 → o' 6 k = o 6 k
theorem FB.tr {o o' o'' : OS} (h : FB o o') (k : FB o' o'') : FB o o'' := ⟨fun c hc => (k.1 c hc).trans (h.1 c hc), fun m a b c => (k.2 m a b c).trans (h.2 m a b c)⟩
theorem FB.u {o : OS} {k : Nat} {x : Int32} (h : k = 8 ∨ k = 9 ∨ k = 10) : FB o (u2 o 6 k x) := ⟨fun c hc => u2_ne hc, fun m a b c => by rw [u2_eq, upd_n (by omega)]⟩
theorem FB.cb {o o' : OS} {f : Nat → Nat} (h : FB o o') (k : CB o f) : CB o' f := ⟨by rw [h.2 0 (by decide) (by decide) (by decide)]; exact k.1, by rw [h.2 1 (by decide) (by decide) (by decide)]; exact k.2.1, fun v hv => by rw [h.1 7 (by decide), h.1 8 (by decide), h.1 9 (by decide)]; exact k.2.2 v hv⟩
section BR
variable {f : Nat → Nat} {N m : Nat}
theorem mn_b (k : Ok f N m) {v : Nat} (hv : v < f 53) : 1 ≤ mn f v ∧ mn f v ≤ 20 := (k.2.2.2.2.1 v hv).2
theorem vw_b (k : Ok f N m) {v : Nat} (hv : v < f 53) : vw f v ≤ 1 := (k.2.2.2.1 _ (k.2.2.2.2.1 v hv).1).1
theorem gp_b {v p : Nat} (h : gp f v = some p) : p < 8 := (plt_lt h).1
theorem sy_b (v : Nat) : sy f v ≤ 8 := by
  unfold sy
  cases e : gp f v with
  | none => exact Nat.zero_le _
  | some p => have := gp_b e; show p + 1 ≤ 8; omega
theorem bk_b (k : Ok f N m) {s : BS} {b : Nat} (h : BB s b (f 53)) : bk f s ≤ b + 20 := by
  obtain ⟨fr, yo, rd⟩ := s
  obtain ⟨h1, h2, h3⟩ := h
  unfold bk
  cases yo with
  | none => show fr ≤ b + 20; have : fr ≤ b := h1; omega
  | some v =>
    have hm := (mn_b k (h3 v rfl)).2
    show (if fr < rd then rd else fr) + mn f v ≤ b + 20
    have h1 : fr ≤ b := h1
    have h2 : rd ≤ b := h2
    split <;> omega
theorem sg_b (k : Ok f N m) {s : BS} {b v : Nat} (h : BB s b (f 53)) (hv : v < f 53) : BB (sg f s v) (b + 40) (f 53) := by
  have hm := (mn_b k hv).2
  have hs := sy_b (f := f) v
  have h1 := h.1
  have := bk_b k (s := (s.1 + mn f v, s.2.1, s.2.2)) (b := b + 20) ⟨by show s.1 + mn f v ≤ b + 20; omega, by show s.2.2 ≤ b + 20; have := h.2.1; omega, h.2.2⟩
  exact ⟨by show bk f (s.1 + mn f v, s.2.1, s.2.2) ≤ b + 40; omega, by show s.1 + mn f v + sy f v ≤ b + 40; omega, fun x hx => by cases hx; exact hv⟩
theorem snv_b (k : Ok f N m) {s : BS} {b v : Nat} (h : BB s b (f 53)) (hv : v < f 53) : BB (snv f s v) (b + 60) (f 53) := by
  have up : ∀ {s : BS}, BB s (b + 40) (f 53) → BB s (b + 60) (f 53) := fun h => ⟨by have := h.1; omega, by have := h.2.1; omega, h.2.2⟩
  unfold snv
  cases e : s.2.1 with
  | none => exact up (sg_b k h hv)
  | some x =>
    show BB (if vw f x = vw f v then sg f (bk f s, none, s.2.2) v else sg f s v) _ _
    by_cases c : vw f x = vw f v
    · rw [if_pos c]
      have := bk_b k h
      exact sg_b (b := b + 20) k ⟨this, by show s.2.2 ≤ b + 20; have := h.2.1; omega, fun z hz => by cases hz⟩ hv
    · rw [if_neg c]; exact up (sg_b k h hv)
/-! the class -/
theorem c_some {Y : YS} {o : OS} {s : BS} {b V : Nat} (hV : V ≤ 6) (hs : CS o s) (h : BB s b V) : fX0_isSomebodyYonder Y o = some (b01 s.2.1.isSome) := by
  obtain ⟨fr, yo, rd⟩ := s
  rw [fX0_isSomebodyYonder, hs.2.1]
  cases yo with
  | none => rfl
  | some v =>
    have hv : v < V := h.2.2 v rfl
    rw [ifF (show ¬ rI (some v) < 0 from nI_pos (by omega)), ifF (show ¬ 6 ≤ rI (some v) from fun e => absurd ((nI_leI (a := 6) (b := v) (by decide) (by omega)).mp e) (by omega))]; rfl
theorem c_back {Y : YS} {o : OS} {s : BS} {b : Nat} (k : Ok f N m) (hb : b < 2 ^ 20) (hc : CB o f) (hs : CS o s) (h : BB s b (f 53)) : fX0_whenAllAreBack Y o = some (nI (bk f s)) := by
  have h6 := k.2.2.1
  rw [fX0_whenAllAreBack, c_some h6 hs h, bs]
  obtain ⟨fr, yo, rd⟩ := s
  obtain ⟨s1, s2, s3⟩ := hs
  have s1 : o 6 8 = nI fr := s1
  have s2 : o 6 9 = rI yo := s2
  have s3 : o 6 10 = nI rd := s3
  have h1 : fr ≤ b := h.1
  have h2 : rd ≤ b := h.2.1
  cases yo with
  | none => rw [s1]; rfl
  | some v =>
    have hv : v < f 53 := h.2.2 v rfl
    rw [s1, s2, s3]
    show (if b01 true = 0 then _ else gB (ib (nI v) 6) (some ((if nI fr < nI rd then nI rd else nI fr) + o 9 (nI v).toNatClampNeg))) = some (nI ((if fr < rd then rd else fr) + mn f v))
    rw [ibt, gib (by omega) (by decide), nI_clamp (by omega), (hc.2.2 v hv).2.1]
    by_cases c : fr < rd
    · rw [ifT ((nI_ltI (by omega) (by omega)).mpr c), if_pos c, nI_add]
    · rw [ifF (fun e => c ((nI_ltI (by omega) (by omega)).mp e)), if_neg c, nI_add]
theorem c_goer {Y : YS} {o : OS} (k : Ok f N m) (hc : CB o f) {v : Nat} (hv : v < f 53) : fX0_isGoer Y o (nI v) = some (b01 (gr f v)) := by
  have h6 := k.2.2.1
  rw [fX0_isGoer, ifF (nI_pos (by omega)), ifF (show ¬ 6 ≤ nI v from fun e => absurd ((nI_leI (a := 6) (by decide) (by omega)).mp e) (by omega)), hc.1, sb1 _ (by omega), b_ms (by omega) (by omega), decide_eq_true hv, Bool.true_and]
  cases gr f v <;> rfl
theorem c_bring {Y : YS} {o : OS} {s : BS} {b : Nat} (k : Ok f N m) (hb : b < 2 ^ 20) (hc : CB o f) (hs : CS o s) (h : BB s b (f 53)) : ∃ o', fX0_bringBack Y o = some (Y, o') ∧ FB o o' ∧ CS o' (bk f s, none, s.2.2) := by
  refine ⟨_, by rw [fX0_bringBack, c_back k hb hc hs h, bs], (FB.u (Or.inl rfl)).tr (FB.u (Or.inr (Or.inl rfl))), ?_, ?_, ?_⟩
  · show u2 _ 6 9 (-4) 6 8 = nI (bk f s); rw [u2_eq, upd_n (by decide), u2_eq, upd_s]
  · show u2 _ 6 9 (-4) 6 9 = rI none; rw [u2_eq, upd_s]; rfl
  · show u2 _ 6 9 (-4) 6 10 = nI s.2.2; rw [u2_eq, upd_n (by decide), u2_eq, upd_n (by decide)]; exact hs.2.2
/-- the end of sendOver -/
theorem c_sg {Y : YS} {o : OS} {s : BS} {b v : Nat} (k : Ok f N m) (hb : b < 2 ^ 19) (hc : CB o f) (hs : CS o s) (h : BB s b (f 53)) (hv : v < f 53) (hg : gr f v = true) : ∃ o', (gB (ib (nI v) 6) ((fX0_bringBack Y (u2 o 6 8 ((o 6 8) + (o 9 (nI v).toNatClampNeg)))).bind (fun r7 => (gB (ib (nI v) 6) (some (r7.1, (u2 (u2 r7.2 6 9 (nI v)) 6 10 (((u2 o 6 8 ((o 6 8) + (o 9 (nI v).toNatClampNeg))) 6 8) + ((u2 r7.2 6 9 (nI v)) 8 (nI v).toNatClampNeg)))))))) = some (Y, o')) ∧ FB o o' ∧ CS o' (sg f s v) := by
  have h6 := k.2.2.1
  have hm := (mn_b k hv).2
  have h1 := h.1
  have f1 : FB o (u2 o 6 8 (nI (s.1 + mn f v))) := FB.u (Or.inl rfl)
  obtain ⟨o1, e1, f2, s2⟩ := c_bring (Y := Y) (o := u2 o 6 8 (nI (s.1 + mn f v))) (s := (s.1 + mn f v, s.2.1, s.2.2)) (b := b + 20) k (by omega) (f1.cb hc) ⟨by rw [u2_eq, upd_s], by rw [u2_eq, upd_n (by decide)]; exact hs.2.1, by rw [u2_eq, upd_n (by decide)]; exact hs.2.2⟩ ⟨by show s.1 + mn f v ≤ b + 20; omega, by show s.2.2 ≤ b + 20; have := h.2.1; omega, h.2.2⟩
  have f3 := f1.tr f2
  have c3 := f3.cb hc
  refine ⟨u2 (u2 o1 6 9 (nI v)) 6 10 (nI (s.1 + mn f v + sy f v)), ?_, (f3.tr (FB.u (Or.inr (Or.inl rfl)))).tr (FB.u (Or.inr (Or.inr rfl))), ?_, ?_, ?_⟩
  · rw [gib (by omega) (by decide), nI_clamp (by omega), hs.1, (hc.2.2 v hv).2.1, nI_add, e1, bs]
    dsimp only
    rw [gib (by omega) (by decide), u2_eq, upd_s, u2_ne (show (8 : Nat) ≠ 6 by decide), (c3.2.2 v hv).2.2 hg, nI_add]
  · show u2 _ 6 10 _ 6 8 = nI (bk f (s.1 + mn f v, s.2.1, s.2.2)); rw [u2_eq, upd_n (by decide), u2_eq, upd_n (by decide)]; exact s2.1
  · show u2 _ 6 10 _ 6 9 = rI (some v); rw [u2_eq, upd_n (by decide), u2_eq, upd_s]; rfl
  · show u2 _ 6 10 _ 6 10 = nI (s.1 + mn f v + sy f v); rw [u2_eq, upd_s]
theorem c_send {Y : YS} {o : OS} {s : BS} {b v : Nat} (k : Ok f N m) (hb : b < 2 ^ 18) (hc : CB o f) (hs : CS o s) (h : BB s b (f 53)) (hv : v < f 53) (hg : gr f v = true) : ∃ o', fX0_sendOver Y o (nI v) = some (Y, o') ∧ FB o o' ∧ CS o' (snv f s v) := by
  have h6 := k.2.2.1
  have b20 := bk_b k h
  rw [fX0_sendOver, c_goer k hc hv, hg, bs, ibt, c_some h6 hs h, bs]
  unfold snv
  cases e : s.2.1 with
  | none => exact c_sg k (by omega) hc hs h hv hg
  | some x =>
    have hx := h.2.2 x e
    have e9 : o 6 9 = nI x := by rw [hs.2.1, e]; rfl
    show ∃ o', (if b01 true = 0 then _ else _) = _ ∧ _ ∧ CS o' (if vw f x = vw f v then sg f (bk f s, none, s.2.2) v else sg f s v)
    have hx1 := vw_b k hx
    have hv1 := vw_b k hv
    rw [ibt, e9, gib (by omega) (by decide), gib (by omega) (by decide)]
    have ex : o 7 (nI x).toNatClampNeg = nI (vw f x) := by rw [nI_clamp (by omega)]; exact (hc.2.2 x hx).1
    have ev : o 7 (nI v).toNatClampNeg = nI (vw f v) := by rw [nI_clamp (by omega)]; exact (hc.2.2 v hv).1
    by_cases c : vw f x = vw f v
    · obtain ⟨o1, e1, f1, s1⟩ := c_bring (Y := Y) k (by omega) hc hs h
      obtain ⟨o2, e2, f2, s2⟩ := c_sg (Y := Y) (o := o1) (s := (bk f s, none, s.2.2)) (b := b + 20) k (by omega) (f1.cb hc) s1 ⟨b20, by show s.2.2 ≤ b + 20; have := h.2.1; omega, fun z hz => by cases hz⟩ hv hg
      rw [ifT (show o 7 (nI x).toNatClampNeg = o 7 (nI v).toNatClampNeg by rw [ex, ev, c]), e1, bs, if_pos c]
      exact ⟨o2, e2, f1.tr f2, s2⟩
    · rw [ifF (show ¬ o 7 (nI x).toNatClampNeg = o 7 (nI v).toNatClampNeg from fun e => c (by rw [ex, ev] at e; exact (nI_eq (by omega) (by omega)).mp e)), if_neg c]
      exact c_sg k (by omega) hc hs h hv hg
end BR
/-! gathering -/
theorem c_gathL {Y : YS} {f : Nat → Nat} {N t m i1 : Nat} (h : RY (Y i1) f N t) (k : Ok f N m) : ∀ (j i u : Nat) (o : OS), i + j = f 53 → j < u → o 6 0 = ms (gr f) i → o 6 1 = nI (f 53) → (∀ v, v < i → o 7 v = nI (vw f v) ∧ o 9 v = nI (mn f v) ∧ (gr f v = true → o 8 v = nI (sy f v))) → ∃ o', fX0_gather_L20 i1 u (nI i) Y o = some (Y, o') ∧ CB o' f ∧ (∀ c, c < 6 ∨ 9 < c → o' c = o c)
  | 0, i, u, o, hi, hu, h0, h1, hv => by
    have h6 := k.2.2.1
    have e : i = f 53 := by omega
    subst e
    cases u with
    | zero => omega
    | succ u => exact ⟨o, by rw [fX0_gather_L20, h1, ifT ((nI_leI (by omega) (by omega)).mpr (Nat.le_refl _))], ⟨h0, h1, hv⟩, fun _ _ => rfl⟩
  | j + 1, i, u, o, hi, hu, h0, h1, hv => by
    have h6 := k.2.2.1
    have h12 := k.2.1
    cases u with
    | zero => omega
    | succ u =>
      have hl : i < f 53 := by omega
      have hd := (k.2.2.2.2.1 i hl).1
      rw [fX0_gather_L20, h1, ifF (by rw [nI_leI (by omega) (by omega)]; omega), y_visited h k hl, bs, y_plot h k hd, bs, y_vil h k hd, bs, gib (by omega) (by decide), gib (by omega) (by decide), y_minutes h k hl, bs, gib (by omega) (by decide), nI_clamp (by omega), show nI i + 1 = nI (i + 1) from nI_add i 1]
      have rowv : ∀ (o' : OS), o' 7 = upd (o 7) i (nI (vw f i)) → o' 9 = upd (o 9) i (nI (mn f i)) → (gr f i = true → o' 8 i = nI (sy f i)) → (∀ v, v ≠ i → o' 8 v = o 8 v) → ∀ v, v < i + 1 → o' 7 v = nI (vw f v) ∧ o' 9 v = nI (mn f v) ∧ (gr f v = true → o' 8 v = nI (sy f v)) := by
        intro o' q1 q2 q3 q4 v hv'
        by_cases c : v = i
        · subst c; rw [q1, q2, upd_s, upd_s]; exact ⟨rfl, rfl, q3⟩
        · rw [q1, q2, upd_n c, upd_n c, q4 v c]; exact hv v (by omega)
      cases e : gp f i with
      | none =>
        have e : plt f (f (54 + 2 * i)) = none := e
        have hg : gr f i = false := by unfold gr gp; rw [e]; rfl
        rw [e, ifT (show rI none = -4 from rfl)]
        obtain ⟨o', e', c', fr⟩ := c_gathL h k j (i + 1) u (u2 (u2 (u2 o 7 i (nI (vw f i))) 8 i (rI none + 1)) 9 i (nI (mn f i))) (by omega) (by omega) (by rw [u2_ne (by decide), u2_ne (by decide), u2_ne (by decide), h0, ms, hg]; rfl) (by rw [u2_ne (by decide), u2_ne (by decide), u2_ne (by decide)]; exact h1) (rowv _ (by rw [u2_ne (by decide), u2_ne (by decide), u2_eq]) (by rw [u2_eq, u2_ne (by decide), u2_ne (by decide)]) (fun z => by rw [hg] at z; cases z) (fun v hv => by rw [u2_ne (by decide), u2_eq, upd_n hv, u2_ne (by decide)]))
        exact ⟨o', e', c', fun c hc => by rw [fr c hc, u2_ne (by omega), u2_ne (by omega), u2_ne (by omega)]⟩
      | some p =>
        have hp := gp_b e
        have hs : sy f i = p + 1 := by unfold sy; rw [e]
        have e : plt f (f (54 + 2 * i)) = some p := e
        have hg : gr f i = true := by unfold gr gp; rw [e]; rfl
        rw [e, ifF (show ¬ rI (some p) = -4 from m4T (by omega))]
        obtain ⟨o', e', c', fr⟩ := c_gathL h k j (i + 1) u (u2 (u2 (u2 (u2 o 7 i (nI (vw f i))) 8 i (rI (some p) + 1)) 9 i (nI (mn f i))) 6 0 (u2 (u2 (u2 o 7 i (nI (vw f i))) 8 i (rI (some p) + 1)) 9 i (nI (mn f i)) 6 0 ||| (1 <<< (nI i &&& 31)))) (by omega) (by omega) (by rw [u2_eq, upd_s, u2_ne (by decide), u2_ne (by decide), u2_ne (by decide), h0, ms, hg]; rfl) (by rw [u2_eq, upd_n (by decide), u2_ne (by decide), u2_ne (by decide), u2_ne (by decide)]; exact h1) (rowv _ (by rw [u2_ne (by decide), u2_ne (by decide), u2_ne (by decide), u2_eq]) (by rw [u2_ne (by decide), u2_eq, u2_ne (by decide), u2_ne (by decide)]) (fun _ => by rw [u2_ne (by decide), u2_ne (by decide), u2_eq, upd_s, hs]; exact nI_add p 1) (fun v hv => by rw [u2_ne (by decide), u2_ne (by decide), u2_eq, upd_n hv, u2_ne (by decide)]))
        exact ⟨o', e', c', fun c hc => by rw [fr c hc, u2_ne (by omega), u2_ne (by omega), u2_ne (by omega), u2_ne (by omega)]⟩
theorem c_gather {Y : YS} {o : OS} {f : Nat → Nat} {N t m i1 : Nat} (h : RY (Y i1) f N t) (k : Ok f N m) : ∃ o', fX0_gather Y o i1 = some (Y, o') ∧ CB o' f ∧ (∀ c, c < 6 ∨ 9 < c → o' c = o c) := by
  have h6 := k.2.2.1
  have e : (if (6 : Int32) < Y i1 0 3 then 6 else Y i1 0 3) = nI (f 53) := by
    rw [h.2.2.2.1, ifF (show ¬ (6 : Int32) < nI (f 53) from fun e => absurd ((nI_ltI (a := 6) (by decide) (by omega)).mp e) (by omega))]
  obtain ⟨o', e1, c1, f1⟩ := c_gathL h k (f 53) 0 FU (u2 (u2 o 6 0 0) 6 1 (nI (f 53))) (by omega) (FU_gt (by omega)) (by rw [u2_eq, upd_n (by decide), u2_eq, upd_s]; rfl) (by rw [u2_eq, upd_s]) (fun v hv => absurd hv (Nat.not_lt_zero v))
  refine ⟨o', by rw [fX0_gather, e]; exact e1, c1, fun c hc => by rw [f1 c hc, u2_ne (by omega), u2_ne (by omega)]⟩
