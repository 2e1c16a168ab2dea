/-! the class tries all orders -/
def gq (f : Nat → Nat) (v : Nat) : Bool := decide (v < f 53) && gr f v
def kn (P : Nat → Bool) : Nat := (ms P 6).toNatClampNeg
theorem kn_I (P : Nat → Bool) : ms P 6 = nI (kn P) ∧ kn P < 64 := by
  obtain ⟨k, hk, e⟩ := small (x := ms P 6) (n := 6) (by decide) (fun i h1 h2 => by rw [b_ms (by decide) h2, decide_eq_false (by omega)]; rfl)
  have hk : k < 64 := hk
  unfold kn
  rw [e, nI_clamp (by omega)]; exact ⟨rfl, hk⟩
theorem kn_eq {P Q : Nat → Bool} : kn P = kn Q ↔ ∀ i, i < 6 → P i = Q i := by
  constructor
  · intro h i hi
    have e : ms P 6 = ms Q 6 := by rw [(kn_I P).1, (kn_I Q).1, h]
    have := congrArg (fun x => bt x i) e
    rw [b_ms (by decide) (by omega), b_ms (by decide) (by omega), decide_eq_true hi, Bool.true_and, Bool.true_and] at this
    exact this
  · intro h; unfold kn; rw [ms_cong h]
theorem ms_gq {f : Nat → Nat} (h6 : f 53 ≤ 6) : ms (gr f) (f 53) = ms (gq f) 6 := by
  refine b_ext (fun i hi => ?_)
  rw [b_ms (by omega) hi, b_ms (by decide) hi]
  unfold gq
  by_cases c : i < f 53
  · rw [decide_eq_true c, decide_eq_true (show i < 6 by omega)]; rfl
  · rw [decide_eq_false c]; simp
def tmo (f : Nat → Nat) (j : Nat) (L : Nat → Nat) : Nat := bk f (stt f j L)
def tI (a : Option Nat) : Int32 := match a with
  | none => 1000000
  | some t => nI t
def bl (a : Option Nat) (t : Nat) : Bool := match a with
  | none => true
  | some m => decide (t < m)
abbrev TS := (Nat → Option Nat) × (Nat → Nat)
def nte (f : Nat → Nat) (j : Nat) (L : Nat → Nat) (s : TS) : TS := if bl (s.1 (kn (hs j L))) (tmo f j L) then (fun q => if q = kn (hs j L) then some (tmo f j L) else s.1 q, if kn (hs j L) = kn (gq f) then L else s.2) else s
def CT (f : Nat → Nat) (o : OS) (s : TS) : Prop := (∀ k, k < 64 → o 10 k = tI (s.1 k) ∧ ∀ t, s.1 k = some t → t ≤ 1000) ∧ (s.1 (kn (gq f)) ≠ none → ∀ d, d < cnt (gr f) (f 53) → o 12 d = nI (s.2 d))
theorem stt_b {f : Nat → Nat} {N m : Nat} (k : Ok f N m) {L : Nat → Nat} : ∀ (j : Nat), (∀ d, d < j → L d < f 53) → BB (stt f j L) (60 * j) (f 53)
  | 0, _ => ⟨Nat.le_refl _, Nat.le_refl _, fun v hv => by cases hv⟩
  | j + 1, h => by
    rw [stt_s, show 60 * (j + 1) = 60 * j + 60 by omega]
    exact snv_b k (stt_b k j (fun d hd => h d (by omega))) (h j (by omega))
theorem tmo_b {f : Nat → Nat} {N m : Nat} (k : Ok f N m) {L : Nat → Nat} {j : Nat} (hj : j ≤ 6) (h : ∀ d, d < j → L d < f 53) : tmo f j L ≤ 380 := by
  have := bk_b k (stt_b k j h)
  unfold tmo; omega
theorem c_noteL {Y : YS} {j : Nat} {x : Int32} (hj : j ≤ 6) : ∀ (r i u : Nat) (o : OS), i + r = j → r < u → o 6 0 = x → ∃ o', fX0_note_L36 (nI j) x u (nI i) Y o = some (Y, o') ∧ (∀ d, i ≤ d → d < j → o' 12 d = o 11 d) ∧ (∀ d, d < i → o' 12 d = o 12 d) ∧ (∀ c, c ≠ 12 → o' c = o c)
  | 0, i, u, o, hi, hu, h0 => by
    cases u with
    | zero => omega
    | succ u => exact ⟨o, by rw [fX0_note_L36, h0, ifT rfl, ifT ((nI_leI (by omega) (by omega)).mpr (by omega))], fun d h1 h2 => by omega, fun _ _ => rfl, fun _ _ => rfl⟩
  | r + 1, i, u, o, hi, hu, h0 => by
    cases u with
    | zero => omega
    | succ u =>
      obtain ⟨o', e, a1, a2, a3⟩ := c_noteL (Y := Y) (x := x) hj r (i + 1) u (u2 o 12 i (o 11 i)) (by omega) (by omega) (by rw [u2_ne (by decide)]; exact h0)
      refine ⟨o', ?_, fun d h1 h2 => ?_, fun d hd => by rw [a2 d (by omega), u2_eq, upd_n (by omega)], fun c hc => by rw [a3 c hc, u2_ne hc]⟩
      · rw [fX0_note_L36, h0, ifT rfl, ifF (by rw [nI_leI (by omega) (by omega)]; omega), ifF (show ¬ 6 ≤ nI i from fun e => absurd ((nI_leI (a := 6) (by decide) (by omega)).mp e) (by omega)), gib (by omega) (by decide), gib (by omega) (by decide), nI_clamp (by omega), show nI i + 1 = nI (i + 1) from nI_add i 1]
        exact e
      · by_cases c : d = i
        · subst c; rw [a2 d (by omega), u2_eq, upd_s]
        · rw [a1 d (by omega) h2, u2_ne (by decide)]
theorem c_note {Y : YS} {o : OS} {f : Nat → Nat} {N m j : Nat} {L : Nat → Nat} {s : TS} (k : Ok f N m) (hj : j ≤ 6) (hL : ∀ d, d < j → o 11 d = nI (L d) ∧ L d < f 53 ∧ gr f (L d) = true) (hc : CB o f) (hs' : CS o (stt f j L)) (ht : CT f o s) : ∃ o', fX0_note Y o (nI j) (ms (hs j L) 6) = some (Y, o') ∧ CT f o' (nte f j L s) ∧ (∀ c, c ≠ 10 → c ≠ 12 → o' c = o c) := by
  have h6 := k.2.2.1
  have hb := stt_b k j (fun d hd => (hL d hd).2.1)
  have tb := tmo_b k hj (fun d hd => (hL d hd).2.1)
  obtain ⟨kI, klt⟩ := kn_I (hs j L)
  rw [fX0_note, c_back k (by omega) hc hs' hb, bs, kI, ifF (nI_pos (by omega)), ifF (show ¬ 64 ≤ nI (kn (hs j L)) from fun e => absurd ((nI_leI (a := 64) (by decide) (by omega)).mp e) (by omega)), gib (by omega) (by decide), nI_clamp (by omega), show bk f (stt f j L) = tmo f j L from rfl]
  unfold nte
  have hk := ht.1 _ klt
  have cmp : (nI (tmo f j L) < o 10 (kn (hs j L))) ↔ bl (s.1 (kn (hs j L))) (tmo f j L) = true := by
    rw [hk.1]
    cases e : s.1 (kn (hs j L)) with
    | none =>
      refine ⟨fun _ => rfl, fun _ => ?_⟩
      exact (nI_ltI (b := 1000000) (by omega) (by decide)).mpr (by omega)
    | some t =>
      have := hk.2 t e
      show nI (tmo f j L) < nI t ↔ decide (tmo f j L < t) = true
      rw [nI_ltI (by omega) (by omega), decide_eq_true_eq]
  by_cases c : bl (s.1 (kn (hs j L))) (tmo f j L) = true
  · rw [ifT (cmp.mpr c), if_pos c, gib (by omega) (by decide)]
    have full : (nI (kn (hs j L)) = o 6 0) ↔ kn (hs j L) = kn (gq f) := by
      rw [hc.1, ms_gq h6, (kn_I (gq f)).1]
      exact nI_eq (by omega) (by have := (kn_I (gq f)).2; omega)
    have row : ∀ (o' : OS), o' 10 = upd (o 10) (kn (hs j L)) (nI (tmo f j L)) → ∀ q, q < 64 → o' 10 q = tI (if q = kn (hs j L) then some (tmo f j L) else s.1 q) ∧ ∀ t, (if q = kn (hs j L) then some (tmo f j L) else s.1 q) = some t → t ≤ 1000 := by
      intro o' ho q hq
      rw [ho]
      by_cases z : q = kn (hs j L)
      · subst z; rw [upd_s, if_pos rfl]; exact ⟨rfl, fun t ht => by cases ht; omega⟩
      · rw [upd_n z, if_neg z]; exact ht.1 q hq
    by_cases c2 : kn (hs j L) = kn (gq f)
    · obtain ⟨o', e, a1, a2, a3⟩ := c_noteL (Y := Y) (j := j) (x := nI (kn (hs j L))) hj j 0 FU (u2 o 10 (kn (hs j L)) (nI (tmo f j L))) (by omega) (FU_gt (by omega)) (by rw [u2_ne (by decide)]; exact (full.mpr c2).symm)
      refine ⟨o', e, ⟨row o' (by rw [a3 10 (by decide), u2_eq]), fun _ d hd => ?_⟩, fun c h1 h2 => by rw [a3 c h2, u2_ne h1]⟩
      have hn : cnt (gr f) (f 53) ≤ j := by
        have h1 := (hs_cnt (L := L) (n := f 53) j (fun d hd => (hL d hd).2.1)).1
        have h2 : cnt (hs j L) (f 53) = cnt (gr f) (f 53) := cnt_cong (fun v hv => by
          rw [(kn_eq.mp c2) v (by omega)]; unfold gq; rw [decide_eq_true hv]; rfl)
        omega
      rw [a1 d (by omega) (by omega), u2_ne (by decide), (hL d (by omega)).1]
      show nI (L d) = nI ((if kn (hs j L) = kn (gq f) then L else s.2) d)
      rw [if_pos c2]
    · have c3 : ¬ nI (kn (hs j L)) = u2 o 10 (kn (hs j L)) (nI (tmo f j L)) 6 0 := by rw [u2_ne (by decide)]; exact fun e => c2 (full.mp e)
      refine ⟨u2 o 10 (kn (hs j L)) (nI (tmo f j L)), ?_, ⟨row _ (by rw [u2_eq]), ?_⟩, fun c h1 h2 => u2_ne h1⟩
      · show fX0_note_L36 (nI j) (nI (kn (hs j L))) (99999 + 1) 0 Y _ = _
        rw [fX0_note_L36, ifF c3]
      · intro hne d hd
        rw [u2_ne (by decide)]
        have hne : (if kn (gq f) = kn (hs j L) then some (tmo f j L) else s.1 (kn (gq f))) ≠ none := hne
        rw [if_neg (fun e => c2 e.symm)] at hne
        show o 12 d = nI ((if kn (hs j L) = kn (gq f) then L else s.2) d)
        rw [if_neg c2]; exact ht.2 hne d hd
  · rw [ifF (fun e => c (cmp.mp e)), if_neg c]
    exact ⟨o, rfl, ht, fun _ _ _ => rfl⟩
theorem ms_hs {L : Nat → Nat} {j v : Nat} (hv : v < 6) : ms (hs j L) 6 ||| (1 <<< (nI v &&& 31)) = ms (hs (j + 1) (pt L j v)) 6 := by
  refine b_ext (fun i hi => ?_)
  rw [b_or, b_ms (by decide) hi, b_ms (by decide) hi, show (1 : Int32) <<< (nI v &&& 31) = bI v from rfl, b_bI (by omega) hi, hs_pt]
  by_cases c : i < 6
  · rw [decide_eq_true c, Bool.true_and, Bool.true_and]
    congr 1
    by_cases z : i = v
    · rw [z]; simp
    · rw [decide_eq_false z, beq_false_of_ne (fun e => z e.symm)]
  · rw [decide_eq_false c, decide_eq_false (show ¬ i = v by omega)]; rfl
theorem c_try {Y : YS} {f : Nat → Nat} {N m : Nat} (k : Ok f N m) : ∀ (r dp j : Nat) (L : Nat → Nat) (o : OS) (s : TS), j + r = 6 → r < dp → CB o f → CS o (stt f j L) → CT f o s → (∀ d, d < j → o 11 d = nI (L d) ∧ L d < f 53 ∧ gr f (L d) = true) → ∃ o', fX0_tryBehindR dp (nI j) (ms (hs j L) 6) Y o = some (Y, o') ∧ CT f o' (cf (gr f) (f 53) (nte f) r j L s) ∧ CB o' f ∧ (∀ d, d < j → o' 11 d = o 11 d) ∧ (∀ c, (c < 6 ∨ 12 < c) → o' c = o c) := by
  intro r
  induction r with
  | zero =>
    intro dp j L o s hj hd hc hs' ht hL
    cases dp with
    | zero => omega
    | succ dp =>
      obtain ⟨o1, e1, t1, f1⟩ := c_note (Y := Y) k (by omega) hL hc hs' ht
      refine ⟨o1, ?_, t1, ⟨by rw [f1 6 (by decide) (by decide)]; exact hc.1, by rw [f1 6 (by decide) (by decide)]; exact hc.2.1, fun v hv => by rw [f1 7 (by decide) (by decide), f1 8 (by decide) (by decide), f1 9 (by decide) (by decide)]; exact hc.2.2 v hv⟩, fun d _ => by rw [f1 11 (by decide) (by decide)], fun c hc => f1 c (by omega) (by omega)⟩
      rw [fX0_tryBehindR, e1, bs, ifF (nI_pos (by omega)), ifF (show ¬ nI j < 6 from fun e => absurd ((nI_ltI (b := 6) (by omega) (by decide)).mp e) (by omega))]
  | succ r ih =>
    intro dp j L o s hj hd hc hs' ht hL
    have h6 := k.2.2.1
    cases dp with
    | zero => omega
    | succ dp =>
      obtain ⟨o1, e1, t1, f1⟩ := c_note (Y := Y) k (by omega) hL hc hs' ht
      have cb1 : CB o1 f := ⟨by rw [f1 6 (by decide) (by decide)]; exact hc.1, by rw [f1 6 (by decide) (by decide)]; exact hc.2.1, fun v hv => by rw [f1 7 (by decide) (by decide), f1 8 (by decide) (by decide), f1 9 (by decide) (by decide)]; exact hc.2.2 v hv⟩
      have cs1 : CS o1 (stt f j L) := by unfold CS; rw [f1 6 (by decide) (by decide)]; exact hs'
      have hbs := stt_b k j (fun d hd => (hL d hd).2.1)
      have loop : ∀ (q i u : Nat) (o2 : OS) (s2 : TS), i + q = f 53 → q < u → CB o2 f → CS o2 (stt f j L) → CT f o2 s2 → (∀ d, d < j → o2 11 d = o 11 d) → ∃ o', fX0_tryBehind_L37 (fX0_tryBehindR dp) (nI j) (ms (hs j L) 6) (nI (stt f j L).1) (rI (stt f j L).2.1) (nI (stt f j L).2.2) u (nI i) Y o2 = some (Y, o') ∧ CT f o' (itr (fun v s => if gr f v && !hs j L v then cf (gr f) (f 53) (nte f) r (j + 1) (pt L j v) s else s) q i s2) ∧ CB o' f ∧ (∀ d, d < j → o' 11 d = o 11 d) ∧ (∀ c, (c < 6 ∨ 12 < c) → o' c = o2 c) := by
        intro q
        induction q with
        | zero =>
          intro i u o2 s2 hi hu b1 b2 b3 b4
          cases u with
          | zero => omega
          | succ u => exact ⟨o2, by rw [fX0_tryBehind_L37, b1.2.1, ifT ((nI_leI (by omega) (by omega)).mpr (by omega))], b3, b1, b4, fun _ _ => rfl⟩
        | succ q ihq =>
          intro i u o2 s2 hi hu b1 b2 b3 b4
          cases u with
          | zero => omega
          | succ u =>
            have hv : i < f 53 := by omega
            rw [fX0_tryBehind_L37, b1.2.1, ifF (by rw [nI_leI (by omega) (by omega)]; omega), c_goer k b1 hv, bs, show nI i + 1 = nI (i + 1) from nI_add i 1, sb1 _ (by omega), b_ms (by decide) (by omega), decide_eq_true (show i < 6 by omega), Bool.true_and, itr]
            have skip : ∀ (a : Bool), a = false → ∃ o', fX0_tryBehind_L37 (fX0_tryBehindR dp) (nI j) (ms (hs j L) 6) (nI (stt f j L).1) (rI (stt f j L).2.1) (nI (stt f j L).2.2) u (nI (i + 1)) Y o2 = some (Y, o') ∧ CT f o' (itr (fun v s => if gr f v && !hs j L v then cf (gr f) (f 53) (nte f) r (j + 1) (pt L j v) s else s) q (i + 1) (if a then cf (gr f) (f 53) (nte f) r (j + 1) (pt L j i) s2 else s2)) ∧ CB o' f ∧ (∀ d, d < j → o' 11 d = o 11 d) ∧ (∀ c, (c < 6 ∨ 12 < c) → o' c = o2 c) := by
              intro a ha
              subst ha
              exact ihq (i + 1) u o2 s2 (by omega) (by omega) b1 b2 b3 b4
            cases g : gr f i with
            | false => rw [ibf]; exact skip _ rfl
            | true =>
              rw [ibt]
              cases hh : hs j L i with
              | true =>
                rw [ifF (show ¬ (if true = true then (1 : Int32) else 0) = 0 by decide)]
                exact skip _ rfl
              | false =>
                rw [ifT (show (if false = true then (1 : Int32) else 0) = 0 from rfl), gib (by omega) (by decide), nI_clamp (by omega)]
                have b1' : CB (u2 o2 11 j (nI i)) f := ⟨by rw [u2_ne (by decide)]; exact b1.1, by rw [u2_ne (by decide)]; exact b1.2.1, fun v hv => by rw [u2_ne (by decide), u2_ne (by decide), u2_ne (by decide)]; exact b1.2.2 v hv⟩
                have b2' : CS (u2 o2 11 j (nI i)) (stt f j L) := by unfold CS; rw [u2_ne (by decide)]; exact b2
                obtain ⟨o3, e3, f3, s3⟩ := c_send (Y := Y) k (by omega) b1' b2' hbs hv g
                have e4 : snv f (stt f j L) i = stt f (j + 1) (pt L j i) := by
                  rw [stt_s, pt_s, stt_cong (L := pt L j i) (L' := L) (fun d hd => pt_n (by omega))]
                rw [e4] at s3
                have t3 : CT f o3 s2 := ⟨fun q hq => by rw [f3.1 10 (by decide), u2_ne (by decide)]; exact b3.1 q hq, fun hne d hd => by rw [f3.1 12 (by decide), u2_ne (by decide)]; exact b3.2 hne d hd⟩
                obtain ⟨o4, e5, t4, c4, l4, fr4⟩ := ih dp (j + 1) (pt L j i) o3 s2 (by omega) (by omega) (f3.cb b1') s3 t3 (fun d hd => by
                  rw [f3.1 11 (by decide), u2_eq]
                  by_cases z : d = j
                  · subst z; rw [upd_s, pt_s]; exact ⟨rfl, hv, g⟩
                  · rw [upd_n z, pt_n z, b4 d (by omega)]; exact hL d (by omega))
                have fb5 : FB o4 (u2 (u2 (u2 o4 6 8 (nI (stt f j L).1)) 6 9 (rI (stt f j L).2.1)) 6 10 (nI (stt f j L).2.2)) := ((FB.u (Or.inl rfl)).tr (FB.u (Or.inr (Or.inl rfl)))).tr (FB.u (Or.inr (Or.inr rfl)))
                obtain ⟨o', e6, t6, c6, l6, fr6⟩ := ihq (i + 1) u (u2 (u2 (u2 o4 6 8 (nI (stt f j L).1)) 6 9 (rI (stt f j L).2.1)) 6 10 (nI (stt f j L).2.2)) (cf (gr f) (f 53) (nte f) r (j + 1) (pt L j i) s2) (by omega) (by omega) (fb5.cb c4) ⟨by rw [u2_eq, upd_n (by decide), u2_eq, upd_n (by decide), u2_eq, upd_s], by rw [u2_eq, upd_n (by decide), u2_eq, upd_s], by rw [u2_eq, upd_s]⟩ ⟨fun q hq => by rw [fb5.1 10 (by decide)]; exact t4.1 q hq, fun hne d hd => by rw [fb5.1 12 (by decide)]; exact t4.2 hne d hd⟩ (fun d hd => by rw [fb5.1 11 (by decide), l4 d (by omega), f3.1 11 (by decide), u2_eq, upd_n (by omega)]; exact b4 d hd)
                refine ⟨o', ?_, t6, c6, l6, fun c hc => by rw [fr6 c hc, fb5.1 c (by omega), fr4 c hc, f3.1 c (by omega), u2_ne (by omega)]⟩
                rw [e3, bs]
                dsimp only
                rw [ms_hs (by omega), show nI j + 1 = nI (j + 1) from nI_add j 1, e5, bs]
                exact e6
      obtain ⟨o', e2, t2, c2, l2, fr2⟩ := loop (f 53) 0 FU o1 (nte f j L s) (by omega) (FU_gt (by omega)) cb1 cs1 t1 (fun d _ => by rw [f1 11 (by decide) (by decide)])
      refine ⟨o', ?_, t2, c2, l2, fun c hc => by rw [fr2 c hc, f1 c (by omega) (by omega)]⟩
      rw [fX0_tryBehindR, e1, bs, ifF (nI_pos (by omega)), ifT (show nI j < 6 from (nI_ltI (b := 6) (by omega) (by decide)).mpr (by omega))]
      dsimp only
      rw [cs1.1, cs1.2.1, cs1.2.2]
      exact e2
