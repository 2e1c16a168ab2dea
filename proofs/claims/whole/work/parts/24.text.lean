/-! numbers of the text -/
def lt (X : Tx) (p : Nat) : Nat := if p < X.1 then X.2 p else 32
def dg (x : Nat) : Bool := decide (48 ≤ x ∧ x ≤ 57)
def GX (X : Tx) : Prop := X.1 ≤ 200 ∧ ∀ j, j < X.1 → 32 ≤ X.2 j ∧ X.2 j ≤ 126
theorem lt_b {X : Tx} (h : GX X) (p : Nat) : 32 ≤ lt X p ∧ lt X p ≤ 126 := by
  unfold lt
  by_cases c : p < X.1
  · rw [if_pos c]; exact h.2 p c
  · rw [if_neg c]; omega
theorem lt_in {X : Tx} {p : Nat} (h : lt X p ≠ 32) : p < X.1 := by
  unfold lt at h
  by_cases c : p < X.1
  · exact c
  · rw [if_neg c] at h; omega
theorem dg_in {X : Tx} {p : Nat} (h : dg (lt X p) = true) : p < X.1 ∧ 48 ≤ lt X p ∧ lt X p ≤ 57 := by
  have h := of_decide_eq_true h
  exact ⟨lt_in (by omega), h⟩
/-- where the number at p ends, and what it is -/
def nq (X : Tx) (p : Nat) : Nat := if dg (lt X (p + 1)) then p + 2 else p + 1
def nv (X : Tx) (p : Nat) : Nat := if dg (lt X (p + 1)) then 10 * (lt X p - 48) + lt X (p + 1) - 48 else lt X p - 48
def rn (X : Tx) : Nat → Nat → Nat → (Nat → Nat) → Option (Nat × (Nat → Nat))
  | 0, _, p, T => some (p, T)
  | j + 1, i, p, T => if dg (lt X p) then (if lt X (nq X p) = (if j = 0 then 59 else 44) then rn X j (i + 1) (nq X p + 1) (pt T i (nv X p)) else none) else none
theorem nv_le {X : Tx} {p : Nat} (h : dg (lt X p) = true) : nv X p ≤ 99 := by
  have a := (dg_in h).2
  unfold nv
  by_cases c : dg (lt X (p + 1)) = true
  · have b := (dg_in c).2
    rw [if_pos c]; omega
  · rw [if_neg c]; omega
theorem nq_b (X : Tx) (p : Nat) : p < nq X p ∧ nq X p ≤ p + 2 := by unfold nq; split <;> omega
theorem rn_b {X : Tx} : ∀ (j i p : Nat) (T : Nat → Nat) (p' : Nat) (T' : Nat → Nat), rn X j i p T = some (p', T') → (∀ m, m < i → T' m = T m) ∧ (∀ m, i ≤ m → m < i + j → T' m ≤ 99) ∧ (0 < j → p < p' ∧ p' ≤ X.1)
  | 0, i, p, T, p', T', h => by cases h; exact ⟨fun _ _ => rfl, fun m h1 h2 => by omega, fun h => by omega⟩
  | j + 1, i, p, T, p', T', h => by
    rw [rn] at h
    by_cases c : dg (lt X p) = true
    · rw [if_pos c] at h
      by_cases c2 : lt X (nq X p) = (if j = 0 then 59 else 44)
      · rw [if_pos c2] at h
        obtain ⟨a, b, d⟩ := rn_b j (i + 1) _ _ p' T' h
        have hq := nq_b X p
        refine ⟨fun m hm => by rw [a m (by omega), pt_n (by omega)], fun m h1 h2 => ?_, fun _ => ?_⟩
        · by_cases e : m = i
          · subst e; rw [a m (by omega), pt_s]; exact nv_le c
          · exact b m (by omega) (by omega)
        · rcases Nat.eq_zero_or_pos j with z | z
          · subst z
            have h : some (nq X p + 1, pt T i (nv X p)) = some (p', T') := h
            injection h with h
            injection h with h1 h2
            have := lt_in (X := X) (p := nq X p) (by rw [c2]; decide)
            omega
          · have := d z; omega
      · rw [if_neg c2] at h; cases h
    · rw [if_neg c] at h; cases h
/-! the class -/
def TX (o : OS) (X : Tx) : Prop := o 3 0 = nI X.1 ∧ ∀ j, j < X.1 → o 4 j = nI (X.2 j)
theorem isCc {x : Nat} (h : x ≤ 126) : isC .char (nI x) = true := by
  have : ∀ x, x < 127 → isC .char (nI x) = true := by decide +kernel
  exact this x (by omega)
theorem c_letter {X : Tx} (hX : GX X) {Y : YS} {o : OS} (h : TX o X) {p : Nat} (hp : p < 1000) : fX2_letterAt Y o (nI p) = some (nI (lt X p)) := by
  have hb := hX.1
  rw [fX2_letterAt, h.1, ifF (nI_pos (by omega))]
  unfold lt
  by_cases c : p < X.1
  · rw [ifF (by rw [nI_leI (by omega) (by omega)]; omega), ifF (show ¬ 200 ≤ nI p from fun e => absurd ((nI_leI (a := 200) (by decide) (by omega)).mp e) (by omega)), gib (by omega) (by decide), nI_clamp (by omega), h.2 p c, isCc (hX.2 p c).2, gB_t, if_pos c]
  · rw [ifT ((nI_leI (by omega) (by omega)).mpr (by omega)), if_neg c]; rfl
theorem c_fig {x : Nat} (hx : x < 1000) : fX2_isFigure (nI x) = some (b01 (dg x)) := by
  rw [fX2_isFigure]
  unfold dg
  by_cases c : x < 48
  · rw [ifT (show nI x < 48 from (nI_ltI (b := 48) (by omega) (by decide)).mpr c), decide_eq_false (by omega)]; rfl
  · rw [ifF (show ¬ nI x < 48 from fun e => c ((nI_ltI (b := 48) (by omega) (by decide)).mp e))]
    by_cases c2 : 57 < x
    · rw [ifT (show 57 < nI x from (nI_ltI (a := 57) (by decide) (by omega)).mpr c2), decide_eq_false (by omega)]; rfl
    · rw [ifF (show ¬ 57 < nI x from fun e => c2 ((nI_ltI (a := 57) (by decide) (by omega)).mp e)), decide_eq_true (by omega)]; rfl
theorem a10 {a b : Nat} (h : 48 ≤ b) : ((10 * nI a) + nI b) - 48 = nI (10 * a + b - 48) := by
  rw [show (10 : Int32) = nI 10 from rfl, pk_mul, nI_add]; exact pk_sub (b := 48) (by omega)
theorem s48 {a : Nat} (h : 48 ≤ a) : nI a - 48 = nI (a - 48) := pk_sub (b := 48) h
theorem c_readFig {X : Tx} (hX : GX X) {Y : YS} {o : OS} (h : TX o X) {p : Nat} (hp : p < 300) (hpp : o 3 1 = nI p) (hd : dg (lt X p) = true) : ∃ o', fX2_readFigures Y o = some (nI (nv X p), Y, o') ∧ (∀ c, c ≠ 3 → o' c = o c) ∧ o' 3 0 = o 3 0 ∧ o' 3 2 = o 3 2 ∧ o' 3 1 = nI (nq X p) := by
  have hl := (dg_in hd).2
  have e1 : u2 o 3 1 (nI (p + 1)) 3 1 = nI (p + 1) := by rw [u2_eq, upd_s]
  have t1 : TX (u2 o 3 1 (nI (p + 1))) X := ⟨by rw [u2_eq, upd_n (by decide)]; exact h.1, fun j hj => by rw [u2_ne (by decide)]; exact h.2 j hj⟩
  have hb := lt_b hX (p + 1)
  rw [fX2_readFigures, hpp, c_letter hX h (by omega), bs, show nI p + 1 = nI (p + 1) from nI_add p 1, e1, c_letter hX t1 (by omega), bs, c_fig (by omega), bs, bs]
  unfold nv nq
  cases c : dg (lt X (p + 1)) with
  | false =>
    refine ⟨_, by rw [ibf, s48 hl.1]; rfl, fun c hc => u2_ne hc, by rw [u2_eq, upd_n (by decide)], by rw [u2_eq, upd_n (by decide)], by rw [u2_eq, upd_s]; rfl⟩
  | true =>
    have hl2 := (dg_in c).2
    refine ⟨_, by rw [ibt, s48 hl.1, a10 hl2.1]; rfl, fun c hc => by rw [u2_ne hc, u2_ne hc], ?_, ?_, ?_⟩
    · rw [u2_eq, upd_n (by decide), u2_eq, upd_n (by decide)]
    · rw [u2_eq, upd_n (by decide), u2_eq, upd_n (by decide)]
    · rw [u2_eq, upd_s]; exact nI_add (p + 1) 1
theorem c_rn {X : Tx} (hX : GX X) {k : Nat} (hk : 0 < k) (hk3 : k ≤ 3) : ∀ (j i u p : Nat) (T : Nat → Nat) (Y : YS) (o : OS), i + j = k → j < u → p ≤ 201 → TX o X → o 3 1 = nI p → (∀ m, m < i → o 5 m = nI (T m)) → ∃ o', fX2_readNumbers_L2 (nI k) u (nI i) Y o = some (b01 (rn X j i p T).isSome, Y, o') ∧ (∀ c, c ≠ 3 → c ≠ 5 → o' c = o c) ∧ o' 3 0 = o 3 0 ∧ o' 3 2 = o 3 2 ∧ (∀ p' T', rn X j i p T = some (p', T') → o' 3 1 = nI p' ∧ ∀ m, m < k → o' 5 m = nI (T' m))
  | 0, i, u, p, T, Y, o, hj, hu, hp, h, hpp, hm => by
    cases u with
    | zero => omega
    | succ u =>
      refine ⟨o, ?_, fun _ _ _ => rfl, rfl, rfl, fun p' T' e => ?_⟩
      · rw [fX2_readNumbers_L2, ifT ((nI_leI (by omega) (by omega)).mpr (by omega)), ifF (show ¬ nI k ≤ 0 from fun e => absurd ((nI_leI (b := 0) (by omega) (by decide)).mp e) (by omega))]; rfl
      · cases e; exact ⟨hpp, fun m h => hm m (by omega)⟩
  | j + 1, i, u, p, T, Y, o, hj, hu, hp, h, hpp, hm => by
    cases u with
    | zero => omega
    | succ u =>
      have hb := lt_b hX p
      rw [fX2_readNumbers_L2, ifF (by rw [nI_leI (by omega) (by omega)]; omega), ifF (show ¬ 3 ≤ nI i from fun e => absurd ((nI_leI (a := 3) (by decide) (by omega)).mp e) (by omega)), hpp, c_letter hX h (by omega), bs, c_fig (by omega), bs, rn]
      cases c : dg (lt X p) with
      | false => exact ⟨o, rfl, fun _ _ _ => rfl, rfl, rfl, fun p' T' e => by cases e⟩
      | true =>
        have hd := dg_in c
        have hXb := hX.1
        have hq := nq_b X p
        obtain ⟨o1, e1, a1, a2, a3, a4⟩ := c_readFig (Y := Y) hX h (by omega) hpp c
        have t2 : TX (u2 o1 5 i (nI (nv X p))) X := ⟨by rw [u2_ne (by decide), a2]; exact h.1, fun j hj => by rw [u2_ne (by decide), a1 4 (by decide)]; exact h.2 j hj⟩
        have p2 : u2 o1 5 i (nI (nv X p)) 3 1 = nI (nq X p) := by rw [u2_ne (by decide)]; exact a4
        have hbq := lt_b hX (nq X p)
        rw [ibt, e1, bs, gib (by omega) (by decide), nI_clamp (by omega), p2, c_letter hX t2 (by omega), bs, show nI (nq X p) + 1 = nI (nq X p + 1) from nI_add _ 1, show nI i + 1 = nI (i + 1) from nI_add _ 1, show nI k - 1 = nI (k - 1) from pk_sub (b := 1) (by omega), if_pos rfl]
        have o2c : ∀ c, c ≠ 3 → c ≠ 5 → u2 o1 5 i (nI (nv X p)) c = o c := fun c h1 h2 => by rw [u2_ne h2, a1 c h1]
        by_cases c2 : lt X (nq X p) = (if j = 0 then 59 else 44)
        · have hin := lt_in (X := X) (p := nq X p) (by rw [c2]; split <;> decide)
          have t3 : TX (u2 (u2 o1 5 i (nI (nv X p))) 3 1 (nI (nq X p + 1))) X := ⟨by rw [u2_eq, upd_n (by decide)]; exact t2.1, fun j hj => by rw [u2_ne (by decide)]; exact t2.2 j hj⟩
          obtain ⟨o', e, b1, b2, b3, b4⟩ := c_rn hX hk hk3 j (i + 1) u (nq X p + 1) (pt T i (nv X p)) Y _ (by omega) (by omega) (by omega) t3 (by rw [u2_eq, upd_s]) (fun m hm' => by
            rw [u2_ne (by decide), u2_eq]
            by_cases z : m = i
            · subst z; rw [upd_s, pt_s]
            · rw [upd_n z, pt_n z, a1 5 (by decide)]; exact hm m (by omega))
          refine ⟨o', ?_, fun c h1 h2 => by rw [b1 c h1 h2, u2_ne h1, o2c c h1 h2], by rw [b2, u2_eq, upd_n (by decide), u2_ne (by decide), a2], by rw [b3, u2_eq, upd_n (by decide), u2_ne (by decide), a3], ?_⟩
          · rw [if_pos c2, ← e]
            by_cases j0 : j = 0
            · rw [if_pos j0] at c2
              rw [ifT (show nI i = nI (k - 1) by rw [show i = k - 1 by omega]), ifT (show nI (lt X (nq X p)) = 59 by rw [c2]; rfl)]
            · rw [if_neg j0] at c2
              rw [ifF (show ¬ nI i = nI (k - 1) from fun e => by have := (nI_eq (by omega) (by omega)).mp e; omega), ifT (show nI (lt X (nq X p)) = 44 by rw [c2]; rfl)]
          · rw [if_pos c2]; exact b4
        · refine ⟨u2 o1 5 i (nI (nv X p)), ?_, o2c, by rw [u2_ne (by decide), a2], by rw [u2_ne (by decide), a3], fun p' T' e => by rw [if_neg c2] at e; cases e⟩
          rw [if_neg c2]
          by_cases j0 : j = 0
          · rw [if_pos j0] at c2
            rw [ifT (show nI i = nI (k - 1) by rw [show i = k - 1 by omega]), ifF (show ¬ nI (lt X (nq X p)) = 59 from fun e => c2 ((nI_eq (b := 59) (by omega) (by decide)).mp e))]; rfl
          · rw [if_neg j0] at c2
            rw [ifF (show ¬ nI i = nI (k - 1) from fun e => by have := (nI_eq (by omega) (by omega)).mp e; omega), ifF (show ¬ nI (lt X (nq X p)) = 44 from fun e => c2 ((nI_eq (b := 44) (by omega) (by decide)).mp e))]; rfl
/-! the reference -/
def SX (S : OS) (X : Tx) : Prop := S 0 10 = nI X.1 ∧ ∀ j, j < X.1 → S 5 j = nI (X.2 j)
def lm (X : Tx) (p : Nat) : Int32 := if p < X.1 then nI (X.2 p) else -1
theorem m_letter {X : Tx} (hX : GX X) {S : OS} (h : SX S X) {p : Nat} (hp : p < 1000) : fX5_letterAt S (nI p) = some (lm X p) := by
  have hb := hX.1
  rw [fX5_letterAt, h.1]
  unfold lm
  by_cases c : p < X.1
  · rw [ifF (by rw [nI_leI (by omega) (by omega)]; omega), gib (by omega) (by decide), nI_clamp (by omega), h.2 p c, if_pos c]
  · rw [ifT ((nI_leI (by omega) (by omega)).mpr (by omega)), if_neg c]
theorem lm_in {X : Tx} {p : Nat} (h : p < X.1) : lm X p = nI (lt X p) := by unfold lm lt; rw [if_pos h, if_pos h]
theorem lm_eq {X : Tx} (hX : GX X) {p c : Nat} (hc : c ≠ 32) (hc2 : c < 127) : (lm X p = nI c) ↔ lt X p = c := by
  have hb := lt_b hX p
  by_cases z : p < X.1
  · rw [lm_in z]; exact nI_eq (by omega) (by omega)
  · unfold lm lt
    rw [if_neg z, if_neg z]
    constructor
    · intro e
      have := congrArg Int32.toInt e
      rw [nI_toInt (by omega)] at this
      have e1 : (-1 : Int32).toInt = -1 := rfl
      omega
    · intro e; omega
theorem m_fig {X : Tx} (hX : GX X) (p : Nat) : fX5_isFigure (lm X p) = some (b01 (dg (lt X p))) := by
  have hb := lt_b hX p
  have e : iL (lm X p) 48 57 = dg (lt X p) := by
    by_cases z : p < X.1
    · rw [lm_in z, iL_nI (by omega)]; unfold dg
      by_cases c : 48 ≤ lt X p ∧ lt X p ≤ 57
      · rw [decide_eq_true (p := 48 ≤ lt X p ∧ lt X p ≤ 57) c, decide_eq_true (by omega)]
      · rw [decide_eq_false (p := 48 ≤ lt X p ∧ lt X p ≤ 57) c, decide_eq_false (by omega)]
    · unfold lm lt; rw [if_neg z, if_neg z]; decide
  rw [fX5_isFigure, m_in, bs, show (48 : Int32).toInt = 48 from rfl, show (57 : Int32).toInt = 57 from rfl, e, b01_c, gB_t]
theorem SX.o {S S' : OS} {X : Tx} (h : SX S X) (h0 : S' 0 10 = S 0 10) (h5 : S' 5 = S 5) : SX S' X := ⟨by rw [h0]; exact h.1, fun j hj => by rw [h5]; exact h.2 j hj⟩
theorem m_rn {X : Tx} (hX : GX X) {k : Nat} (hk : 0 < k) (hk3 : k ≤ 3) : ∀ (j i u p : Nat) (T : Nat → Nat) (S : OS), i + j = k → j < u → p ≤ 201 → SX S X → S 0 11 = nI p → (∀ m, m < i → S 6 m = nI (T m)) → ∃ S', fX5_readNumbers_L2 (nI k) u (nI i) S = some (b01 (rn X j i p T).isSome, S') ∧ (∀ c, c ≠ 0 → c ≠ 6 → S' c = S c) ∧ (∀ m, m ≠ 11 → S' 0 m = S 0 m) ∧ (∀ p' T', rn X j i p T = some (p', T') → S' 0 11 = nI p' ∧ ∀ m, m < k → S' 6 m = nI (T' m))
  | 0, i, u, p, T, S, hj, hu, hp, h, hpp, hm => by
    cases u with
    | zero => omega
    | succ u =>
      refine ⟨S, ?_, fun _ _ _ => rfl, fun _ _ => rfl, fun p' T' e => ?_⟩
      · rw [fX5_readNumbers_L2, ifT ((nI_leI (by omega) (by omega)).mpr (by omega))]; rfl
      · cases e; exact ⟨hpp, fun m h => hm m (by omega)⟩
  | j + 1, i, u, p, T, S, hj, hu, hp, h, hpp, hm => by
    cases u with
    | zero => omega
    | succ u =>
      have hb := lt_b hX p
      rw [fX5_readNumbers_L2, ifF (by rw [nI_leI (by omega) (by omega)]; omega), hpp, m_letter hX h (by omega), bs, m_fig hX, bs, rn]
      cases c : dg (lt X p) with
      | false => exact ⟨S, rfl, fun _ _ _ => rfl, fun _ _ => rfl, fun p' T' e => by cases e⟩
      | true =>
        have hd := dg_in c
        have hXb := hX.1
        have hq := nq_b X p
        rw [ibt, bs, gib (by omega) (by decide), nI_clamp (by omega), lm_in hd.1, s48 hd.2.1]
        generalize hS2 : u2 (u2 S 6 i (nI (lt X p - 48))) 0 11 (u2 S 6 i (nI (lt X p - 48)) 0 11 + 1) = S2
        have q1 : S2 0 11 = nI (p + 1) := by rw [← hS2, u2_eq, upd_s, u2_ne (by decide), hpp]; exact nI_add p 1
        have q2 : S2 6 = upd (S 6) i (nI (lt X p - 48)) := by rw [← hS2, u2_ne (by decide), u2_eq]
        have q3 : ∀ c, c ≠ 0 → c ≠ 6 → S2 c = S c := fun c h1 h2 => by rw [← hS2, u2_ne h1, u2_ne h2]
        have q4 : ∀ m, m ≠ 11 → S2 0 m = S 0 m := fun m h1 => by rw [← hS2, u2_eq, upd_n h1, u2_ne (by decide)]
        have t2 : SX S2 X := h.o (q4 10 (by decide)) (q3 5 (by decide) (by decide))
        -- the end of a number
        have tail : ∀ (S4 : OS), S4 0 11 = nI (nq X p) → (∀ m, m ≠ i → S4 6 m = S 6 m) → S4 6 i = nI (nv X p) → (∀ c, c ≠ 0 → c ≠ 6 → S4 c = S c) → (∀ m, m ≠ 11 → S4 0 m = S 0 m) → ∃ S', ((fX5_letterAt S4 (S4 0 11)).bind (fun r12 => (if (nI k - 1) ≤ nI i then if r12 = 59 then fX5_readNumbers_L2 (nI k) u (nI i + 1) (u2 S4 0 11 ((S4 0 11) + 1)) else some (0, S4) else if r12 = 44 then fX5_readNumbers_L2 (nI k) u (nI i + 1) (u2 S4 0 11 ((S4 0 11) + 1)) else some (0, S4)))) = some (b01 (if lt X (nq X p) = (if j = 0 then 59 else 44) then rn X j (i + 1) (nq X p + 1) (pt T i (nv X p)) else none).isSome, S') ∧ (∀ c, c ≠ 0 → c ≠ 6 → S' c = S c) ∧ (∀ m, m ≠ 11 → S' 0 m = S 0 m) ∧ (∀ p' T', (if lt X (nq X p) = (if j = 0 then 59 else 44) then rn X j (i + 1) (nq X p + 1) (pt T i (nv X p)) else none) = some (p', T') → S' 0 11 = nI p' ∧ ∀ m, m < k → S' 6 m = nI (T' m)) := by
          intro S4 r1 r2 r3 r4 r5
          have t4 : SX S4 X := h.o (r5 10 (by decide)) (r4 5 (by decide) (by decide))
          rw [r1, m_letter hX t4 (by omega), bs, show nI (nq X p) + 1 = nI (nq X p + 1) from nI_add _ 1, show nI i + 1 = nI (i + 1) from nI_add _ 1, show nI k - 1 = nI (k - 1) from pk_sub (b := 1) (by omega)]
          by_cases c2 : lt X (nq X p) = (if j = 0 then 59 else 44)
          · have hin := lt_in (X := X) (p := nq X p) (by rw [c2]; split <;> decide)
            obtain ⟨S', e, b1, b2, b4⟩ := m_rn hX hk hk3 j (i + 1) u (nq X p + 1) (pt T i (nv X p)) (u2 S4 0 11 (nI (nq X p + 1))) (by omega) (by omega) (by omega) (t4.o (by rw [u2_eq, upd_n (by decide)]) (by rw [u2_ne (by decide)])) (by rw [u2_eq, upd_s]) (fun m hm' => by
              rw [u2_ne (by decide)]
              by_cases z : m = i
              · subst z; rw [r3, pt_s]
              · rw [r2 m z, pt_n z]; exact hm m (by omega))
            refine ⟨S', ?_, fun c h1 h2 => by rw [b1 c h1 h2, u2_ne h1, r4 c h1 h2], fun m h1 => by rw [b2 m h1, u2_eq, upd_n h1, r5 m h1], ?_⟩
            · rw [if_pos c2, ← e]
              by_cases j0 : j = 0
              · rw [if_pos j0] at c2
                rw [ifT (show nI (k - 1) ≤ nI i from (nI_leI (by omega) (by omega)).mpr (by omega)), ifT (show lm X (nq X p) = 59 from (lm_eq hX (c := 59) (by decide) (by decide)).mpr c2)]
              · rw [if_neg j0] at c2
                rw [ifF (show ¬ nI (k - 1) ≤ nI i from fun e => by have := (nI_leI (by omega) (by omega)).mp e; omega), ifT (show lm X (nq X p) = 44 from (lm_eq hX (c := 44) (by decide) (by decide)).mpr c2)]
            · rw [if_pos c2]; exact b4
          · refine ⟨S4, ?_, r4, r5, fun p' T' e => by rw [if_neg c2] at e; cases e⟩
            rw [if_neg c2]
            by_cases j0 : j = 0
            · rw [if_pos j0] at c2
              rw [ifT (show nI (k - 1) ≤ nI i from (nI_leI (by omega) (by omega)).mpr (by omega)), ifF (show ¬ lm X (nq X p) = 59 from fun e => c2 ((lm_eq hX (c := 59) (by decide) (by decide)).mp e))]; rfl
            · rw [if_neg j0] at c2
              rw [ifF (show ¬ nI (k - 1) ≤ nI i from fun e => by have := (nI_leI (by omega) (by omega)).mp e; omega), ifF (show ¬ lm X (nq X p) = 44 from fun e => c2 ((lm_eq hX (c := 44) (by decide) (by decide)).mp e))]; rfl
        have hnq : nq X p = if dg (lt X (p + 1)) then p + 2 else p + 1 := rfl
        have hnv : nv X p = if dg (lt X (p + 1)) then 10 * (lt X p - 48) + lt X (p + 1) - 48 else lt X p - 48 := rfl
        rw [q1, m_letter hX t2 (by omega), bs, m_fig hX, bs, if_pos rfl]
        cases c2 : dg (lt X (p + 1)) with
        | false =>
          rw [c2, if_neg (by decide)] at hnq hnv
          rw [ibf]
          have := tail S2 (by rw [q1, hnq]) (fun m hm => by rw [q2, upd_n hm]) (by rw [q2, upd_s, hnv]) q3 q4
          rw [q1, m_letter hX t2 (by omega)] at this
          exact this
        | true =>
          rw [c2, if_pos rfl] at hnq hnv
          have hd2 := dg_in c2
          rw [ibt, gib (by omega) (by decide), bs, gib (by omega) (by decide), lm_in hd2.1, q2, upd_s, a10 hd2.2.1]
          generalize hS4 : u2 (u2 S2 6 i (nI (10 * (lt X p - 48) + lt X (p + 1) - 48))) 0 11 (u2 S2 6 i (nI (10 * (lt X p - 48) + lt X (p + 1) - 48)) 0 11 + 1) = S4
          exact tail S4 (by rw [← hS4, u2_eq, upd_s, u2_ne (by decide), q1, hnq]; exact nI_add (p + 1) 1) (fun m hm => by rw [← hS4, u2_ne (by decide), u2_eq, upd_n hm, q2, upd_n hm]) (by rw [← hS4, u2_ne (by decide), u2_eq, upd_s, hnv]) (fun c h1 h2 => by rw [← hS4, u2_ne h1, u2_ne h2, q3 c h1 h2]) (fun m h1 => by rw [← hS4, u2_eq, upd_n h1, u2_ne (by decide), q4 m h1])
