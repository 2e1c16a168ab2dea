/-! by right -/
theorem c_lbr {Y : YS} {o : OS} {f : Nat → Nat} {N t m i1 : Nat} (h : RY (Y i1) f N t) (k : Ok f N m) (hne : i1 ≠ 1) : ∃ Y', fX4_layByRight Y o i1 = some (Y', o) ∧ (∀ x, x ≠ 1 → Y' x = Y x) ∧ RY (Y' 1) (an f N) N t := by
  obtain ⟨Y1, e1, a1, r1⟩ := copyR (Y := Y) (o := o) (i0 := 1) (i1 := i1) hne h k
  obtain ⟨y', e2, r2⟩ := y_digAll r1.b k.b
  refine ⟨va_up Y1 1 y', ?_, fun x hx => by rw [vu_n hx, a1 x hx], by rw [vu_s]; exact r2⟩
  rw [fX4_layByRight, e1, bs, e2]; rfl
theorem plt_b {f : Nat → Nat} {i : Nat} : ∀ p, plt f i = some p → p < 2 ^ 31 := fun p h => by have := (plt_lt h).1; omega
theorem rI_inj {a b : Option Nat} (ha : ∀ p, a = some p → p < 2 ^ 31) (hb : ∀ p, b = some p → p < 2 ^ 31) : (rI a = rI b) ↔ a = b := by
  cases a with
  | none =>
    cases b with
    | none => exact ⟨fun _ => rfl, fun _ => rfl⟩
    | some q => exact ⟨fun e => absurd e.symm (m4T (hb q rfl)), fun e => by cases e⟩
  | some p =>
    cases b with
    | none => exact ⟨fun e => absurd e (m4T (ha p rfl)), fun e => by cases e⟩
    | some q =>
      show (nI p = nI q) ↔ _
      rw [nI_eq (ha p rfl) (hb q rfl)]
      exact ⟨fun e => by rw [e], fun e => by cases e; rfl⟩
theorem rI_neg {a : Option Nat} (ha : ∀ p, a = some p → p < 2 ^ 31) : (rI a < 0) ↔ a = none := by
  cases a with
  | none => exact ⟨fun _ => rfl, fun _ => by decide⟩
  | some p => exact ⟨fun e => absurd e (nI_pos (ha p rfl)), fun e => by cases e⟩
theorem rI_pos {a : Option Nat} (ha : ∀ p, a = some p → p < 2 ^ 31) : (0 ≤ rI a) ↔ ¬ a = none := by
  cases a with
  | none => exact ⟨fun e => absurd e (by decide), fun e => absurd rfl e⟩
  | some p => exact ⟨fun _ e => (by cases e), fun _ => nI_pos' (ha p rfl)⟩
/-- what the class's scratch, the reference's scratch does -/
theorem Inv.sc {Y Y' : YS} {o o' S S' : OS} {f : Nat → Nat} {N t : Nat} {P K : Tp} {Z : Tz} {X : Tx} (hC : CI Y o f N t P K Z X) (hM : MI S f N t P K Z X) (hG : GI f N t P K Z X) (hY : ∀ i, i ≠ 1 → i ≠ 2 → Y' i = Y i) (ho : ∀ c, (c ≤ 2 ∨ c = 4 ∨ 13 ≤ c) → o' c = o c) (h3 : o' 3 0 = o 3 0) (hS : ∀ c, 1 ≤ c → c ≤ 5 → S' c = S c) (h0 : ∀ k, (k = 0 ∨ k = 1 ∨ k = 3 ∨ k = 5 ∨ k = 7 ∨ k = 10) → S' 0 k = S 0 k) : Inv Y' o' S' := ⟨f, N, t, P, K, Z, X, hC.cg hY ho h3 hG.2.2.1.1, hM.cg hS h0, hG⟩
theorem op_right {Y : YS} {o S : OS} (h : Inv Y o S) (x : Int32) : OpW (fX4_right Y o x) (fX5_right S x) := by
  obtain ⟨f, N, t, P, K, Z, X, hC, hM, hG⟩ := id h
  have c1 := hC.1
  have m1 := hM.1
  have g1 := hG.1
  have h12 := g1.2.1
  rw [fX4_right, fX5_right, y_hasDead c1 g1, m_isDead m1 h12, bs, bs]
  cases hx : iL x 0 ((f 0 : Int) - 1) with
  | false => exact ⟨_, _, _, _, rfl, rfl, h⟩
  | true =>
    obtain ⟨i, hi, rfl⟩ := iL_j (by omega) hx
    obtain ⟨Y', e1, a1, r1⟩ := c_lbr (o := o) c1 g1 (by decide)
    obtain ⟨S', e2, s8, s9, so⟩ := m_byRight m1 hM.2.1 g1.b
    have ka := okb_an g1.b
    have hi' : i < an f N 0 := by rw [ka.2]; exact hi
    refine ⟨rI (plt (an f N) i), Y', o, S', ?_, ?_, Inv.sc hC hM hG (fun i h1 h2 => a1 i h1) (fun _ _ => rfl) rfl (fun c h1 h2 => so c (by omega) (by omega)) (fun k _ => by rw [so 0 (by decide) (by decide)])⟩
    · rw [ibt, e1, bs, y_plot r1 ka.1 hi']; rfl
    · rw [ibt, e2, bs, m_plotOf s8 rfl ka.1 hi']; rfl
/-- who lies otherwise -/
def mvd (f g : Nat → Nat) (i : Nat) : Bool := !(plt f i == plt g i)
theorem c_mvL {Y : YS} {o : OS} {f g : Nat → Nat} {N t m m' i1 : Nat} (h : RY (Y i1) f N t) (k : Ok f N m) (h' : RY (Y 1) g N t) (k' : Ok g N m') (e : g 0 = f 0) : fX4_movedIn_L9 i1 Y o FU 0 0 = some (ms (mvd f g) (f 0), Y, o) := by
  have h12 := k.2.1
  refine lpB (L := fun k a i => fX4_movedIn_L9 i1 Y o k a i) (n := f 0) (P := mvd f g) (fin := fun a => some (a, Y, o)) (fun j a => ?_) (fun j i a hi => ?_) (f 0) 0 FU (by omega) (FU_gt (by omega))
  · show fX4_movedIn_L9 i1 Y o (j + 1) a (nI (f 0)) = _
    rw [fX4_movedIn_L9, h.2.2.1, ifT ((nI_leI (by omega) (by omega)).mpr (Nat.le_refl _))]
  · show fX4_movedIn_L9 i1 Y o (j + 1) a (nI i) = _
    rw [fX4_movedIn_L9, h.2.2.1, ifF (by rw [nI_leI (by omega) (by omega)]; omega), y_plot h k hi, bs, y_plot h' k' (by omega), bs, show nI i + 1 = nI (i + 1) from nI_add i 1]
    unfold mvd
    by_cases c : plt f i = plt g i
    · rw [ifT ((rI_inj plt_b plt_b).mpr c), beq_iff_eq.mpr c]; rfl
    · rw [ifF (fun e => c ((rI_inj plt_b plt_b).mp e)), beq_false_of_ne c]; rfl
theorem m_mvL {S : OS} {f g : Nat → Nat} {N m m' : Nat} (h : RS S 9 f) (k : Ok f N m) (h' : RS S 8 g) (k' : Ok g N m') (e : g 0 = f 0) : fX5_movedBits S = some (ms (mvd f g) (f 0)) := by
  have h12 := k.2.1
  rw [fX5_movedBits]
  refine lpB (L := fun k a i => fX5_movedBits_L4 S k a i) (n := f 0) (P := mvd f g) (fin := fun a => some a) (fun j a => ?_) (fun j i a hi => ?_) (f 0) 0 FU (by omega) (FU_gt (by omega))
  · show fX5_movedBits_L4 S (j + 1) a (nI (f 0)) = _
    rw [fX5_movedBits_L4, z0, h' 0 (by omega), e, ifT ((nI_leI (by omega) (by omega)).mpr (Nat.le_refl _))]
  · show fX5_movedBits_L4 S (j + 1) a (nI i) = _
    rw [fX5_movedBits_L4, z0, h' 0 (by omega), e, ifF (by rw [nI_leI (by omega) (by omega)]; omega), m_plotOf h' rfl k' (by omega), bs, m_plotOf h rfl k hi, bs, show nI i + 1 = nI (i + 1) from nI_add i 1, or_0]
    unfold mvd
    by_cases c : plt f i = plt g i
    · rw [ifT ((rI_inj plt_b plt_b).mpr c.symm), beq_iff_eq.mpr c]; rfl
    · rw [ifF (fun e => c ((rI_inj plt_b plt_b).mp e).symm), beq_false_of_ne c]; rfl
theorem op_moved {Y : YS} {o S : OS} (h : Inv Y o S) : OpW (fX4_moved Y o) (fX5_moved S) := by
  obtain ⟨f, N, t, P, K, Z, X, hC, hM, hG⟩ := id h
  have c1 := hC.1
  have m1 := hM.1
  have g1 := hG.1
  obtain ⟨Y', e1, a1, r1⟩ := c_lbr (o := o) c1 g1 (by decide)
  obtain ⟨S', e2, s8, s9, so⟩ := m_byRight m1 hM.2.1 g1.b
  have ka := okb_an g1.b
  refine ⟨ms (mvd f (an f N)) (f 0), Y', o, S', ?_, ?_, Inv.sc hC hM hG (fun i h1 h2 => a1 i h1) (fun _ _ => rfl) rfl (fun c h1 h2 => so c (by omega) (by omega)) (fun k _ => by rw [so 0 (by decide) (by decide)])⟩
  · rw [fX4_moved, fX4_movedIn, e1, bs, c_mvL (by rw [a1 0 (by decide)]; exact c1) g1 r1 ka.1 ka.2]; rfl
  · rw [fX5_moved, e2, bs, m_mvL s9 g1 s8 ka.1 ka.2]; rfl
/-! grudge -/
def gsm (f g : Nat → Nat) (i : Nat) : Nat := match plt f i, plt g i with
  | some p, some q => if q < p then p - q else 0
  | _, _ => 0
theorem gsm_le (f g : Nat → Nat) (i : Nat) : gsm f g i ≤ 8 := by
  unfold gsm
  cases e1 : plt f i with
  | none => exact Nat.zero_le _
  | some p =>
    cases e2 : plt g i with
    | none => exact Nat.zero_le _
    | some q =>
      have := (plt_lt e1).1
      show (if q < p then p - q else 0) ≤ 8
      split <;> omega
def sm (g : Nat → Nat) : Nat → Nat
  | 0 => 0
  | n + 1 => sm g n + g n
theorem sm_le {g : Nat → Nat} {c : Nat} (h : ∀ i, g i ≤ c) : ∀ n, sm g n ≤ c * n
  | 0 => Nat.le_refl _
  | n + 1 => by rw [sm, Nat.mul_succ]; have := sm_le h n; have := h n; omega
/-- a loop that gathers a sum -/
theorem lpN {β : Type} {L : Nat → Int32 → Int32 → Option β} {n : Nat} {g : Nat → Nat} {fin : Int32 → Option β} (hx : ∀ k a, L (k + 1) a (nI n) = fin a) (hs : ∀ k i a, i < n → L (k + 1) (nI a) (nI i) = L k (nI (a + g i)) (nI (i + 1))) : ∀ (j i k : Nat), i + j = n → j < k → L k (nI (sm g i)) (nI i) = fin (nI (sm g n))
  | 0, i, k, hi, hk => by
    have e : i = n := by omega
    subst e
    cases k with
    | zero => omega
    | succ k => exact hx k _
  | j + 1, i, k, hi, hk => by
    cases k with
    | zero => omega
    | succ k =>
      rw [hs k i _ (by omega)]
      exact lpN hx hs j (i + 1) k (by omega) (by omega)
theorem op_grudge {Y : YS} {o S : OS} (h : Inv Y o S) : OpW (fX4_grudge Y o) (fX5_grudge S) := by
  obtain ⟨f, N, t, P, K, Z, X, hC, hM, hG⟩ := id h
  have c1 := hC.1
  have m1 := hM.1
  have g1 := hG.1
  have h12 := g1.2.1
  obtain ⟨Y', e1, a1, r1⟩ := c_lbr (o := o) c1 g1 (by decide)
  obtain ⟨S', e2, s8, s9, so⟩ := m_byRight m1 hM.2.1 g1.b
  have ka := okb_an g1.b
  have r0 : RY (Y' 0) f N t := by rw [a1 0 (by decide)]; exact c1
  have s1 : RS S' 1 f := fun j hj => by rw [so 1 (by decide) (by decide)]; exact m1 j hj
  refine ⟨nI (sm (gsm f (an f N)) (f 0)), Y', o, S', ?_, ?_, Inv.sc hC hM hG (fun i h1 h2 => a1 i h1) (fun _ _ => rfl) rfl (fun c h1 h2 => so c (by omega) (by omega)) (fun k _ => by rw [so 0 (by decide) (by decide)])⟩
  · rw [fX4_grudge, e1, bs]
    refine lpN (L := fun k a i => fX4_grudge_L12 Y' o k a i) (n := f 0) (g := gsm f (an f N)) (fin := fun a => some (a, Y', o)) (fun j a => ?_) (fun j i a hi => ?_) (f 0) 0 FU (by omega) (FU_gt (by omega))
    · show fX4_grudge_L12 Y' o (j + 1) a (nI (f 0)) = _
      rw [fX4_grudge_L12, r0.2.2.1, ifT ((nI_leI (by omega) (by omega)).mpr (Nat.le_refl _))]
    · show fX4_grudge_L12 Y' o (j + 1) (nI a) (nI i) = _
      rw [fX4_grudge_L12, r0.2.2.1, ifF (by rw [nI_leI (by omega) (by omega)]; omega), y_plot r0 g1 hi, bs, y_plot r1 ka.1 (by rw [ka.2]; exact hi), bs, show nI i + 1 = nI (i + 1) from nI_add i 1]
      unfold gsm
      cases q1 : plt f i with
      | none => rw [ifT (show rI none = -4 from rfl)]; rfl
      | some p =>
        have hp := (plt_lt q1).1
        rw [ifF (show ¬ rI (some p) = -4 from m4T (by omega))]
        cases q2 : plt (an f N) i with
        | none => rw [ifT (show rI none = -4 from rfl)]; rfl
        | some q =>
          have hq := (plt_lt q2).1
          rw [ifF (show ¬ rI (some q) = -4 from m4T (by omega))]
          show (if nI p ≤ nI q then _ else fX4_grudge_L12 Y' o j (nI a + (nI p - nI q)) _) = fX4_grudge_L12 Y' o j (nI (a + if q < p then p - q else 0)) _
          by_cases c : p ≤ q
          · rw [ifT ((nI_leI (by omega) (by omega)).mpr c), if_neg (by omega)]; rfl
          · rw [ifF (fun e => c ((nI_leI (by omega) (by omega)).mp e)), if_pos (by omega), pk_sub (by omega), nI_add]
  · rw [fX5_grudge, e2, bs]
    refine lpN (L := fun k a i => fX5_grudge_L12 S' k a i) (n := f 0) (g := gsm f (an f N)) (fin := fun a => some (a, S')) (fun j a => ?_) (fun j i a hi => ?_) (f 0) 0 FU (by omega) (FU_gt (by omega))
    · show fX5_grudge_L12 S' (j + 1) a (nI (f 0)) = _
      rw [fX5_grudge_L12, z0, s1 0 (by omega), ifT ((nI_leI (by omega) (by omega)).mpr (Nat.le_refl _))]
    · show fX5_grudge_L12 S' (j + 1) (nI a) (nI i) = _
      rw [fX5_grudge_L12, z0, s1 0 (by omega), ifF (by rw [nI_leI (by omega) (by omega)]; omega), m_plotOf s9 rfl g1 hi, bs, m_plotOf s8 rfl ka.1 (by rw [ka.2]; exact hi), bs, show nI i + 1 = nI (i + 1) from nI_add i 1, show nI a + 0 = nI a from nI_add a 0]
      unfold gsm
      cases q1 : plt f i with
      | none => rw [ifT (show rI none < 0 by decide)]; rfl
      | some p =>
        have hp := (plt_lt q1).1
        rw [ifF (show ¬ rI (some p) < 0 from nI_pos (by omega))]
        cases q2 : plt (an f N) i with
        | none => rw [ifT (show rI none < 0 by decide)]; rfl
        | some q =>
          have hq := (plt_lt q2).1
          rw [ifF (show ¬ rI (some q) < 0 from nI_pos (by omega))]
          show (if nI p ≤ nI q then _ else fX5_grudge_L12 S' j (nI a + (nI p - nI q)) _) = fX5_grudge_L12 S' j (nI (a + if q < p then p - q else 0)) _
          by_cases c : p ≤ q
          · rw [ifT ((nI_leI (by omega) (by omega)).mpr c), if_neg (by omega)]; rfl
          · rw [ifF (fun e => c ((nI_leI (by omega) (by omega)).mp e)), if_pos (by omega), pk_sub (by omega), nI_add]
/-! owed -/
def isV (f : Nat → Nat) (v i : Nat) : Bool := vl f i == v
def lies (f : Nat → Nat) (i : Nat) : Bool := (plt f i).isSome
theorem y_allV {y : OS} {f : Nat → Nat} {N t m v : Nat} (h : RY y f N t) (k : Ok f N m) (hv : v ≤ 1) : fX3_allOfVillage y (nI v) = some (ms (isV f v) (f 0)) := by
  have h12 := k.2.1
  rw [fX3_allOfVillage]
  refine lpB (L := fun k a i => fX3_allOfVillage_L4 y (nI v) k a i) (n := f 0) (P := isV f v) (fin := fun a => some a) (fun j a => ?_) (fun j i a hi => ?_) (f 0) 0 FU (by omega) (FU_gt (by omega))
  · show fX3_allOfVillage_L4 y (nI v) (j + 1) a (nI (f 0)) = _
    rw [fX3_allOfVillage_L4, h.2.2.1, ifT ((nI_leI (by omega) (by omega)).mpr (Nat.le_refl _))]
  · show fX3_allOfVillage_L4 y (nI v) (j + 1) a (nI i) = _
    have hv2 := (k.2.2.2.1 i hi).1
    rw [fX3_allOfVillage_L4, h.2.2.1, ifF (by rw [nI_leI (by omega) (by omega)]; omega), y_vil h k hi, bs, show nI i + 1 = nI (i + 1) from nI_add i 1]
    unfold isV
    by_cases c : vl f i = v
    · rw [ifT (by rw [c]), beq_iff_eq.mpr c]; rfl
    · rw [ifF (fun e => c ((nI_eq (by omega) (by omega)).mp e)), beq_false_of_ne c]; rfl
theorem y_allL {y : OS} {f : Nat → Nat} {N t m : Nat} (h : RY y f N t) (k : Ok f N m) : fX3_allWhoLie y = some (ms (lies f) (f 0)) := by
  have h12 := k.2.1
  rw [fX3_allWhoLie]
  refine lpB (L := fun k a i => fX3_allWhoLie_L4 y k a i) (n := f 0) (P := lies f) (fin := fun a => some a) (fun j a => ?_) (fun j i a hi => ?_) (f 0) 0 FU (by omega) (FU_gt (by omega))
  · show fX3_allWhoLie_L4 y (j + 1) a (nI (f 0)) = _
    rw [fX3_allWhoLie_L4, h.2.2.1, ifT ((nI_leI (by omega) (by omega)).mpr (Nat.le_refl _))]
  · show fX3_allWhoLie_L4 y (j + 1) a (nI i) = _
    rw [fX3_allWhoLie_L4, h.2.2.1, ifF (by rw [nI_leI (by omega) (by omega)]; omega), y_plot h k hi, bs, show nI i + 1 = nI (i + 1) from nI_add i 1]
    unfold lies
    cases q : plt f i with
    | none => rw [ifT (show rI none = -4 from rfl)]; rfl
    | some p => rw [ifF (show ¬ rI (some p) = -4 from m4T (plt_b p q))]; rfl
def owe (f : Nat → Nat) (v i : Nat) : Bool := isV f v i && !lies f i
theorem y_owed {y : OS} {f : Nat → Nat} {N t m v : Nat} (h : RY y f N t) (k : Ok f N m) (hv : v ≤ 1) : fX3_owedOf y (nI v) = some (nI (cnt (owe f v) (f 0))) := by
  have h12 := k.2.1
  rw [fX3_owedOf, y_allV h k hv, bs, y_allL h k, bs, ms_diff (by omega), bc_ms h12]; rfl
theorem sm_cnt (P : Nat → Bool) : ∀ n, sm (fun i => if P i then 1 else 0) n = cnt P n
  | 0 => rfl
  | n + 1 => by rw [sm, cnt, sm_cnt P n]
theorem m_owedOn {S : OS} {c : Nat} {f : Nat → Nat} {N m v : Nat} (h : RS S c f) (hc : lenM c = 66) (k : Ok f N m) (hv : v ≤ 1) : fX5_owedOn S c (nI v) = some (nI (cnt (owe f v) (f 0))) := by
  have h12 := k.2.1
  rw [fX5_owedOn, ← sm_cnt]
  have g0 : ∀ {x : Option Int32}, gB (ib 0 (lenM c)) x = x := fun {x} => by rw [hc]; exact gib (k := 0) (by omega) (by decide)
  refine lpN (L := fun k a i => fX5_owedOn_L5 c S (nI v) k a i) (n := f 0) (g := fun i => if owe f v i then 1 else 0) (fin := fun a => some a) (fun j a => ?_) (fun j i a hi => ?_) (f 0) 0 FU (by omega) (FU_gt (by omega))
  · show fX5_owedOn_L5 c S (nI v) (j + 1) a (nI (f 0)) = _
    rw [fX5_owedOn_L5, g0, z0, h 0 (by omega), ifT ((nI_leI (by omega) (by omega)).mpr (Nat.le_refl _))]
  · show fX5_owedOn_L5 c S (nI v) (j + 1) (nI a) (nI i) = _
    have hv2 := (k.2.2.2.1 i hi).1
    rw [fX5_owedOn_L5, g0, z0, h 0 (by omega), ifF (by rw [nI_leI (by omega) (by omega)]; omega), ix1, hc, gib (by omega) (by decide), nI_clamp (by omega), h _ (by omega), show f (1 + 3 * i) = vl f i from rfl, m_plotOf h hc k hi, bs, show nI i + 1 = nI (i + 1) from nI_add i 1, show nI a + 0 = nI a from nI_add a 0, show nI a + 1 = nI (a + 1) from nI_add a 1]
    unfold owe isV lies
    by_cases c1 : vl f i = v
    · rw [ifT (by rw [c1]), beq_iff_eq.mpr c1]
      cases q : plt f i with
      | none => rw [ifF (show ¬ 0 ≤ rI none by decide)]; rfl
      | some p => rw [ifT (show 0 ≤ rI (some p) from nI_pos' (plt_b p q))]; rfl
    · rw [ifF (fun e => c1 ((nI_eq (by omega) (by omega)).mp e)), beq_false_of_ne c1]; rfl
theorem op_owed {Y : YS} {o S : OS} (h : Inv Y o S) (x : Int32) : OpR (fX4_owed Y o x) (fX5_owed S x) := by
  obtain ⟨f, N, t, P, K, Z, X, ⟨c1, -⟩, ⟨m1, m2, -⟩, ⟨g1, -⟩⟩ := id h
  rw [fX4_owed, fX5_owed, c_isSide, m_in, bs, bs, show (0 : Int32).toInt = 0 from rfl, show (1 : Int32).toInt = 1 from rfl]
  cases hx : iL x 0 1 with
  | false => exact ⟨_, rfl, rfl⟩
  | true =>
    obtain ⟨v, -, hv, rfl⟩ := iL_b (lo := 0) (hi := 1) (by decide) hx
    rw [ibt, ibt, y_owed c1 g1 hv, m_owedOn m1 rfl g1 hv]
    exact ⟨_, rfl, rfl⟩
/-! balance -/
def fgl (f : Nat → Nat) (v i : Nat) : Nat := if isV f v i && lies f i then fg f i else 0
theorem y_fgl {y : OS} {f : Nat → Nat} {N t m v : Nat} (h : RY y f N t) (k : Ok f N m) (hv : v ≤ 1) : fX3_forgivenOfAllWhoLie y (nI v) = some (nI (sm (fgl f v) (f 0))) := by
  have h12 := k.2.1
  rw [fX3_forgivenOfAllWhoLie]
  refine lpN (L := fun k a i => fX3_forgivenOfAllWhoLie_L4 y (nI v) k a i) (n := f 0) (g := fgl f v) (fin := fun a => some a) (fun j a => ?_) (fun j i a hi => ?_) (f 0) 0 FU (by omega) (FU_gt (by omega))
  · show fX3_forgivenOfAllWhoLie_L4 y (nI v) (j + 1) a (nI (f 0)) = _
    rw [fX3_forgivenOfAllWhoLie_L4, h.2.2.1, ifT ((nI_leI (by omega) (by omega)).mpr (Nat.le_refl _))]
  · show fX3_forgivenOfAllWhoLie_L4 y (nI v) (j + 1) (nI a) (nI i) = _
    have hv2 := (k.2.2.2.1 i hi).1
    rw [fX3_forgivenOfAllWhoLie_L4, h.2.2.1, ifF (by rw [nI_leI (by omega) (by omega)]; omega), y_vil h k hi, bs, y_plot h k hi, bs, y_forg h k hi, bs, show nI i + 1 = nI (i + 1) from nI_add i 1, nI_add]
    unfold fgl isV lies
    by_cases c1 : vl f i = v
    · rw [ifT (by rw [c1]), beq_iff_eq.mpr c1]
      cases q : plt f i with
      | none => rw [ifT (show rI none = -4 from rfl)]; rfl
      | some p => rw [ifF (show ¬ rI (some p) = -4 from m4T (plt_b p q))]; rfl
    · rw [ifF (fun e => c1 ((nI_eq (by omega) (by omega)).mp e)), beq_false_of_ne c1]; rfl
theorem sm_mono (g : Nat → Nat) (i : Nat) : ∀ d, sm g i ≤ sm g (i + d)
  | 0 => Nat.le_refl _
  | d + 1 => by have := sm_mono g i d; have e : sm g (i + (d + 1)) = sm g (i + d) + g (i + d) := rfl; omega
theorem fgl_le {f : Nat → Nat} {N m v i : Nat} (k : Ok f N m) (hi : i < f 0) : fgl f v i ≤ 9 := by
  unfold fgl
  have := (k.2.2.2.1 i hi).2.2
  split <;> omega
theorem sm_le' {g : Nat → Nat} {c n : Nat} (h : ∀ i, i < n → g i ≤ c) : ∀ j, j ≤ n → sm g j ≤ c * j
  | 0, _ => Nat.le_refl _
  | j + 1, hj => by rw [sm, Nat.mul_succ]; have := sm_le' h j (by omega); have := h j (by omega); omega
theorem m_balL {S : OS} {f : Nat → Nat} {N m : Nat} (h : RS S 1 f) (k : Ok f N m) : ∀ (j i u : Nat), i + j = f 0 → j < u → fX5_balance_L6 S u (nI (200 + sm (fgl f 0) i - sm (fgl f 1) i)) (nI i) = some (nI (200 + sm (fgl f 0) (f 0) - sm (fgl f 1) (f 0)))
  | 0, i, u, hi, hu => by
    have h12 := k.2.1
    have e : i = f 0 := by omega
    subst e
    cases u with
    | zero => omega
    | succ u => rw [fX5_balance_L6, z0, h 0 (by omega), ifT ((nI_leI (by omega) (by omega)).mpr (Nat.le_refl _))]
  | j + 1, i, u, hi, hu => by
    have h12 := k.2.1
    cases u with
    | zero => omega
    | succ u =>
      have hi2 : i < f 0 := by omega
      have hb0 := sm_le' (g := fgl f 0) (c := 9) (n := f 0) (fun i hi => fgl_le k hi) i (by omega)
      have hb1 := sm_le' (g := fgl f 1) (c := 9) (n := f 0) (fun i hi => fgl_le k hi) i (by omega)
      obtain ⟨hv, -, hF⟩ := k.2.2.2.1 i hi2
      have ih := m_balL h k j (i + 1) u (by omega) (by omega)
      have s0 : sm (fgl f 0) (i + 1) = sm (fgl f 0) i + fgl f 0 i := rfl
      have s1 : sm (fgl f 1) (i + 1) = sm (fgl f 1) i + fgl f 1 i := rfl
      rw [fX5_balance_L6, z0, h 0 (by omega), ifF (by rw [nI_leI (by omega) (by omega)]; omega), m_plotOf h rfl k hi2, bs, ix3, ix1, gib (by omega) (by decide), gib (by omega) (by decide), nI_clamp (by omega), nI_clamp (by omega), h _ (by omega), h _ (by omega), gib (by omega) (by decide), show f (1 + 3 * i) = vl f i from rfl, show f (3 + 3 * i) = fg f i from rfl, show nI i + 1 = nI (i + 1) from nI_add i 1]
      unfold fgl isV lies at s0 s1
      have e0 : ∀ A : Nat, nI A + 0 = nI A := fun A => nI_add A 0
      have e00 : (-0 : Int32) = 0 := by decide
      cases q : plt f i with
      | none =>
        rw [q] at s0 s1
        simp only [Option.isSome_none, Bool.and_false, Bool.false_eq_true, if_false, Nat.add_zero] at s0 s1
        rw [ifF (show ¬ 0 ≤ rI none by decide), e00, e0]
        have e2 : 200 + sm (fgl f 0) i - sm (fgl f 1) i = 200 + sm (fgl f 0) (i + 1) - sm (fgl f 1) (i + 1) := by
          unfold fgl isV lies; rw [s0, s1]
        rw [e2, ih]
        split <;> rfl
      | some p =>
        rw [q] at s0 s1
        rw [ifT (show 0 ≤ rI (some p) from nI_pos' (plt_b p q))]
        by_cases c0 : vl f i = 0
        · rw [c0] at s0 s1
          simp only [Option.isSome_some, Bool.and_true, beq_self_eq_true, if_true] at s0 s1
          rw [ifT (by rw [c0]; rfl), nI_add, ← ih]
          congr 2
          unfold fgl isV lies at hb0 hb1 ⊢
          rw [s0, s1]
          show _ = _ - (_ + 0)
          omega
        · have c1 : vl f i = 1 := by omega
          rw [c1] at s0 s1
          simp only [Option.isSome_some, Bool.and_true, beq_self_eq_true, if_true] at s0 s1
          rw [ifF (by rw [c1]; decide), ← ih]
          rw [show ∀ A B : Int32, A + -B = A - B from fun A B => (Int32.sub_eq_add_neg A B).symm, pk_sub (by omega)]
          congr 2
          unfold fgl isV lies at hb0 hb1 ⊢
          rw [s0, s1]
          show _ = 200 + (_ + 0) - _
          omega
theorem op_balance {Y : YS} {o S : OS} (h : Inv Y o S) : OpR (fX4_balance Y o) (fX5_balance S) := by
  obtain ⟨f, N, t, P, K, Z, X, ⟨c1, -⟩, ⟨m1, m2, -⟩, ⟨g1, -⟩⟩ := id h
  have h12 := g1.2.1
  have hb0 := sm_le' (g := fgl f 0) (c := 9) (n := f 0) (fun i hi => fgl_le g1 hi) (f 0) (Nat.le_refl _)
  have hb1 := sm_le' (g := fgl f 1) (c := 9) (n := f 0) (fun i hi => fgl_le g1 hi) (f 0) (Nat.le_refl _)
  have k0 := y_fgl (v := 0) c1 g1 (by omega)
  have k1 := y_fgl (v := 1) c1 g1 (by omega)
  have km := m_balL m1 g1 (f 0) 0 FU (by omega) (FU_gt (by omega))
  refine ⟨nI (200 + sm (fgl f 0) (f 0) - sm (fgl f 1) (f 0)), ?_, ?_⟩
  · rw [fX4_balance, show fX3_forgivenOfAllWhoLie (Y 0) 0 = _ from k0, bs, show fX3_forgivenOfAllWhoLie (Y 0) 1 = _ from k1, bs, show (200 : Int32) + nI (sm (fgl f 0) (f 0)) = nI (200 + sm (fgl f 0) (f 0)) from nI_add 200 _, pk_sub (by omega)]
  · rw [fX5_balance]; exact km
