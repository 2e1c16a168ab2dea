/-! enough, tour, leave -/
theorem D63 {f : Nat → Nat} (h6 : f 53 ≤ 6) : D1 f (px f 63) = D1 f (gr f) ∧ D2 f (px f 63) = D2 f (gr f) ∧ cnt (px f 63) (f 53) = cnt (gr f) (f 53) := by
  have h : ∀ v, v < f 53 → px f 63 v = gr f v := fun v hv => px63 (by omega)
  exact ⟨(D_cong h).1, (D_cong h).2, cnt_cong h⟩
theorem Inv.br {Y : YS} {o o' S S' : OS} {f : Nat → Nat} {N t : Nat} {P K : Tp} {Z : Tz} {X : Tx} (hC : CI Y o f N t P K Z X) (hM : MI S f N t P K Z X) (hG : GI f N t P K Z X) (ho : ∀ c, (c < 6 ∨ 12 < c) → o' c = o c) (hS : ∀ c, c ≠ 0 → c ≠ 10 → c ≠ 11 → c ≠ 12 → S' c = S c) (h0 : ∀ q, q ≠ 20 → q ≠ 21 → q ≠ 22 → q ≠ 23 → S' 0 q = S 0 q) : Inv Y o' S' :=
  Inv.sc hC hM hG (fun _ _ _ => rfl) (fun c hc => ho c (by omega)) (by rw [ho 3 (by omega)]) (fun c h1 h2 => hS c (by omega) (by omega) (by omega) (by omega)) (fun k hk => h0 k (by omega) (by omega) (by omega) (by omega))
theorem op_enough {Y : YS} {o S : OS} (h : Inv Y o S) : OpW (fX4_enough Y o) (fX5_enough S) := by
  obtain ⟨f, N, t, P, K, Z, X, hC, hM, hG⟩ := id h
  have c1 := hC.1
  have g1 := hG.1
  have h6 := g1.2.2.1
  obtain ⟨o1, e1, b1, fr1⟩ := c_gather (o := o) c1 g1
  obtain ⟨o2, e2, t2, b2, fr2⟩ := c_all (Y := Y) g1 b1
  obtain ⟨v, d1, vb, e3⟩ := c_soon (Y := Y) (u := gr f) h6 t2 (fun _ _ h => h)
  obtain ⟨S', v', d2, e4, -, -, f3, f4⟩ := m_soon (S := S) 63 g1 hM.1
  rw [(D63 h6).1, d1] at d2
  cases d2
  have r0 : Inv Y o2 S' := Inv.br hC hM hG (fun c hc => by rw [fr2 c hc, fr1 c (by omega)]) f3 f4
  have s1 : S' 0 1 = nI t := by rw [f4 1 (by decide) (by decide) (by decide) (by decide)]; exact hM.2.2.1
  rw [fX4_enough, e1, bs]
  dsimp only
  rw [e2, bs]
  dsimp only
  rw [b2.1, ms_gq h6, show fX0_soonestOf Y o2 (ms (gq f) 6) = _ from e3, bs, fX5_enough, e4, bs]
  dsimp only
  by_cases c : nI t < nI v
  · rw [ifT (show Y 0 0 1 < nI v by rw [c1.2.1]; exact c), ifT (show S' 0 1 < nI v by rw [s1]; exact c)]
    exact ⟨_, _, _, _, rfl, rfl, r0⟩
  · rw [ifF (show ¬ Y 0 0 1 < nI v by rw [c1.2.1]; exact c), ifF (show ¬ S' 0 1 < nI v by rw [s1]; exact c)]
    exact ⟨_, _, _, _, rfl, rfl, r0⟩
theorem cnt_sub {P Q : Nat → Bool} : ∀ (n : Nat), (∀ i, i < n → P i = true → Q i = true) → cnt P n ≤ cnt Q n
  | 0, _ => Nat.le_refl _
  | n + 1, h => by
    have := cnt_sub n (fun i hi => h i (by omega))
    cases a : P n with
    | true => rw [cnt_t a, cnt_t (h n (by omega) a)]; omega
    | false => rw [cnt_f a]; have := cnt_mono Q n 1; omega
theorem cnt_z {P : Nat → Bool} {n : Nat} : cnt P n = 0 ↔ ∀ i, i < n → P i = false := by
  constructor
  · intro h i hi
    cases e : P i with
    | false => rfl
    | true => have := cnt_lt e hi; omega
  · intro h
    have := cnt_sub (P := P) (Q := fun _ => false) n (fun i hi e => by rw [h i hi] at e; cases e)
    have z : ∀ n, cnt (fun _ => false) n = 0 := fun n => by
      rw [← sm_cnt]; exact sm_zero (fun i _ => rfl)
    rw [z n] at this; omega
theorem ms_0 {P : Nat → Bool} {n : Nat} (hn : n ≤ 32) : ms P n = 0 ↔ cnt P n = 0 := by
  rw [cnt_z]
  constructor
  · intro h i hi
    have := b_ms (P := P) hn (i := i) (by omega)
    rw [h, b_0, decide_eq_true hi, Bool.true_and] at this
    exact this.symm
  · intro h
    refine b_ext (fun i hi => ?_)
    rw [b_ms hn hi, b_0]
    by_cases c : i < n
    · rw [h i c, Bool.and_false]
    · rw [decide_eq_false c]; rfl
theorem op_tour {Y : YS} {o S : OS} (h : Inv Y o S) (x : Int32) : OpW (fX4_tour Y o x) (fX5_tour S x) := by
  obtain ⟨f, N, t, P, K, Z, X, hC, hM, hG⟩ := id h
  have c1 := hC.1
  have g1 := hG.1
  have h6 := g1.2.2.1
  have hcl := cnt_le (gr f) (f 53)
  rw [fX4_tour, fX5_tour]
  by_cases c0 : -1 ≤ x
  · rw [ifT c0, ifT c0]
    obtain ⟨o1, e1, b1, fr1⟩ := c_gather (o := o) c1 g1
    obtain ⟨S', v', d2, e4, s20, s12, f3, f4⟩ := m_soon (S := S) 63 g1 hM.1
    rw [(D63 h6).2.2] at s20 s12
    rw [(D63 h6).2.1] at s12
    rw [(D63 h6).1] at d2
    rw [e1, bs, e4, bs]
    dsimp only
    rcases Nat.eq_zero_or_pos (cnt (gr f) (f 53)) with hz | hp
    · rw [ifT (show o1 6 0 = 0 by rw [b1.1]; exact (ms_0 (by omega)).mpr hz), ifT (show S' 0 20 = 0 by rw [s20, hz]; rfl)]
      exact ⟨_, _, _, _, rfl, rfl, Inv.br hC hM hG (fun c hc => fr1 c (by omega)) f3 f4⟩
    · rw [ifF (show ¬ o1 6 0 = 0 by rw [b1.1]; exact fun z => by have := (ms_0 (by omega)).mp z; omega), ifF (show ¬ S' 0 20 = 0 by rw [s20]; exact fun z => by have := (nI_eq (b := 0) (by omega) (by omega)).mp z; omega)]
      obtain ⟨o2, e2, t2, b2, fr2⟩ := c_all (Y := Y) g1 b1
      have r0 : Inv Y o2 S' := Inv.br hC hM hG (fun c hc => by rw [fr2 c hc, fr1 c (by omega)]) f3 f4
      rw [e2, bs]
      dsimp only
      by_cases c2 : x = -1
      · subst c2
        obtain ⟨v, d1, vb, e3⟩ := c_soon (Y := Y) (u := gr f) h6 t2 (fun _ _ h => h)
        rw [d1] at d2
        cases d2
        rw [ifT (show (-1 : Int32) = -1 from rfl), b2.1, ms_gq h6, show fX0_soonestOf Y o2 (ms (gq f) 6) = _ from e3, bs, ifT (show (-1 : Int32) < S' 0 20 by rw [s20]; exact Int32.lt_iff_toInt_lt.mpr (by rw [nI_toInt (by omega)]; show (-1 : Int) < _; omega)), ifF (show ¬ (0 : Int32) ≤ -1 by decide)]
        exact ⟨_, _, _, _, rfl, rfl, r0⟩
      · rw [ifF c2, fX0_inBestOrder]
        have x0 : ¬ x < 0 := by
          intro z
          apply c2
          apply Int32.toInt_inj.mp
          have a1 := Int32.le_iff_toInt_le.mp c0
          have a2 := Int32.lt_iff_toInt_lt.mp z
          have e1 : (-1 : Int32).toInt = -1 := rfl
          have e0 : (0 : Int32).toInt = 0 := rfl
          omega
        have x0' : 0 ≤ x := Int32.not_lt.mp x0
        rw [ifF x0, b2.1, bc_ms (by omega), bs]
        by_cases c3 : nI (cnt (gr f) (f 53)) ≤ x
        · rw [ifT c3, ifF (show ¬ x < S' 0 20 by rw [s20]; exact Int32.not_lt.mpr c3)]
          exact ⟨_, _, _, _, rfl, rfl, r0⟩
        · have c4 : x < nI (cnt (gr f) (f 53)) := Int32.not_le.mp c3
          have a1 := Int32.lt_iff_toInt_lt.mp c4
          rw [nI_toInt (by omega)] at a1
          have a2 := Int32.le_iff_toInt_le.mp x0'
          have e0 : (0 : Int32).toInt = 0 := rfl
          obtain ⟨j, hj, rfl⟩ := iL_j (x := x) (n := cnt (gr f) (f 53)) (by omega) (decide_eq_true (by omega))
          have hne : (fin f).1 (kn (gq f)) ≠ none := by
            have := fin_1 (u := gr f) h6 (fun _ _ h => h)
            rw [show (fin f).1 (kn (gq f)) = D1 f (gr f) from this]; exact D1_some f _
          have e12 := t2.2 hne j hj
          have eD : (D2 f (gr f)).2 j = (fin f).2 j := by
            rw [← fin_2 h6]
            show (if j < cnt (gr f) (f 53) then (fin f).2 j else 0) = _
            rw [if_pos hj]
          rw [ifF c3, ifF (show ¬ 6 ≤ nI j from fun e => absurd ((nI_leI (a := 6) (by decide) (by omega)).mp e) (by omega)), gib (by omega) (by decide), nI_clamp (by omega), e12, bs, ifT (show nI j < S' 0 20 by rw [s20]; exact c4), ifT x0', gib (by omega) (by decide), s12 hp j hj, eD]
          exact ⟨_, _, _, _, rfl, rfl, r0⟩
  · rw [ifF c0, ifF c0]
    exact ⟨_, _, _, _, rfl, rfl, h⟩
