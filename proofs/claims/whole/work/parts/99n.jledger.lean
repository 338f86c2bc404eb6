/-! ===== text: a line of both, ledgers ===== -/
section TNL
variable {A : Nat → Int} {R : RST} {G H : Mem}
theorem m_ledNo (hA : TA A) (h : MS A R H) (hI : IV A R) (hn : ¬ (tKd A R.1 = 1 ∧ 11 ≤ tW A R.1 ∧ tW A R.1 ≤ 16)) : ∃ H', fX10_ledgerLine 173 H = some H' ∧ MS A (aEnds R) H' ∧ kMr H H' := by
  obtain ⟨H1, r1, r2, r3⟩ := m_takes_no hA h (lo := 11) (hi := 16) (by decide) (fun z => hn z.2)
  refine ⟨H1, ?_, r2, r3⟩
  unfold fX10_ledgerLine
  rw [r1, Option.bind_some]
  dsimp only
  rw [if_neg (by decide)]
theorem m_ledTop (hA : TA A) (h : MS A R H) (hI : IV A R) (w : R.2.1 = 0) (k : tKd A R.1 = 1) (hw : 11 ≤ tW A R.1 ∧ tW A R.1 ≤ 16) {c : Nat} (hc : H 176 0 = (c : Int)) (hc2 : c ≤ 30) : ∃ (m : Int) (kk n : Nat) (H1 : Mem), ((m = 1 ∧ c < 30 ∧ kk = 1 + 6 * c) ∨ (m = 0 ∧ c = 30 ∧ kk = 181)) ∧ fX10_ledgerLine 173 H = fX10_ledgerLine_b71 (n + 1) 173 (tW A R.1) m (kk : Int) 6 H1 ∧ MS A (hdR A m R) H1 ∧ kM6 H H1 ∧ (∀ i, 1 ≤ i → i < 6 → H1 176 (kk + i) = -1) ∧ ∀ j, (j < kk + 1 ∨ kk + 6 ≤ j) → H1 176 j = H 176 j := by
  obtain ⟨H1, r1, r2, r3⟩ := m_takes_ok hA h hI.1 w k (lo := 11) (hi := 16) hw.1 hw.2 (by decide)
  have h4 : H 173 4 = (R.1 : Int) := h.2.1.1
  have hc1 : H1 176 0 = (c : Int) := (r3.at6 0).trans hc
  unfold fX10_ledgerLine fX10_ledgerLine_b35
  rw [r1, Option.bind_some, h4]
  dsimp only
  rw [if_pos (by omega), al176, if_pos (by decide), show (173 + 3 : Nat) = 176 from rfl]
  by_cases y : c < 30
  · rw [if_neg (by rw [hc1]; omega), e11]
    have e1 : hdR A 1 R = aAdv A R := if_neg (by decide)
    have ex : xw (1 + xw (6 * (c : Int))) = ((1 + 6 * c : Nat) : Int) := by rw [xwn (x := 6 * (c : Int)) (by omega) (by omega), xwn (by omega) (by omega)]; omega
    obtain ⟨n, H2, s1, s2, s3⟩ := m_clear (m := 1) (kk := 1 + 6 * c) (H := H1) (x2 := tW A R.1) (by omega)
    refine ⟨1, 1 + 6 * c, n, H2, Or.inl ⟨rfl, y, rfl⟩, ?_, ?_, fun o j a b d => ?_, s2, fun j hj => ?_⟩
    · unfold fX10_ledgerLine_b46
      rw [e10, al176, if_pos (by decide), show (173 + 3 : Nat) = 176 from rfl, hc1, ex, s1]
    · rw [e1]; exact r2.mono (fun j => s3 _ _ (by omega)) (fun j => s3 _ _ (by omega))
    · rw [s3 _ _ (by omega), r3 o j a b]
    · rw [s3 _ _ (by omega), r3.at6]
  · rw [if_pos (by rw [hc1]; omega), e01]
    obtain ⟨H2, t1, t2, t3⟩ := m_hd0 hA r2 hI
    have ex : xw (1 + xw (6 * 30)) = ((181 : Nat) : Int) := by decide +kernel
    obtain ⟨n, H3, s1, s2, s3⟩ := m_clear (m := 0) (kk := 181) (H := H2) (x2 := tW A R.1) (by omega)
    refine ⟨0, 181, n, H3, Or.inr ⟨rfl, by omega, rfl⟩, ?_, ?_, fun o j a b d => ?_, s2, fun j hj => ?_⟩
    · unfold fX10_ledgerLine_b46
      rw [t1, Option.bind_some, e00, ex, s1]
    · exact t2.mono (fun j => s3 _ _ (by omega)) (fun j => s3 _ _ (by omega))
    · rw [s3 _ _ (by omega), t3 o j a b, r3 o j a b]
    · rw [s3 _ _ (by omega), t3.at6, r3.at6]
/-- what a ledger's line leaves in the row -/
def LR (A : Nat → Int) (l : Nat) (R : RST) (d : Nat → Int) : Prop := DO d ∧ (OK (cF A (rgL l) (-1) R) → OK R ∧ d 0 = (l : Int) - 10 ∧ (∀ j, j < (rgL l).length → d (j + 1) = tV A (itn A j R.1)) ∧ ∀ i, (rgL l).length + 1 ≤ i → i < 6 → d i = -1)
theorem six_in {d : Nat → Int} (h0 : -1 ≤ d 0 ∧ d 0 ≤ 48) (h1 : -1 ≤ d 1 ∧ d 1 ≤ 48) (h2 : -1 ≤ d 2 ∧ d 2 ≤ 48) (h3 : -1 ≤ d 3 ∧ d 3 ≤ 48) (h4 : -1 ≤ d 4 ∧ d 4 ≤ 48) (h5 : -1 ≤ d 5 ∧ d 5 ≤ 48) : ∀ i, i < 6 → -1 ≤ d i ∧ d i ≤ 48 := by
  intro i hi
  obtain rfl | rfl | rfl | rfl | rfl | rfl : i = 0 ∨ i = 1 ∨ i = 2 ∨ i = 3 ∨ i = 4 ∨ i = 5 := by omega
  all_goals assumption
theorem n6_in : 0 ≤ (n6 A R).1 ∧ (n6 A R).1 ≤ 6 := aN_in (lo := 0) (hi := 6) (by decide)
theorem n29_in : 0 ≤ (n29 A R).1 ∧ (n29 A R).1 ≤ 29 := aN_in (lo := 0) (hi := 29) (by decide)
theorem lr_own (hA : TA A) (hI : IV A R) {d : Nat → Int} (d0 : d 0 = 0) (d1 : d 1 = (n1 A R).1) (d2 : d 2 = (n6 A (n1 A R).2).1) (d3 : d 3 = (n2 A (n6 A (n1 A R).2).2).1) (d4 : d 4 = (nT A (n6 A (n1 A R).2).2).1) (d5 : d 5 = -1) : LR A 10 R d := by
  have b1 := n1_in (A := A) (R := R)
  have b2 := n6_in (A := A) (R := (n1 A R).2)
  have b3 := nT_in (A := A) (R := (n6 A (n1 A R).2).2)
  rw [← d1] at b1
  rw [← d2] at b2
  rw [← d3, ← d4] at b3
  refine ⟨⟨six_in (by omega) (by omega) (by omega) (by omega) (by omega) (by omega), Or.inl ⟨d0, b1, b2, by omega⟩⟩, fun h => ?_⟩
  rw [l_own hA hI] at h
  obtain ⟨h1, -⟩ := aE_ok h
  obtain ⟨h2, a3, a4⟩ := v_ft h1
  obtain ⟨h3, -, -, a2, c2⟩ := aN_ok h2
  obtain ⟨h4, -, -, a1, c1⟩ := aN_ok h3
  have q1 : (n1 A R).2.1 = nx A R.1 := c1
  have q2 : (n6 A (n1 A R).2).2.1 = nx A (nx A R.1) := c2.trans (congrArg (nx A) c1)
  refine ⟨h4, d0, fun j hj => ?_, fun i i1 i2 => ?_⟩
  · have hj : j < 4 := hj
    obtain rfl | rfl | rfl | rfl : j = 0 ∨ j = 1 ∨ j = 2 ∨ j = 3 := by omega
    · exact d1.trans a1
    · exact d2.trans (a2.trans (congrArg (tV A) q1))
    · exact d3.trans (a3.trans (congrArg (tV A) q2))
    · exact d4.trans (a4.trans (congrArg (tV A) (congrArg (nx A) q2)))
  · have i1 : 5 ≤ i := i1
    obtain rfl : i = 5 := by omega
    exact d5
theorem lr_sell (hA : TA A) (hI : IV A R) {l : Nat} (hl : l = 11 ∨ l = 12) {d : Nat → Int} (d0 : d 0 = (l : Int) - 10) (d1 : d 1 = (n1 A R).1) (d2 : d 2 = (nO A (n1 A R).1 (n1 A R).2).1) (d3 : d 3 = (n6 A (nO A (n1 A R).1 (n1 A R).2).2).1) (d4 : d 4 = (n2 A (n6 A (nO A (n1 A R).1 (n1 A R).2).2).2).1) (d5 : d 5 = (nT A (n6 A (nO A (n1 A R).1 (n1 A R).2).2).2).1) : LR A l R d := by
  have b1 := n1_in (A := A) (R := R)
  have b2 := nO_in (A := A) (R := (n1 A R).2) (than := (n1 A R).1)
  have b3 := n6_in (A := A) (R := (nO A (n1 A R).1 (n1 A R).2).2)
  have b4 := nT_in (A := A) (R := (n6 A (nO A (n1 A R).1 (n1 A R).2).2).2)
  rw [← d1] at b1
  rw [← d2] at b2
  rw [← d3] at b3
  rw [← d4, ← d5] at b4
  have hrg : rgL l = [104, 111, 100, 102, 116] := by rcases hl with rfl | rfl <;> rfl
  refine ⟨⟨six_in (by omega) (by omega) (by omega) (by omega) (by omega) (by omega), Or.inr (Or.inl ⟨by omega, b1, b2, b3, by omega⟩)⟩, fun h => ?_⟩
  rw [l_sell hA hI hrg] at h
  obtain ⟨h1, -⟩ := aE_ok h
  obtain ⟨h2, a4, a5⟩ := v_ft h1
  obtain ⟨h3, -, -, a3, c3⟩ := aN_ok h2
  obtain ⟨h4, -, -, -, a2, c2⟩ := nO_ok h3
  obtain ⟨h5, -, -, a1, c1⟩ := aN_ok h4
  have q1 : (n1 A R).2.1 = nx A R.1 := c1
  have q2 : (nO A (n1 A R).1 (n1 A R).2).2.1 = nx A (nx A R.1) := c2.trans (congrArg (nx A) q1)
  have q3 : (n6 A (nO A (n1 A R).1 (n1 A R).2).2).2.1 = nx A (nx A (nx A R.1)) := c3.trans (congrArg (nx A) q2)
  rw [hrg]
  refine ⟨h5, d0, fun j hj => ?_, fun i i1 i2 => ?_⟩
  · have hj : j < 5 := hj
    obtain rfl | rfl | rfl | rfl | rfl : j = 0 ∨ j = 1 ∨ j = 2 ∨ j = 3 ∨ j = 4 := by omega
    · exact d1.trans a1
    · exact d2.trans (a2.trans (congrArg (tV A) q1))
    · exact d3.trans (a3.trans (congrArg (tV A) q2))
    · exact d4.trans (a4.trans (congrArg (tV A) q3))
    · exact d5.trans (a5.trans (congrArg (tV A) (congrArg (nx A) q3)))
  · have i1 : 6 ≤ i := i1
    omega
theorem lr_will (hA : TA A) (hI : IV A R) {d : Nat → Int} (d0 : d 0 = 4) (d1 : d 1 = (n1 A R).1) (d2 : d 2 = (nO A (n1 A R).1 (n1 A R).2).1) (dr : ∀ i, 3 ≤ i → i < 6 → d i = -1) : LR A 14 R d := by
  have b1 := n1_in (A := A) (R := R)
  have b2 := nO_in (A := A) (R := (n1 A R).2) (than := (n1 A R).1)
  rw [← d1] at b1
  rw [← d2] at b2
  have d3 := dr 3 (by decide) (by decide)
  have d4 := dr 4 (by decide) (by decide)
  have d5 := dr 5 (by decide) (by decide)
  refine ⟨⟨six_in (by omega) (by omega) (by omega) (by omega) (by omega) (by omega), Or.inr (Or.inr (Or.inr (Or.inl ⟨d0, b1, b2⟩)))⟩, fun h => ?_⟩
  rw [l_will hA hI] at h
  obtain ⟨h3, -⟩ := aE_ok h
  obtain ⟨h4, -, -, -, a2, c2⟩ := nO_ok h3
  obtain ⟨h5, -, -, a1, c1⟩ := aN_ok h4
  have q1 : (n1 A R).2.1 = nx A R.1 := c1
  refine ⟨h5, d0, fun j hj => ?_, fun i i1 i2 => dr i i1 i2⟩
  have hj : j < 2 := hj
  obtain rfl | rfl : j = 0 ∨ j = 1 := by omega
  · exact d1.trans a1
  · exact d2.trans (a2.trans (congrArg (tV A) q1))
theorem lr_dies (hA : TA A) (hI : IV A R) {d : Nat → Int} (d0 : d 0 = 5) (d1 : d 1 = (n1 A R).1) (dr : ∀ i, 2 ≤ i → i < 6 → d i = -1) : LR A 15 R d := by
  have b1 := n1_in (A := A) (R := R)
  rw [← d1] at b1
  have d2 := dr 2 (by decide) (by decide)
  have d3 := dr 3 (by decide) (by decide)
  have d4 := dr 4 (by decide) (by decide)
  have d5 := dr 5 (by decide) (by decide)
  refine ⟨⟨six_in (by omega) (by omega) (by omega) (by omega) (by omega) (by omega), Or.inr (Or.inr (Or.inr (Or.inr ⟨d0, b1⟩)))⟩, fun h => ?_⟩
  rw [l_dies hA hI] at h
  obtain ⟨h4, -⟩ := aE_ok h
  obtain ⟨h5, -, -, a1, c1⟩ := aN_ok h4
  refine ⟨h5, d0, fun j hj => ?_, fun i i1 i2 => dr i i1 i2⟩
  have hj : j < 1 := hj
  obtain rfl : j = 0 := by omega
  exact d1.trans a1
theorem lr_back (hA : TA A) (hI : IV A R) {d : Nat → Int} (d0 : d 0 = 3) (d1 : d 1 = (n29 A R).1) (dr : ∀ i, 2 ≤ i → i < 6 → d i = -1) : LR A 13 R d := by
  have b1 := n29_in (A := A) (R := R)
  rw [← d1] at b1
  have d2 := dr 2 (by decide) (by decide)
  have d3 := dr 3 (by decide) (by decide)
  have d4 := dr 4 (by decide) (by decide)
  have d5 := dr 5 (by decide) (by decide)
  refine ⟨⟨six_in (by omega) (by omega) (by omega) (by omega) (by omega) (by omega), Or.inr (Or.inr (Or.inl ⟨d0, b1⟩))⟩, fun h => ?_⟩
  rw [l_back hA hI] at h
  obtain ⟨h4, -⟩ := aE_ok h
  obtain ⟨h5, -, -, a1, c1⟩ := aN_ok h4
  refine ⟨h5, d0, fun j hj => ?_, fun i i1 i2 => dr i i1 i2⟩
  have hj : j < 1 := hj
  obtain rfl : j = 0 := by omega
  exact d1.trans a1
/-- a ledger's line, whichever -/
theorem m_ledL (hA : TA A) (h : MS A R H) (hI : IV A R) (w : R.2.1 = 0) (k : tKd A R.1 = 1) {l : Nat} (hl : 10 ≤ l ∧ l ≤ 15) (hw : tW A R.1 = (l : Int) + 1) {c : Nat} (hc : H 176 0 = (c : Int)) (hc2 : c ≤ 30) : ∃ (m : Int) (kk : Nat) (H' : Mem), ((m = 1 ∧ c < 30 ∧ kk = 1 + 6 * c) ∨ (m = 0 ∧ c = 30 ∧ kk = 181)) ∧ fX10_ledgerLine 173 H = some H' ∧ MS A (cF A (rgL l) (-1) (hdR A m R)) H' ∧ kM6 H H' ∧ H' 176 0 = (c : Int) + m ∧ (∀ j, j ≠ 0 → (j < kk ∨ kk + 6 ≤ j) → H' 176 j = H 176 j) ∧ LR A l (hdR A m R) (fun i => H' 176 (kk + i)) := by
  obtain ⟨m, kk, n, H1, a1, a2, a3, a4, a5, a6⟩ := m_ledTop hA h hI w k (by omega) hc hc2
  have hI2 := hdR_iv hA hI k m
  have hm : m = 0 ∨ m = 1 := by omega
  have hk1 : 1 ≤ kk := by omega
  have hk2 : kk + 6 ≤ 200 := by omega
  have hc1 : H1 176 0 = (c : Int) := (a6 0 (by omega)).trans hc
  have hcb : 0 ≤ H1 176 0 ∧ H1 176 0 ≤ 30 := by omega
  have fin : ∀ H', LW kk m H1 H' → kM6 H H' ∧ H' 176 0 = (c : Int) + m ∧ ∀ j, j ≠ 0 → (j < kk ∨ kk + 6 ≤ j) → H' 176 j = H 176 j := fun H' q => by
    obtain ⟨q1, q2, q3⟩ := q
    exact ⟨a4.tr q1, by rw [q2, hc1], fun j j0 j1 => (q3 j j0 j1).trans (a6 j (by omega))⟩
  have dr : ∀ (H' : Mem) (z : Nat), 1 ≤ z → (∀ i, z ≤ i → i < 6 → H' 176 (kk + i) = H1 176 (kk + i)) → ∀ i, z ≤ i → i < 6 → H' 176 (kk + i) = -1 := fun H' z hz q i i1 i2 => (q i i1 i2).trans (a5 i (by omega) i2)
  rw [hw] at a2
  obtain rfl | hl2 | rfl | rfl | rfl : l = 10 ∨ (l = 11 ∨ l = 12) ∨ l = 13 ∨ l = 14 ∨ l = 15 := by omega
  · obtain ⟨H', r1, r2, r3, r4, r5, r6, r7, r8, r9⟩ := m_own hA a3 hI2 (n := n) hm hcb hk1 hk2
    obtain ⟨f1, f2, f3⟩ := fin H' r3
    refine ⟨m, kk, H', a1, a2.trans r1, ?_, f1, f2, f3, lr_own hA hI2 r4 r5 r6 r7 r8 (r9.trans (a5 5 (by decide) (by decide)))⟩
    rw [l_own hA hI2]; exact r2
  · have hx2 : ((l : Int) + 1 = 12 ∨ (l : Int) + 1 = 13) := by omega
    have hrg : rgL l = [104, 111, 100, 102, 116] := by rcases hl2 with rfl | rfl <;> rfl
    obtain ⟨H', r1, r2, r3, r4, r5, r6, r7, r8, r9⟩ := m_sell hA a3 hI2 (n := n) hm hcb hk1 hk2 hx2
    obtain ⟨f1, f2, f3⟩ := fin H' r3
    refine ⟨m, kk, H', a1, a2.trans r1, ?_, f1, f2, f3, lr_sell hA hI2 hl2 (r4.trans (by omega)) r5 r6 r7 r8 r9⟩
    rw [l_sell hA hI2 hrg]; exact r2
  · obtain ⟨H', r1, r2, r3, r4, r5, r6⟩ := m_back hA a3 hI2 (n := n) hm hcb hk1 hk2
    obtain ⟨f1, f2, f3⟩ := fin H' r3
    refine ⟨m, kk, H', a1, a2.trans r1, ?_, f1, f2, f3, lr_back hA hI2 r4 r5 (dr H' 2 (by decide) r6)⟩
    rw [l_back hA hI2]; exact r2
  · obtain ⟨H', r1, r2, r3, r4, r5, r6, r7⟩ := m_will hA a3 hI2 (n := n) hm hcb hk1 hk2
    obtain ⟨f1, f2, f3⟩ := fin H' r3
    refine ⟨m, kk, H', a1, a2.trans r1, ?_, f1, f2, f3, lr_will hA hI2 r4 r5 r6 (dr H' 3 (by decide) r7)⟩
    rw [l_will hA hI2]; exact r2
  · obtain ⟨H', r1, r2, r3, r4, r5, r6⟩ := m_diesL hA a3 hI2 (n := n) hm hcb hk1 hk2
    obtain ⟨f1, f2, f3⟩ := fin H' r3
    refine ⟨m, kk, H', a1, a2.trans r1, ?_, f1, f2, f3, lr_dies hA hI2 r4 r5 (dr H' 2 (by decide) r6)⟩
    rw [l_dies hA hI2]; exact r2
theorem LO.more {u v : Nat → Int} {c : Nat} (h : LO u) (hu : u 0 = (c : Int)) (hc2 : c < 30) (hv : v 0 = ((c + 1 : Nat) : Int)) (hvu : ∀ k, k ≠ 0 → k < 1 + 6 * c → v k = u k) (r0 : DO (fun i => v (1 + 6 * c + i))) : LO v := by
  obtain ⟨h1, h2⟩ := h
  refine ⟨by omega, fun k hk => ?_⟩
  by_cases y : k = c
  · subst y; exact r0
  · have := h2 k (by omega)
    have q : ∀ j, j < 6 → v (1 + 6 * k + j) = u (1 + 6 * k + j) := fun j hj => hvu _ (by omega) (by omega)
    dsimp only [DO] at this ⊢
    rw [q 0 (by omega), q 1 (by omega), q 2 (by omega), q 3 (by omega), q 4 (by omega), q 5 (by omega)]
    refine ⟨fun j hj => ?_, this.2⟩
    rw [q j hj]
    exact this.1 j hj
theorem j_ledger (hA : TA A) (hJ : JX A R G H) (hR : LO (H 176)) (hS : R.2.2.1 = 0 → SR 6 30 (H 176) G 44) (w : R.2.1 = 0) (k0 : tKd A R.1 ≠ 0) : ∃ R' G' H', fX2_readLine 35 2 G = some G' ∧ fX10_ledgerLine 173 H = some H' ∧ JX A R' G' H' ∧ LO (H' 176) ∧ (R'.2.2.1 = 0 → SR 6 30 (H' 176) G' 44) ∧ kXt G G' ∧ kM6 H H' ∧ (R'.2.1 = 0 → R.1 < R'.1) := by
  obtain ⟨hX, hM, hI⟩ := hJ
  obtain ⟨-, -, -, hnx⟩ := nxq_sp hA hI.1
  by_cases hw : tKd A R.1 = 1 ∧ 11 ≤ tW A R.1 ∧ tW A R.1 ≤ 16
  · obtain ⟨k, hw⟩ := hw
    obtain ⟨c, hc⟩ := nat_of hR.1.1
    have hcl := hR.1.2
    obtain ⟨l, hl⟩ : ∃ l : Nat, tW A R.1 = (l : Int) + 1 := ⟨(tW A R.1 - 1).toNat, by omega⟩
    have hl2 : 10 ≤ l ∧ l ≤ 15 := by omega
    obtain ⟨m, kk, H', r4, r1, r2, r3, r5, r6, r7⟩ := m_ledL hA hM hI w k hl2 hl hc (by omega)
    have hmm : (m = 1 ∧ c < 30) ∨ (m = 0 ∧ c = 30) := by omega
    obtain ⟨mx, x1, x2⟩ := m_same (G := G) (R := R) (A := A) sl44 hmm (fun f => (hS f).2.2.2.2.1.trans hc)
    have es : fX2_sheetOf 35 (l : Int) = 44 ∧ fX2_sortOf (l : Int) = 2 := by
      obtain rfl | rfl | rfl | rfl | rfl | rfl : l = 10 ∨ l = 11 ∨ l = 12 ∨ l = 13 ∨ l = 14 ∨ l = 15 := by omega
      all_goals exact ⟨rfl, rfl⟩
    obtain ⟨G1, u1, u2, u3, u4⟩ := x_line hA hX hI w k (st := 2) (l := l) (by omega) hl es.2 (m := mx) (by rw [es.1]; exact x1)
    have hI2 := hdR_iv hA hI k m
    rw [x2] at u1 u3 u4
    rw [es.1] at u4
    have mono := cF_mono hA (rgL l) (-1) _ hI2
    rw [hdR_1] at mono
    have hRO : LO (H' 176) := by
      rcases r4 with ⟨a1, a2, a3⟩ | ⟨a1, a2, a3⟩
      · refine hR.more hc a2 (by rw [r5, a1]; rfl) (fun k k1 k2 => r6 k k1 (Or.inl (by omega))) ?_
        rw [← a3]; exact r7.1
      · refine ⟨by rw [r5, a1]; omega, fun j hj => ?_⟩
        have hj2 : j < 30 := by rw [r5, a1] at hj; omega
        have hh := hR.2 j (by rw [hc]; omega)
        have q : ∀ i, i < 6 → H' 176 (1 + 6 * j + i) = H 176 (1 + 6 * j + i) := fun i hi => r6 _ (by omega) (Or.inl (by omega))
        dsimp only [DO] at hh ⊢
        rw [q 0 (by omega), q 1 (by omega), q 2 (by omega), q 3 (by omega), q 4 (by omega), q 5 (by omega)]
        refine ⟨fun i hi => ?_, hh.2⟩
        rw [q i hi]
        exact hh.1 i hi
    by_cases f : (cF A (rgL l) (-1) (hdR A m R)).2.2.1 = 0
    · have hok := fin_ok mono.2 f
      obtain ⟨o1, o2, o3, o4⟩ := r7.2 hok
      obtain ⟨o5, o6⟩ := hdR_ok o1
      obtain ⟨am, a2, akk⟩ := r4.resolve_right (fun z => o5 z.1)
      have hS0 := hS o6.2
      have g3 : G1 44 3 = (c : Int) := (u2 _ _ (by omega) (by decide)).trans (hS0.2.2.2.2.1.trans hc)
      have hlen : (rgL l).length ≤ 5 := (rg_sp (l := l) (by omega)).2.1
      obtain ⟨G2, y1, y2, y2b, y3, y3b, y4, y5⟩ := x_keepD sl44 g3 a2 (x1 := (l : Int)) (by omega) (many := (rgL l).length) (by omega) hlen
      have hv := u3 hok.1
      rw [hdR_1] at o3
      refine ⟨_, G2, H', ?_, r1, ⟨u1.mono (fun k _ => y5 _ _ (by decide) (by decide)) (fun k => y5 _ _ (by decide) (by decide)), r2, mono.2⟩, hRO, fun _ => ?_, ?_, r3, fun _ => ?_⟩
      · rw [u4, if_neg (dnn f)]; exact y1
      · refine SR.more (hS0.mono (F' := G1) (fun o k z1 z2 => u2 o k (by omega) (by omega))) hc a2 (by rw [r5, am]; rfl) (fun k k1 k2 => r6 k k1 (Or.inl (by omega))) y2 (fun i hi => ?_) y4
        rw [← akk]
        by_cases i0 : i = 0
        · rw [i0]; exact y2b.trans o2.symm
        · by_cases i1 : i ≤ (rgL l).length
          · obtain ⟨j, rfl⟩ : ∃ j, i = j + 1 := ⟨i - 1, by omega⟩
            exact (y3 j (by omega)).trans ((hv j (by omega)).trans (o3 j (by omega)).symm)
          · exact (y3b i (by omega) hi).trans (o4 i (by omega) hi).symm
      · intro o k z
        rw [y5 _ _ (by omega) (by omega)]; exact u2.t o k z
      · have := hnx k0; omega
    · refine ⟨_, G1, H', ?_, r1, ⟨u1, r2, mono.2⟩, hRO, fun z => absurd z f, u2.t, r3, fun _ => ?_⟩
      · rw [u4, if_pos f]
      · have := hnx k0; omega
  · obtain ⟨G', g1, g2, g3⟩ := x_none hA hX hI w (st := 2) (fun z => hw ⟨z.1, by
      have h3 := z.2.2
      have h2 := z.2.1
      unfold fX2_sortOf at h3
      by_cases q : 9 ≤ tW A R.1 - 1
      · rw [if_pos q] at h3
        by_cases q2 : tW A R.1 - 1 ≠ 9
        · rw [if_pos q2] at h3
          by_cases q3 : 16 ≤ tW A R.1 - 1
          · rw [if_pos q3] at h3; omega
          · omega
        · rw [if_neg q2] at h3; omega
      · rw [if_neg q] at h3; omega⟩)
    obtain ⟨H', r1, r2, r3⟩ := m_ledNo hA hM hI hw
    have e : H' 176 = H 176 := funext fun k => r3.at6 k
    have e2 : (aEnds R).2.1 = 1 ∧ (aEnds R).2.2.1 = 1 := by unfold aEnds; rw [if_pos w]; exact ⟨rfl, rfl⟩
    exact ⟨_, G', H', g1, r1, ⟨g2, r2, hI.ends⟩, by rw [e]; exact hR, fun z => by omega, g3.t, r3.six, fun z => by omega⟩
end TNL
