/-! ===== text: the reference's lines, ledgers ===== -/
def n29 (A : Nat → Int) (R : RST) : Int × RST := aN A 0 29 R
def n6 (A : Nat → Int) (R : RST) : Int × RST := aN A 0 6 R
def nO (A : Nat → Int) (than : Int) (R : RST) : Int × RST := if R.2.1 = 0 ∧ tKd A R.1 = 2 then (if 0 ≤ tV A R.1 ∧ tV A R.1 ≤ 7 then tV A R.1 else 0, if (0 ≤ tV A R.1 ∧ tV A R.1 ≤ 7) ∧ tV A R.1 ≠ than then aAdv A R else aAdv A (aNote 2 (R.1 : Int) R)) else (0, aEnds R)
section THL
variable {A : Nat → Int} {R : RST} {H : Mem}
theorem m_n29 (hA : TA A) (h : MS A R H) (hI : IV A R) : ∃ H', fX10_numbered 173 0 29 H = some ((n29 A R).1, H') ∧ MS A (n29 A R).2 H' ∧ kMr H H' := m_numI hA h hI 0 29
theorem m_n6 (hA : TA A) (h : MS A R H) (hI : IV A R) : ∃ H', fX10_numbered 173 0 6 H = some ((n6 A R).1, H') ∧ MS A (n6 A R).2 H' ∧ kMr H H' := m_numI hA h hI 0 6
theorem nO_iv (hA : TA A) (h : IV A R) (than : Int) : IV A (nO A than R).2 := by
  unfold nO
  by_cases y : R.2.1 = 0 ∧ tKd A R.1 = 2
  · rw [if_pos y]
    dsimp only
    split
    · exact h.adv hA
    · exact h.badnum hA (by omega)
  · rw [if_neg y]; exact h.ends
theorem nO_in {than : Int} : 0 ≤ (nO A than R).1 ∧ (nO A than R).1 ≤ 7 := by
  unfold nO
  split
  · dsimp only
    split
    · assumption
    · exact ⟨Int.le_refl _, (show (0 : Int) ≤ 7 by decide)⟩
  · exact ⟨Int.le_refl _, (show (0 : Int) ≤ 7 by decide)⟩
theorem aNote2 {R : RST} {y : Int} : aNote 2 y (aNote 2 y R) = aNote 2 y R := by
  by_cases x : R.2.1 = 0 ∧ R.2.2.1 = 0
  · have e : aNote 2 y R = (R.1, R.2.1, 2, y) := if_pos x
    rw [e]
    exact if_neg (fun z => absurd z.2 (show ¬ (2 : Int) = 0 by decide))
  · have e : aNote 2 y R = R := if_neg x
    rw [e, e]
theorem aNote_1 {R : RST} {k y : Int} : (aNote k y R).1 = R.1 ∧ (aNote k y R).2.1 = R.2.1 := by
  unfold aNote
  split
  · exact ⟨rfl, rfl⟩
  · exact ⟨rfl, rfl⟩
theorem m_another (hA : TA A) (h : MS A R H) (hI : IV A R) (than : Int) : ∃ H', fX10_another 173 than H = some ((nO A than R).1, H') ∧ MS A (nO A than R).2 H' ∧ kMr H H' := by
  have h0 := id h
  obtain ⟨hM, hT, h8, h7, hp⟩ := h
  have hn : aN A 0 7 R = nO A than R → ∃ H', fX10_another_b25 173 H = some ((nO A than R).1, H') ∧ MS A (nO A than R).2 H' ∧ kMr H H' := fun e => by
    obtain ⟨H', r1, r2, r3⟩ := m_numI hA h0 hI 0 7
    rw [e] at r1 r2
    unfold fX10_another_b25
    rw [r1, Option.bind_some]
    exact ⟨H', rfl, r2, r3⟩
  unfold fX10_another
  rw [hT.2.2.1]
  by_cases k : tKd A R.1 = 2
  · rw [if_neg (dnn (rk1.mpr k)), hT.2.2.2.1 k]
    by_cases v : tV A R.1 = than
    · rw [if_neg (dnn v), hT.1]
      obtain ⟨H1, u1, u2, u3⟩ := m_also hA h0 (k := 2) (y := (R.1 : Int)) (fun a b => Or.inl ((hI.2.1 a).2 b))
      obtain ⟨b1, b2⟩ := aNote_1 (R := R) (k := 2) (y := (R.1 : Int))
      obtain ⟨H', r1, r2, r3⟩ := m_num hA u2 (by rw [b1]; exact hI.1) 0 7 (by
        rw [b1, b2]
        intro a b
        unfold aNote at b ⊢
        by_cases f : R.2.1 = 0 ∧ R.2.2.1 = 0
        · rw [if_pos f]; exact Or.inr ⟨rfl, (show (2 : Int) ≤ 2 by decide)⟩
        · rw [if_neg f] at b ⊢; exact Or.inl ((hI.2.1 a).2 b))
      have e : aN A 0 7 (aNote 2 (R.1 : Int) R) = nO A than R := by
        unfold aN nO
        rw [b1, b2]
        by_cases w : R.2.1 = 0
        · have wk0 : R.2.1 = 0 ∧ tKd A R.1 = 2 := ⟨w, k⟩
          rw [if_pos wk0, if_pos wk0, aNote2]
          by_cases y : 0 ≤ tV A R.1 ∧ tV A R.1 ≤ 7
          · rw [if_pos y, if_pos y, if_neg (fun z => z.2 v)]
          · rw [if_neg y, if_neg y, if_neg (fun z => y z.1)]
        · have wk0 : ¬ (R.2.1 = 0 ∧ tKd A R.1 = 2) := fun z => w z.1
          rw [if_neg wk0, if_neg wk0, aNote_w w]
      rw [e] at r1 r2
      unfold fX10_another_b25
      rw [u1, Option.bind_some, r1, Option.bind_some]
      exact ⟨H', rfl, r2, u3.tr r3⟩
    · rw [if_pos v]
      refine hn ?_
      unfold aN nO
      by_cases w : R.2.1 = 0
      · have wk0 : R.2.1 = 0 ∧ tKd A R.1 = 2 := ⟨w, k⟩
        rw [if_pos wk0, if_pos wk0]
        by_cases y : 0 ≤ tV A R.1 ∧ tV A R.1 ≤ 7
        · rw [if_pos y, if_pos y, if_pos (show (0 ≤ tV A R.1 ∧ tV A R.1 ≤ 7) ∧ tV A R.1 ≠ than from ⟨y, v⟩)]
        · rw [if_neg y, if_neg y, if_neg (fun z => y z.1)]
      · have wk0 : ¬ (R.2.1 = 0 ∧ tKd A R.1 = 2) := fun z => w z.1
        rw [if_neg wk0, if_neg wk0]
  · rw [if_pos (fun z => k (rk1.mp z))]
    refine hn ?_
    unfold aN nO
    have wk0 : ¬ (R.2.1 = 0 ∧ tKd A R.1 = 2) := fun z => k z.2
    rw [if_neg wk0, if_neg wk0]
/-- a ledger's row is put down -/
def LW (kk : Nat) (m : Int) (H H' : Mem) : Prop := kM6 H H' ∧ H' 176 0 = H 176 0 + m ∧ ∀ k, k ≠ 0 → (k < kk ∨ kk + 6 ≤ k) → H' 176 k = H 176 k
theorem m_led235 (hA : TA A) (h : MS A R H) (hI : IV A R) {m : Int} (hm : m = 0 ∨ m = 1) (hc : 0 ≤ H 176 0 ∧ H 176 0 ≤ 30) : ∃ H', fX10_ledgerLine_b235 173 m H = some H' ∧ MS A (aE A R) H' ∧ kM6 H H' ∧ H' 176 0 = H 176 0 + m ∧ ∀ k, k ≠ 0 → H' 176 k = H 176 k := by
  obtain ⟨H4, w1, w2, w3⟩ := m_endsLine hA (h.at6 (k := 0) (v := H 176 0 + m)) hI.1
  have e : fX10_ledgerLine_b235 173 m H = some H4 := by
    have g : fX10_ledgerLine_b251 173 176 0 (H 176 0) m H = some H4 := by
      have a : alen 176 = 200 := rfl
      unfold fX10_ledgerLine_b251
      rw [a, if_pos (by decide), xwn (by omega) (by omega), show (0 : Int).toNat = 0 from rfl, w1, Option.bind_some]
    unfold fX10_ledgerLine_b235
    rw [al176, if_pos (by decide), show (173 + 3 : Nat) = 176 from rfl]
    rcases hm with rfl | rfl
    · rw [if_pos rfl]; exact g
    · rw [if_neg (by decide)]; exact g
  refine ⟨H4, e, w2, fun o k a b d => ?_, ?_, fun k k0 => ?_⟩
  · rw [w3 o k a b, mset_ne _ _ (by omega)]
  · rw [w3.at6, mset_eq]
  · rw [w3.at6, mset_ne _ _ (by omega)]
theorem m_led212 (hA : TA A) (h : MS A R H) (hI : IV A R) {m : Int} (hm : m = 0 ∨ m = 1) (hc : 0 ≤ H 176 0 ∧ H 176 0 ≤ 30) {x : Nat} (h1 : 1 ≤ x) (hx : x + 2 < 200) {y : Int} (hy : y = (x : Int)) : ∃ H', fX10_ledgerLine_b212 173 m y H = some H' ∧ MS A (aE A (nT A (n6 A R).2).2) H' ∧ kM6 H H' ∧ H' 176 0 = H 176 0 + m ∧ H' 176 x = (n6 A R).1 ∧ H' 176 (x + 1) = (n2 A (n6 A R).2).1 ∧ H' 176 (x + 2) = (nT A (n6 A R).2).1 ∧ ∀ k, k ≠ 0 → (k < x ∨ x + 3 ≤ k) → H' 176 k = H 176 k := by
  subst hy
  obtain ⟨H1, r1, r2, r3⟩ := m_n6 hA h hI
  have hI1 : IV A (n6 A R).2 := hI.n hA 0 6
  obtain ⟨H2, H3, u1, u2, u3, u4⟩ := m_slots3 hA (H := mset H1 176 x (n6 A R).1) (MS.at6 r2 (k := x) (v := (n6 A R).1)) hI1 (x := x + 1) (by omega) (kp := 1)
  have u5 := (u4.resolve_right (fun z => absurd z.1 (by decide))).2
  have hI3 : IV A (nT A (n6 A R).2).2 := (hI1.n hA 0 47).n hA _ 48
  have q0 : H3 176 0 = H 176 0 := by
    rw [u5, mset_ne _ _ (by omega), mset_ne _ _ (by omega), u3.at6, mset_ne _ _ (by omega), r3.at6]
  obtain ⟨H4, w1, w2, w3, w4, w5⟩ := m_led235 hA u2 hI3 hm (by rw [q0]; exact hc)
  refine ⟨H4, ?_, w2, ?_, w4.trans (by rw [q0]), ?_, ?_, ?_, fun k k0 k1 => ?_⟩
  · unfold fX10_ledgerLine_b212
    rw [r1, Option.bind_some]
    dsimp only
    rw [al176, if_pos (by omega), Int.toNat_natCast, xwS (by omega), u1, Option.bind_some, w1]
  · refine kM6.tr (G := H3) ?_ w3
    intro o k a b d
    rw [u5, mset_ne _ _ (by omega), mset_ne _ _ (by omega), u3 o k a b, mset_ne _ _ (by omega), r3 o k a b]
  · rw [w5 _ (by omega), u5, mset_ne _ _ (by omega), mset_ne _ _ (by omega), u3.at6, mset_eq]
  · rw [w5 _ (by omega), u5, mset_ne _ _ (by omega), mset_eq]
  · rw [w5 _ (by omega), u5, show x + 2 = x + 1 + 1 from rfl, mset_eq]
  · rw [w5 _ k0, u5, mset_ne _ _ (by omega), mset_ne _ _ (by omega), u3.at6, mset_ne _ _ (by omega), r3.at6]
section ROW
variable {m : Int} {kk n : Nat}
theorem kk_b (hk : kk + 6 ≤ 200) : ((0 : Int) ≤ (kk : Int) ∧ (kk : Int) < ((200 : Nat) : Int)) ∧ xw ((kk : Int) + 1) = ((kk + 1 : Nat) : Int) ∧ ((0 : Int) ≤ ((kk + 1 : Nat) : Int) ∧ ((kk + 1 : Nat) : Int) < ((200 : Nat) : Int)) ∧ xw ((kk : Int) + 2) = ((kk + 2 : Nat) : Int) ∧ ((0 : Int) ≤ ((kk + 2 : Nat) : Int) ∧ ((kk + 2 : Nat) : Int) < ((200 : Nat) : Int)) ∧ xw (((kk + 2 : Nat) : Int) + 1) = ((kk + 3 : Nat) : Int) := by
  refine ⟨by omega, xwS (by omega), by omega, ?_, by omega, xwS (by omega)⟩
  rw [xwn (by omega) (by omega)]; rfl
theorem m_own (hA : TA A) (h : MS A R H) (hI : IV A R) (hm : m = 0 ∨ m = 1) (hc : 0 ≤ H 176 0 ∧ H 176 0 ≤ 30) (h1 : 1 ≤ kk) (hk : kk + 6 ≤ 200) : ∃ H', fX10_ledgerLine_b71 (n + 1) 173 11 m (kk : Int) 6 H = some H' ∧ MS A (aE A (nT A (n6 A (n1 A R).2).2).2) H' ∧ LW kk m H H' ∧ H' 176 kk = 0 ∧ H' 176 (kk + 1) = (n1 A R).1 ∧ H' 176 (kk + 2) = (n6 A (n1 A R).2).1 ∧ H' 176 (kk + 3) = (n2 A (n6 A (n1 A R).2).2).1 ∧ H' 176 (kk + 4) = (nT A (n6 A (n1 A R).2).2).1 ∧ H' 176 (kk + 5) = H 176 (kk + 5) := by
  obtain ⟨b1, b2, b3, b4, b5, b6⟩ := kk_b hk
  have ex : xw (11 - 11) = 0 := by decide +kernel
  obtain ⟨H1, r1, r2, r3⟩ := m_n1 hA (h.at6 (k := kk) (v := 0)) hI
  have hI1 : IV A (n1 A R).2 := hI.n hA 0 7
  have q0 : mset H1 176 (kk + 1) (n1 A R).1 176 0 = H 176 0 := by rw [mset_ne _ _ (by omega), r3.at6, mset_ne _ _ (by omega)]
  obtain ⟨H4, w1, w2, w3, w4, w5, w6, w7, w8⟩ := m_led212 hA (H := mset H1 176 (kk + 1) (n1 A R).1) (MS.at6 r2 (k := kk + 1) (v := (n1 A R).1)) hI1 hm (by rw [q0]; exact hc) (x := kk + 2) (by omega) (by omega) rfl
  rw [fX10_ledgerLine_b71, if_pos (by decide), al176, if_pos b1, if_pos (by decide), ex, Int.toNat_natCast, show (173 + 3 : Nat) = 176 from rfl, r1, Option.bind_some, b2, if_pos b3, if_neg (by decide), if_neg (by decide), if_pos (by decide), b4, Int.toNat_natCast]
  unfold fX10_ledgerLine_b194
  rw [if_pos rfl]
  refine ⟨H4, w1, w2, ⟨?_, w4.trans (by rw [q0]), fun k k0 k1 => ?_⟩, ?_, ?_, w5, w6, w7, ?_⟩
  · refine kM6.tr (G := mset H1 176 (kk + 1) (n1 A R).1) ?_ w3
    intro o k a b d
    rw [mset_ne _ _ (by omega), r3 o k a b, mset_ne _ _ (by omega)]
  · rw [w8 k k0 (by omega), mset_ne _ _ (by omega), r3.at6, mset_ne _ _ (by omega)]
  · rw [w8 _ (by omega) (by omega), mset_ne _ _ (by omega), r3.at6, mset_eq]
  · rw [w8 _ (by omega) (by omega), mset_eq]
  · rw [w8 _ (by omega) (by omega), mset_ne _ _ (by omega), r3.at6, mset_ne _ _ (by omega)]
theorem m_sell (hA : TA A) (h : MS A R H) (hI : IV A R) (hm : m = 0 ∨ m = 1) (hc : 0 ≤ H 176 0 ∧ H 176 0 ≤ 30) (h1 : 1 ≤ kk) (hk : kk + 6 ≤ 200) {x2 : Int} (h2 : x2 = 12 ∨ x2 = 13) : ∃ H', fX10_ledgerLine_b71 (n + 1) 173 x2 m (kk : Int) 6 H = some H' ∧ MS A (aE A (nT A (n6 A (nO A (n1 A R).1 (n1 A R).2).2).2).2) H' ∧ LW kk m H H' ∧ H' 176 kk = x2 - 11 ∧ H' 176 (kk + 1) = (n1 A R).1 ∧ H' 176 (kk + 2) = (nO A (n1 A R).1 (n1 A R).2).1 ∧ H' 176 (kk + 3) = (n6 A (nO A (n1 A R).1 (n1 A R).2).2).1 ∧ H' 176 (kk + 4) = (n2 A (n6 A (nO A (n1 A R).1 (n1 A R).2).2).2).1 ∧ H' 176 (kk + 5) = (nT A (n6 A (nO A (n1 A R).1 (n1 A R).2).2).2).1 := by
  obtain ⟨b1, b2, b3, b4, b5, b6⟩ := kk_b hk
  have ex : xw (x2 - 11) = x2 - 11 := xwn (by omega) (by omega)
  obtain ⟨H1, r1, r2, r3⟩ := m_n1 hA (h.at6 (k := kk) (v := x2 - 11)) hI
  have hI1 : IV A (n1 A R).2 := hI.n hA 0 7
  obtain ⟨H2, s1, s2, s3⟩ := m_another hA (H := mset H1 176 (kk + 1) (n1 A R).1) (MS.at6 r2 (k := kk + 1) (v := (n1 A R).1)) hI1 (n1 A R).1
  have hI2 := nO_iv hA hI1 (n1 A R).1
  have q0 : mset H2 176 (kk + 2) (nO A (n1 A R).1 (n1 A R).2).1 176 0 = H 176 0 := by rw [mset_ne _ _ (by omega), s3.at6, mset_ne _ _ (by omega), r3.at6, mset_ne _ _ (by omega)]
  obtain ⟨H4, w1, w2, w3, w4, w5, w6, w7, w8⟩ := m_led212 hA (s2.at6 (k := kk + 2) (v := (nO A (n1 A R).1 (n1 A R).2).1)) hI2 hm (by rw [q0]; exact hc) (x := kk + 3) (by omega) (by omega) rfl
  have e171 : fX10_ledgerLine_b171 173 x2 m (kk : Int) ((kk + 2 : Nat) : Int) (mset H1 176 (kk + 1) (n1 A R).1) = some H4 := by
    unfold fX10_ledgerLine_b171 fX10_ledgerLine_b194
    rw [b2, al176, if_pos b3, Int.toNat_natCast, show (173 + 3 : Nat) = 176 from rfl, mset_eq, s1, Option.bind_some, if_pos b5, b6, Int.toNat_natCast]
    dsimp only
    rcases h2 with rfl | rfl
    · rw [if_neg (by decide), if_pos rfl]; exact w1
    · rw [if_neg (by decide), if_neg (by decide), if_neg (by decide)]; exact w1
  have e71 : fX10_ledgerLine_b71 (n + 1) 173 x2 m (kk : Int) 6 H = some H4 := by
    rw [fX10_ledgerLine_b71, if_pos (by decide), al176, if_pos b1, if_pos (by omega), ex, Int.toNat_natCast, show (173 + 3 : Nat) = 176 from rfl, r1, Option.bind_some, b2, if_pos b3, b4, Int.toNat_natCast]
    dsimp only
    rcases h2 with rfl | rfl
    · rw [if_pos rfl]; exact e171
    · rw [if_neg (by decide), if_pos rfl]; exact e171
  refine ⟨H4, e71, w2, ⟨?_, w4.trans (by rw [q0]), fun k k0 k1 => ?_⟩, ?_, ?_, ?_, w5, w6, w7⟩
  · refine kM6.tr (G := mset H2 176 (kk + 2) (nO A (n1 A R).1 (n1 A R).2).1) ?_ w3
    intro o k a b d
    rw [mset_ne _ _ (by omega), s3 o k a b, mset_ne _ _ (by omega), r3 o k a b, mset_ne _ _ (by omega)]
  · rw [w8 k k0 (by omega), mset_ne _ _ (by omega), s3.at6, mset_ne _ _ (by omega), r3.at6, mset_ne _ _ (by omega)]
  · rw [w8 _ (by omega) (by omega), mset_ne _ _ (by omega), s3.at6, mset_ne _ _ (by omega), r3.at6, mset_eq]
  · rw [w8 _ (by omega) (by omega), mset_ne _ _ (by omega), s3.at6, mset_eq]
  · rw [w8 _ (by omega) (by omega), mset_eq]
theorem m_will (hA : TA A) (h : MS A R H) (hI : IV A R) (hm : m = 0 ∨ m = 1) (hc : 0 ≤ H 176 0 ∧ H 176 0 ≤ 30) (h1 : 1 ≤ kk) (hk : kk + 6 ≤ 200) : ∃ H', fX10_ledgerLine_b71 (n + 1) 173 15 m (kk : Int) 6 H = some H' ∧ MS A (aE A (nO A (n1 A R).1 (n1 A R).2).2) H' ∧ LW kk m H H' ∧ H' 176 kk = 4 ∧ H' 176 (kk + 1) = (n1 A R).1 ∧ H' 176 (kk + 2) = (nO A (n1 A R).1 (n1 A R).2).1 ∧ ∀ i, 3 ≤ i → i < 6 → H' 176 (kk + i) = H 176 (kk + i) := by
  obtain ⟨b1, b2, b3, b4, b5, b6⟩ := kk_b hk
  have ex : xw (15 - 11) = 4 := by decide +kernel
  obtain ⟨H1, r1, r2, r3⟩ := m_n1 hA (h.at6 (k := kk) (v := 4)) hI
  have hI1 : IV A (n1 A R).2 := hI.n hA 0 7
  obtain ⟨H2, s1, s2, s3⟩ := m_another hA (H := mset H1 176 (kk + 1) (n1 A R).1) (MS.at6 r2 (k := kk + 1) (v := (n1 A R).1)) hI1 (n1 A R).1
  have hI2 := nO_iv hA hI1 (n1 A R).1
  have q0 : mset H2 176 (kk + 2) (nO A (n1 A R).1 (n1 A R).2).1 176 0 = H 176 0 := by rw [mset_ne _ _ (by omega), s3.at6, mset_ne _ _ (by omega), r3.at6, mset_ne _ _ (by omega)]
  obtain ⟨H4, w1, w2, w3, w4, w5⟩ := m_led235 hA (s2.at6 (k := kk + 2) (v := (nO A (n1 A R).1 (n1 A R).2).1)) hI2 hm (by rw [q0]; exact hc)
  have e171 : fX10_ledgerLine_b171 173 15 m (kk : Int) ((kk + 2 : Nat) : Int) (mset H1 176 (kk + 1) (n1 A R).1) = some H4 := by
    unfold fX10_ledgerLine_b171 fX10_ledgerLine_b194
    rw [b2, al176, if_pos b3, Int.toNat_natCast, show (173 + 3 : Nat) = 176 from rfl, mset_eq, s1, Option.bind_some, if_pos b5, b6, Int.toNat_natCast]
    dsimp only
    rw [if_neg (by decide), if_neg (by decide), if_pos (by decide)]; exact w1
  have e71 : fX10_ledgerLine_b71 (n + 1) 173 15 m (kk : Int) 6 H = some H4 := by
    rw [fX10_ledgerLine_b71, if_pos (by decide), al176, if_pos b1, if_pos (by decide), ex, Int.toNat_natCast, show (173 + 3 : Nat) = 176 from rfl, r1, Option.bind_some, b2, if_pos b3, b4, Int.toNat_natCast]
    dsimp only
    rw [if_neg (by decide), if_neg (by decide), if_neg (by decide)]; exact e171
  refine ⟨H4, e71, w2, ⟨?_, w4.trans (by rw [q0]), fun k k0 k1 => ?_⟩, ?_, ?_, ?_, fun i i1 i2 => ?_⟩
  · refine kM6.tr (G := mset H2 176 (kk + 2) (nO A (n1 A R).1 (n1 A R).2).1) ?_ w3
    intro o k a b d
    rw [mset_ne _ _ (by omega), s3 o k a b, mset_ne _ _ (by omega), r3 o k a b, mset_ne _ _ (by omega)]
  · rw [w5 k k0, mset_ne _ _ (by omega), s3.at6, mset_ne _ _ (by omega), r3.at6, mset_ne _ _ (by omega)]
  · rw [w5 _ (by omega), mset_ne _ _ (by omega), s3.at6, mset_ne _ _ (by omega), r3.at6, mset_eq]
  · rw [w5 _ (by omega), mset_ne _ _ (by omega), s3.at6, mset_eq]
  · rw [w5 _ (by omega), mset_eq]
  · rw [w5 _ (by omega), mset_ne _ _ (by omega), s3.at6, mset_ne _ _ (by omega), r3.at6, mset_ne _ _ (by omega)]
theorem m_diesL (hA : TA A) (h : MS A R H) (hI : IV A R) (hm : m = 0 ∨ m = 1) (hc : 0 ≤ H 176 0 ∧ H 176 0 ≤ 30) (h1 : 1 ≤ kk) (hk : kk + 6 ≤ 200) : ∃ H', fX10_ledgerLine_b71 (n + 1) 173 16 m (kk : Int) 6 H = some H' ∧ MS A (aE A (n1 A R).2) H' ∧ LW kk m H H' ∧ H' 176 kk = 5 ∧ H' 176 (kk + 1) = (n1 A R).1 ∧ ∀ i, 2 ≤ i → i < 6 → H' 176 (kk + i) = H 176 (kk + i) := by
  obtain ⟨b1, b2, b3, b4, b5, b6⟩ := kk_b hk
  have ex : xw (16 - 11) = 5 := by decide +kernel
  obtain ⟨H1, r1, r2, r3⟩ := m_n1 hA (h.at6 (k := kk) (v := 5)) hI
  have hI1 : IV A (n1 A R).2 := hI.n hA 0 7
  have q0 : mset H1 176 (kk + 1) (n1 A R).1 176 0 = H 176 0 := by rw [mset_ne _ _ (by omega), r3.at6, mset_ne _ _ (by omega)]
  obtain ⟨H4, w1, w2, w3, w4, w5⟩ := m_led235 hA (H := mset H1 176 (kk + 1) (n1 A R).1) (MS.at6 r2 (k := kk + 1) (v := (n1 A R).1)) hI1 hm (by rw [q0]; exact hc)
  have e71 : fX10_ledgerLine_b71 (n + 1) 173 16 m (kk : Int) 6 H = some H4 := by
    rw [fX10_ledgerLine_b71, if_pos (by decide), al176, if_pos b1, if_pos (by decide), ex, Int.toNat_natCast, show (173 + 3 : Nat) = 176 from rfl, r1, Option.bind_some, b2, if_pos b3, b4, Int.toNat_natCast]
    dsimp only
    rw [if_neg (by decide), if_neg (by decide), if_pos (by decide)]
    unfold fX10_ledgerLine_b194
    rw [if_neg (by decide), if_neg (by decide), if_pos (by decide)]; exact w1
  refine ⟨H4, e71, w2, ⟨?_, w4.trans (by rw [q0]), fun k k0 k1 => ?_⟩, ?_, ?_, fun i i1 i2 => ?_⟩
  · refine kM6.tr (G := mset H1 176 (kk + 1) (n1 A R).1) ?_ w3
    intro o k a b d
    rw [mset_ne _ _ (by omega), r3 o k a b, mset_ne _ _ (by omega)]
  · rw [w5 k k0, mset_ne _ _ (by omega), r3.at6, mset_ne _ _ (by omega)]
  · rw [w5 _ (by omega), mset_ne _ _ (by omega), r3.at6, mset_eq]
  · rw [w5 _ (by omega), mset_eq]
  · rw [w5 _ (by omega), mset_ne _ _ (by omega), r3.at6, mset_ne _ _ (by omega)]
theorem m_back (hA : TA A) (h : MS A R H) (hI : IV A R) (hm : m = 0 ∨ m = 1) (hc : 0 ≤ H 176 0 ∧ H 176 0 ≤ 30) (h1 : 1 ≤ kk) (hk : kk + 6 ≤ 200) : ∃ H', fX10_ledgerLine_b71 (n + 1) 173 14 m (kk : Int) 6 H = some H' ∧ MS A (aE A (n29 A R).2) H' ∧ LW kk m H H' ∧ H' 176 kk = 3 ∧ H' 176 (kk + 1) = (n29 A R).1 ∧ ∀ i, 2 ≤ i → i < 6 → H' 176 (kk + i) = H 176 (kk + i) := by
  obtain ⟨b1, b2, b3, b4, b5, b6⟩ := kk_b hk
  have ex : xw (14 - 11) = 3 := by decide +kernel
  obtain ⟨H1, r1, r2, r3⟩ := m_n29 hA (h.at6 (k := kk) (v := 3)) hI
  have hI1 : IV A (n29 A R).2 := hI.n hA 0 29
  have q0 : mset H1 176 (kk + 1) (n29 A R).1 176 0 = H 176 0 := by rw [mset_ne _ _ (by omega), r3.at6, mset_ne _ _ (by omega)]
  obtain ⟨H4, w1, w2, w3, w4, w5⟩ := m_led235 hA (H := mset H1 176 (kk + 1) (n29 A R).1) (MS.at6 r2 (k := kk + 1) (v := (n29 A R).1)) hI1 hm (by rw [q0]; exact hc)
  have e71 : fX10_ledgerLine_b71 (n + 1) 173 14 m (kk : Int) 6 H = some H4 := by
    rw [fX10_ledgerLine_b71, if_pos (by decide), al176, if_pos b1, if_neg (by decide), ex, Int.toNat_natCast, show (173 + 3 : Nat) = 176 from rfl, r1, Option.bind_some, b2, if_pos b3, Int.toNat_natCast]
    exact w1
  refine ⟨H4, e71, w2, ⟨?_, w4.trans (by rw [q0]), fun k k0 k1 => ?_⟩, ?_, ?_, fun i i1 i2 => ?_⟩
  · refine kM6.tr (G := mset H1 176 (kk + 1) (n29 A R).1) ?_ w3
    intro o k a b d
    rw [mset_ne _ _ (by omega), r3 o k a b, mset_ne _ _ (by omega)]
  · rw [w5 k k0, mset_ne _ _ (by omega), r3.at6, mset_ne _ _ (by omega)]
  · rw [w5 _ (by omega), mset_ne _ _ (by omega), r3.at6, mset_eq]
  · rw [w5 _ (by omega), mset_eq]
  · rw [w5 _ (by omega), mset_ne _ _ (by omega), r3.at6, mset_ne _ _ (by omega)]
/-- the row is cleared first -/
theorem m_clear {x2 : Int} (hk : kk + 6 ≤ 200) : ∃ n H1, fX10_ledgerLine_b71 FU 173 x2 m (kk : Int) 1 H = fX10_ledgerLine_b71 (n + 1) 173 x2 m (kk : Int) 6 H1 ∧ (∀ i, 1 ≤ i → i < 6 → H1 176 (kk + i) = -1) ∧ ∀ o k, ¬ (o = 176 ∧ kk + 1 ≤ k ∧ k < kk + 6) → H1 o k = H o k := by
  have := lp (fun n j (G : Mem) => fX10_ledgerLine_b71 n 173 x2 m (kk : Int) (j : Int) G) 6 (fun j G => 1 ≤ j ∧ (∀ i, 1 ≤ i → i < j → G 176 (kk + i) = -1) ∧ ∀ o k, ¬ (o = 176 ∧ kk + 1 ≤ k ∧ k < kk + 6) → G o k = H o k) (fun r => ∃ n H1, r = fX10_ledgerLine_b71 (n + 1) 173 x2 m (kk : Int) 6 H1 ∧ (∀ i, 1 ≤ i → i < 6 → H1 176 (kk + i) = -1) ∧ ∀ o k, ¬ (o = 176 ∧ kk + 1 ≤ k ∧ k < kk + 6) → H1 o k = H o k) ?_ ?_ FU 1 H (by omega) ⟨Nat.le_refl _, fun i a b => absurd a (by omega), fun _ _ _ => rfl⟩ (FUa (by omega))
  · exact this
  · rintro n j G hj ⟨g1, g2, g3⟩
    left
    refine ⟨mset G 176 (kk + j) (-1), ⟨by omega, fun i a b => ?_, fun o k a => ?_⟩, ?_⟩
    · by_cases y : i = j
      · subst y; rw [mset_eq]
      · rw [mset_ne _ _ (by omega)]; exact g2 i a (by omega)
    · rw [mset_ne _ _ (by omega)]; exact g3 o k a
    · have ex : xw ((kk : Int) + (j : Int)) = ((kk + j : Nat) : Int) := by rw [xwn (by omega) (by omega)]; rfl
      show fX10_ledgerLine_b71 (n + 1) 173 x2 m (kk : Int) (j : Int) G = fX10_ledgerLine_b71 n 173 x2 m (kk : Int) ((j + 1 : Nat) : Int) _
      rw [fX10_ledgerLine_b71, if_neg (by omega), ex, al176, if_pos (by omega), Int.toNat_natCast, xwS (by omega)]
  · rintro n G ⟨g1, g2, g3⟩
    exact ⟨n, G, rfl, g2, g3⟩
end ROW
end THL
