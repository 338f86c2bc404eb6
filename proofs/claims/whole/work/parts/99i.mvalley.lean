/-! ===== text: the reference's lines, valleys ===== -/
def nS (A : Nat → Int) (R : RST) : Int × RST := aN A 1 48 R
def nP (A : Nat → Int) (R : RST) : Int × RST := aN A 1 99 R
def n9 (A : Nat → Int) (R : RST) : Int × RST := aN A 0 9 R
section TV1
variable {A : Nat → Int} {R : RST} {H : Mem}
theorem m_nS (hA : TA A) (h : MS A R H) (hI : IV A R) : ∃ H', fX10_numbered 173 1 48 H = some ((nS A R).1, H') ∧ MS A (nS A R).2 H' ∧ kMr H H' := m_numI hA h hI 1 48
theorem m_nP (hA : TA A) (h : MS A R H) (hI : IV A R) : ∃ H', fX10_numbered 173 1 99 H = some ((nP A R).1, H') ∧ MS A (nP A R).2 H' ∧ kMr H H' := m_numI hA h hI 1 99
theorem m_n9 (hA : TA A) (h : MS A R H) (hI : IV A R) : ∃ H', fX10_numbered 173 0 9 H = some ((n9 A R).1, H') ∧ MS A (n9 A R).2 H' ∧ kMr H H' := m_numI hA h hI 0 9
theorem m_v202 (hA : TA A) (h : MS A R H) (hI : IV A R) : ∃ H', fX10_valleyLine_b202 173 H = some H' ∧ MS A (aE A R) H' ∧ kMr H H' := by
  obtain ⟨H4, w1, w2, w3⟩ := m_endsLine hA h hI.1
  unfold fX10_valleyLine_b202
  rw [w1, Option.bind_some]
  exact ⟨H4, rfl, w2, w3⟩
theorem v96 {x y : Int} (h : x ≠ 9) : fX10_valleyLine_b96 173 y x H = fX10_valleyLine_b202 173 H := by unfold fX10_valleyLine_b96; rw [if_pos h]
theorem v78 {x y : Int} (h : x ≠ 9) (h2 : x < 5 ∨ 8 < x) : fX10_valleyLine_b78 173 y x H = fX10_valleyLine_b202 173 H := by unfold fX10_valleyLine_b78; rw [m_isIn, i10, if_neg (by omega), v96 h]
theorem v78m {y : Int} : fX10_valleyLine_b78 173 y 9 H = fX10_valleyLine_b96 173 y 9 H := by unfold fX10_valleyLine_b78; rw [m_isIn, i10, if_neg (by omega)]
theorem v60 {x y : Int} (h : x ≠ 4) : fX10_valleyLine_b60 173 y x H = fX10_valleyLine_b78 173 y x H := by unfold fX10_valleyLine_b60; rw [if_pos h]
theorem v49 {x y : Int} (h : x ≠ 3) : fX10_valleyLine_b49 173 y x H = fX10_valleyLine_b60 173 y x H := by unfold fX10_valleyLine_b49; rw [if_pos h]
theorem v31 {x y : Int} (h : x ≠ 2) : fX10_valleyLine_b31 173 y x H = fX10_valleyLine_b49 173 y x H := by unfold fX10_valleyLine_b31; rw [if_pos h]
/-- one number, kept at a place -/
theorem m_one (hA : TA A) {v : Int} {x : Nat} {R' : RST} {H1 : Mem} (r2 : MS A R' H1) (hI : IV A R') (r3 : kMr H H1) : ∃ H', fX10_valleyLine_b202 173 (mset H1 176 x v) = some H' ∧ MS A (aE A R') H' ∧ kM6 H H' ∧ H' 176 x = v ∧ ∀ k, k ≠ x → H' 176 k = H 176 k := by
  obtain ⟨H4, w1, w2, w3⟩ := m_v202 hA (r2.at6 (k := x) (v := v)) hI
  refine ⟨H4, w1, w2, fun o k a b d => ?_, ?_, fun k hk => ?_⟩
  · rw [w3 o k a b, mset_ne _ _ (by omega), r3 o k a b]
  · rw [w3.at6, mset_eq]
  · rw [w3.at6, mset_ne _ _ (by omega), r3.at6]
theorem m_vslots (hA : TA A) (h : MS A R H) (hI : IV A R) (w : R.2.1 = 0) (k : tKd A R.1 = 1) (hw : tW A R.1 = 1) : ∃ H', fX10_valleyLine 173 H = some H' ∧ MS A (aE A (nS A (aAdv A R)).2) H' ∧ kM6 H H' ∧ H' 176 0 = (nS A (aAdv A R)).1 ∧ ∀ k, k ≠ 0 → H' 176 k = H 176 k := by
  obtain ⟨H1, r1, r2, r3⟩ := m_takes_ok hA h hI.1 w k (lo := 1) (hi := 9) (by omega) (by omega) (by decide)
  obtain ⟨H2, u1, u2, u3⟩ := m_nS hA r2 (hI.adv hA)
  have hI2 : IV A (nS A (aAdv A R)).2 := (hI.adv hA).n hA 1 48
  unfold fX10_valleyLine
  rw [r1, Option.bind_some]
  dsimp only
  rw [hw, if_neg (by decide), u1, Option.bind_some, al176, if_pos (by decide), v31 (by decide), v49 (by decide), v60 (by decide), v78 (by decide) (by decide)]
  exact m_one hA u2 hI2 (r3.tr u3)
theorem m_vpace (hA : TA A) (h : MS A R H) (hI : IV A R) (w : R.2.1 = 0) (k : tKd A R.1 = 1) (hw : tW A R.1 = 2) : ∃ H', fX10_valleyLine 173 H = some H' ∧ MS A (aE A (nP A (aAdv A R)).2) H' ∧ kM6 H H' ∧ H' 176 1 = (nP A (aAdv A R)).1 ∧ ∀ k, k ≠ 1 → H' 176 k = H 176 k := by
  obtain ⟨H1, r1, r2, r3⟩ := m_takes_ok hA h hI.1 w k (lo := 1) (hi := 9) (by omega) (by omega) (by decide)
  obtain ⟨H2, u1, u2, u3⟩ := m_nP hA r2 (hI.adv hA)
  have hI2 : IV A (nP A (aAdv A R)).2 := (hI.adv hA).n hA 1 99
  unfold fX10_valleyLine fX10_valleyLine_b31
  rw [r1, Option.bind_some]
  dsimp only
  rw [hw, if_pos (by decide), if_neg (by decide), u1, Option.bind_some, al176, if_pos (by decide), v49 (by decide), v60 (by decide), v78 (by decide) (by decide)]
  exact m_one hA u2 hI2 (r3.tr u3)
theorem m_vstart (hA : TA A) (h : MS A R H) (hI : IV A R) (w : R.2.1 = 0) (k : tKd A R.1 = 1) (hw : tW A R.1 = 4) : ∃ H', fX10_valleyLine 173 H = some H' ∧ MS A (aE A (n1 A (aAdv A R)).2) H' ∧ kM6 H H' ∧ H' 176 4 = (n1 A (aAdv A R)).1 ∧ ∀ k, k ≠ 4 → H' 176 k = H 176 k := by
  obtain ⟨H1, r1, r2, r3⟩ := m_takes_ok hA h hI.1 w k (lo := 1) (hi := 9) (by omega) (by omega) (by decide)
  obtain ⟨H2, u1, u2, u3⟩ := m_n1 hA r2 (hI.adv hA)
  have hI2 : IV A (n1 A (aAdv A R)).2 := (hI.adv hA).n hA 0 7
  unfold fX10_valleyLine
  rw [r1, Option.bind_some]
  dsimp only
  rw [hw, if_pos (by decide), v31 (by decide), v49 (by decide)]
  unfold fX10_valleyLine_b60
  rw [if_neg (by decide), u1, Option.bind_some, al176, if_pos (by decide), v78 (by decide) (by decide)]
  exact m_one hA u2 hI2 (r3.tr u3)
theorem m_vlight (hA : TA A) (h : MS A R H) (hI : IV A R) (w : R.2.1 = 0) (k : tKd A R.1 = 1) (hw : tW A R.1 = 3) : ∃ H', fX10_valleyLine 173 H = some H' ∧ MS A (aE A (nT A (aAdv A R)).2) H' ∧ kM6 H H' ∧ H' 176 2 = (n2 A (aAdv A R)).1 ∧ H' 176 3 = (nT A (aAdv A R)).1 ∧ ∀ k, k ≠ 2 → k ≠ 3 → H' 176 k = H 176 k := by
  obtain ⟨H1, r1, r2, r3⟩ := m_takes_ok hA h hI.1 w k (lo := 1) (hi := 9) (by omega) (by omega) (by decide)
  have hI1 := hI.adv hA
  obtain ⟨H2, H3, u1, u2, u3, u4⟩ := m_slots3 hA r2 hI1 (x := 2) (by omega) (kp := 1)
  have u5 := (u4.resolve_right (fun z => absurd z.1 (by decide))).2
  have hI3 : IV A (nT A (aAdv A R)).2 := (hI1.n hA 0 47).n hA _ 48
  obtain ⟨H4, w1, w2, w3⟩ := m_v202 hA u2 hI3
  have u1b : fX10_slotsTo 173 2 1 H1 = some H3 := u1
  unfold fX10_valleyLine
  rw [r1, Option.bind_some]
  dsimp only
  rw [hw, if_pos (by decide), v31 (by decide)]
  unfold fX10_valleyLine_b49
  rw [if_neg (by decide), u1b, Option.bind_some, v60 (by decide), v78 (by decide) (by decide)]
  refine ⟨H4, w1, w2, fun o k a b d => ?_, ?_, ?_, fun k k1 k2 => ?_⟩
  · rw [w3 o k a b, u5, mset_ne _ _ (by omega), mset_ne _ _ (by omega), u3 o k a b, r3 o k a b]
  · rw [w3.at6, u5, mset_ne _ _ (by omega), mset_eq]
  · rw [w3.at6, u5, show (3 : Nat) = 2 + 1 from rfl, mset_eq]
  · rw [w3.at6, u5, mset_ne _ _ (by omega), mset_ne _ _ (by omega), u3.at6, r3.at6]
theorem m_vhouseB (hA : TA A) (h : MS A R H) (hI : IV A R) {c : Nat} (hc : H 176 5 = (c : Int)) (hc2 : c < 8) (kd : Int) : ∃ H', fX10_houseLine_b27 173 kd 1 H = some H' ∧ MS A (n9 A (n9 A (n99 A R).2).2).2 H' ∧ kM6 H H' ∧ H' 176 5 = ((c + 1 : Nat) : Int) ∧ H' 176 (8 + 4 * c) = (n99 A R).1 ∧ H' 176 (8 + 4 * c + 1) = kd ∧ H' 176 (8 + 4 * c + 2) = (n9 A (n99 A R).2).1 ∧ H' 176 (8 + 4 * c + 3) = (n9 A (n9 A (n99 A R).2).2).1 ∧ ∀ k, k ≠ 5 → (k < 8 + 4 * c ∨ 8 + 4 * c + 4 ≤ k) → H' 176 k = H 176 k := by
  obtain ⟨H1, r1, r2, r3⟩ := m_n99 hA h hI
  have hI1 : IV A (n99 A R).2 := hI.n hA 0 99
  obtain ⟨H2, s1, s2, s3⟩ := m_n9 hA r2 hI1
  have hI2 : IV A (n9 A (n99 A R).2).2 := hI1.n hA 0 9
  obtain ⟨H3, t1, t2, t3⟩ := m_n9 hA s2 hI2
  have q0 : H3 176 5 = (c : Int) := by rw [t3.at6, s3.at6, r3.at6]; exact hc
  have e0 : xw (8 + xw (4 * (c : Int))) = ((8 + 4 * c : Nat) : Int) := by rw [xwn (x := 4 * (c : Int)) (by omega) (by omega), xwn (by omega) (by omega)]; omega
  have e1 : xw (((8 + 4 * c : Nat) : Int) + 1) = ((8 + 4 * c + 1 : Nat) : Int) := xwS (by omega)
  have e2 : xw (((8 + 4 * c : Nat) : Int) + 2) = ((8 + 4 * c + 2 : Nat) : Int) := by rw [xwn (by omega) (by omega)]; rfl
  have e3 : xw (((8 + 4 * c : Nat) : Int) + 3) = ((8 + 4 * c + 3 : Nat) : Int) := by rw [xwn (by omega) (by omega)]; rfl
  have b5 : (0 : Int) ≤ 5 ∧ (5 : Int) < ((200 : Nat) : Int) := by decide
  have q1 : mset (mset (mset (mset H3 176 (8 + 4 * c) (n99 A R).1) 176 (8 + 4 * c + 1) kd) 176 (8 + 4 * c + 2) (n9 A (n99 A R).2).1) 176 (8 + 4 * c + 3) (n9 A (n9 A (n99 A R).2).2).1 176 5 = (c : Int) := by
    rw [mset_ne _ _ (by omega), mset_ne _ _ (by omega), mset_ne _ _ (by omega), mset_ne _ _ (by omega)]; exact q0
  have g2 : MS A (n9 A (n9 A (n99 A R).2).2).2 H3 := t2
  refine ⟨mset (mset (mset (mset (mset H3 176 (8 + 4 * c) (n99 A R).1) 176 (8 + 4 * c + 1) kd) 176 (8 + 4 * c + 2) (n9 A (n99 A R).2).1) 176 (8 + 4 * c + 3) (n9 A (n9 A (n99 A R).2).2).1) 176 5 ((c + 1 : Nat) : Int), ?_, ((((g2.at6).at6).at6).at6).at6, fun o k a b d => ?_, ?_, ?_, ?_, ?_, ?_, fun k k0 k1 => ?_⟩
  · unfold fX10_houseLine_b27
    rw [r1, Option.bind_some]
    dsimp only
    rw [s1, Option.bind_some]
    dsimp only
    rw [t1, Option.bind_some, e11, al176, if_pos b5, show (173 + 3 : Nat) = 176 from rfl]
    dsimp only
    rw [if_pos (by rw [q0, e0]; omega), if_pos (by rw [q0, e0, e1]; omega), if_pos (by rw [q0, e0, e2]; omega), if_pos (by rw [q0, e0, e3]; omega), if_pos b5, if_pos b5, q0, e0, e1, e2, e3, Int.toNat_natCast, Int.toNat_natCast, Int.toNat_natCast, Int.toNat_natCast, q1, xwS (by omega)]
  · rw [mset_ne _ _ (by omega), mset_ne _ _ (by omega), mset_ne _ _ (by omega), mset_ne _ _ (by omega), mset_ne _ _ (by omega), t3 o k a b, s3 o k a b, r3 o k a b]
  · rw [mset_eq]
  · rw [mset_ne _ _ (by omega), mset_ne _ _ (by omega), mset_ne _ _ (by omega), mset_ne _ _ (by omega), mset_eq]
  · rw [mset_ne _ _ (by omega), mset_ne _ _ (by omega), mset_ne _ _ (by omega), mset_eq]
  · rw [mset_ne _ _ (by omega), mset_ne _ _ (by omega), mset_eq]
  · rw [mset_ne _ _ (by omega), mset_eq]
  · rw [mset_ne _ _ (by omega), mset_ne _ _ (by omega), mset_ne _ _ (by omega), mset_ne _ _ (by omega), mset_ne _ _ (by omega), t3.at6, s3.at6, r3.at6]
theorem m_vhouse (hA : TA A) (h : MS A R H) (hI : IV A R) (w : R.2.1 = 0) (k : tKd A R.1 = 1) {kd : Int} (hw : tW A R.1 = kd + 5) (hkd : 0 ≤ kd ∧ kd ≤ 3) {c : Nat} (hc : H 176 5 = (c : Int)) (hc2 : c ≤ 8) : ∃ H' m, fX10_valleyLine 173 H = some H' ∧ MS A (aE A (n9 A (n9 A (n99 A (hdR A m R)).2).2).2) H' ∧ kM6 H H' ∧ ((m = 1 ∧ c < 8 ∧ H' 176 5 = ((c + 1 : Nat) : Int) ∧ H' 176 (8 + 4 * c) = (n99 A (hdR A m R)).1 ∧ H' 176 (8 + 4 * c + 1) = kd ∧ H' 176 (8 + 4 * c + 2) = (n9 A (n99 A (hdR A m R)).2).1 ∧ H' 176 (8 + 4 * c + 3) = (n9 A (n9 A (n99 A (hdR A m R)).2).2).1 ∧ ∀ k, k ≠ 5 → (k < 8 + 4 * c ∨ 8 + 4 * c + 4 ≤ k) → H' 176 k = H 176 k) ∨ (m = 0 ∧ c = 8 ∧ ∀ k, H' 176 k = H 176 k)) := by
  obtain ⟨H1, r1, r2, r3⟩ := m_takes_ok hA h hI.1 w k (lo := 1) (hi := 9) (by omega) (by omega) (by decide)
  have h4 : H 173 4 = (R.1 : Int) := h.2.1.1
  have hc1 : H1 176 5 = (c : Int) := (r3.at6 5).trans hc
  have ek : xw (kd + 5 - 5) = kd := by rw [xwn (by omega) (by omega)]; omega
  unfold fX10_valleyLine
  rw [r1, Option.bind_some, h4]
  dsimp only
  rw [hw, if_pos (by omega), v31 (by omega), v49 (by omega), v60 (by omega)]
  unfold fX10_valleyLine_b78 fX10_houseLine fX10_houseLine_b16
  rw [m_isIn, i10, if_pos (by omega), ek, al176, if_pos (by decide), show (173 + 3 : Nat) = 176 from rfl, hc1, e11, e01]
  by_cases y : c < 8
  · have e1 : hdR A 1 R = aAdv A R := if_neg (by decide)
    have hI0 := hdR_iv hA hI k 1
    rw [← e1] at r2
    obtain ⟨H2, s1, s2, s3, s4, s5, s6, s7, s8, s9⟩ := m_vhouseB hA r2 hI0 hc1 y kd
    have hI2 : IV A (n9 A (n9 A (n99 A (hdR A 1 R)).2).2).2 := ((hI0.n hA 0 99).n hA 0 9).n hA 0 9
    obtain ⟨H4, w1, w2, w3⟩ := m_v202 hA s2 hI2
    refine ⟨H4, 1, ?_, w2, (r3.six.tr s3).tr w3.six, Or.inl ⟨rfl, y, (w3.at6 _).trans s4, (w3.at6 _).trans s5, (w3.at6 _).trans s6, (w3.at6 _).trans s7, (w3.at6 _).trans s8, fun k a b => (w3.at6 _).trans ((s9 k a b).trans (r3.at6 k))⟩⟩
    rw [if_neg (by omega), s1, Option.bind_some, v96 (by omega), w1]
  · obtain ⟨H2, t1, t2, t3⟩ := m_hd0 hA r2 hI
    have hI0 := hdR_iv hA hI k 0
    obtain ⟨H3, u1, u2, u3⟩ := m_n99 hA t2 hI0
    have hI1 : IV A (n99 A (hdR A 0 R)).2 := hI0.n hA 0 99
    obtain ⟨H4, v1, v2, v3⟩ := m_n9 hA u2 hI1
    have hI2 : IV A (n9 A (n99 A (hdR A 0 R)).2).2 := hI1.n hA 0 9
    obtain ⟨H5, x1, x2, x3⟩ := m_n9 hA v2 hI2
    have hI3 : IV A (n9 A (n9 A (n99 A (hdR A 0 R)).2).2).2 := hI2.n hA 0 9
    obtain ⟨H6, w1, w2, w3⟩ := m_v202 hA x2 hI3
    have fr := ((((r3.tr t3).tr u3).tr v3).tr x3).tr w3
    refine ⟨H6, 0, ?_, w2, fr.six, Or.inr ⟨rfl, by omega, fun k => fr.at6 k⟩⟩
    unfold fX10_houseLine_b27
    rw [if_pos (by omega), t1, Option.bind_some, u1, Option.bind_some]
    dsimp only
    rw [v1, Option.bind_some]
    dsimp only
    rw [x1, Option.bind_some, e01, Option.bind_some, v96 (by omega), w1]
theorem m_vmustB (hA : TA A) (h : MS A R H) (hI : IV A R) {c : Nat} (hc : H 176 6 = (c : Int)) (hc2 : c < 6) : ∃ H', fX10_valleyLine_b130 173 1 H = some H' ∧ MS A (aE A (nT A (n1 A R).2).2) H' ∧ kM6 H H' ∧ H' 176 6 = ((c + 1 : Nat) : Int) ∧ H' 176 (40 + 3 * c) = (n1 A R).1 ∧ H' 176 (40 + 3 * c + 1) = (n2 A (n1 A R).2).1 ∧ H' 176 (40 + 3 * c + 2) = (nT A (n1 A R).2).1 ∧ ∀ k, k ≠ 6 → (k < 40 + 3 * c ∨ 40 + 3 * c + 3 ≤ k) → H' 176 k = H 176 k := by
  obtain ⟨H1, r1, r2, r3⟩ := m_n1 hA h hI
  have hI1 : IV A (n1 A R).2 := hI.n hA 0 7
  have ex : xw (40 + xw (3 * (c : Int))) = ((40 + 3 * c : Nat) : Int) := by rw [xwn (x := 3 * (c : Int)) (by omega) (by omega), xwn (by omega) (by omega)]; omega
  obtain ⟨H2, H3, u1, u2, u3, u4⟩ := m_slots3 hA (H := mset H1 176 (40 + 3 * c) (n1 A R).1) (MS.at6 r2 (k := 40 + 3 * c) (v := (n1 A R).1)) hI1 (x := 40 + 3 * c + 1) (by omega) (kp := 1)
  have u5 := (u4.resolve_right (fun z => absurd z.1 (by decide))).2
  have hI3 : IV A (nT A (n1 A R).2).2 := (hI1.n hA 0 47).n hA _ 48
  have q0 : H3 176 6 = (c : Int) := by
    rw [u5, mset_ne _ _ (by omega), mset_ne _ _ (by omega), u3.at6, mset_ne _ _ (by omega), r3.at6]; exact hc
  obtain ⟨H4, w1, w2, w3⟩ := m_v202 hA (u2.at6 (k := 6) (v := ((c + 1 : Nat) : Int))) hI3
  refine ⟨H4, ?_, w2, ?_, ?_, ?_, ?_, ?_, fun k k0 k1 => ?_⟩
  · unfold fX10_valleyLine_b130 fX10_valleyLine_b148 fX10_valleyLine_b174
    rw [e10, al176, if_pos (by decide), show (173 + 3 : Nat) = 176 from rfl, hc, r1, Option.bind_some]
    dsimp only
    rw [e10, ex, if_pos (by omega), Int.toNat_natCast, xwS (by omega), u1, Option.bind_some, if_pos (by decide), e10, if_pos (by decide), q0, xwS (by omega), w1]
  · refine kM6.tr (G := H3) ?_ (fun o k a b d => ?_)
    · intro o k a b d
      rw [u5, mset_ne _ _ (by omega), mset_ne _ _ (by omega), u3 o k a b, mset_ne _ _ (by omega), r3 o k a b]
    · rw [w3 o k a b, mset_ne _ _ (by omega)]
  · rw [w3.at6, mset_eq]
  · rw [w3.at6, mset_ne _ _ (by omega), u5, mset_ne _ _ (by omega), mset_ne _ _ (by omega), u3.at6, mset_eq]
  · rw [w3.at6, mset_ne _ _ (by omega), u5, mset_ne _ _ (by omega), mset_eq]
  · rw [w3.at6, mset_ne _ _ (by omega), u5, show 40 + 3 * c + 2 = 40 + 3 * c + 1 + 1 from rfl, mset_eq]
  · rw [w3.at6, mset_ne _ _ (by omega), u5, mset_ne _ _ (by omega), mset_ne _ _ (by omega), u3.at6, mset_ne _ _ (by omega), r3.at6]
theorem m_vmustF (hA : TA A) (h : MS A R H) (hI : IV A R) (hc : 0 ≤ H 176 6 ∧ H 176 6 ≤ 6) : ∃ H', fX10_valleyLine_b130 173 0 H = some H' ∧ MS A (aE A (nT A (n1 A R).2).2) H' ∧ kM6 H H' ∧ ∀ k, H' 176 k = H 176 k := by
  obtain ⟨H1, r1, r2, r3⟩ := m_n1 hA h hI
  have hI1 : IV A (n1 A R).2 := hI.n hA 0 7
  have ex : xw (xw (40 + xw (3 * 0)) + 1) = ((41 : Nat) : Int) := by decide +kernel
  obtain ⟨H2, H3, u1, u2, u3, u4⟩ := m_slots3 hA r2 hI1 (x := 41) (by omega) (kp := 0)
  have u5 := (u4.resolve_left (fun z => z.1 rfl)).2
  have hI3 : IV A (nT A (n1 A R).2).2 := (hI1.n hA 0 47).n hA _ 48
  have q0 : H3 176 6 = H 176 6 := by rw [u5, u3.at6, r3.at6]
  have q1 : xw (H3 176 6 + 0) = H 176 6 := by rw [q0, Int.add_zero, xwn (by omega) (by omega)]
  obtain ⟨H4, w1, w2, w3⟩ := m_v202 hA (u2.at6 (k := 6) (v := H 176 6)) hI3
  refine ⟨H4, ?_, w2, ?_, fun k => ?_⟩
  · unfold fX10_valleyLine_b130 fX10_valleyLine_b148 fX10_valleyLine_b174
    rw [e00, r1, Option.bind_some]
    dsimp only
    rw [e00, ex, u1, Option.bind_some, al176, if_pos (by decide), e00, if_pos (by decide), show (173 + 3 : Nat) = 176 from rfl, q1, w1]
  · refine kM6.tr (G := H3) ?_ (fun o k a b d => ?_)
    · intro o k a b d
      rw [u5, u3 o k a b, r3 o k a b]
    · rw [w3 o k a b, mset_ne _ _ (by omega)]
  · rw [w3.at6]
    by_cases y : k = 6
    · subst y; rw [mset_eq]
    · rw [mset_ne _ _ (by omega), u5, u3.at6, r3.at6]
theorem m_vmust (hA : TA A) (h : MS A R H) (hI : IV A R) (w : R.2.1 = 0) (k : tKd A R.1 = 1) (hw : tW A R.1 = 9) {c : Nat} (hc : H 176 6 = (c : Int)) (hc2 : c ≤ 6) : ∃ H' m, fX10_valleyLine 173 H = some H' ∧ MS A (aE A (nT A (n1 A (hdR A m R)).2).2) H' ∧ kM6 H H' ∧ ((m = 1 ∧ c < 6 ∧ H' 176 6 = ((c + 1 : Nat) : Int) ∧ H' 176 (40 + 3 * c) = (n1 A (hdR A m R)).1 ∧ H' 176 (40 + 3 * c + 1) = (n2 A (n1 A (hdR A m R)).2).1 ∧ H' 176 (40 + 3 * c + 2) = (nT A (n1 A (hdR A m R)).2).1 ∧ ∀ k, k ≠ 6 → (k < 40 + 3 * c ∨ 40 + 3 * c + 3 ≤ k) → H' 176 k = H 176 k) ∨ (m = 0 ∧ c = 6 ∧ ∀ k, H' 176 k = H 176 k)) := by
  obtain ⟨H1, r1, r2, r3⟩ := m_takes_ok hA h hI.1 w k (lo := 1) (hi := 9) (by omega) (by omega) (by decide)
  have h4 : H 173 4 = (R.1 : Int) := h.2.1.1
  have hc1 : H1 176 6 = (c : Int) := (r3.at6 6).trans hc
  unfold fX10_valleyLine
  rw [r1, Option.bind_some, h4]
  dsimp only
  rw [hw, if_pos (by decide), v31 (by decide), v49 (by decide), v60 (by decide), v78m]
  unfold fX10_valleyLine_b96 fX10_valleyLine_b119
  rw [if_neg (by decide), al176, if_pos (by decide), show (173 + 3 : Nat) = 176 from rfl, hc1, e11, e01]
  by_cases y : c < 6
  · rw [if_neg (by omega)]
    have e1 : hdR A 1 R = aAdv A R := if_neg (by decide)
    rw [← e1] at r2
    obtain ⟨H', s1, s2, s3, s4, s5, s6, s7, s8⟩ := m_vmustB hA r2 (hdR_iv hA hI k 1) hc1 y
    exact ⟨H', 1, s1, s2, r3.six.tr s3, Or.inl ⟨rfl, y, s4, s5, s6, s7, fun k a b => (s8 k a b).trans (r3.at6 k)⟩⟩
  · rw [if_pos (by omega)]
    obtain ⟨H2, t1, t2, t3⟩ := m_hd0 hA r2 hI
    obtain ⟨H', s1, s2, s3, s4⟩ := m_vmustF hA t2 (hdR_iv hA hI k 0) (by rw [t3.at6]; omega)
    rw [t1, Option.bind_some]
    exact ⟨H', 0, s1, s2, (r3.six.tr t3.six).tr s3, Or.inr ⟨rfl, by omega, fun k => (s4 k).trans ((t3.at6 k).trans (r3.at6 k))⟩⟩
end TV1
