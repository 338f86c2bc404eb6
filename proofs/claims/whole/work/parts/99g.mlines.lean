/-! ===== text: the reference's lines, rounds and lists ===== -/
def hdR (A : Nat → Int) (m : Int) (R : RST) : RST := if m = 0 then aNote 3 (R.1 : Int) (aAdv A R) else aAdv A R
def n1 (A : Nat → Int) (R : RST) : Int × RST := aN A 0 7 R
def n2 (A : Nat → Int) (R : RST) : Int × RST := aN A 0 47 R
def nT (A : Nat → Int) (R : RST) : Int × RST := aN A ((n2 A R).1 + 1) 48 (n2 A R).2
def kM6 (H H' : Mem) : Prop := ∀ o k, ¬ (o = 173 ∧ 3 ≤ k ∧ k ≤ 8) → ¬ (o = 174 ∧ 7 ≤ k ∧ k ≤ 8) → o ≠ 176 → H' o k = H o k
theorem kM6.tr {F G H : Mem} (h1 : kM6 F G) (h2 : kM6 G H) : kM6 F H := fun o k a b c => (h2 o k a b c).trans (h1 o k a b c)
theorem kMr.six {F G : Mem} (h : kMr F G) : kM6 F G := fun o k a b _ => h o k a b
theorem kMr.at6 {F G : Mem} (h : kMr F G) (k : Nat) : G 176 k = F 176 k := h 176 k (by omega) (by omega)
section TG
variable {A : Nat → Int} {R : RST} {H : Mem}
theorem m_n1 (hA : TA A) (h : MS A R H) (hI : IV A R) : ∃ H', fX10_numbered 173 0 7 H = some ((n1 A R).1, H') ∧ MS A (n1 A R).2 H' ∧ kMr H H' := m_numI hA h hI 0 7
theorem hdR_iv (hA : TA A) (h : IV A R) (k : tKd A R.1 = 1) (m : Int) : IV A (hdR A m R) := by
  obtain ⟨-, -, -, d⟩ := nxq_sp hA h.1
  have d2 := d (by omega)
  unfold hdR
  split
  · refine (h.adv hA).note (by decide) ?_
    show (R.1 : Int) < (nx A R.1 : Int)
    omega
  · exact h.adv hA
theorem m_hd0 (hA : TA A) {H1 : Mem} (h : MS A (aAdv A R) H1) (hI : IV A R) : ∃ H', fX10_also 173 3 (R.1 : Int) H1 = some H' ∧ MS A (hdR A 0 R) H' ∧ kMr H1 H' := by
  have e : hdR A 0 R = aNote 3 (R.1 : Int) (aAdv A R) := if_pos rfl
  rw [e]
  exact m_also hA h (fun a b => Or.inl ((hI.2.1 a).2 b))
theorem MS.at6 (h : MS A R H) {k : Nat} {v : Int} : MS A R (mset H 176 k v) := h.mono (fun j => mset_ne _ _ (by omega)) (fun j => mset_ne _ _ (by omega))
theorem m_slots3 (hA : TA A) (h : MS A R H) (hI : IV A R) {x : Nat} (hx : x + 1 < 200) {kp : Int} : ∃ H1 H', fX10_slotsTo 173 (x : Int) kp H = some H' ∧ MS A (nT A R).2 H' ∧ kMr H H1 ∧ ((kp ≠ 0 ∧ H' = mset (mset H1 176 x (n2 A R).1) 176 (x + 1) (nT A R).1) ∨ (kp = 0 ∧ H' = H1)) := m_slots2 hA h hI hx
theorem m_rndB (hA : TA A) (h : MS A R H) (hI : IV A R) {c : Nat} (hc : H 176 0 = (c : Int)) (hc2 : c < 16) : ∃ H', fX10_roundLine_b45 173 1 H = some H' ∧ MS A (aE A (nT A (n1 A R).2).2) H' ∧ kM6 H H' ∧ H' 176 0 = ((c + 1 : Nat) : Int) ∧ H' 176 (1 + 3 * c) = (n1 A R).1 ∧ H' 176 (1 + 3 * c + 1) = (n2 A (n1 A R).2).1 ∧ H' 176 (1 + 3 * c + 2) = (nT A (n1 A R).2).1 ∧ ∀ k, k ≠ 0 → (k < 1 + 3 * c ∨ 1 + 3 * c + 3 ≤ k) → H' 176 k = H 176 k := by
  obtain ⟨H1, r1, r2, r3⟩ := m_n1 hA h hI
  have hI1 : IV A (n1 A R).2 := hI.n hA 0 7
  have ex : xw (1 + xw (3 * (c : Int))) = ((1 + 3 * c : Nat) : Int) := by rw [xwn (x := 3 * (c : Int)) (by omega) (by omega), xwn (by omega) (by omega)]; omega
  obtain ⟨H2, H3, u1, u2, u3, u4⟩ := m_slots3 hA (H := mset H1 176 (1 + 3 * c) (n1 A R).1) (r2.at6 (k := 1 + 3 * c) (v := (n1 A R).1)) hI1 (x := 1 + 3 * c + 1) (by omega) (kp := 1)
  have u5 := (u4.resolve_right (fun z => absurd z.1 (by decide))).2
  have hI3 : IV A (nT A (n1 A R).2).2 := (hI1.n hA 0 47).n hA _ 48
  have q0 : H3 176 0 = (c : Int) := by
    rw [u5, mset_ne _ _ (by omega), mset_ne _ _ (by omega), u3.at6, mset_ne _ _ (by omega), r3.at6]; exact hc
  obtain ⟨H4, w1, w2, w3⟩ := m_endsLine hA (u2.at6 (k := 0) (v := ((c + 1 : Nat) : Int))) hI3.1
  refine ⟨H4, ?_, w2, ?_, ?_, ?_, ?_, ?_, fun k k0 k1 => ?_⟩
  · unfold fX10_roundLine_b45 fX10_roundLine_b61 fX10_roundLine_b85 fX10_roundLine_b111
    rw [e10, al176, if_pos (by decide), show (173 + 3 : Nat) = 176 from rfl, hc, r1, Option.bind_some]
    dsimp only
    rw [e10, ex, if_pos (by omega), Int.toNat_natCast, xwS (by omega)]
    rw [u1, Option.bind_some, if_pos (by decide), e10, if_pos (by decide), q0, xwS (by omega), w1, Option.bind_some]
  · refine kM6.tr (G := H3) ?_ (fun o k a b d => ?_)
    · intro o k a b d
      rw [u5, mset_ne _ _ (by omega), mset_ne _ _ (by omega), u3 o k a b, mset_ne _ _ (by omega), r3 o k a b]
    · rw [w3 o k a b, mset_ne _ _ (by omega)]
  · rw [w3.at6, mset_eq]
  · rw [w3.at6, mset_ne _ _ (by omega), u5, mset_ne _ _ (by omega), mset_ne _ _ (by omega), u3.at6, mset_eq]
  · rw [w3.at6, mset_ne _ _ (by omega), u5, mset_ne _ _ (by omega), mset_eq]
  · rw [w3.at6, mset_ne _ _ (by omega), u5, show 1 + 3 * c + 2 = 1 + 3 * c + 1 + 1 from rfl, mset_eq]
  · rw [w3.at6, mset_ne _ _ (by omega), u5, mset_ne _ _ (by omega), mset_ne _ _ (by omega), u3.at6, mset_ne _ _ (by omega), r3.at6]
theorem m_rndF (hA : TA A) (h : MS A R H) (hI : IV A R) (hc : 0 ≤ H 176 0 ∧ H 176 0 ≤ 16) : ∃ H', fX10_roundLine_b45 173 0 H = some H' ∧ MS A (aE A (nT A (n1 A R).2).2) H' ∧ kM6 H H' ∧ ∀ k, H' 176 k = H 176 k := by
  obtain ⟨H1, r1, r2, r3⟩ := m_n1 hA h hI
  have hI1 : IV A (n1 A R).2 := hI.n hA 0 7
  have ex : xw (xw (1 + xw (3 * 0)) + 1) = ((2 : Nat) : Int) := by decide +kernel
  obtain ⟨H2, H3, u1, u2, u3, u4⟩ := m_slots3 hA r2 hI1 (x := 2) (by omega) (kp := 0)
  have u5 := (u4.resolve_left (fun z => z.1 rfl)).2
  have hI3 : IV A (nT A (n1 A R).2).2 := (hI1.n hA 0 47).n hA _ 48
  have q0 : H3 176 0 = H 176 0 := by rw [u5, u3.at6, r3.at6]
  have q1 : xw (H3 176 0 + 0) = H 176 0 := by rw [q0, Int.add_zero, xwn (by omega) (by omega)]
  obtain ⟨H4, w1, w2, w3⟩ := m_endsLine hA (u2.at6 (k := 0) (v := H 176 0)) hI3.1
  refine ⟨H4, ?_, w2, ?_, fun k => ?_⟩
  · unfold fX10_roundLine_b45 fX10_roundLine_b61 fX10_roundLine_b85 fX10_roundLine_b111
    rw [e00, r1, Option.bind_some]
    dsimp only
    rw [e00, ex, u1, Option.bind_some, al176, if_pos (by decide), e00, if_pos (by decide), show (173 + 3 : Nat) = 176 from rfl, q1, w1, Option.bind_some]
  · refine kM6.tr (G := H3) ?_ (fun o k a b d => ?_)
    · intro o k a b d
      rw [u5, u3 o k a b, r3 o k a b]
    · rw [w3 o k a b, mset_ne _ _ (by omega)]
  · rw [w3.at6]
    by_cases y : k = 0
    · subst y; rw [mset_eq]
    · rw [mset_ne _ _ (by omega), u5, u3.at6, r3.at6]
/-- a round's line: its place in the row of numbers -/
def rowB (w b c : Nat) (d : Nat → Int) (u v : Nat → Int) : Prop := (∀ i, i < w → v (b + w * c + i) = d i) ∧ ∀ k, (k < b + w * c ∨ b + w * c + w ≤ k) → v k = u k
theorem m_rndL (hA : TA A) (h : MS A R H) (hI : IV A R) (w : R.2.1 = 0) (k : tKd A R.1 = 1) (hw : tW A R.1 = 10) {c : Nat} (hc : H 176 0 = (c : Int)) (hc2 : c ≤ 16) : ∃ H' m, fX10_roundLine 173 H = some H' ∧ MS A (aE A (nT A (n1 A (hdR A m R)).2).2) H' ∧ kM6 H H' ∧ ((m = 1 ∧ c < 16 ∧ H' 176 0 = ((c + 1 : Nat) : Int) ∧ H' 176 (1 + 3 * c) = (n1 A (hdR A m R)).1 ∧ H' 176 (1 + 3 * c + 1) = (n2 A (n1 A (hdR A m R)).2).1 ∧ H' 176 (1 + 3 * c + 2) = (nT A (n1 A (hdR A m R)).2).1 ∧ ∀ k, k ≠ 0 → (k < 1 + 3 * c ∨ 1 + 3 * c + 3 ≤ k) → H' 176 k = H 176 k) ∨ (m = 0 ∧ c = 16 ∧ ∀ k, H' 176 k = H 176 k)) := by
  obtain ⟨H1, r1, r2, r3⟩ := m_takes_ok hA h hI.1 w k (lo := 10) (hi := 10) (by omega) (by omega) (by decide)
  have h4 : H 173 4 = (R.1 : Int) := h.2.1.1
  unfold fX10_roundLine fX10_roundLine_b21
  rw [al176, if_pos (by decide), show (173 + 3 : Nat) = 176 from rfl, hc, r1, h4]
  by_cases y : c < 16
  · rw [if_neg (by omega), Option.bind_some]
    dsimp only
    rw [hw, if_neg (by decide), e11]
    have e1 : hdR A 1 R = aAdv A R := if_neg (by decide)
    rw [← e1] at r2
    obtain ⟨H', s1, s2, s3, s4, s5, s6, s7, s8⟩ := m_rndB hA r2 (hdR_iv hA hI k 1) ((r3.at6 0).trans hc) y
    exact ⟨H', 1, s1, s2, r3.six.tr s3, Or.inl ⟨rfl, y, s4, s5, s6, s7, fun k a b => (s8 k a b).trans (r3.at6 k)⟩⟩
  · rw [if_pos (by omega), Option.bind_some]
    dsimp only
    rw [hw, if_neg (by decide), e01]
    obtain ⟨H2, t1, t2, t3⟩ := m_hd0 hA r2 hI
    obtain ⟨H', s1, s2, s3, s4⟩ := m_rndF hA t2 (hdR_iv hA hI k 0) (by rw [t3.at6, r3.at6]; omega)
    rw [t1, Option.bind_some]
    exact ⟨H', 0, s1, s2, (r3.six.tr t3.six).tr s3, Or.inr ⟨rfl, by omega, fun k => (s4 k).trans ((t3.at6 k).trans (r3.at6 k))⟩⟩
/-- a list's line -/
def n99 (A : Nat → Int) (R : RST) : Int × RST := aN A 0 99 R
theorem m_n99 (hA : TA A) (h : MS A R H) (hI : IV A R) : ∃ H', fX10_numbered 173 0 99 H = some ((n99 A R).1, H') ∧ MS A (n99 A R).2 H' ∧ kMr H H' := m_numI hA h hI 0 99
theorem m_listB (hA : TA A) (h : MS A R H) (hI : IV A R) {c : Nat} (hc : H 176 0 = (c : Int)) (hc2 : c < 20) : ∃ H', fX10_listLine_b45 173 1 H = some H' ∧ MS A (aE A (n99 A (n1 A R).2).2) H' ∧ kM6 H H' ∧ H' 176 0 = ((c + 1 : Nat) : Int) ∧ H' 176 (1 + 2 * c) = (n1 A R).1 ∧ H' 176 (1 + 2 * c + 1) = (n99 A (n1 A R).2).1 ∧ ∀ k, k ≠ 0 → (k < 1 + 2 * c ∨ 1 + 2 * c + 2 ≤ k) → H' 176 k = H 176 k := by
  obtain ⟨H2, u1, u2, u3⟩ := m_n1 hA h hI
  have hI1 : IV A (n1 A R).2 := hI.n hA 0 7
  obtain ⟨H3, v1, v2, v3⟩ := m_n99 hA u2 hI1
  have hI2 : IV A (n99 A (n1 A R).2).2 := hI1.n hA 0 99
  have q0 : H3 176 0 = (c : Int) := by rw [v3.at6, u3.at6]; exact hc
  have ex : xw (1 + xw (2 * (c : Int))) = ((1 + 2 * c : Nat) : Int) := by rw [xwn (x := 2 * (c : Int)) (by omega) (by omega), xwn (by omega) (by omega)]; omega
  have ex2 : xw (2 + xw (2 * (c : Int))) = ((1 + 2 * c + 1 : Nat) : Int) := by rw [xwn (x := 2 * (c : Int)) (by omega) (by omega), xwn (by omega) (by omega)]; omega
  have q1 : ∀ x, mset H3 176 (1 + 2 * c) x 176 0 = (c : Int) := fun x => by rw [mset_ne _ _ (by omega)]; exact q0
  have q2 : ∀ x z, mset (mset H3 176 (1 + 2 * c) x) 176 (1 + 2 * c + 1) z 176 0 = (c : Int) := fun x z => by rw [mset_ne _ _ (by omega)]; exact q1 x
  obtain ⟨H4, w1, w2, w3⟩ := m_endsLine hA (((MS.at6 v2 (k := 1 + 2 * c) (v := (n1 A R).1)).at6 (k := 1 + 2 * c + 1) (v := (n99 A (n1 A R).2).1)).at6 (k := 0) (v := ((c + 1 : Nat) : Int))) hI2.1
  refine ⟨H4, ?_, w2, ?_, ?_, ?_, ?_, fun k k0 k1 => ?_⟩
  · unfold fX10_listLine_b45 fX10_listLine_b109
    rw [u1, Option.bind_some]
    dsimp only
    rw [v1, Option.bind_some, e10, al176, if_pos (by decide), show (173 + 3 : Nat) = 176 from rfl]
    dsimp only
    rw [if_pos (by rw [q0, ex]; omega), if_pos (by decide), if_pos (by rw [q0, ex, Int.toNat_natCast, q1, ex2]; omega), if_pos (by decide), if_pos (by decide), q0, ex, Int.toNat_natCast, q1, ex2, Int.toNat_natCast, q2, xwS (by omega), w1, Option.bind_some]
  · refine kM6.tr (G := H3) ((u3.tr v3).six) (fun o k a b d => ?_)
    rw [w3 o k a b, mset_ne _ _ (by omega), mset_ne _ _ (by omega), mset_ne _ _ (by omega)]
  · rw [w3.at6, mset_eq]
  · rw [w3.at6, mset_ne _ _ (by omega), mset_ne _ _ (by omega), mset_eq]
  · rw [w3.at6, mset_ne _ _ (by omega), mset_eq]
  · rw [w3.at6, mset_ne _ _ (by omega), mset_ne _ _ (by omega), mset_ne _ _ (by omega), v3.at6, u3.at6]
theorem m_list (hA : TA A) (h : MS A R H) (hI : IV A R) (w : R.2.1 = 0) (k : tKd A R.1 = 1) (hw : tW A R.1 = 17) {c : Nat} (hc : H 176 0 = (c : Int)) (hc2 : c ≤ 20) : ∃ H' m, fX10_listLine 173 H = some H' ∧ MS A (aE A (n99 A (n1 A (hdR A m R)).2).2) H' ∧ kM6 H H' ∧ ((m = 1 ∧ c < 20 ∧ H' 176 0 = ((c + 1 : Nat) : Int) ∧ H' 176 (1 + 2 * c) = (n1 A (hdR A m R)).1 ∧ H' 176 (1 + 2 * c + 1) = (n99 A (n1 A (hdR A m R)).2).1 ∧ ∀ k, k ≠ 0 → (k < 1 + 2 * c ∨ 1 + 2 * c + 2 ≤ k) → H' 176 k = H 176 k) ∨ (m = 0 ∧ c = 20 ∧ ∀ k, H' 176 k = H 176 k)) := by
  obtain ⟨H1, r1, r2, r3⟩ := m_takes_ok hA h hI.1 w k (lo := 17) (hi := 17) (by omega) (by omega) (by decide)
  have h4 : H 173 4 = (R.1 : Int) := h.2.1.1
  have hc1 : H1 176 0 = (c : Int) := (r3.at6 0).trans hc
  unfold fX10_listLine fX10_listLine_b34
  rw [r1, Option.bind_some, h4]
  dsimp only
  rw [hw, if_neg (by decide), al176, if_pos (by decide), show (173 + 3 : Nat) = 176 from rfl]
  by_cases y : c < 20
  · rw [if_neg (by rw [hc1]; omega), e11]
    have e1 : hdR A 1 R = aAdv A R := if_neg (by decide)
    rw [← e1] at r2
    obtain ⟨H', s1, s2, s3, s4, s5, s6, s8⟩ := m_listB hA r2 (hdR_iv hA hI k 1) hc1 y
    exact ⟨H', 1, s1, s2, r3.six.tr s3, Or.inl ⟨rfl, y, s4, s5, s6, fun k a b => (s8 k a b).trans (r3.at6 k)⟩⟩
  · rw [if_pos (by rw [hc1]; omega), e01]
    obtain ⟨H2, t1, t2, t3⟩ := m_hd0 hA r2 hI
    have hI0 := hdR_iv hA hI k 0
    obtain ⟨H3, u1, u2, u3⟩ := m_n1 hA t2 hI0
    have hI1 : IV A (n1 A (hdR A 0 R)).2 := hI0.n hA 0 7
    obtain ⟨H4, v1, v2, v3⟩ := m_n99 hA u2 hI1
    have hI2 : IV A (n99 A (n1 A (hdR A 0 R)).2).2 := hI1.n hA 0 99
    obtain ⟨H5, w1, w2, w3⟩ := m_endsLine hA v2 hI2.1
    refine ⟨H5, 0, ?_, w2, (((r3.tr t3).tr u3).tr (v3.tr w3)).six, Or.inr ⟨rfl, by omega, fun k => (((r3.tr t3).tr u3).tr (v3.tr w3)).at6 k⟩⟩
    unfold fX10_listLine_b45 fX10_listLine_b109
    rw [t1, Option.bind_some, u1, Option.bind_some]
    dsimp only
    rw [v1, Option.bind_some, e00, w1, Option.bind_some]
end TG
