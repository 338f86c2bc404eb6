/-! ===== text: a reading as numbers: the token's place, wrong, the fault, its place ===== -/
abbrev RST := Nat × Int × Int × Int
def aAdv (A : Nat → Int) (R : RST) : RST := (nx A R.1, R.2)
def aEnds (R : RST) : RST := if R.2.1 = 0 then (R.1, 1, 1, (R.1 : Int)) else R
def aNote (k y : Int) (R : RST) : RST := if R.2.1 = 0 ∧ R.2.2.1 = 0 then (R.1, R.2.1, k, y) else R
def aN (A : Nat → Int) (lo hi : Int) (R : RST) : Int × RST := if R.2.1 = 0 ∧ tKd A R.1 = 2 then (if lo ≤ tV A R.1 ∧ tV A R.1 ≤ hi then (tV A R.1, aAdv A R) else (lo, aAdv A (aNote 2 (R.1 : Int) R))) else (lo, aEnds R)
def aE (A : Nat → Int) (R : RST) : RST := if R.2.1 = 0 ∧ tKd A R.1 = 3 then aAdv A R else aEnds R
/-- what holds of a reading -/
def IV (A : Nat → Int) (R : RST) : Prop := R.1 ≤ tN A ∧ (R.2.1 = 0 → R.2.2.1 ≠ 1 ∧ (R.2.2.1 ≠ 0 → R.2.2.2 < (R.1 : Int))) ∧ (R.2.1 ≠ 0 → R.2.2.1 = 1)
def MS (A : Nat → Int) (R : RST) (H : Mem) : Prop := MM A H ∧ MT A R.1 H ∧ H 173 8 = R.2.1 ∧ H 174 7 = R.2.2.1 ∧ H 174 8 = R.2.2.2
def kMr (H H' : Mem) : Prop := ∀ o k, ¬ (o = 173 ∧ 3 ≤ k ∧ k ≤ 8) → ¬ (o = 174 ∧ 7 ≤ k ∧ k ≤ 8) → H' o k = H o k
theorem kMr.rf (H : Mem) : kMr H H := fun _ _ _ _ => rfl
theorem kMr.tr {F G H : Mem} (h1 : kMr F G) (h2 : kMr G H) : kMr F H := fun o k a b => (h2 o k a b).trans (h1 o k a b)
theorem aEnds_w {R : RST} (h : R.2.1 ≠ 0) : aEnds R = R := if_neg h
theorem aNote_w {k y : Int} {R : RST} (h : R.2.1 ≠ 0) : aNote k y R = R := if_neg (fun z => h z.1)
theorem aN_w {A : Nat → Int} {lo hi : Int} {R : RST} (h : R.2.1 ≠ 0) : aN A lo hi R = (lo, R) := by
  unfold aN
  rw [if_neg (fun z => h z.1), aEnds_w h]
theorem aE_w {A : Nat → Int} {R : RST} (h : R.2.1 ≠ 0) : aE A R = R := by
  unfold aE
  rw [if_neg (fun z => h z.1), aEnds_w h]
section TR1
variable {A : Nat → Int} {R : RST} {H : Mem}
theorem IV.adv (hA : TA A) (h : IV A R) : IV A (aAdv A R) := by
  obtain ⟨h1, h2, h3⟩ := h
  obtain ⟨a, -, c, -⟩ := nxq_sp hA h1
  refine ⟨a, fun z => ⟨(h2 z).1, fun y => ?_⟩, h3⟩
  have := (h2 z).2 y
  show R.2.2.2 < (nx A R.1 : Int)
  omega
theorem IV.ends (h : IV A R) : IV A (aEnds R) := by
  unfold aEnds
  by_cases y : R.2.1 = 0
  · rw [if_pos y]
    exact ⟨h.1, fun z => absurd z (show ¬ (1 : Int) = 0 by decide), fun _ => rfl⟩
  · rw [if_neg y]; exact h
theorem IV.note (h : IV A R) {k y : Int} (hk : k ≠ 1) (hy : y < (R.1 : Int)) : IV A (aNote k y R) := by
  unfold aNote
  by_cases x : R.2.1 = 0 ∧ R.2.2.1 = 0
  · rw [if_pos x]
    exact ⟨h.1, fun _ => ⟨hk, fun _ => hy⟩, fun z => absurd x.1 z⟩
  · rw [if_neg x]; exact h
/-- a number that can't be -/
theorem IV.badnum (hA : TA A) (h : IV A R) (hk : tKd A R.1 ≠ 0) : IV A (aAdv A (aNote 2 (R.1 : Int) R)) := by
  obtain ⟨a, -, -, d⟩ := nxq_sp hA h.1
  have d2 := d hk
  unfold aNote
  by_cases x : R.2.1 = 0 ∧ R.2.2.1 = 0
  · rw [if_pos x]
    refine ⟨a, fun _ => ⟨(show (2 : Int) ≠ 1 by decide), fun _ => ?_⟩, fun z => absurd x.1 z⟩
    show (R.1 : Int) < (nx A R.1 : Int)
    omega
  · rw [if_neg x]; exact h.adv hA
theorem IV.n (hA : TA A) (h : IV A R) (lo hi : Int) : IV A (aN A lo hi R).2 := by
  unfold aN
  by_cases x : R.2.1 = 0 ∧ tKd A R.1 = 2
  · rw [if_pos x]
    by_cases y : lo ≤ tV A R.1 ∧ tV A R.1 ≤ hi
    · rw [if_pos y]; exact h.adv hA
    · rw [if_neg y]; exact h.badnum hA (by omega)
  · rw [if_neg x]; exact h.ends
theorem IV.e (hA : TA A) (h : IV A R) : IV A (aE A R) := by
  unfold aE
  split
  · exact h.adv hA
  · exact h.ends
theorem aN_in {lo hi : Int} (h : lo ≤ hi) : lo ≤ (aN A lo hi R).1 ∧ (aN A lo hi R).1 ≤ hi := by
  unfold aN
  split
  · split
    · assumption
    · exact ⟨Int.le_refl _, h⟩
  · exact ⟨Int.le_refl _, h⟩
theorem MS.mono {F : Mem} (h : MS A R H) (h1 : ∀ k, F 173 k = H 173 k) (h2 : ∀ k, F 174 k = H 174 k) : MS A R F := by
  obtain ⟨⟨a1, a2⟩, ⟨b1, b2, b3, b4, b5⟩, c, d, e⟩ := h
  exact ⟨⟨(h1 _).trans a1, fun k hk => (h2 _).trans (a2 k hk)⟩, ⟨(h1 _).trans b1, (h1 _).trans b2, (h1 _).trans b3, fun z => (h1 _).trans (b4 z), fun z => (h1 _).trans (b5 z)⟩, (h1 _).trans c, (h2 _).trans d, (h2 _).trans e⟩
theorem m_ends (hA : TA A) (h : MS A R H) : ∃ H', fX10_ends 173 H = some H' ∧ MS A (aEnds R) H' ∧ kMr H H' := by
  obtain ⟨hM, hT, h8, h7, hp⟩ := h
  unfold fX10_ends aEnds
  rw [h8]
  by_cases y : R.2.1 = 0
  · rw [if_pos y, if_pos y, al174, if_pos (by decide), if_pos (by decide)]
    have e4 : mset (mset H 173 8 1) 174 7 1 173 4 = (R.1 : Int) := by rw [mset_ne _ _ (by omega), mset_ne _ _ (by omega)]; exact hT.1
    rw [show (173 + 1 : Nat) = 174 from rfl, e4]
    generalize eF : mset (mset (mset H 173 8 1) 174 7 1) 174 8 (R.1 : Int) = F
    have f1 : ∀ o k, ¬ (o = 173 ∧ k = 8) → ¬ (o = 174 ∧ (k = 7 ∨ k = 8)) → F o k = H o k := fun o k a b => by rw [← eF, mset_ne _ _ (by omega), mset_ne _ _ (by omega), mset_ne _ _ a]
    obtain ⟨t1, t2, t3, t4, t5⟩ := hT
    refine ⟨F, rfl, ⟨hM.mono (f1 _ _ (by omega) (by omega)) (fun k _ _ => f1 _ _ (by omega) (by omega)) hA, ⟨(f1 _ _ (by omega) (by omega)).trans t1, (f1 _ _ (by omega) (by omega)).trans t2, (f1 _ _ (by omega) (by omega)).trans t3, fun z => (f1 _ _ (by omega) (by omega)).trans (t4 z), fun z => (f1 _ _ (by omega) (by omega)).trans (t5 z)⟩, ?_, ?_, ?_⟩, fun o k a b => f1 o k (by omega) (by omega)⟩
    · rw [← eF, mset_ne _ _ (by omega), mset_ne _ _ (by omega), mset_eq]
    · rw [← eF, mset_ne _ _ (by omega), mset_eq]
    · rw [← eF, mset_eq]
  · rw [if_neg y, if_neg y]
    exact ⟨H, rfl, ⟨hM, hT, h8, h7, hp⟩, kMr.rf H⟩
theorem m_setf (hA : TA A) (h : MS A R H) (k y : Int) : MS A (R.1, R.2.1, k, y) (mset (mset H 174 7 k) 174 8 y) ∧ kMr H (mset (mset H 174 7 k) 174 8 y) := by
  obtain ⟨hM, hT, h8, h7, hp⟩ := h
  generalize eF : mset (mset H 174 7 k) 174 8 y = F
  have f1 : ∀ o k, ¬ (o = 174 ∧ (k = 7 ∨ k = 8)) → F o k = H o k := fun o k a => by rw [← eF, mset_ne _ _ (by omega), mset_ne _ _ (by omega)]
  obtain ⟨t1, t2, t3, t4, t5⟩ := hT
  refine ⟨⟨hM.mono (f1 _ _ (by omega)) (fun k _ _ => f1 _ _ (by omega)) hA, ⟨(f1 _ _ (by omega)).trans t1, (f1 _ _ (by omega)).trans t2, (f1 _ _ (by omega)).trans t3, fun z => (f1 _ _ (by omega)).trans (t4 z), fun z => (f1 _ _ (by omega)).trans (t5 z)⟩, (f1 _ _ (by omega)).trans h8, ?_, ?_⟩, fun o k a b => f1 o k (by omega)⟩
  · rw [← eF, mset_ne _ _ (by omega), mset_eq]
  · rw [← eF, mset_eq]
theorem m_also (hA : TA A) (h : MS A R H) {k y : Int} (hq : R.2.1 = 0 → R.2.2.1 ≠ 0 → R.2.2.2 < y ∨ (R.2.2.2 = y ∧ R.2.2.1 ≤ k)) : ∃ H', fX10_also 173 k y H = some H' ∧ MS A (aNote k y R) H' ∧ kMr H H' := by
  have h0 := id h
  obtain ⟨hM, hT, h8, h7, hp⟩ := h
  have h7b : H (173 + 1) 7 = R.2.2.1 := h7
  have hpb : H (173 + 1) 8 = R.2.2.2 := hp
  unfold fX10_also
  by_cases w : R.2.1 = 0
  · rw [h8, if_neg (dnn w), al174, if_pos (by decide), h7b]
    by_cases f : R.2.2.1 = 0
    · rw [if_pos f, if_pos (by decide), if_pos (by decide)]
      have e : aNote k y R = (R.1, R.2.1, k, y) := if_pos ⟨w, f⟩
      rw [e]
      obtain ⟨a, b⟩ := m_setf hA h0 k y
      exact ⟨_, rfl, a, b⟩
    · have e : aNote k y R = R := if_neg (fun z => f z.2)
      rw [if_neg f, if_pos (by decide), hpb, e]
      rcases hq w f with z | ⟨z1, z2⟩
      · rw [if_pos z]; exact ⟨H, rfl, h0, kMr.rf H⟩
      · rw [if_neg (by omega), if_pos (by decide), if_neg (dnn z1), if_pos (by decide), if_neg (by omega)]
        exact ⟨H, rfl, h0, kMr.rf H⟩
  · rw [h8, if_pos w, aNote_w w]
    exact ⟨H, rfl, h0, kMr.rf H⟩
theorem m_adv (hA : TA A) (h : MS A R H) (hs : R.1 ≤ tN A) : ∃ H', fX10_advance 173 H = some H' ∧ MS A (aAdv A R) H' ∧ kMr H H' := by
  obtain ⟨hM, hT, h8, h7, hp⟩ := h
  obtain ⟨H', r1, r2, r3⟩ := m_token hA hM (tE_sp hA hs).2.1 hT.2.1
  refine ⟨H', r1, ⟨hM.mono (r3 _ _ (by omega)) (fun k _ _ => r3 _ _ (by omega)) hA, r2, (r3 _ _ (by omega)).trans h8, (r3 _ _ (by omega)).trans h7, (r3 _ _ (by omega)).trans hp⟩, fun o k a b => r3 o k (by omega)⟩
theorem rk1 {s : Nat} : rk A s = 1 ↔ tKd A s = 2 := by
  unfold rk
  by_cases h0 : tKd A s = 0
  · rw [if_pos h0]; omega
  · rw [if_neg h0]
    by_cases h2 : tKd A s = 2
    · rw [if_pos h2]; omega
    · rw [if_neg h2]
      split
      · omega
      · split
        · split <;> omega
        · omega
theorem rk2 {s : Nat} : rk A s = 2 ↔ tKd A s = 3 := by
  unfold rk
  by_cases h0 : tKd A s = 0
  · rw [if_pos h0]; omega
  · rw [if_neg h0]
    by_cases h2 : tKd A s = 2
    · rw [if_pos h2]; omega
    · rw [if_neg h2]
      split
      · omega
      · split
        · split <;> omega
        · omega
theorem rk0 {s : Nat} : rk A s = 0 ↔ tKd A s = 0 := by
  unfold rk
  by_cases h0 : tKd A s = 0
  · rw [if_pos h0]; omega
  · rw [if_neg h0]
    split
    · omega
    · split
      · omega
      · split
        · split <;> omega
        · omega
theorem rk3 {s : Nat} : rk A s = 3 ↔ (tKd A s = 1 ∧ tW A s ≠ 99) := by
  unfold rk
  by_cases h0 : tKd A s = 0
  · rw [if_pos h0]; omega
  · rw [if_neg h0]
    by_cases h2 : tKd A s = 2
    · rw [if_pos h2]; omega
    · rw [if_neg h2]
      by_cases h3 : tKd A s = 3
      · rw [if_pos h3]; omega
      · rw [if_neg h3]
        by_cases h1 : tKd A s = 1
        · rw [if_pos h1]; split <;> omega
        · rw [if_neg h1]; omega
theorem m_num (hA : TA A) (h : MS A R H) (hs : R.1 ≤ tN A) (lo hi : Int) (hq : R.2.1 = 0 → R.2.2.1 ≠ 0 → R.2.2.2 < (R.1 : Int) ∨ (R.2.2.2 = (R.1 : Int) ∧ R.2.2.1 ≤ 2)) : ∃ H', fX10_numbered 173 lo hi H = some ((aN A lo hi R).1, H') ∧ MS A (aN A lo hi R).2 H' ∧ kMr H H' := by
  have h0 := id h
  obtain ⟨hM, hT, h8, h7, hp⟩ := h
  unfold fX10_numbered
  have ee : ¬ (R.2.1 = 0 ∧ tKd A R.1 = 2) → aN A lo hi R = (lo, aEnds R) := fun z => by unfold aN; rw [if_neg z]
  have en : ¬ (R.2.1 = 0 ∧ tKd A R.1 = 2) → ∃ H', fX10_numbered_b15 173 lo H = some ((aN A lo hi R).1, H') ∧ MS A (aN A lo hi R).2 H' ∧ kMr H H' := fun z => by
    rw [ee z]
    unfold fX10_numbered_b15
    obtain ⟨H', r1, r2, r3⟩ := m_ends hA h0
    rw [r1, Option.bind_some]
    exact ⟨H', rfl, r2, r3⟩
  rw [h8, hT.2.2.1]
  by_cases w : R.2.1 = 0
  · rw [if_neg (dnn w)]
    by_cases k : tKd A R.1 = 2
    · have eN : aN A lo hi R = if lo ≤ tV A R.1 ∧ tV A R.1 ≤ hi then (tV A R.1, aAdv A R) else (lo, aAdv A (aNote 2 (R.1 : Int) R)) := by unfold aN; rw [if_pos ⟨w, k⟩]
      rw [if_pos (rk1.mpr k), hT.2.2.2.1 k, m_isIn, i11, eN]
      by_cases y : lo ≤ tV A R.1 ∧ tV A R.1 ≤ hi
      · rw [if_pos y, if_pos y]
        obtain ⟨H', r1, r2, r3⟩ := m_adv hA h0 hs
        unfold fX10_numbered_b44
        rw [r1, Option.bind_some, m_isIn, i10, if_pos y]
        exact ⟨H', rfl, r2, r3⟩
      · rw [if_neg y, if_neg y, hT.1]
        obtain ⟨H1, u1, u2, u3⟩ := m_also hA h0 (k := 2) (y := (R.1 : Int)) hq
        have hs2 : (aNote 2 (R.1 : Int) R).1 ≤ tN A := by unfold aNote; split <;> exact hs
        obtain ⟨H', r1, r2, r3⟩ := m_adv hA u2 hs2
        unfold fX10_numbered_b44
        rw [u1, Option.bind_some, r1, Option.bind_some, m_isIn, i10, if_neg y]
        exact ⟨H', rfl, r2, u3.tr r3⟩
    · rw [if_neg (fun z => k (rk1.mp z))]
      exact en (fun z => k z.2)
  · rw [if_pos w]
    exact en (fun z => w z.1)
theorem m_numI (hA : TA A) (h : MS A R H) (hI : IV A R) (lo hi : Int) : ∃ H', fX10_numbered 173 lo hi H = some ((aN A lo hi R).1, H') ∧ MS A (aN A lo hi R).2 H' ∧ kMr H H' := m_num hA h hI.1 lo hi (fun a b => Or.inl ((hI.2.1 a).2 b))
theorem m_endsLine (hA : TA A) (h : MS A R H) (hs : R.1 ≤ tN A) : ∃ H', fX10_endsLine 173 H = some H' ∧ MS A (aE A R) H' ∧ kMr H H' := by
  have h0 := id h
  obtain ⟨hM, hT, h8, h7, hp⟩ := h
  have ee : ¬ (R.2.1 = 0 ∧ tKd A R.1 = 3) → ∃ H', fX10_endsLine_b22 173 H = some H' ∧ MS A (aE A R) H' ∧ kMr H H' := fun z => by
    obtain ⟨H', r1, r2, r3⟩ := m_ends hA h0
    unfold fX10_endsLine_b22 aE
    rw [if_neg z, r1, Option.bind_some]
    exact ⟨H', rfl, r2, r3⟩
  unfold fX10_endsLine
  rw [h8, hT.2.2.1]
  by_cases w : R.2.1 = 0
  · rw [if_neg (dnn w)]
    by_cases k : tKd A R.1 = 3
    · rw [if_neg (dnn (rk2.mpr k))]
      obtain ⟨H', r1, r2, r3⟩ := m_adv hA h0 hs
      have eE : aE A R = aAdv A R := if_pos ⟨w, k⟩
      rw [r1, Option.bind_some, eE]
      exact ⟨H', rfl, r2, r3⟩
    · rw [if_pos (fun z => k (rk2.mp z))]
      exact ee (fun z => k z.2)
  · rw [if_pos w]
    exact ee (fun z => w z.1)
theorem m_takes_ok (hA : TA A) (h : MS A R H) (hs : R.1 ≤ tN A) (w : R.2.1 = 0) (k : tKd A R.1 = 1) {lo hi : Int} (h1 : lo ≤ tW A R.1) (h2 : tW A R.1 ≤ hi) (h3 : hi ≤ 17) : ∃ H', fX10_takes 173 lo hi H = some (tW A R.1, H') ∧ MS A (aAdv A R) H' ∧ kMr H H' := by
  have h0 := id h
  obtain ⟨hM, hT, h8, h7, hp⟩ := h
  have hr : rk A R.1 = 3 := rk3.mpr ⟨k, by omega⟩
  obtain ⟨H', r1, r2, r3⟩ := m_adv hA h0 hs
  unfold fX10_takes
  rw [h8, if_neg (dnn w), hT.2.2.1, if_neg (dnn hr), hT.2.2.2.2 k, m_isIn, i11, if_pos ⟨h1, h2⟩, r1, Option.bind_some]
  exact ⟨H', rfl, r2, r3⟩
theorem m_takes_no (hA : TA A) (h : MS A R H) {lo hi : Int} (h3 : hi ≤ 17) (hn : ¬ (R.2.1 = 0 ∧ tKd A R.1 = 1 ∧ lo ≤ tW A R.1 ∧ tW A R.1 ≤ hi)) : ∃ H', fX10_takes 173 lo hi H = some (0, H') ∧ MS A (aEnds R) H' ∧ kMr H H' := by
  have h0 := id h
  obtain ⟨hM, hT, h8, h7, hp⟩ := h
  obtain ⟨H', r1, r2, r3⟩ := m_ends hA h0
  have en : ∃ H', fX10_takes_b27 173 H = some (0, H') ∧ MS A (aEnds R) H' ∧ kMr H H' := by
    unfold fX10_takes_b27
    rw [r1, Option.bind_some]
    exact ⟨H', rfl, r2, r3⟩
  unfold fX10_takes
  rw [h8, hT.2.2.1]
  by_cases w : R.2.1 = 0
  · rw [if_neg (dnn w)]
    by_cases hr : rk A R.1 = 3
    · obtain ⟨k, k2⟩ := rk3.mp hr
      rw [if_neg (dnn hr), hT.2.2.2.2 k, m_isIn, i11, if_neg (fun z => hn ⟨w, k, z.1, z.2⟩)]
      exact en
    · rw [if_pos hr]; exact en
  · rw [if_pos w]; exact en
theorem al176 : alen (173 + 3) = 200 := rfl
theorem m_slots2 (hA : TA A) (h : MS A R H) (hI : IV A R) {x : Nat} (hx : x + 1 < 200) {kp : Int} : ∃ H1 H', fX10_slotsTo 173 (x : Int) kp H = some H' ∧ MS A (aN A ((aN A 0 47 R).1 + 1) 48 (aN A 0 47 R).2).2 H' ∧ kMr H H1 ∧ ((kp ≠ 0 ∧ H' = mset (mset H1 176 x (aN A 0 47 R).1) 176 (x + 1) (aN A ((aN A 0 47 R).1 + 1) 48 (aN A 0 47 R).2).1) ∨ (kp = 0 ∧ H' = H1)) := by
  obtain ⟨H2, r1, r2, r3⟩ := m_numI hA h hI 0 47
  have b := aN_in (A := A) (R := R) (lo := 0) (hi := 47) (by decide)
  have hI2 := hI.n hA 0 47
  obtain ⟨H3, u1, u2, u3⟩ := m_numI hA r2 hI2 ((aN A 0 47 R).1 + 1) 48
  unfold fX10_slotsTo
  rw [r1, Option.bind_some]
  dsimp only
  rw [xwn (x := (aN A 0 47 R).1 + 1) (by omega) (by omega), u1, Option.bind_some, xwn (x := (x : Int) + 1) (by omega) (by omega), al176]
  dsimp only
  by_cases y : kp = 0
  · rw [if_neg (dnn y)]
    exact ⟨H3, H3, rfl, u2, r3.tr u3, Or.inr ⟨y, rfl⟩⟩
  · rw [if_pos y, if_pos (by omega), if_pos (by omega), Int.toNat_natCast, show ((x : Int) + 1).toNat = x + 1 by omega]
    exact ⟨H3, _, rfl, u2.mono (fun k => by rw [mset_ne _ _ (by omega), mset_ne _ _ (by omega)]) (fun k => by rw [mset_ne _ _ (by omega), mset_ne _ _ (by omega)]), r3.tr u3, Or.inl ⟨y, rfl⟩⟩
end TR1
