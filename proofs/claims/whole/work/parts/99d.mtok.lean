/-! ===== text: the reference's tokens ===== -/
section TM
variable {A : Nat → Int} {H : Mem} {p s : Nat}
def MM (A : Nat → Int) (H : Mem) : Prop := H 173 2 = A 6 ∧ ∀ k : Nat, (k : Int) < A 6 → H 174 (10 + k) = A (10 + k)
def MT (A : Nat → Int) (s : Nat) (H : Mem) : Prop := H 173 4 = (s : Int) ∧ H 173 3 = (tE A s : Int) ∧ H 173 5 = rk A s ∧ (tKd A s = 2 → H 173 6 = tV A s) ∧ (tKd A s = 1 → H 173 7 = tW A s)
theorem MM.mono {F : Mem} (h : MM A H) (h2 : F 173 2 = H 173 2) (h3 : ∀ k, 10 ≤ k → k < 610 → F 174 k = H 174 k) (hA : TA A) : MM A F := ⟨h2.trans h.1, fun k hk => by have := hA.1; exact (h3 _ (by omega) (by omega)).trans (h.2 k hk)⟩
theorem m_by (hA : TA A) (hM : MM A H) {x : Int} {k : Nat} (hx : x = (k : Int)) : fX10_byteAt 173 x H = some (byA A k) := by
  subst hx
  exact m_byteAt hM.1 hM.2 hA.1.2 k
theorem wv_bd {c : Nat → Int} : ∀ n, (∀ i, i < n → 1 ≤ c i ∧ c i ≤ 26) → wv c n < ((32 ^ n : Nat) : Int) := by
  intro n
  induction n with
  | zero => intro _; exact (show (0 : Int) < ((32 ^ 0 : Nat) : Int) by decide)
  | succ n ih =>
    intro h
    have h1 := ih (fun i hi => h i (by omega))
    have h2 := h n (by omega)
    have e : 32 ^ (n + 1) = 32 ^ n * 32 := Nat.pow_succ ..
    show 32 * wv c n + c n < _
    rw [e]
    generalize 32 ^ n = q at h1
    omega
theorem wv_b5 {c : Nat → Int} {n : Nat} (hn : n ≤ 5) (h : ∀ i, i < n → 1 ≤ c i ∧ c i ≤ 26) : 0 ≤ wv c n ∧ wv c n ≤ 33554431 := by
  have h1 := wv_bd n h
  have h2 : 32 ^ n ≤ 32 ^ 5 := Nat.pow_le_pow_right (by decide) hn
  have h3 : (32 : Nat) ^ 5 = 33554432 := rfl
  have h4 := wv_nn n h
  omega
theorem m_fin1 {G : Mem} (x : Int) : fX10_advance_b159 173 173 x G = some (mset (mset G 173 7 x) 173 5 (if x ≠ 99 then 3 else 4)) := by
  unfold fX10_advance_b159
  rw [mset_eq]
  by_cases y : x ≠ 99
  · rw [if_pos y, if_pos y]
  · rw [if_neg y, if_neg y]
theorem m_b77 (hA : TA A) (hM : MM A H) (hs : s ≤ tN A) (h : bLt (byA A s) = true) (h3 : H 173 3 = (s : Int)) (h4 : H 173 4 = (s : Int)) : ∃ H', fX10_advance_b77 FU 173 0 H = some H' ∧ H' 173 3 = (tE A s : Int) ∧ H' 173 7 = tW A s ∧ H' 173 5 = (if tW A s ≠ 99 then 3 else 4) ∧ ∀ o k, ¬ (o = 173 ∧ (k = 3 ∨ k = 5 ∨ k = 7)) → H' o k = H o k := by
  obtain ⟨a, b, c, d⟩ := tE_lt hA hs h
  have e6 := tN_eq hA
  have l6 := tN_le hA
  have hc : ∀ i, s + i < tE A s → 1 ≤ byA A (s + i) - 96 ∧ byA A (s + i) - 96 ≤ 26 := fun i hi => by
    have := bLt_i.mp (c (s + i) (by omega) hi)
    omega
  refine lp (fun n k (st : Int × Mem) => fX10_advance_b77 n 173 st.1 st.2) (tE A s) (fun k st => s ≤ k ∧ st.2 173 3 = (k : Int) ∧ (k ≤ s + 6 → st.1 = wv (fun i => byA A (s + i) - 96) (k - s)) ∧ ∀ o i, ¬ (o = 173 ∧ i = 3) → st.2 o i = H o i) (fun r => ∃ H', r = some H' ∧ H' 173 3 = (tE A s : Int) ∧ H' 173 7 = tW A s ∧ H' 173 5 = (if tW A s ≠ 99 then 3 else 4) ∧ ∀ o k, ¬ (o = 173 ∧ (k = 3 ∨ k = 5 ∨ k = 7)) → H' o k = H o k) ?_ ?_ FU s (0, H) (by omega) ⟨Nat.le_refl _, h3, fun _ => by rw [Nat.sub_self]; rfl, fun _ _ _ => rfl⟩ (FUa (by omega))
  · rintro n k ⟨x, G⟩ hk ⟨hi, g3, hv, hf⟩
    left
    dsimp only at g3 hv hf ⊢
    have g4 : G 173 4 = (s : Int) := (hf _ _ (by omega)).trans h4
    have hM1 : MM A G := hM.mono (hf _ _ (by omega)) (fun k _ _ => hf _ _ (by omega)) hA
    have h1 := bLt_i.mp (c k hi hk)
    have hf2 : ∀ o i, ¬ (o = 173 ∧ i = 3) → mset G 173 3 ((k + 1 : Nat) : Int) o i = H o i := fun o i z => by rw [mset_ne _ _ z]; exact hf o i z
    by_cases y : s + 6 ≤ k
    · refine ⟨(x, mset G 173 3 ((k + 1 : Nat) : Int)), ⟨by omega, (show mset G 173 3 ((k + 1 : Nat) : Int) 173 3 = ((k + 1 : Nat) : Int) from mset_eq _ _ _ _), fun z => absurd z (by omega), hf2⟩, ?_⟩
      show fX10_advance_b77 (n + 1) 173 x G = fX10_advance_b77 n 173 x (mset G 173 3 ((k + 1 : Nat) : Int))
      rw [fX10_advance_b77, m_by hA hM1 g3, Option.bind_some, ltr_eq, i10, if_pos h1, g3, g4, xwn (x := (k : Int) - (s : Int)) (by omega) (by omega), if_pos (by omega), xwS (by omega)]
    · have ev := hv (by omega)
      have bv := wv_b5 (c := fun i => byA A (s + i) - 96) (n := k - s) (by omega) (fun i hi2 => hc i (by omega))
      rw [← ev] at bv
      refine ⟨(32 * x + byA A k - 96, mset G 173 3 ((k + 1 : Nat) : Int)), ⟨by omega, (show mset G 173 3 ((k + 1 : Nat) : Int) 173 3 = ((k + 1 : Nat) : Int) from mset_eq _ _ _ _), fun z => ?_, hf2⟩, ?_⟩
      · have e1 : k + 1 - s = (k - s) + 1 := by omega
        have e2 : s + (k - s) = k := by omega
        dsimp only
        rw [e1, ev]
        show _ = 32 * wv _ (k - s) + (byA A (s + (k - s)) - 96)
        rw [e2]
        omega
      · show fX10_advance_b77 (n + 1) 173 x G = fX10_advance_b77 n 173 (32 * x + byA A k - 96) (mset G 173 3 ((k + 1 : Nat) : Int))
        rw [fX10_advance_b77, m_by hA hM1 g3, Option.bind_some, ltr_eq, i10, if_pos h1, g3, g4, xwn (x := (k : Int) - (s : Int)) (by omega) (by omega), if_neg (by omega), Option.bind_some, xwS (by omega), xwn (x := 32 * x) (by omega) (by omega), xwn (x := 32 * x + _) (by omega) (by omega), xwn (x := 32 * x + _ - 96) (by omega) (by omega)]
  · rintro n ⟨x, G⟩ ⟨hi, g3, hv, hf⟩
    dsimp only at g3 hv hf ⊢
    have g4 : G 173 4 = (s : Int) := (hf _ _ (by omega)).trans h4
    have hM1 : MM A G := hM.mono (hf _ _ (by omega)) (fun k _ _ => hf _ _ (by omega)) hA
    have w2 : tW A s = if tE A s ≤ s + 6 then fX10_wordOf x else 99 := by
      unfold tW
      by_cases y : tE A s ≤ s + 6
      · rw [if_pos y, if_pos y, hv y]
      · rw [if_neg y, if_neg y]
    have e : fX10_advance_b77 (n + 1) 173 x G = fX10_advance_b159 173 173 (tW A s) G := by
      rw [fX10_advance_b77, m_by hA hM1 g3, Option.bind_some, ltr_eq, i10, if_neg (fun z => bF.mp d (bLt_i.mpr z)), g3, g4, xwn (x := ((tE A s : Nat) : Int) - (s : Int)) (by omega) (by omega), w2]
      by_cases y : tE A s ≤ s + 6
      · rw [if_pos (by omega), if_pos y]
      · rw [if_neg (by omega), if_neg y]
    rw [e, m_fin1]
    refine ⟨_, rfl, ?_, ?_, mset_eq _ _ _ _, fun o i z => ?_⟩
    · rw [mset_ne _ _ (by omega), mset_ne _ _ (by omega)]; exact g3
    · rw [mset_ne _ _ (by omega), mset_eq]
    · rw [mset_ne _ _ (by omega), mset_ne _ _ (by omega)]; exact hf o i (by omega)
theorem m_b195 (hA : TA A) (hM : MM A H) (hs : s ≤ tN A) (h0 : ¬ bLt (byA A s) = true) (h : bDg (byA A s) = true) (h3 : H 173 3 = (s : Int)) (h4 : H 173 4 = (s : Int)) (h6 : H 173 6 = 0) : ∃ H', fX10_advance_b195 FU 173 H = some H' ∧ H' 173 3 = (tE A s : Int) ∧ H' 173 5 = (if tE A s ≤ s + 2 then 1 else 4) ∧ (tE A s ≤ s + 2 → H' 173 6 = tV A s) ∧ ∀ o k, ¬ (o = 173 ∧ (k = 3 ∨ k = 5 ∨ k = 6)) → H' o k = H o k := by
  obtain ⟨a, b, c, d⟩ := tE_dg hA hs h0 h
  have e6 := tN_eq hA
  have l6 := tN_le hA
  refine lp (fun n k (G : Mem) => fX10_advance_b195 n 173 G) (tE A s) (fun k G => s ≤ k ∧ G 173 3 = (k : Int) ∧ dvs A s k (G 173 6) ∧ ∀ o i, ¬ (o = 173 ∧ (i = 3 ∨ i = 6)) → G o i = H o i) (fun r => ∃ H', r = some H' ∧ H' 173 3 = (tE A s : Int) ∧ H' 173 5 = (if tE A s ≤ s + 2 then 1 else 4) ∧ (tE A s ≤ s + 2 → H' 173 6 = tV A s) ∧ ∀ o k, ¬ (o = 173 ∧ (k = 3 ∨ k = 5 ∨ k = 6)) → H' o k = H o k) ?_ ?_ FU s H (by omega) ⟨Nat.le_refl _, h3, ⟨fun _ => h6, fun z => absurd z (by omega), fun z => absurd z (by omega)⟩, fun _ _ _ => rfl⟩ (FUa (by omega))
  · rintro n k G hk ⟨hi, g3, hv, hf⟩
    left
    have g4 : G 173 4 = (s : Int) := (hf _ _ (by omega)).trans h4
    have hM1 : MM A G := hM.mono (hf _ _ (by omega)) (fun k _ _ => hf _ _ (by omega)) hA
    have h1 := bDg_i.mp (c k hi hk)
    by_cases y : s + 2 ≤ k
    · refine ⟨mset G 173 3 ((k + 1 : Nat) : Int), ⟨by omega, mset_eq _ _ _ _, ⟨fun z => absurd z (by omega), fun z => absurd z (by omega), fun z => absurd z (by omega)⟩, fun o i z => by rw [mset_ne _ _ (by omega)]; exact hf o i z⟩, ?_⟩
      show fX10_advance_b195 (n + 1) 173 G = fX10_advance_b195 n 173 _
      rw [fX10_advance_b195, m_by hA hM1 g3, Option.bind_some, dgt_eq, i10, if_pos h1, g3, g4, xwn (x := (k : Int) - (s : Int)) (by omega) (by omega), if_pos (by omega), xwS (by omega)]
    · have hx : xw (xw (xw (10 * G 173 6) + byA A k) - 48) = 10 * G 173 6 + byA A k - 48 ∧ dvs A s (k + 1) (10 * G 173 6 + byA A k - 48) := by
        by_cases z : k = s
        · have e0 := hv.1 z
          rw [e0, z, xwn (x := 10 * 0) (by omega) (by omega)]
          rw [z] at h1
          refine ⟨by rw [xwn (x := 10 * 0 + _) (by omega) (by omega), xwn (by omega) (by omega)], fun q => absurd q (by omega), fun q => by omega, fun q => absurd q (by omega)⟩
        · obtain rfl : k = s + 1 := by omega
          have e0 := hv.2.1 rfl
          have h2 := bDg_i.mp (c s (Nat.le_refl _) (by omega))
          rw [e0, xwn (x := 10 * (byA A s - 48)) (by omega) (by omega)]
          refine ⟨by rw [xwn (x := 10 * (byA A s - 48) + _) (by omega) (by omega), xwn (by omega) (by omega)], fun q => absurd q (by omega), fun q => absurd q (by omega), fun q => by omega⟩
      refine ⟨mset (mset G 173 6 (10 * G 173 6 + byA A k - 48)) 173 3 ((k + 1 : Nat) : Int), ⟨by omega, mset_eq _ _ _ _, by rw [mset_ne _ _ (by omega), mset_eq]; exact hx.2, fun o i z => by rw [mset_ne _ _ (by omega), mset_ne _ _ (by omega)]; exact hf o i z⟩, ?_⟩
      show fX10_advance_b195 (n + 1) 173 G = fX10_advance_b195 n 173 _
      rw [fX10_advance_b195, m_by hA hM1 g3, Option.bind_some, dgt_eq, i10, if_pos h1, g3, g4, xwn (x := (k : Int) - (s : Int)) (by omega) (by omega), if_neg (by omega), Option.bind_some, hx.1, mset_ne (F := G) (o := 173) (k := 6) (o' := 173) (k' := 3) _ (by omega), g3, xwS (by omega)]
  · rintro n G ⟨hi, g3, hv, hf⟩
    have g4 : G 173 4 = (s : Int) := (hf _ _ (by omega)).trans h4
    have hM1 : MM A G := hM.mono (hf _ _ (by omega)) (fun k _ _ => hf _ _ (by omega)) hA
    have e : fX10_advance_b195 (n + 1) 173 G = some (mset G 173 5 (if tE A s ≤ s + 2 then 1 else 4)) := by
      rw [fX10_advance_b195, m_by hA hM1 g3, Option.bind_some, dgt_eq, i10, if_neg (fun z => bF.mp d (bDg_i.mpr z)), g3, g4, xwn (x := ((tE A s : Nat) : Int) - (s : Int)) (by omega) (by omega)]
      by_cases y : tE A s ≤ s + 2
      · rw [if_pos (by omega), if_pos y]
      · rw [if_neg (by omega), if_neg y]
    show ∃ H', fX10_advance_b195 (n + 1) 173 G = some H' ∧ _
    rw [e]
    refine ⟨_, rfl, ?_, mset_eq _ _ _ _, fun z => ?_, fun o i z => ?_⟩
    · rw [mset_ne _ _ (by omega)]; exact g3
    · rw [mset_ne _ _ (by omega)]
      unfold tV
      by_cases y : tE A s = s + 1
      · rw [if_pos y]; exact hv.2.1 y
      · rw [if_neg y]; exact hv.2.2 (by omega)
    · rw [mset_ne _ _ (by omega)]; exact hf o i (by omega)
/-- what stands behind the blanks -/
theorem m_head (hA : TA A) (hM : MM A H) (hs : s ≤ tN A) (h3 : H 173 3 = (s : Int)) (h4 : H 173 4 = (s : Int)) : ∃ H', (if 0 ≤ byA A s then
          if (fX10_isLetter (byA A s)) = 0 then
            if (fX10_isDigit (byA A s)) = 0 then
              if byA A s ≠ 59 then
                some (mset (mset H 173 3 (xw ((s : Int) + 1))) 173 5 4)
              else
                some (mset (mset H 173 3 (xw ((s : Int) + 1))) 173 5 2)
            else
              fX10_advance_b195 FU 173 (mset H 173 6 0)
          else
            fX10_advance_b77 FU 173 0 H
        else
          some (mset H 173 5 0)) = some H' ∧ MT A s H' ∧ ∀ o k, ¬ (o = 173 ∧ 3 ≤ k ∧ k ≤ 7) → H' o k = H o k := by
  have e6 := tN_eq hA
  have l6 := tN_le hA
  by_cases y : byA A s < 0
  · have ek : tKd A s = 0 := by unfold tKd; rw [if_pos y]
    have er : rk A s = 0 := by unfold rk; rw [if_pos ek]
    rw [if_neg (by omega)]
    refine ⟨_, rfl, ⟨?_, ?_, by rw [mset_eq, er], fun z => by omega, fun z => by omega⟩, fun o k z => mset_ne _ _ (by omega)⟩
    · rw [mset_ne _ _ (by omega)]; exact h4
    · rw [mset_ne _ _ (by omega), tE_en y]; exact h3
  · have hk := by_in hA (k := s) (by omega)
    rw [if_pos (by omega), ltr_eq, dgt_eq, i10, i10, xwS (by omega)]
    by_cases h1 : bLt (byA A s) = true
    · rw [if_pos (bLt_i.mp h1)]
      obtain ⟨H', r1, r2, r3, r4, r5⟩ := m_b77 hA hM hs h1 h3 h4
      have ek : tKd A s = 1 := by unfold tKd; rw [if_neg y, if_pos h1]
      have er : rk A s = if tW A s ≠ 99 then 3 else 4 := by unfold rk; rw [ek, if_neg (by decide), if_neg (by decide), if_neg (by decide), if_pos rfl]
      exact ⟨H', r1, ⟨(r5 _ _ (by omega)).trans h4, r2, r4.trans er.symm, fun z => by omega, fun _ => r3⟩, fun o k z => r5 o k (by omega)⟩
    · rw [if_neg (fun z => h1 (bLt_i.mpr z))]
      by_cases h2 : bDg (byA A s) = true
      · rw [if_pos (bDg_i.mp h2)]
        have hM2 : MM A (mset H 173 6 0) := hM.mono (mset_ne _ _ (by omega)) (fun k _ _ => mset_ne _ _ (by omega)) hA
        obtain ⟨H', r1, r2, r3, r4, r5⟩ := m_b195 hA hM2 hs h1 h2 (by rw [mset_ne _ _ (by omega)]; exact h3) (by rw [mset_ne _ _ (by omega)]; exact h4) (mset_eq _ _ _ _)
        have ek : tKd A s = if tE A s ≤ s + 2 then 2 else 4 := by unfold tKd; rw [if_neg y, if_neg h1, if_pos h2]
        have er : rk A s = if tE A s ≤ s + 2 then 1 else 4 := by
          unfold rk; rw [ek]
          by_cases w : tE A s ≤ s + 2
          · rw [if_pos w, if_pos w]; rfl
          · rw [if_neg w, if_neg w]; rfl
        refine ⟨H', r1, ⟨?_, r2, r3.trans er.symm, fun z => r4 ?_, fun z => ?_⟩, fun o k z => ?_⟩
        · rw [r5 _ _ (by omega), mset_ne _ _ (by omega)]; exact h4
        · rw [ek] at z
          by_cases w : tE A s ≤ s + 2
          · exact w
          · rw [if_neg w] at z; omega
        · rw [ek] at z
          by_cases w : tE A s ≤ s + 2
          · rw [if_pos w] at z; omega
          · rw [if_neg w] at z; omega
        · rw [r5 _ _ (by omega), mset_ne _ _ (by omega)]
      · rw [if_neg (fun z => h2 (bDg_i.mpr z))]
        have ee := tE_ot h1 h2 y
        by_cases h5 : byA A s = 59
        · rw [if_neg (dnn h5)]
          have ek : tKd A s = 3 := by unfold tKd; rw [if_neg y, if_neg h1, if_neg h2, if_pos h5]
          have er : rk A s = 2 := by unfold rk; rw [ek]; rfl
          refine ⟨_, rfl, ⟨?_, ?_, by rw [mset_eq, er], fun z => by omega, fun z => by omega⟩, fun o k z => ?_⟩
          · rw [mset_ne _ _ (by omega), mset_ne _ _ (by omega)]; exact h4
          · rw [mset_ne _ _ (by omega), mset_eq, ee]
          · rw [mset_ne _ _ (by omega), mset_ne _ _ (by omega)]
        · rw [if_pos h5]
          have ek : tKd A s = 4 := by unfold tKd; rw [if_neg y, if_neg h1, if_neg h2, if_neg h5]
          have er : rk A s = 4 := by unfold rk; rw [ek]; rfl
          refine ⟨_, rfl, ⟨?_, ?_, by rw [mset_eq, er], fun z => by omega, fun z => by omega⟩, fun o k z => ?_⟩
          · rw [mset_ne _ _ (by omega), mset_ne _ _ (by omega)]; exact h4
          · rw [mset_ne _ _ (by omega), mset_eq, ee]
          · rw [mset_ne _ _ (by omega), mset_ne _ _ (by omega)]
/-- the reference takes a token -/
theorem m_token (hA : TA A) (hM : MM A H) (hp : p ≤ tN A) (h3 : H 173 3 = (p : Int)) : ∃ H', fX10_advance 173 H = some H' ∧ MT A (tS A p) H' ∧ ∀ o k, ¬ (o = 173 ∧ 3 ≤ k ∧ k ≤ 7) → H' o k = H o k := by
  obtain ⟨a, hs, c, hbl⟩ := tS_sp hA hp
  have e6 := tN_eq hA
  have l6 := tN_le hA
  unfold fX10_advance
  refine lp (fun n k (G : Mem) => fX10_advance_b0 n 173 G) (tS A p) (fun k G => p ≤ k ∧ G 173 3 = (k : Int) ∧ ∀ o i, ¬ (o = 173 ∧ i = 3) → G o i = H o i) (fun r => ∃ H', r = some H' ∧ MT A (tS A p) H' ∧ ∀ o k, ¬ (o = 173 ∧ 3 ≤ k ∧ k ≤ 7) → H' o k = H o k) ?_ ?_ FU p H a ⟨Nat.le_refl _, h3, fun _ _ _ => rfl⟩ (FUa (by omega))
  · rintro n k G hk ⟨hi, g3, hf⟩
    left
    have hM1 : MM A G := hM.mono (hf _ _ (by omega)) (fun k _ _ => hf _ _ (by omega)) hA
    have h1 := bBl_i.mp (c k hi hk)
    refine ⟨mset G 173 3 ((k + 1 : Nat) : Int), ⟨by omega, mset_eq _ _ _ _, fun o i z => by rw [mset_ne _ _ z]; exact hf o i z⟩, ?_⟩
    show fX10_advance_b0 (n + 1) 173 G = fX10_advance_b0 n 173 _
    rw [fX10_advance_b0, m_by hA hM1 g3, Option.bind_some, g3, xwS (by omega)]
    by_cases y : byA A k = 10
    · rw [if_pos y]
    · rw [if_neg y, Option.bind_some, if_neg (dnn (h1.resolve_left y))]
  · rintro n G ⟨hi, g3, hf⟩
    have hM1 : MM A G := hM.mono (hf _ _ (by omega)) (fun k _ _ => hf _ _ (by omega)) hA
    have hb : ¬ (byA A (tS A p) = 10 ∨ byA A (tS A p) = 32) := fun z => bF.mp hbl (bBl_i.mpr z)
    have g3b : mset G 173 4 (G 173 3) 173 3 = ((tS A p : Nat) : Int) := by rw [mset_ne _ _ (by omega)]; exact g3
    have g4b : mset G 173 4 (G 173 3) 173 4 = ((tS A p : Nat) : Int) := by rw [mset_eq]; exact g3
    have hM2 : MM A (mset G 173 4 (G 173 3)) := hM1.mono (mset_ne _ _ (by omega)) (fun k _ _ => mset_ne _ _ (by omega)) hA
    have hf2 : ∀ o i, ¬ (o = 173 ∧ 3 ≤ i ∧ i ≤ 7) → mset G 173 4 (G 173 3) o i = H o i := fun o i z => by rw [mset_ne _ _ (by omega)]; exact hf o i (by omega)
    show ∃ H', fX10_advance_b0 (n + 1) 173 G = some H' ∧ _
    rw [fX10_advance_b0, m_by hA hM1 g3, Option.bind_some, if_neg (fun z => hb (Or.inl z)), Option.bind_some, if_pos (fun z => hb (Or.inr z))]
    generalize mset G 173 4 (G 173 3) = G2 at g3b g4b hM2 hf2 ⊢
    rw [m_by hA hM2 g3b, Option.bind_some, g3b]
    obtain ⟨H', r1, r2, r3⟩ := m_head hA hM2 hs g3b g4b
    exact ⟨H', r1, r2, fun o k z => (r3 o k z).trans (hf2 o k z)⟩
end TM
