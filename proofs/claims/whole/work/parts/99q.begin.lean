/-! ===== text: how both begin ===== -/
section TQ
variable {F : Mem} {st : Nat}
theorem ta_of (hA : AO (F 174)) : TA (F 174) := ⟨hA.2.2.2.2.1, hA.2.2.2.2.2.1⟩
/-- what the class begins with -/
theorem x_read (hA : AO (F 174)) (hT : TR (F 174) F 2) (hst : st < 4) : ∃ G0, fX2_read 35 (st : Int) 3 (F 2 1) F = fX2_read_b61 FU 35 (st : Int) 0 G0 ∧ XRd (F 174) (tS (F 174) 0, 0, 0, -1) G0 ∧ kXt F G0 ∧ (G0 37 0 = 24 ∧ G0 37 1 = 9 ∧ G0 37 2 = 0 ∧ G0 37 3 = 48 ∧ G0 37 4 = 0) ∧ (G0 38 3 = 0 ∧ G0 40 3 = 0) ∧ (st = 1 → G0 42 3 = 0) ∧ (st = 2 → G0 44 3 = 0) ∧ (st = 3 → G0 46 3 = 0) := by
  have hTA := ta_of hA
  have h6 := hTA.1
  have t1 : F 2 1 = F 174 6 := hT.2.1.1
  have tb := hT.2.2.2.1
  obtain ⟨sd, hsd, hs1⟩ : ∃ sd, fX2_sheetFor 35 (st : Int) = sd ∧ ((st = 1 → sd = 42) ∧ (st = 2 → sd = 44) ∧ (st = 3 → sd = 46) ∧ (sd = 42 ∨ sd = 44 ∨ sd = 46)) := by
    obtain rfl | rfl | rfl | rfl : st = 0 ∨ st = 1 ∨ st = 2 ∨ st = 3 := by omega
    · exact ⟨46, rfl, by decide⟩
    · exact ⟨42, rfl, by decide⟩
    · exact ⟨44, rfl, by decide⟩
    · exact ⟨46, rfl, by decide⟩
  have hmin : xmin (F 174 6) ((600 : Nat) : Int) = F 174 6 := by unfold xmin; rw [if_neg (by omega)]
  unfold fX2_read fX2_read_b20
  rw [if_neg (by decide), al3, t1, hmin, hsd]
  generalize eM1 : mset (mset (mset (mset (mset F 35 0 ((3 : Nat) : Int)) 35 1 (F 174 6)) 35 4 0) 35 7 0) 35 8 (-1) = M1
  have a1 : ∀ o k, o ≠ 35 → M1 o k = F o k := fun o k z => by rw [← eM1, mset_ne _ _ (by omega), mset_ne _ _ (by omega), mset_ne _ _ (by omega), mset_ne _ _ (by omega), mset_ne _ _ (by omega)]
  have a2 : M1 35 0 = 3 := by rw [← eM1, mset_ne _ _ (by omega), mset_ne _ _ (by omega), mset_ne _ _ (by omega), mset_ne _ _ (by omega), mset_eq]; rfl
  have a3 : M1 35 1 = F 174 6 := by rw [← eM1, mset_ne _ _ (by omega), mset_ne _ _ (by omega), mset_ne _ _ (by omega), mset_eq]
  have a4 : M1 35 4 = 0 := by rw [← eM1, mset_ne _ _ (by omega), mset_ne _ _ (by omega), mset_eq]
  have a7 : M1 35 7 = 0 := by rw [← eM1, mset_ne _ _ (by omega), mset_eq]
  have a8 : M1 35 8 = -1 := by rw [← eM1, mset_eq]
  have e37 : (35 + 2 : Nat) = 37 := rfl
  rw [e37]
  generalize eM2 : fX7_clear 37 M1 = M2
  unfold fX7_clear at eM2
  have b1 : ∀ o k, o ≠ 37 → o ≠ 38 → o ≠ 40 → M2 o k = M1 o k := fun o k z1 z2 z3 => by rw [← eM2, mset_ne _ _ (by omega), mset_ne _ _ (by omega), mset_ne _ _ (by omega), mset_ne _ _ (by omega), mset_ne _ _ (by omega), mset_ne _ _ (by omega), mset_ne _ _ (by omega)]
  have c6 : M2 40 3 = 0 := by rw [← eM2, show (37 + 3 : Nat) = 40 from rfl, mset_eq]
  have c5 : M2 38 3 = 0 := by rw [← eM2, mset_ne _ _ (by omega), show (37 + 1 : Nat) = 38 from rfl, mset_eq]
  have c4 : M2 37 4 = 0 := by rw [← eM2, mset_ne _ _ (by omega), mset_ne _ _ (by omega), mset_eq]
  have c3 : M2 37 3 = 48 := by rw [← eM2, mset_ne _ _ (by omega), mset_ne _ _ (by omega), mset_ne _ _ (by omega), mset_eq]
  have c2 : M2 37 2 = 0 := by rw [← eM2, mset_ne _ _ (by omega), mset_ne _ _ (by omega), mset_ne _ _ (by omega), mset_ne _ _ (by omega), mset_eq]
  have c1 : M2 37 1 = 9 := by rw [← eM2, mset_ne _ _ (by omega), mset_ne _ _ (by omega), mset_ne _ _ (by omega), mset_ne _ _ (by omega), mset_ne _ _ (by omega), mset_eq]
  have c0 : M2 37 0 = 24 := by rw [← eM2, mset_ne _ _ (by omega), mset_ne _ _ (by omega), mset_ne _ _ (by omega), mset_ne _ _ (by omega), mset_ne _ _ (by omega), mset_ne _ _ (by omega), mset_eq]
  generalize eM3 : mset M2 sd 3 0 = M3
  have d1 : ∀ o k, o ≠ sd → M3 o k = M2 o k := fun o k z => by rw [← eM3, mset_ne _ _ (by omega)]
  have d2 : M3 sd 3 = 0 := by rw [← eM3, mset_eq]
  have hf : ∀ o k, o ≤ 34 ∨ 48 ≤ o → M3 o k = F o k := fun o k z => by rw [d1 _ _ (by omega), b1 _ _ (by omega) (by omega) (by omega), a1 _ _ (by omega)]
  have h35 : ∀ k, M3 35 k = M1 35 k := fun k => by rw [d1 _ _ (by omega), b1 _ _ (by omega) (by omega) (by omega)]
  have hX : XM (F 174) M3 := ⟨(h35 0).trans a2, (h35 1).trans a3, fun k hk => (hf _ _ (by omega)).trans (tb k hk)⟩
  obtain ⟨G0, r1, r2, r3⟩ := x_token hTA hX (p := 0) (Nat.zero_le _) ((h35 4).trans a4)
  rw [r1, Option.bind_some]
  have s37 : ∀ k, G0 37 k = M2 37 k := fun k => by rw [r3 _ _ (by omega), d1 _ _ (by omega)]
  refine ⟨G0, rfl, ⟨hX.mono (r3 _ _ (by omega)) (r3 _ _ (by omega)) (fun k => r3 _ _ (by omega)), r2, ?_, ?_⟩, fun o k z => ?_, ⟨(s37 0).trans c0, (s37 1).trans c1, (s37 2).trans c2, (s37 3).trans c3, (s37 4).trans c4⟩, ⟨?_, ?_⟩, fun z => ?_, fun z => ?_, fun z => ?_⟩
  · rw [r3 _ _ (by omega)]; exact (h35 7).trans a7
  · rw [r3 _ _ (by omega)]; exact (h35 8).trans a8
  · rw [r3 _ _ (by omega)]; exact hf o k z
  · rw [r3 _ _ (by omega), d1 _ _ (by omega)]; exact c5
  · rw [r3 _ _ (by omega), d1 _ _ (by omega)]; exact c6
  · have e := hs1.1 z
    rw [e] at d2
    rw [r3 _ _ (by omega)]; exact d2
  · have e := hs1.2.1 z
    rw [e] at d2
    rw [r3 _ _ (by omega)]; exact d2
  · have e := hs1.2.2.1 z
    rw [e] at d2
    rw [r3 _ _ (by omega)]; exact d2
/-- what the reference begins with -/
def kMt (H H' : Mem) : Prop := ∀ o k, ¬ (o = 173 ∧ 2 ≤ k ∧ k ≤ 8) → ¬ (o = 174 ∧ 6 ≤ k ∧ k ≤ 8) → o ≠ 176 → H' o k = H o k
theorem kM6.t {H H' : Mem} (h : kM6 H H') : kMt H H' := fun o k a b c => h o k (by omega) (by omega) c
theorem kMt.tr {F G H : Mem} (h1 : kMt F G) (h2 : kMt G H) : kMt F H := fun o k a b c => (h2 o k a b c).trans (h1 o k a b c)
def clr (F : Mem) : Mem := mset (mset (mset (mset F 173 2 (F 174 6)) 174 6 0) 174 7 0) 174 8 (-1)
theorem clr_f (F : Mem) : kMt F (clr F) := fun o k a b c => by
  unfold clr
  rw [mset_ne _ _ (by omega), mset_ne _ _ (by omega), mset_ne _ _ (by omega), mset_ne _ _ (by omega)]
theorem m_start {A : Nat → Int} (hA : TA A) (h174 : ∀ k, F 174 k = A k) (hst : st < 4) (y : Int) : ∃ H0, fX10_text_b95 FU 173 (st : Int) y 0 (mset (mset (clr F) 173 3 0) 173 8 0) = fX10_text_b147 FU 173 (st : Int) y H0 ∧ MS A (tS A 0, 0, 0, -1) H0 ∧ kMt F H0 ∧ H0 174 6 = 0 ∧ (∀ k, k < 200 → H0 176 k = if st = 0 then (if k = 0 then 24 else if k = 1 then 9 else if k = 3 then 48 else 0) else 0) := by
  have h6 := hA.1
  generalize eM : mset (mset (clr F) 173 3 0) 173 8 0 = M
  have a1 : kMt F M := fun o k a b c => by rw [← eM, mset_ne _ _ (by omega), mset_ne _ _ (by omega)]; exact clr_f F o k a b c
  have a2 : M 173 2 = A 6 := by rw [← eM, mset_ne _ _ (by omega), mset_ne _ _ (by omega)]; unfold clr; rw [mset_ne _ _ (by omega), mset_ne _ _ (by omega), mset_ne _ _ (by omega), mset_eq]; exact h174 6
  have a3 : M 173 3 = 0 := by rw [← eM, mset_ne _ _ (by omega), mset_eq]
  have a8 : M 173 8 = 0 := by rw [← eM, mset_eq]
  have b6 : M 174 6 = 0 := by rw [← eM, mset_ne _ _ (by omega), mset_ne _ _ (by omega)]; unfold clr; rw [mset_ne _ _ (by omega), mset_ne _ _ (by omega), mset_eq]
  have b7 : M 174 7 = 0 := by rw [← eM, mset_ne _ _ (by omega), mset_ne _ _ (by omega)]; unfold clr; rw [mset_ne _ _ (by omega), mset_eq]
  have b8 : M 174 8 = -1 := by rw [← eM, mset_ne _ _ (by omega), mset_ne _ _ (by omega)]; unfold clr; rw [mset_eq]
  have e176 : (173 + 3 : Nat) = 176 := rfl
  have fin : ∀ H : Mem, (∀ o k, o ≠ 176 → H o k = M o k) → ∃ H0, fX10_text_b143 173 (st : Int) y H = fX10_text_b147 FU 173 (st : Int) y H0 ∧ MS A (tS A 0, 0, 0, -1) H0 ∧ kMt F H0 ∧ H0 174 6 = 0 ∧ ∀ k, H0 176 k = H 176 k := fun H hH => by
    have hM : MM A H := ⟨(hH _ _ (by decide)).trans a2, fun k hk => (hH _ _ (by decide)).trans ((a1 174 (10 + k) (by omega) (by omega) (by omega)).trans (h174 _))⟩
    obtain ⟨H0, r1, r2, r3⟩ := m_token hA hM (p := 0) (Nat.zero_le _) ((hH _ _ (by decide)).trans a3)
    unfold fX10_text_b143
    rw [r1, Option.bind_some]
    refine ⟨H0, rfl, ⟨hM.mono (r3 _ _ (by omega)) (fun k _ _ => r3 _ _ (by omega)) hA, r2, ?_, ?_, ?_⟩, fun o k a b c => ?_, ?_, fun k => r3 _ _ (by omega)⟩
    · rw [r3 _ _ (by omega), hH _ _ (by decide)]; exact a8
    · rw [r3 _ _ (by omega), hH _ _ (by decide)]; exact b7
    · rw [r3 _ _ (by omega), hH _ _ (by decide)]; exact b8
    · rw [r3 _ _ (by omega), hH _ _ c]; exact a1 o k a b c
    · rw [r3 _ _ (by omega), hH _ _ (by decide)]; exact b6
  refine lp (fun n k (H : Mem) => fX10_text_b95 n 173 (st : Int) y (k : Int) H) 200 (fun k H => (∀ j, j < k → H 176 j = 0) ∧ ∀ o j, ¬ (o = 176) → H o j = M o j) (fun r => ∃ H0, r = fX10_text_b147 FU 173 (st : Int) y H0 ∧ MS A (tS A 0, 0, 0, -1) H0 ∧ kMt F H0 ∧ H0 174 6 = 0 ∧ (∀ k, k < 200 → H0 176 k = if st = 0 then (if k = 0 then 24 else if k = 1 then 9 else if k = 3 then 48 else 0) else 0)) ?_ ?_ FU 0 M (by omega) ⟨fun j hj => absurd hj (by omega), fun _ _ _ => rfl⟩ (FUa (by omega))
  · rintro n k H hk ⟨g1, g2⟩
    left
    refine ⟨mset H 176 k 0, ⟨fun j hj => ?_, fun o j z => by rw [mset_ne _ _ (by omega)]; exact g2 o j z⟩, ?_⟩
    · by_cases q : j = k
      · rw [q, mset_eq]
      · rw [mset_ne _ _ (by omega)]; exact g1 j (by omega)
    · show fX10_text_b95 (n + 1) 173 (st : Int) y (k : Int) H = fX10_text_b95 n 173 (st : Int) y ((k + 1 : Nat) : Int) _
      rw [fX10_text_b95, if_neg (by omega), al176, if_pos (by omega), e176, Int.toNat_natCast, xwS (by omega)]
  · rintro n H ⟨g1, g2⟩
    show ∃ H0, fX10_text_b95 (n + 1) 173 (st : Int) y ((200 : Nat) : Int) H = fX10_text_b147 FU 173 (st : Int) y H0 ∧ _
    rw [fX10_text_b95, if_pos (by decide)]
    by_cases s0 : st = 0
    · have hs : ¬ ((st : Nat) : Int) ≠ 0 := by omega
      rw [if_neg hs, al176, if_pos (by decide), if_pos (by decide), if_pos (by decide), e176]
      obtain ⟨H0, r1, r2, r3, r4, r5⟩ := fin (mset (mset (mset H 176 0 24) 176 1 9) 176 3 48) (fun o k z => by rw [mset_ne _ _ (by omega), mset_ne _ _ (by omega), mset_ne _ _ (by omega)]; exact g2 o k z)
      refine ⟨H0, r1, r2, r3, r4, fun k hk => ?_⟩
      rw [r5, if_pos s0]
      by_cases q3 : k = 3
      · rw [q3, mset_eq]; rfl
      · rw [mset_ne _ _ (by omega)]
        by_cases q1 : k = 1
        · rw [q1, mset_eq]; rfl
        · rw [mset_ne _ _ (by omega)]
          by_cases q0 : k = 0
          · rw [q0, mset_eq]; rfl
          · rw [mset_ne _ _ (by omega), if_neg q0, if_neg q1, if_neg q3]; exact g1 k hk
    · have hs : ((st : Nat) : Int) ≠ 0 := by omega
      rw [if_pos hs]
      obtain ⟨H0, r1, r2, r3, r4, r5⟩ := fin H g2
      refine ⟨H0, r1, r2, r3, r4, fun k hk => ?_⟩
      rw [r5, if_neg s0]; exact g1 k hk
/-- both read the tape -/
theorem j_text (hA : AO (F 174)) (hT : TR (F 174) F 2) (hst : st < 4) {F1 : Mem} (h174 : ∀ k, F1 174 k = F 174 k) (y : Int) : ∃ G' H', fX2_read 35 (st : Int) 3 (F 2 1) F = some G' ∧ fX10_text_b95 FU 173 (st : Int) y 0 (mset (mset (clr F1) 173 3 0) 173 8 0) = fX10_text_b233 173 (st : Int) y H' ∧ G' 35 7 = H' 174 7 ∧ G' 35 8 = H' 174 8 ∧ (H' 174 7 = 0 → K0 st G' H') ∧ kXt F G' ∧ kMt F1 H' ∧ H' 174 6 = 0 := by
  have hTA := ta_of hA
  obtain ⟨G0, r1, r2, r3, ⟨v0, v1, v2, v3, v4⟩, ⟨v5, v6⟩, s1, s2, s3⟩ := x_read hA hT hst
  obtain ⟨H0, q1, q2, q3, q4, q5⟩ := m_start hTA h174 hst y
  have hs := tS_sp hTA (p := 0) (Nat.zero_le _)
  have hI : IV (F 174) (tS (F 174) 0, 0, 0, -1) := ⟨hs.2.1, fun _ => ⟨(show (0 : Int) ≠ 1 by decide), fun z => absurd rfl z⟩, fun z => absurd rfl z⟩
  have hK : KP st 0 G0 H0 := by
    refine ⟨fun z => ?_, fun z => ?_, fun z => ?_, fun z => ?_⟩
    · have g : ∀ k, k < 200 → H0 176 k = if k = 0 then 24 else if k = 1 then 9 else if k = 3 then 48 else 0 := fun k hk => by rw [q5 k hk, if_pos z]
      have g0 : H0 176 0 = 24 := g 0 (by decide)
      have g1 : H0 176 1 = 9 := g 1 (by decide)
      have g2 : H0 176 2 = 0 := g 2 (by decide)
      have g3 : H0 176 3 = 48 := g 3 (by decide)
      have g4 : H0 176 4 = 0 := g 4 (by decide)
      have g5 : H0 176 5 = 0 := g 5 (by decide)
      have g6 : H0 176 6 = 0 := g 6 (by decide)
      refine ⟨⟨by omega, by omega, by omega, by omega, by omega, by omega, fun j hj => absurd hj (by omega), fun j hj => absurd hj (by omega)⟩, fun _ => ⟨rfl, ⟨v0.trans g0.symm, v1.trans g1.symm, v2.trans g2.symm, v3.trans g3.symm, v4.trans g4.symm⟩, v5.trans g5.symm, v6.trans g6.symm, fun j i hj _ => absurd hj (by omega), fun j i hj _ => absurd hj (by omega)⟩, by omega⟩
    · have g0 : H0 176 0 = 0 := by rw [q5 0 (by decide), if_neg (by omega)]
      exact ⟨⟨by omega, fun j hj => absurd hj (by omega)⟩, fun _ => ⟨rfl, rfl, rfl, rfl, (s1 z).trans g0.symm, by omega, fun j i hj _ => absurd hj (by omega)⟩⟩
    · have g0 : H0 176 0 = 0 := by rw [q5 0 (by decide), if_neg (by omega)]
      exact ⟨⟨by omega, fun j hj => absurd hj (by omega)⟩, fun _ => ⟨rfl, rfl, rfl, rfl, (s2 z).trans g0.symm, by omega, fun j i hj _ => absurd hj (by omega)⟩⟩
    · have g0 : H0 176 0 = 0 := by rw [q5 0 (by decide), if_neg (by omega)]
      exact ⟨⟨by omega, fun j hj => absurd hj (by omega)⟩, fun _ => ⟨rfl, rfl, rfl, rfl, (s3 z).trans g0.symm, by omega, fun j i hj _ => absurd hj (by omega)⟩⟩
  have l6 := tN_le hTA
  obtain ⟨R', G1, H1, t1, t2, t3, t4, t5, t6⟩ := j_loop hTA hst (y := y) 600 (tS (F 174) 0, 0, 0, -1) G0 H0 0 FU FU ⟨r2, q2, hI⟩ hK (fun _ => Nat.zero_le _) (by omega) (Nat.le_of_lt (FU_gt (by decide))) (Nat.le_of_lt (FU_gt (by decide)))
  obtain ⟨G2, H2, u1, u2, u3, u4, u5, u6, u7⟩ := j_end hTA hst t3 t4 y
  refine ⟨G2, H2, ?_, ?_, u3, u4, u5, (r3.tr t5).tr u6, (q3.tr t6.t).tr u7.t, ?_⟩
  · rw [r1]; exact t1.trans u1
  · rw [q1]; exact t2.trans u2
  · rw [u7 _ _ (by omega) (by omega) (by decide), t6 _ _ (by omega) (by omega) (by decide)]; exact q4
end TQ
