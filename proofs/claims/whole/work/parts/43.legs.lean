/-! ===== legs, deeds, errors ===== -/
def cocS (w : Nat) (a : Nat → Int) (b c : Int) : Int := if b = -1 then (if c = 0 then a 0 else -2) else if 0 ≤ b ∧ b < a 0 ∧ 0 ≤ c ∧ c < w then a (1 + w * b.toNat + c.toNat) else -2
theorem c_coc {w n : Nat} {a : Nat → Int} {F : Mem} {s : Nat} (hS : SR w n a F s) (hwn : w * n ≤ 1000) (hs : s ≠ 0) (b c : Int) : fX9_cellOrCount s b c F = some (cocS w a b c) := by
  have e : fX9_cellOrCount_b21 F s b c = some (if 0 ≤ b ∧ b < a 0 ∧ 0 ≤ c ∧ c < w then a (1 + w * b.toNat + c.toNat) else -2) := by
    unfold fX9_cellOrCount_b21
    rw [if_neg hs, s_isCell hS, if_neg hs, s_cellA hS hwn, Option.bind_some]
    rw [i10]
    by_cases h : 0 ≤ b ∧ b < a 0 ∧ 0 ≤ c ∧ c < w
    · simp only [if_pos h]
    · simp only [if_neg h]
  unfold fX9_cellOrCount cocS
  rw [if_neg hs, e]
  by_cases h1 : b = -1
  · rw [if_neg (by omega), if_pos h1]
    by_cases h2 : c = 0
    · rw [if_neg (by omega), if_pos h2, hS.2.2.2.2.1]
    · rw [if_pos h2, if_neg h2, if_neg (by omega)]
  · rw [if_pos h1, if_neg h1]
theorem c_coc0 (b c : Int) (F : Mem) : fX9_cellOrCount 0 b c F = some (-2) := by
  unfold fX9_cellOrCount
  rw [if_pos rfl]
theorem m_place1 {i : Int} (h : 0 ≤ i ∧ i < 3) : fX10_placeOf 1 i = 726 + 49 * i := by
  unfold fX10_placeOf
  simp (disch := omega) only [xwn, if_pos, if_neg]
  try rfl
theorem m_leg {F : Mem} (hA : AO (F 174)) (i b c : Int) : fX10_leg 173 i b c F = some (if 0 ≤ i ∧ i < F 174 1 then cocS 3 (rOf (F 174) i.toNat) b c else -2) := by
  have h0 := hA.2.1
  unfold fX10_leg
  rw [m_isOf hA (s := 1) (x := 1) (by omega) i rfl, Option.bind_some]
  by_cases h : 0 ≤ i ∧ i < F 174 1
  · have hR := hA.2.2.2.2.2.2.2.1 i.toNat (by omega)
    rw [if_pos h, if_pos h, if_pos (by decide), m_place1 (by omega), al174]
    obtain ⟨k, rfl⟩ := nat_of h.1
    have e0 : F 174 (726 + 49 * (k : Int)).toNat = rOf (F 174) k 0 := by
      rw [show (726 + 49 * (k : Int)).toNat = 726 + 49 * k by omega]; rfl
    rw [e0, Int.toNat_natCast] at *
    have hb := hR.1
    unfold cocS
    by_cases h1 : b = -1
    · rw [if_neg (by omega), if_pos h1]
      by_cases h2 : c = 0
      · rw [if_neg (by omega), if_pos h2, if_pos (by omega)]
      · rw [if_pos h2, if_neg h2]
    · rw [if_pos h1, if_neg h1, if_pos (by omega), m_isIn, m_isIn, xwn (x := rOf (F 174) k 0 - 1) (by omega) (by omega)]
      rw [i10]
      by_cases h2 : 0 ≤ b ∧ b ≤ rOf (F 174) k 0 - 1
      · rw [if_pos h2, i10]
        by_cases h3 : 0 ≤ c ∧ c ≤ 2
        · obtain ⟨kb, rfl⟩ := nat_of h2.1
          obtain ⟨kc, rfl⟩ := nat_of h3.1
          rw [if_pos h3, if_pos (c := 0 ≤ (kb : Int) ∧ _) (by omega), Int.toNat_natCast, Int.toNat_natCast]
          simp (disch := omega) only [xwn, if_pos]
          rw [show (726 + 49 * (k : Int) + 1 + 3 * (kb : Int) + (kc : Int)).toNat = 726 + 49 * k + (1 + 3 * kb + kc) by omega]
          rfl
        · rw [if_neg h3, if_neg (by omega)]
      · rw [if_neg h2, if_neg (by omega)]
  · rw [if_neg h, if_neg h, if_neg (by decide)]
theorem pc_leg (a b c : Int) : pcase RR gX9_leg gX10_leg [vI a, vI b, vI c] := by
  intro F hR hm
  obtain ⟨hA, hT, -⟩ := id hR
  obtain ⟨z, h1, h2⟩ : ∃ z, fX9_leg 1 a b c F = some z ∧ fX10_leg 173 a b c F = some z := by
    rw [m_leg hA]
    unfold fX9_leg
    rw [t_sheet hA hT (s := 1) (x := 1) (by omega) (by omega) a rfl, Option.bind_some]
    by_cases h : 0 ≤ a ∧ a < F 174 1
    · rw [if_pos h, if_pos h]
      have hS := hT.2.2.2.2.2.2.1 a.toNat (by omega)
      have e : shO 2 1 a.toNat = 2 + 25 + 2 * a.toNat := rfl
      rw [e, c_coc hS (by decide) (by omega), Option.bind_some]
      exact ⟨_, rfl, rfl⟩
    · rw [if_neg h, if_neg h, c_coc0, Option.bind_some]
      exact ⟨_, rfl, rfl⟩
  exact ⟨z, F, F, ⟨1, a, b, c, _, rfl, k9, h1, rfl, rfl⟩, ⟨173, a, b, c, _, rfl, k10, h2, rfl, rfl⟩, hR⟩
theorem m_place2 {i : Int} (h : 0 ≤ i ∧ i < 3) : fX10_placeOf 2 i = 873 + 181 * i := by
  unfold fX10_placeOf
  simp (disch := omega) only [xwn, if_pos, if_neg]
  try rfl
theorem m_deed {F : Mem} (hA : AO (F 174)) (i b c : Int) : fX10_deed 173 i b c F = some (if 0 ≤ i ∧ i < F 174 2 then cocS 6 (gOf (F 174) i.toNat) b c else -2) := by
  have h0 := hA.2.2.1
  unfold fX10_deed
  rw [m_isOf hA (s := 2) (x := 2) (by omega) i rfl, Option.bind_some]
  by_cases h : 0 ≤ i ∧ i < F 174 2
  · have hR := hA.2.2.2.2.2.2.2.2.1 i.toNat (by omega)
    rw [if_pos h, if_pos h, if_pos (by decide), m_place2 (by omega), al174]
    obtain ⟨k, rfl⟩ := nat_of h.1
    have e0 : F 174 (873 + 181 * (k : Int)).toNat = gOf (F 174) k 0 := by
      rw [show (873 + 181 * (k : Int)).toNat = 873 + 181 * k by omega]; rfl
    rw [e0, Int.toNat_natCast] at *
    have hb := hR.1
    unfold cocS
    by_cases h1 : b = -1
    · rw [if_neg (by omega), if_pos h1]
      by_cases h2 : c = 0
      · rw [if_neg (by omega), if_pos h2, if_pos (by omega)]
      · rw [if_pos h2, if_neg h2]
    · rw [if_pos h1, if_neg h1, if_pos (by omega), m_isIn, m_isIn, xwn (x := gOf (F 174) k 0 - 1) (by omega) (by omega)]
      rw [i10]
      by_cases h2 : 0 ≤ b ∧ b ≤ gOf (F 174) k 0 - 1
      · rw [if_pos h2, i10]
        by_cases h3 : 0 ≤ c ∧ c ≤ 5
        · obtain ⟨kb, rfl⟩ := nat_of h2.1
          obtain ⟨kc, rfl⟩ := nat_of h3.1
          rw [if_pos h3, if_pos (c := 0 ≤ (kb : Int) ∧ _) (by omega), Int.toNat_natCast, Int.toNat_natCast]
          simp (disch := omega) only [xwn, if_pos]
          rw [show (873 + 181 * (k : Int) + 1 + 6 * (kb : Int) + (kc : Int)).toNat = 873 + 181 * k + (1 + 6 * kb + kc) by omega]
          rfl
        · rw [if_neg h3, if_neg (by omega)]
      · rw [if_neg h2, if_neg (by omega)]
  · rw [if_neg h, if_neg h, if_neg (by decide)]
theorem pc_deed (a b c : Int) : pcase RR gX9_deed gX10_deed [vI a, vI b, vI c] := by
  intro F hR hm
  obtain ⟨hA, hT, -⟩ := id hR
  obtain ⟨z, h1, h2⟩ : ∃ z, fX9_deed 1 a b c F = some z ∧ fX10_deed 173 a b c F = some z := by
    rw [m_deed hA]
    unfold fX9_deed
    rw [t_sheet hA hT (s := 2) (x := 2) (by omega) (by omega) a rfl, Option.bind_some]
    by_cases h : 0 ≤ a ∧ a < F 174 2
    · rw [if_pos h, if_pos h]
      have hS := hT.2.2.2.2.2.2.2.1 a.toNat (by omega)
      have e : shO 2 2 a.toNat = 2 + 12 + 9 * a.toNat := rfl
      rw [e, c_coc hS (by decide) (by omega), Option.bind_some]
      exact ⟨_, rfl, rfl⟩
    · rw [if_neg h, if_neg h, c_coc0, Option.bind_some]
      exact ⟨_, rfl, rfl⟩
  exact ⟨z, F, F, ⟨1, a, b, c, _, rfl, k9, h1, rfl, rfl⟩, ⟨173, a, b, c, _, rfl, k10, h2, rfl, rfl⟩, hR⟩
theorem m_place3 {i : Int} (h : 0 ≤ i ∧ i < 3) : fX10_placeOf 3 i = 1235 + 41 * i := by
  unfold fX10_placeOf
  simp (disch := omega) only [xwn, if_pos, if_neg]
  try rfl
theorem m_error {F : Mem} (hA : AO (F 174)) (i b c : Int) : fX10_error 173 i b c F = some (if 0 ≤ i ∧ i < F 174 3 then cocS 2 (eOf (F 174) i.toNat) b c else -2) := by
  have h0 := hA.2.2.2.1
  unfold fX10_error
  rw [m_isOf hA (s := 3) (x := 3) (by omega) i rfl, Option.bind_some]
  by_cases h : 0 ≤ i ∧ i < F 174 3
  · have hR := hA.2.2.2.2.2.2.2.2.2 i.toNat (by omega)
    rw [if_pos h, if_pos h, if_pos (by decide), m_place3 (by omega), al174]
    obtain ⟨k, rfl⟩ := nat_of h.1
    have e0 : F 174 (1235 + 41 * (k : Int)).toNat = eOf (F 174) k 0 := by
      rw [show (1235 + 41 * (k : Int)).toNat = 1235 + 41 * k by omega]; rfl
    rw [e0, Int.toNat_natCast] at *
    have hb := hR.1
    unfold cocS
    by_cases h1 : b = -1
    · rw [if_neg (by omega), if_pos h1]
      by_cases h2 : c = 0
      · rw [if_neg (by omega), if_pos h2, if_pos (by omega)]
      · rw [if_pos h2, if_neg h2]
    · rw [if_pos h1, if_neg h1, if_pos (by omega), m_isIn, m_isIn, xwn (x := eOf (F 174) k 0 - 1) (by omega) (by omega)]
      rw [i10]
      by_cases h2 : 0 ≤ b ∧ b ≤ eOf (F 174) k 0 - 1
      · rw [if_pos h2, i10]
        by_cases h3 : 0 ≤ c ∧ c ≤ 1
        · obtain ⟨kb, rfl⟩ := nat_of h2.1
          obtain ⟨kc, rfl⟩ := nat_of h3.1
          rw [if_pos h3, if_pos (c := 0 ≤ (kb : Int) ∧ _) (by omega), Int.toNat_natCast, Int.toNat_natCast]
          simp (disch := omega) only [xwn, if_pos]
          rw [show (1235 + 41 * (k : Int) + 1 + 2 * (kb : Int) + (kc : Int)).toNat = 1235 + 41 * k + (1 + 2 * kb + kc) by omega]
          rfl
        · rw [if_neg h3, if_neg (by omega)]
      · rw [if_neg h2, if_neg (by omega)]
  · rw [if_neg h, if_neg h, if_neg (by decide)]
theorem pc_error (a b c : Int) : pcase RR gX9_error gX10_error [vI a, vI b, vI c] := by
  intro F hR hm
  obtain ⟨hA, hT, -⟩ := id hR
  obtain ⟨z, h1, h2⟩ : ∃ z, fX9_error 1 a b c F = some z ∧ fX10_error 173 a b c F = some z := by
    rw [m_error hA]
    unfold fX9_error
    rw [t_sheet hA hT (s := 3) (x := 3) (by omega) (by omega) a rfl, Option.bind_some]
    by_cases h : 0 ≤ a ∧ a < F 174 3
    · rw [if_pos h, if_pos h]
      have hS := hT.2.2.2.2.2.2.2.2 a.toNat (by omega)
      have e : shO 2 3 a.toNat = 2 + 14 + 9 * a.toNat := rfl
      rw [e, c_coc hS (by decide) (by omega), Option.bind_some]
      exact ⟨_, rfl, rfl⟩
    · rw [if_neg h, if_neg h, c_coc0, Option.bind_some]
      exact ⟨_, rfl, rfl⟩
  exact ⟨z, F, F, ⟨1, a, b, c, _, rfl, k9, h1, rfl, rfl⟩, ⟨173, a, b, c, _, rfl, k10, h2, rfl, rfl⟩, hR⟩
theorem pc_end (a : Int) : pcase RR gX9_end gX10_end [vI a] := by
  intro F hR hm
  obtain ⟨hA, hT, hI, h11, h12, h13⟩ := id hR
  have h6 := hT.2.1.1
  by_cases h : a < 0 ∨ F 174 6 < a
  · refine ⟨-1, F, F, ⟨1, a, (-1, F), rfl, k9, ?_, rfl, rfl⟩, ⟨173, a, (-1, F), rfl, k10, ?_, rfl, rfl⟩, hR⟩
    · unfold fX9_end
      by_cases q : a < 0
      · rw [if_pos q]
      · rw [if_neg q, if_neg]
        show ¬ a ≤ F 2 1
        omega
    · unfold fX10_end
      rw [al174]
      by_cases q : a < 0
      · rw [if_pos q]
      · rw [if_neg q, if_pos (by decide), if_neg (by show ¬ a ≤ F 174 6; omega)]
  · refine ⟨a, mset F 2 1 a, mset (mset F 2 1 a) 174 6 a, ⟨1, a, (a, mset F 2 1 a), rfl, k9, ?_, rfl, rfl⟩, ⟨173, a, (a, mset (mset F 2 1 a) 174 6 a), rfl, k10, ?_, rfl, rfl⟩, ?_⟩
    · unfold fX9_end
      rw [if_neg (by omega), if_pos]
      show a ≤ F 2 1
      omega
    · unfold fX10_end
      have e : mset F 2 1 a 174 6 = F 174 6 := mset_ne _ _ (by omega)
      rw [al174, if_neg (by omega), if_pos (by decide), e, if_pos (by omega), if_pos (by decide)]
    · generalize hG : mset (mset F 2 1 a) 174 6 a = G
      have g1 : ∀ o k, o ≠ 2 → o ≠ 174 → G o k = F o k := fun o k q1 q2 => by rw [← hG, mset_ne _ _ (by omega), mset_ne _ _ (by omega)]
      have g2 : ∀ k, k ≠ 1 → G 2 k = F 2 k := fun k q => by rw [← hG, mset_ne _ _ (by omega), mset_ne _ _ (by omega)]
      have g3 : ∀ k, k ≠ 6 → G 174 k = F 174 k := fun k q => by rw [← hG, mset_ne _ _ (by omega), mset_ne _ _ (by omega)]
      have g4 : G 2 1 = a := by rw [← hG, mset_ne _ _ (by omega), mset_eq]
      have g5 : G 174 6 = a := by rw [← hG, mset_eq]
      obtain ⟨a0, a1, a2, a3, a4, a5, a6, a7, a8, a9⟩ := hA
      obtain ⟨t0, t1, t2, t3, t4, t5, t6, t7, t8⟩ := hT
      have e0 := g3 0 (by omega)
      have e1 := g3 1 (by omega)
      have e2 := g3 2 (by omega)
      have e3 := g3 3 (by omega)
      have q7 : ∀ i, vOf (G 174) i = vOf (F 174) i := fun i => funext fun j => g3 _ (by omega)
      have q8 : ∀ i, rOf (G 174) i = rOf (F 174) i := fun i => funext fun j => g3 _ (by omega)
      have q9 : ∀ i, gOf (G 174) i = gOf (F 174) i := fun i => funext fun j => g3 _ (by omega)
      have q10 : ∀ i, eOf (G 174) i = eOf (F 174) i := fun i => funext fun j => g3 _ (by omega)
      have qi : ∀ j, imgA (G 174) j = imgA (F 174) j := fun j => funext fun k => g3 _ (by omega)
      refine ⟨⟨by omega, by omega, by omega, by omega, by omega, fun k hk => ?_, fun i hi => ?_, fun i hi => ?_, fun i hi => ?_, fun i hi => ?_⟩, ⟨t0, ⟨by omega, ?_, ?_⟩, fun k hk => ?_, fun k hk => ?_, fun i hi => ?_, fun i hi => ?_, fun i hi => ?_, fun i hi => ?_, fun i hi => ?_⟩, fun j hj => ?_, ?_, ?_, ?_⟩
      · rw [g3 _ (by omega)]; exact a5 k (by omega)
      · rw [q7]; exact a6 i (by omega)
      · rw [q8]; exact a7 i (by omega)
      · rw [q9]; exact a8 i (by omega)
      · rw [q10]; exact a9 i (by omega)
      · rw [g2 _ (by omega), g3 _ (by omega)]; exact t1.2.1
      · rw [g2 _ (by omega), g3 _ (by omega)]; exact t1.2.2
      · rw [g1 _ _ (by omega) (by omega)]; exact t2 k hk
      · rw [g1 _ _ (by omega) (by omega), g3 _ (by omega)]; exact t3 k (by omega)
      · rw [g1 _ _ (by omega) (by omega), g3 _ (by omega)]; exact t4 i hi
      · rw [q7]; exact (t5 i (by omega)).mono (fun q k q1 q2 => g1 _ _ (by omega) (by omega))
      · rw [q8]; exact (t6 i (by omega)).mono (fun q k q1 q2 => g1 _ _ (by omega) (by omega))
      · rw [q9]; exact (t7 i (by omega)).mono (fun q k q1 q2 => g1 _ _ (by omega) (by omega))
      · rw [q10]; exact (t8 i (by omega)).mono (fun q k q1 q2 => g1 _ _ (by omega) (by omega))
      · obtain ⟨c1, c2⟩ := hI j hj
        rw [g1 175 j (by omega) (by omega), g1 34 j (by omega) (by omega), qi]
        refine ⟨c1, c2.elim Or.inl (fun ⟨x, y, z⟩ => Or.inr ⟨x, y, z.mono y (fun q k q1 q2 => g1 _ _ (by omega) (by omega))⟩)⟩
      · rw [g1 _ _ (by omega) (by omega)]; exact h11
      · rw [g1 _ _ (by omega) (by omega)]; exact h12
      · rw [g1 _ _ (by omega) (by omega)]; exact h13
