/-! ===== deal, the call ===== -/
theorem pc_deal (a b c d e f g : Int) : pcase RR gX9_deal gX10_deal [vI a, vI b, vI c, vI d, vI e, vI f, vI g] := by
  intro F hR hm
  rcases gain2 hR a b c d with ⟨F1, V, day, v, hd, s1, s2, s3, s4, s5, s6⟩ | ⟨F1, s1, s2, s3⟩
  · have hPV := s3.1.1.1
    have hO := hPV.2.2.2.2
    have eD := csv_D s3
    have yne : yD v hd day ≠ BD := by rw [← eD]; exact s4
    have X0 : fX9_deal 1 a b c d e f g F = if e = f then some (-1, F1) else if ¬ (0 ≤ e ∧ e < v 5) then some (-1, F1) else if 0 ≤ f ∧ f < v 5 then (fX5_findDeal 78 63 (gof (yD v hd day)) e f F1).bind fun q11 => (if (q11 78 2) ≠ 0 then (if g ≠ 0 then (if g ≠ 1 then (if g ≠ 2 then some (-1, q11) else some (q11 78 2, q11)) else some (q11 78 1, q11)) else some (q11 78 0, q11)) else some (-1, q11)) else some (-1, F1) := by
      unfold fX9_deal
      rw [s1, Option.bind_some]
      dsimp only
      simp only [Nat.reduceAdd]
      rw [if_neg (csv_1 s3 s4), pv_n hPV, if_neg hPV.2.1, v_has hPV.2.2.2.1, i10, if_neg hPV.2.1, v_has hPV.2.2.2.1, i11, eD, ite_not]
    have hdone : fX9_deal 1 a b c d e f g F = some (-1, F1) → (e = f ∨ ¬ (0 ≤ g ∧ g ≤ 2) ∨ ¬ (0 ≤ e ∧ e < v 5) ∨ ¬ (0 ≤ f ∧ f < v 5)) → ∃ (z : Int) (F1 F2 : Mem), gX9_deal (vR 1 :: [vI a, vI b, vI c, vI d, vI e, vI f, vI g]) F (some (vI z)) F1 ∧ gX10_deal (vR 173 :: [vI a, vI b, vI c, vI d, vI e, vI f, vI g]) F1 (some (vI z)) F2 ∧ RR F2 := by
      intro hx hno
      by_cases y1 : e = f
      · refine no_best hR (z := -1) (F1 := F1) (G' := F1) ⟨1, a, b, c, d, e, f, g, _, rfl, k9, hx, rfl, rfl⟩ ⟨173, a, b, c, d, e, f, g, (-1, F1), rfl, k10, ?_, rfl, rfl⟩ s2 (kM.rf F1)
        unfold fX10_deal
        rw [if_pos y1]
      · by_cases y2 : 0 ≤ g ∧ g ≤ 2
        · obtain ⟨G', r1, r2, r3, r4⟩ := s6 F1 s2
          refine no_best hR (z := -1) (F1 := F1) (G' := G') ⟨1, a, b, c, d, e, f, g, _, rfl, k9, hx, rfl, rfl⟩ ⟨173, a, b, c, d, e, f, g, (-1, G'), rfl, k10, ?_, rfl, rfl⟩ s2 r2
          unfold fX10_deal
          rw [if_neg y1, m_isIn, i10, if_pos y2, r1, Option.bind_some]
          dsimp only
          rw [if_neg (show ¬ (1 : Int) = 0 by decide), m_isHouse r3.1.1.1 hO, Option.bind_some, i10, m_isHouse r3.1.1.1 hO, Option.bind_some, i11]
          by_cases y3 : 0 ≤ e ∧ e < v 5
          · have y4 : ¬ (0 ≤ f ∧ f < v 5) := by
              rcases hno with z | z | z | z
              · exact absurd z y1
              · exact absurd y2 z
              · exact absurd y3 z
              · exact z
            rw [if_pos y3, if_neg y4]
          · rw [if_neg y3]
        · refine no_best hR (z := -1) (F1 := F1) (G' := F1) ⟨1, a, b, c, d, e, f, g, _, rfl, k9, hx, rfl, rfl⟩ ⟨173, a, b, c, d, e, f, g, (-1, F1), rfl, k10, ?_, rfl, rfl⟩ s2 (kM.rf F1)
          unfold fX10_deal
          rw [if_neg y1, m_isIn, i10, if_neg y2]
    by_cases y1 : e = f
    · rw [if_pos y1] at X0
      exact hdone X0 (Or.inl y1)
    · rw [if_neg y1] at X0
      by_cases y3 : 0 ≤ e ∧ e < v 5
      · rw [if_neg (dnn y3)] at X0
        by_cases y4 : 0 ≤ f ∧ f < v 5
        · rw [if_pos y4] at X0
          obtain ⟨kf, rfl⟩ := nat_of y4.1
          obtain ⟨F2, p1, p2, p3⟩ := c_deal s3 yne (one := e) (two := kf) y4.2
          rw [p1, Option.bind_some] at X0
          have k2 : kX F F2 := s2.tr (fun o k ho => p3 o k (by omega) (by omega))
          by_cases y2 : 0 ≤ g ∧ g ≤ 2
          · obtain ⟨G', r1, r2, r3, r4⟩ := s6 F2 k2
            obtain ⟨G2, t1, t2, t3⟩ := m_deal r3 yne (one := e) (two := (kf : Int))
            obtain ⟨u1, u2, u3⟩ := isBD_uniq p2 t2
            have hz : (F2 78 2 ≠ 0 ↔ G2 173 41 ≠ -1) ∧ (F2 78 2 ≠ 0 → 0 < F2 78 2) := by
              rcases t2 with ⟨a1, a2, -⟩ | ⟨i, a1, a2, a3, a4, a5, a6⟩ <;> omega
            have fin2 : ∀ z : Int, fX9_deal 1 a b c d e (kf : Int) g F = some (z, F2) → (if G2 173 41 ≠ -1 then (if g ≠ 0 then (if g ≠ 1 then some (G2 173 43, G2) else some (G2 173 42, G2)) else some (G2 173 41, G2)) else some (-1, G2)) = some (z, G2) → ∃ (z : Int) (F1 F2 : Mem), gX9_deal (vR 1 :: [vI a, vI b, vI c, vI d, vI e, vI (kf : Int), vI g]) F (some (vI z)) F1 ∧ gX10_deal (vR 173 :: [vI a, vI b, vI c, vI d, vI e, vI (kf : Int), vI g]) F1 (some (vI z)) F2 ∧ RR F2 := by
              intro z hx hy
              refine no_best hR (F1 := F2) (G' := G2) ⟨1, a, b, c, d, e, (kf : Int), g, (_, F2), rfl, k9, hx, rfl, rfl⟩ ⟨173, a, b, c, d, e, (kf : Int), g, (_, G2), rfl, k10, ?_, rfl, rfl⟩ k2 (r2.tr t3)
              unfold fX10_deal
              rw [if_neg y1, m_isIn, i10, if_pos y2, r1, Option.bind_some]
              dsimp only
              rw [if_neg (show ¬ (1 : Int) = 0 by decide), m_isHouse r3.1.1.1 hO, Option.bind_some, i10, m_isHouse r3.1.1.1 hO, Option.bind_some, i11, if_pos y3, if_pos y4, t1, Option.bind_some]
              exact hy
            by_cases w : F2 78 2 = 0
            · rw [if_neg (dnn w)] at X0
              exact fin2 _ X0 (if_neg (fun z => absurd w (hz.1.mpr z)))
            · have w2 := hz.1.mp w
              have w3 := u3 (hz.2 w)
              rw [if_pos w] at X0
              by_cases g0 : g = 0
              · rw [if_neg (dnn g0)] at X0
                exact fin2 _ X0 (by rw [if_pos w2, if_neg (dnn g0), u2])
              · rw [if_pos g0] at X0
                by_cases g1 : g = 1
                · rw [if_neg (dnn g1)] at X0
                  exact fin2 _ X0 (by rw [if_pos w2, if_pos g0, if_neg (dnn g1), w3])
                · rw [if_pos g1, if_neg (show ¬ g ≠ 2 by omega)] at X0
                  exact fin2 _ X0 (by rw [if_pos w2, if_pos g0, if_pos g1, u1])
          · refine no_best hR (z := -1) (F1 := F2) (G' := F2) ⟨1, a, b, c, d, e, (kf : Int), g, (-1, F2), rfl, k9, ?_, rfl, rfl⟩ ⟨173, a, b, c, d, e, (kf : Int), g, (-1, F2), rfl, k10, ?_, rfl, rfl⟩ k2 (kM.rf F2)
            · rw [X0]
              by_cases w : F2 78 2 = 0
              · rw [if_neg (dnn w)]
              · rw [if_pos w, if_pos (show g ≠ 0 by omega), if_pos (show g ≠ 1 by omega), if_pos (show g ≠ 2 by omega)]
            · unfold fX10_deal
              rw [if_neg y1, m_isIn, i10, if_neg y2]
        · rw [if_neg y4] at X0
          exact hdone X0 (Or.inr (Or.inr (Or.inr y4)))
      · rw [if_pos y3] at X0
        exact hdone X0 (Or.inr (Or.inr (Or.inl y3)))
  · have hx : fX9_deal 1 a b c d e f g F = some (-1, F1) := by
      unfold fX9_deal
      rw [s1, Option.bind_some]
      dsimp only
      rw [if_pos rfl]
    by_cases y1 : e = f
    · refine no_best hR (z := -1) (F1 := F1) (G' := F1) ⟨1, a, b, c, d, e, f, g, _, rfl, k9, hx, rfl, rfl⟩ ⟨173, a, b, c, d, e, f, g, (-1, F1), rfl, k10, ?_, rfl, rfl⟩ s2 (kM.rf F1)
      unfold fX10_deal
      rw [if_pos y1]
    · by_cases y2 : 0 ≤ g ∧ g ≤ 2
      · obtain ⟨G', r1, r2⟩ := s3 F1 s2
        refine no_best hR (z := -1) (F1 := F1) (G' := G') ⟨1, a, b, c, d, e, f, g, _, rfl, k9, hx, rfl, rfl⟩ ⟨173, a, b, c, d, e, f, g, (-1, G'), rfl, k10, ?_, rfl, rfl⟩ s2 r2
        unfold fX10_deal
        rw [if_neg y1, m_isIn, i10, if_pos y2, r1, Option.bind_some]
        dsimp only
        rw [if_pos rfl]
      · refine no_best hR (z := -1) (F1 := F1) (G' := F1) ⟨1, a, b, c, d, e, f, g, _, rfl, k9, hx, rfl, rfl⟩ ⟨173, a, b, c, d, e, f, g, (-1, F1), rfl, k10, ?_, rfl, rfl⟩ s2 (kM.rf F1)
        unfold fX10_deal
        rw [if_neg y1, m_isIn, i10, if_neg y2]
