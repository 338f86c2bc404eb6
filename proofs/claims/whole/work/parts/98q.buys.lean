/-! ===== buys, both ===== -/
theorem pc_buys (a b c d e f : Int) : pcase RR gX9_buys gX10_buys [vI a, vI b, vI c, vI d, vI e, vI f] := by
  intro F hR hm
  rcases gain2 hR a b c d with ⟨F1, V, day, v, hd, s1, s2, s3, s4, s5, s6⟩ | ⟨F1, s1, s2, s3⟩
  · have hPV := s3.1.1.1
    have hO := hPV.2.2.2.2
    have eD := csv_D s3
    have yne : yD v hd day ≠ BD := by rw [← eD]; exact s4
    have hst := st_lt hO
    have hW := insD_WF (hd := hd) (day := day) hO (show 1 ≤ 7 by decide) 0 0
    have X0 : fX9_buys 1 a b c d e f F = if 0 ≤ e ∧ e < v 5 then (fX5_buyAll 78 63 (gof (yD v hd day)) e F1).bind fun q7 => (if f ≠ -1 then (if f ≠ -2 then (if f < 0 then some (-2, q7) else if f < q7 78 3 then (if (0 : Int) ≤ f ∧ f < (alen 79 : Int) then some (q7 79 f.toNat, q7) else none) else some (-2, q7)) else some (xw (gof (yD v hd day) + q7 78 2), q7)) else some (q7 78 3, q7)) else some (-2, F1) := by
      unfold fX9_buys
      rw [s1, Option.bind_some]
      dsimp only
      simp only [Nat.reduceAdd]
      rw [if_neg (csv_1 s3 s4), pv_n hPV, if_neg hPV.2.1, v_has hPV.2.2.2.1, i11, eD]
    by_cases y1 : 0 ≤ e ∧ e < v 5
    · rw [if_pos y1] at X0
      obtain ⟨k, rfl⟩ := nat_of y1.1
      obtain ⟨n, F2, p1, p2, p3, p4, p5, p6, p7⟩ := c_buys s3 yne y1.2
      have k2 : kX F F2 := s2.tr (fun o j ho => p7 o j (by omega))
      have gn := yD_bd hO (bH_ne hO yne k n)
      have ws := xwSum (yD_bd hO yne) gn
      rw [p3, Option.bind_some, p4, p5, ws] at X0
      clear ws
      have hx : -2 ≤ f → fX9_buys 1 a b c d (k : Int) f F = some (bAns v hd day k n f, F2) := by
        intro hf
        rw [X0]
        unfold bAns
        by_cases z1 : f = -1
        · rw [if_neg (dnn z1), if_pos z1]
        · rw [if_pos z1, if_neg z1]
          by_cases z2 : f = -2
          · rw [if_neg (dnn z2), if_pos z2]
          · rw [if_pos z2, if_neg z2, if_neg (show ¬ f < 0 by omega)]
            by_cases z3 : (n : Int) ≤ f
            · rw [if_neg (show ¬ f < (n : Int) by omega), if_pos z3]
            · rw [if_pos (show f < (n : Int) by omega), if_neg z3, show alen 79 = 48 from rfl, if_pos (show (0 : Int) ≤ f ∧ f < ((48 : Nat) : Int) by omega), p6 f.toNat (by omega)]
      by_cases y2 : f < -2
      · have hx2 : fX9_buys 1 a b c d (k : Int) f F = some (-2, F2) := by
          rw [X0, if_pos (show f ≠ -1 by omega), if_pos (show f ≠ -2 by omega), if_pos (show f < 0 by omega)]
        refine no_best hR (z := -2) (F1 := F2) (G' := F2) ⟨1, a, b, c, d, (k : Int), f, (-2, F2), rfl, k9, hx2, rfl, rfl⟩ ⟨173, a, b, c, d, (k : Int), f, (-2, F2), rfl, k10, ?_, rfl, rfl⟩ k2 (kM.rf F2)
        unfold fX10_buys
        rw [if_pos y2]
      · have hx := hx (by omega)
        obtain ⟨G', r1, r2, r3, r4⟩ := s6 F2 k2
        obtain ⟨n', G2, t1, t2, t3⟩ := m_buys (k := k) (what := f) r3.1 yne (by omega)
        have en := isBY_uq p1 t1
        subst en
        have hcok := r3.2.1.1 0 (v 4).toNat (Nat.zero_le _) hst
        rw [Nat.mul_zero, Nat.zero_add, Nat.sub_zero] at hcok
        have hg := m_gain r3.1.1.1 hO hcok (N336 hO)
        have eG : dcd G' 0 (v 4).toNat = yD v hd day := best0_eq hW hst r3.2.2
        rw [eG, grw_of yne] at hg
        refine no_best hR (F1 := F2) (G' := G2) ⟨1, a, b, c, d, (k : Int), f, _, rfl, k9, hx, rfl, rfl⟩ ⟨173, a, b, c, d, (k : Int), f, (_, G2), rfl, k10, ?_, rfl, rfl⟩ k2 (r2.tr t3)
        unfold fX10_buys
        rw [if_neg y2, r1, Option.bind_some]
        dsimp only
        rw [if_neg (show ¬ (1 : Int) = 0 by decide), m_isHouse r3.1.1.1 hO, Option.bind_some, i11, if_pos y1, hg, Option.bind_some]
        exact t2
    · rw [if_neg y1] at X0
      by_cases y2 : f < -2
      · refine no_best hR (z := -2) (F1 := F1) (G' := F1) ⟨1, a, b, c, d, e, f, (-2, F1), rfl, k9, X0, rfl, rfl⟩ ⟨173, a, b, c, d, e, f, (-2, F1), rfl, k10, ?_, rfl, rfl⟩ s2 (kM.rf F1)
        unfold fX10_buys
        rw [if_pos y2]
      · obtain ⟨G', r1, r2, r3, r4⟩ := s6 F1 s2
        refine no_best hR (z := -2) (F1 := F1) (G' := G') ⟨1, a, b, c, d, e, f, (-2, F1), rfl, k9, X0, rfl, rfl⟩ ⟨173, a, b, c, d, e, f, (-2, G'), rfl, k10, ?_, rfl, rfl⟩ s2 r2
        unfold fX10_buys
        rw [if_neg y2, r1, Option.bind_some]
        dsimp only
        rw [if_neg (show ¬ (1 : Int) = 0 by decide), m_isHouse r3.1.1.1 hO, Option.bind_some, i11, if_neg y1]
  · have hx : fX9_buys 1 a b c d e f F = some (-2, F1) := by
      unfold fX9_buys
      rw [s1, Option.bind_some]
      dsimp only
      rw [if_pos rfl]
    by_cases y2 : f < -2
    · refine no_best hR (z := -2) (F1 := F1) (G' := F1) ⟨1, a, b, c, d, e, f, (-2, F1), rfl, k9, hx, rfl, rfl⟩ ⟨173, a, b, c, d, e, f, (-2, F1), rfl, k10, ?_, rfl, rfl⟩ s2 (kM.rf F1)
      unfold fX10_buys
      rw [if_pos y2]
    · obtain ⟨G', r1, r2⟩ := s3 F1 s2
      refine no_best hR (z := -2) (F1 := F1) (G' := G') ⟨1, a, b, c, d, e, f, (-2, F1), rfl, k9, hx, rfl, rfl⟩ ⟨173, a, b, c, d, e, f, (-2, G'), rfl, k10, ?_, rfl, rfl⟩ s2 r2
      unfold fX10_buys
      rw [if_neg y2, r1, Option.bind_some]
      dsimp only
      rw [if_pos rfl]
