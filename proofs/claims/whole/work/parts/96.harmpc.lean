/-! ===== harm, worth, pays, ease ===== -/
section HRC
variable {v hd : Nat → Int} {V day : Nat} {F G : Mem}
theorem csv_D (hC : CSV v hd V day 1 0 0 F) : tbl F 0 (v 4).toNat = yD v hd day := best0_eq (insD_WF hC.1.1.1.2.2.2.2 (show 1 ≤ 7 by decide) 0 0) (st_lt hC.1.1.1.2.2.2.2) hC.2.1
end HRC
theorem pc_harm (a b c d e f t l : Int) : pcase RR gX9_harm gX10_harm [vI a, vI b, vI c, vI d, vI e, vI f, vI t, vI l] := by
  intro F hR hm
  rcases gain2 hR a b c d with ⟨F1, V, day, v, hd, s1, s2, s3, s4, s5, s6⟩ | ⟨F1, s1, s2, s3⟩
  · have hPV := s3.1.1.1
    have hO := hPV.2.2.2.2
    have b0 := hO.1
    have hW := insD_WF (hd := hd) (day := day) hO (show 1 ≤ 7 by decide) 0 0
    have eD := csv_D s3
    have X0 : fX9_harm 1 a b c d e f t l F = if ¬ (0 ≤ e ∧ e < v 5) then some (-2, F1) else if 0 ≤ f ∧ f < t ∧ t ≤ v 0 then (if l = 0 then (fX1_reachAll 63 F1).bind fun q11 => (fX1_harmOf 63 (gof (tbl F1 0 (v 4).toNat)) e f t q11).bind fun r13 => if r13 ≠ (-1) then some (r13, q11) else some ((-2), q11) else (fX6_follow 72 63 F1).bind fun q16 => if (0 : Int) ≤ f ∧ f < (alen 73 : Int) then some (q16 73 f.toNat, q16) else none) else some (-2, F1) := by
      unfold fX9_harm
      rw [s1, Option.bind_some]
      dsimp only
      simp only [Nat.reduceAdd]
      rw [if_neg (csv_1 s3 s4), pv_n hPV, if_neg hPV.2.1, v_has hPV.2.2.2.1, i10, if_neg hPV.2.1, v_hasSlots hPV.2.2.2.1, i11, ite_not]
    have Y0 : ∀ G', MSV v hd day 1 G' → (fX10_isHouse 173 e G' = some (if 0 ≤ e ∧ e < v 5 then 1 else 0)) ∧ fX10_areSlots 173 f t G' = some (if 0 ≤ f ∧ f < t ∧ t ≤ v 0 then 1 else 0) := fun G' h => ⟨m_isHouse h.1.1.1 hO e, m_areSlots h.1.1.1 f t⟩
    by_cases he : 0 ≤ e ∧ e < v 5
    · rw [if_neg (dnn he)] at X0
      by_cases hf : 0 ≤ f ∧ f < t ∧ t ≤ v 0
      · rw [if_pos hf] at X0
        obtain ⟨ke, rfl⟩ := nat_of he.1
        obtain ⟨kf, rfl⟩ := nat_of hf.1
        obtain ⟨kt, rfl⟩ := nat_of (show 0 ≤ t by omega)
        have hft : kf < kt := by omega
        by_cases hl : l = 0
        · rw [if_pos hl] at X0
          obtain ⟨F2, p1, p2, p3, p4, p5⟩ := csv_reach s3
          have k2 : kX F F2 := s2.tr (fun o k ho => p5 o k (by omega))
          have ne2 : tbl F2 0 (v 4).toNat ≠ BD := by rw [p3]; exact s4
          obtain ⟨h1, h2⟩ := c_harm p2 p4 ne2 he.2 hft hf.2.2
          rw [p3] at h1 h2
          rw [p1, Option.bind_some, h1, Option.bind_some] at X0
          obtain ⟨G', r1, r2, r3, r4⟩ := s6 F2 k2
          obtain ⟨G2, t1, t2, t3⟩ := m_harmOf r3.1 (by rw [← eD]; exact s4) he.2 hft hf.2.2
          have hy : fX10_harm 173 a b c d (ke : Int) (kf : Int) (kt : Int) l F2 = some (if yJ v hd day (ke : Int) kf kt = BD then -2 else gof (yD v hd day) - gof (yJ v hd day (ke : Int) kf kt), G2) := by
            unfold fX10_harm
            rw [r1, Option.bind_some]
            dsimp only
            rw [if_neg (show ¬ (1 : Int) = 0 by decide), (Y0 G' r3).1, if_pos he, Option.bind_some, if_neg (show ¬ (1 : Int) = 0 by decide), (Y0 G' r3).2, if_pos hf, Option.bind_some, if_pos (show (1 : Int) ≠ 0 by decide), if_neg (dnn hl), t1, Option.bind_some]
          have hx : fX9_harm 1 a b c d (ke : Int) (kf : Int) (kt : Int) l F = some (if yJ v hd day (ke : Int) kf kt = BD then -2 else gof (yD v hd day) - gof (yJ v hd day (ke : Int) kf kt), F2) := by
            rw [X0]
            unfold hq at h2 ⊢
            rw [eD] at h2 ⊢
            by_cases y : yJ v hd day (ke : Int) kf kt = BD
            · rw [if_pos y, if_pos y, if_neg (dnn rfl)]
            · have h3 := h2 y
              rw [if_neg y] at h3
              rw [if_neg y, if_neg y, if_pos (by omega)]
          exact no_best hR (F1 := F2) (G' := G2) ⟨1, a, b, c, d, (ke : Int), (kf : Int), (kt : Int), l, _, rfl, k9, hx, rfl, rfl⟩ ⟨173, a, b, c, d, (ke : Int), (kf : Int), (kt : Int), l, _, rfl, k10, hy, rfl, rfl⟩ k2 (r2.tr t3)
        · rw [if_neg hl] at X0
          obtain ⟨F3, p1, p2, p3, p4⟩ := csv_follow s3 s4
          have k3 : kX F F3 := s2.tr (kX_trip p4)
          have hlt : kf < 1 * (v 0).toNat := by omega
          have bi := b336 (show kf < 336 by omega)
          rw [p1, Option.bind_some, show alen 73 = 336 from rfl, if_pos bi, Int.toNat_natCast, (p2 kf hlt).1] at X0
          obtain ⟨G', r1, r2, r3, r4⟩ := s6 F3 k3
          have yd : dcd G' 0 (v 4).toNat ≠ BD := by rw [r4]; exact s4
          obtain ⟨G2, t1, t2, t3, t4, t5⟩ := msv_walk r3 yd hlt
          have et := twA_eq hW s3.2.1 r3.2.2 (st_lt hO) hlt s4
          rw [← et] at t2
          refine no_best hR (F1 := F3) (G' := G2) ⟨1, a, b, c, d, (ke : Int), (kf : Int), (kt : Int), l, _, rfl, k9, X0, rfl, rfl⟩ ⟨173, a, b, c, d, (ke : Int), (kf : Int), (kt : Int), l, (_, G2), rfl, k10, ?_, rfl, rfl⟩ k3 (r2.tr (kM_spo t5))
          unfold fX10_harm
          rw [r1, Option.bind_some]
          dsimp only
          rw [if_neg (show ¬ (1 : Int) = 0 by decide), (Y0 G' r3).1, if_pos he, Option.bind_some, if_neg (show ¬ (1 : Int) = 0 by decide), (Y0 G' r3).2, if_pos hf, Option.bind_some, if_pos (show (1 : Int) ≠ 0 by decide), if_pos hl, t1, Option.bind_some, t2]
      · rw [if_neg hf] at X0
        obtain ⟨G', r1, r2, r3, r4⟩ := s6 F1 s2
        refine no_best hR (z := -2) (F1 := F1) (G' := G') ⟨1, a, b, c, d, e, f, t, l, _, rfl, k9, X0, rfl, rfl⟩ ⟨173, a, b, c, d, e, f, t, l, (-2, G'), rfl, k10, ?_, rfl, rfl⟩ s2 r2
        unfold fX10_harm
        rw [r1, Option.bind_some]
        dsimp only
        rw [if_neg (show ¬ (1 : Int) = 0 by decide), (Y0 G' r3).1, if_pos he, Option.bind_some, if_neg (show ¬ (1 : Int) = 0 by decide), (Y0 G' r3).2, if_neg hf, Option.bind_some, if_neg (dnn rfl)]
    · rw [if_pos he] at X0
      obtain ⟨G', r1, r2, r3, r4⟩ := s6 F1 s2
      refine no_best hR (z := -2) (F1 := F1) (G' := G') ⟨1, a, b, c, d, e, f, t, l, _, rfl, k9, X0, rfl, rfl⟩ ⟨173, a, b, c, d, e, f, t, l, (-2, G'), rfl, k10, ?_, rfl, rfl⟩ s2 r2
      unfold fX10_harm
      rw [r1, Option.bind_some]
      dsimp only
      rw [if_neg (show ¬ (1 : Int) = 0 by decide), (Y0 G' r3).1, if_neg he, Option.bind_some, if_pos rfl]
  · obtain ⟨G', r1, r2⟩ := s3 F1 s2
    refine no_best hR (z := -2) (F1 := F1) (G' := G') ⟨1, a, b, c, d, e, f, t, l, (-2, F1), rfl, k9, ?_, rfl, rfl⟩ ⟨173, a, b, c, d, e, f, t, l, (-2, G'), rfl, k10, ?_, rfl, rfl⟩ s2 r2
    · unfold fX9_harm
      rw [s1, Option.bind_some]
      dsimp only
      rw [if_pos rfl]
    · unfold fX10_harm
      rw [r1, Option.bind_some]
      dsimp only
      rw [if_pos rfl]
theorem pc_worth (a b c d e f t : Int) : pcase RR gX9_worth gX10_worth [vI a, vI b, vI c, vI d, vI e, vI f, vI t] := by
  intro F hR hm
  rcases gain2 hR a b c d with ⟨F1, V, day, v, hd, s1, s2, s3, s4, s5, s6⟩ | ⟨F1, s1, s2, s3⟩
  · have hPV := s3.1.1.1
    have hO := hPV.2.2.2.2
    have b0 := hO.1
    have eD := csv_D s3
    have yne : yD v hd day ≠ BD := by rw [← eD]; exact s4
    have X0 : fX9_worth 1 a b c d e f t F = if ¬ (0 ≤ f ∧ f < t ∧ t ≤ v 0) then some (-2, F1) else if e = -1 ∨ (0 ≤ e ∧ e < v 5) then fX9_worth_b58 1 e f t (gof (tbl F1 0 (v 4).toNat)) F1 else some (-2, F1) := by
      unfold fX9_worth
      rw [s1, Option.bind_some]
      dsimp only
      simp only [Nat.reduceAdd]
      rw [if_neg (csv_1 s3 s4), pv_n hPV, if_neg hPV.2.1, v_hasSlots hPV.2.2.2.1, i10, if_neg hPV.2.1, v_has hPV.2.2.2.1, i11, ite_not]
      by_cases q : e = -1
      · rw [if_pos q, if_pos (Or.inl q)]
      · rw [if_neg q]
        by_cases q2 : 0 ≤ e ∧ e < v 5
        · rw [if_pos q2, if_pos (Or.inr q2)]
        · have q3 : ¬ (e = -1 ∨ (0 ≤ e ∧ e < v 5)) := fun z => z.elim q q2
          rw [if_neg q2, if_neg q3]
    have Y0 : ∀ G0 G', fX10_isAsked 173 a b c d 1 G0 = some (1, G') → MSV v hd day 1 G' → fX10_worth 173 a b c d e f t G0 = if e = -1 ∨ (0 ≤ e ∧ e < v 5) then (if 0 ≤ f ∧ f < t ∧ t ≤ v 0 then (fX10_worthOf 173 e f t G').bind fun q4 => some (q4.1, q4.2) else some (-2, G')) else some (-2, G') := by
      intro G0 G' hr h
      unfold fX10_worth
      rw [hr, Option.bind_some]
      dsimp only
      have e28 : fX10_worth_b28 173 e f t G' = if 0 ≤ f ∧ f < t ∧ t ≤ v 0 then (fX10_worthOf 173 e f t G').bind fun q4 => some (q4.1, q4.2) else some (-2, G') := by
        unfold fX10_worth_b28
        rw [m_areSlots h.1.1.1 f t, Option.bind_some, i10]
      rw [if_neg (show ¬ (1 : Int) = 0 by decide), e28, m_isHouse h.1.1.1 hO e, Option.bind_some, i10]
      by_cases q : e = -1
      · rw [if_pos q, if_pos (Or.inl q)]
      · rw [if_neg q]
        by_cases q2 : 0 ≤ e ∧ e < v 5
        · rw [if_pos q2, if_pos (Or.inr q2)]
        · have q3 : ¬ (e = -1 ∨ (0 ≤ e ∧ e < v 5)) := fun z => z.elim q q2
          rw [if_neg q2, if_neg q3]
    by_cases hf : 0 ≤ f ∧ f < t ∧ t ≤ v 0
    · rw [if_neg (dnn hf)] at X0
      by_cases he : e = -1 ∨ (0 ≤ e ∧ e < v 5)
      · obtain ⟨kf, rfl⟩ := nat_of hf.1
        obtain ⟨kt, rfl⟩ := nat_of (show 0 ≤ t by omega)
        obtain ⟨F2, p1, p2, p3⟩ := c_loss s3.1.1 (gof (tbl F1 0 (v 4).toNat)) e (f := kf) (t := kt) (by omega) (by omega)
        have k2 : kX F F2 := s2.tr (kX_of (fun o k ho => p3 o k (by omega)))
        rw [if_pos he] at X0
        have X1 : fX9_worth_b58 1 e (kf : Int) (kt : Int) (gof (tbl F1 0 (v 4).toNat)) F1 = some (xw (gof (tbl F1 0 (v 4).toNat) - gof (yB v hd day e kf kt)), F2) := by
          unfold fX9_worth_b58
          simp only [Nat.reduceAdd]
          rw [p1, Option.bind_some]
        rw [X1, eD] at X0
        obtain ⟨G', r1, r2, r3, r4⟩ := s6 F2 k2
        obtain ⟨G2, t1, t2, t3⟩ := m_worthOf r3.1 yne (k := e) (f := kf) (t := kt) (by omega) (by omega)
        have hy := Y0 F2 G' r1 r3
        rw [if_pos he, if_pos hf, t1, Option.bind_some] at hy
        exact no_best hR (F1 := F2) (G' := G2) ⟨1, a, b, c, d, e, (kf : Int), (kt : Int), _, rfl, k9, X0, rfl, rfl⟩ ⟨173, a, b, c, d, e, (kf : Int), (kt : Int), _, rfl, k10, hy, rfl, rfl⟩ k2 (r2.tr t3)
      · rw [if_neg he] at X0
        obtain ⟨G', r1, r2, r3, r4⟩ := s6 F1 s2
        have hy := Y0 F1 G' r1 r3
        rw [if_neg he] at hy
        exact no_best hR (z := -2) (F1 := F1) (G' := G') ⟨1, a, b, c, d, e, f, t, _, rfl, k9, X0, rfl, rfl⟩ ⟨173, a, b, c, d, e, f, t, _, rfl, k10, hy, rfl, rfl⟩ s2 r2
    · rw [if_pos hf] at X0
      obtain ⟨G', r1, r2, r3, r4⟩ := s6 F1 s2
      have hy := Y0 F1 G' r1 r3
      rw [if_neg hf, ite_self] at hy
      exact no_best hR (z := -2) (F1 := F1) (G' := G') ⟨1, a, b, c, d, e, f, t, _, rfl, k9, X0, rfl, rfl⟩ ⟨173, a, b, c, d, e, f, t, _, rfl, k10, hy, rfl, rfl⟩ s2 r2
  · obtain ⟨G', r1, r2⟩ := s3 F1 s2
    refine no_best hR (z := -2) (F1 := F1) (G' := G') ⟨1, a, b, c, d, e, f, t, (-2, F1), rfl, k9, ?_, rfl, rfl⟩ ⟨173, a, b, c, d, e, f, t, (-2, G'), rfl, k10, ?_, rfl, rfl⟩ s2 r2
    · unfold fX9_worth
      rw [s1, Option.bind_some]
      dsimp only
      rw [if_pos rfl]
    · unfold fX10_worth
      rw [r1, Option.bind_some]
      dsimp only
      rw [if_pos rfl]
theorem pc_pays (a b c d e f t w : Int) : pcase RR gX9_pays gX10_pays [vI a, vI b, vI c, vI d, vI e, vI f, vI t, vI w] := by
  intro F hR hm
  rcases gain2 hR a b c d with ⟨F1, V, day, v, hd, s1, s2, s3, s4, s5, s6⟩ | ⟨F1, s1, s2, s3⟩
  · have hPV := s3.1.1.1
    have hO := hPV.2.2.2.2
    have b0 := hO.1
    have eD := csv_D s3
    have yne : yD v hd day ≠ BD := by rw [← eD]; exact s4
    have X0 : fX9_pays 1 a b c d e f t w F = if ¬ (0 ≤ e ∧ e < v 5) then some (0, F1) else if 0 ≤ f ∧ f < t ∧ t ≤ v 0 then ((fX1_reachAll 63 F1).bind fun q10 => (fX1_harmOf 63 (gof (tbl F1 0 (v 4).toNat)) e f t q10).bind fun r12 => if r12 = (-1) then some (0, q10) else if w < 0 then some (0, q10) else if w ≤ 100 then (fX1_lossOf 63 (gof (tbl F1 0 (v 4).toNat)) (-1) f t q10).bind fun q17 => if (xw (w * r12)) ≤ (xw (100 * q17.1)) then some (0, q17.2) else some (1, q17.2) else some (0, q10)) else some (0, F1) := by
      unfold fX9_pays
      rw [s1, Option.bind_some]
      dsimp only
      simp only [Nat.reduceAdd]
      rw [if_neg (csv_1 s3 s4), pv_n hPV, if_neg hPV.2.1, v_has hPV.2.2.2.1, i10, if_neg hPV.2.1, v_hasSlots hPV.2.2.2.1, i11, ite_not]
    have Y0 : ∀ G0 G', fX10_isAsked 173 a b c d 1 G0 = some (1, G') → MSV v hd day 1 G' → (0 ≤ w ∧ w ≤ 100) → fX10_pays 173 a b c d e f t w G0 = if 0 ≤ e ∧ e < v 5 then (if 0 ≤ f ∧ f < t ∧ t ≤ v 0 then (fX10_harmOf 173 e f t G').bind fun q11 => if q11.1 < 0 then some (0, q11.2) else (fX10_worthOf 173 (-1) f t q11.2).bind fun q14 => if (xw (w * q11.1)) ≤ (xw (100 * q14.1)) then some (0, q14.2) else some (1, q14.2) else some (0, G')) else some (0, G') := by
      intro G0 G' hr h hw
      unfold fX10_pays
      rw [m_isIn, i10, if_pos hw, hr, Option.bind_some]
      dsimp only
      rw [if_neg (show ¬ (1 : Int) = 0 by decide), m_isHouse h.1.1.1 hO e, Option.bind_some, i10, m_areSlots h.1.1.1 f t, Option.bind_some, i11]
    -- an answer of no
    have no : ∀ F2, kX F F2 → fX9_pays 1 a b c d e f t w F = some (0, F2) → (¬ (0 ≤ w ∧ w ≤ 100) ∨ ¬ (0 ≤ e ∧ e < v 5) ∨ ¬ (0 ≤ f ∧ f < t ∧ t ≤ v 0) ∨ (∃ ke kf kt : Nat, e = (ke : Int) ∧ f = (kf : Int) ∧ t = (kt : Int) ∧ (ke : Int) < v 5 ∧ kf < kt ∧ (kt : Int) ≤ v 0 ∧ yJ v hd day (ke : Int) kf kt = BD)) → ∃ (z : Int) (F1 F2 : Mem), gX9_pays (vR 1 :: [vI a, vI b, vI c, vI d, vI e, vI f, vI t, vI w]) F (some (vI z)) F1 ∧ gX10_pays (vR 173 :: [vI a, vI b, vI c, vI d, vI e, vI f, vI t, vI w]) F1 (some (vI z)) F2 ∧ RR F2 := by
      intro F2 k2 hx hno
      by_cases hw : 0 ≤ w ∧ w ≤ 100
      · obtain ⟨G', r1, r2, r3, r4⟩ := s6 F2 k2
        have hy := Y0 F2 G' r1 r3 hw
        rcases hno with h | h | h | ⟨ke, kf, kt, rfl, rfl, rfl, h1, h2, h3, h4⟩
        · exact absurd hw h
        · rw [if_neg h] at hy
          exact no_best hR (z := 0) (F1 := F2) (G' := G') ⟨1, a, b, c, d, e, f, t, w, _, rfl, k9, hx, rfl, rfl⟩ ⟨173, a, b, c, d, e, f, t, w, _, rfl, k10, hy, rfl, rfl⟩ k2 r2
        · rw [if_neg h, ite_self] at hy
          exact no_best hR (z := 0) (F1 := F2) (G' := G') ⟨1, a, b, c, d, e, f, t, w, _, rfl, k9, hx, rfl, rfl⟩ ⟨173, a, b, c, d, e, f, t, w, _, rfl, k10, hy, rfl, rfl⟩ k2 r2
        · obtain ⟨G2, t1, t2, t3⟩ := m_harmOf r3.1 yne h1 h2 h3
          rw [if_pos h4] at t1
          rw [if_pos ⟨by omega, h1⟩, if_pos (show (0 : Int) ≤ (kf : Int) ∧ (kf : Int) < (kt : Int) ∧ (kt : Int) ≤ v 0 by omega), t1, Option.bind_some] at hy
          dsimp only at hy
          rw [if_pos (by decide)] at hy
          exact no_best hR (z := 0) (F1 := F2) (G' := G2) ⟨1, a, b, c, d, (ke : Int), (kf : Int), (kt : Int), w, _, rfl, k9, hx, rfl, rfl⟩ ⟨173, a, b, c, d, (ke : Int), (kf : Int), (kt : Int), w, _, rfl, k10, hy, rfl, rfl⟩ k2 (r2.tr t3)
      · refine no_best hR (z := 0) (F1 := F2) (G' := F2) ⟨1, a, b, c, d, e, f, t, w, _, rfl, k9, hx, rfl, rfl⟩ ⟨173, a, b, c, d, e, f, t, w, (0, F2), rfl, k10, ?_, rfl, rfl⟩ k2 (kM.rf F2)
        unfold fX10_pays
        rw [m_isIn, i10, if_neg hw]
    by_cases he : 0 ≤ e ∧ e < v 5
    · rw [if_neg (dnn he)] at X0
      by_cases hf : 0 ≤ f ∧ f < t ∧ t ≤ v 0
      · rw [if_pos hf] at X0
        obtain ⟨ke, rfl⟩ := nat_of he.1
        obtain ⟨kf, rfl⟩ := nat_of hf.1
        obtain ⟨kt, rfl⟩ := nat_of (show 0 ≤ t by omega)
        have hft : kf < kt := by omega
        obtain ⟨F2, p1, p2, p3, p4, p5⟩ := csv_reach s3
        have k2 : kX F F2 := s2.tr (fun o k ho => p5 o k (by omega))
        have ne2 : tbl F2 0 (v 4).toNat ≠ BD := by rw [p3]; exact s4
        obtain ⟨h1, h2⟩ := c_harm p2 p4 ne2 he.2 hft hf.2.2
        rw [p3, eD] at h1 h2
        rw [eD] at X0
        rw [p1, Option.bind_some, h1, Option.bind_some] at X0
        unfold hq at X0 h2
        by_cases y : yJ v hd day (ke : Int) kf kt = BD
        · rw [if_pos y, if_pos rfl] at X0
          exact no F2 k2 X0 (Or.inr (Or.inr (Or.inr ⟨ke, kf, kt, rfl, rfl, rfl, he.2, hft, hf.2.2, y⟩)))
        · have h3 := h2 y
          rw [if_neg y] at h3
          rw [if_neg y, if_neg (by omega)] at X0
          by_cases hw : 0 ≤ w ∧ w ≤ 100
          · rw [if_neg (show ¬ w < 0 by omega), if_pos hw.2] at X0
            obtain ⟨F3, q1, q2, q3⟩ := c_loss p2.1.1 (gof (yD v hd day)) (-1) (f := kf) (t := kt) (by omega) (by omega)
            have k3 : kX F F3 := k2.tr (kX_of (fun o k ho => q3 o k (by omega)))
            rw [q1, Option.bind_some] at X0
            dsimp only at X0
            obtain ⟨G', r1, r2, r3, r4⟩ := s6 F3 k3
            obtain ⟨G2, t1, t2, t3⟩ := m_harmOf r3.1 yne he.2 hft hf.2.2
            obtain ⟨G3, u1, u2, u3⟩ := m_worthOf t2 yne (k := -1) (f := kf) (t := kt) (by omega) (by omega)
            have hy := Y0 F3 G' r1 r3 hw
            rw [if_neg y] at t1
            rw [if_pos he, if_pos hf, t1, Option.bind_some] at hy
            dsimp only at hy
            rw [if_neg (by omega), u1, Option.bind_some] at hy
            dsimp only at hy
            obtain ⟨z, hx2, hy2⟩ : ∃ z, fX9_pays 1 a b c d (ke : Int) (kf : Int) (kt : Int) w F = some (z, F3) ∧ fX10_pays 173 a b c d (ke : Int) (kf : Int) (kt : Int) w F3 = some (z, G3) := by
              rw [X0, hy]
              split <;> exact ⟨_, rfl, rfl⟩
            exact no_best hR (F1 := F3) (G' := G3) ⟨1, a, b, c, d, (ke : Int), (kf : Int), (kt : Int), w, _, rfl, k9, hx2, rfl, rfl⟩ ⟨173, a, b, c, d, (ke : Int), (kf : Int), (kt : Int), w, _, rfl, k10, hy2, rfl, rfl⟩ k3 ((r2.tr t3).tr u3)
          · refine no F2 k2 ?_ (Or.inl hw)
            rw [X0]
            by_cases w0 : w < 0
            · rw [if_pos w0]
            · rw [if_neg w0, if_neg (by omega)]
      · rw [if_neg hf] at X0
        exact no F1 s2 X0 (Or.inr (Or.inr (Or.inl hf)))
    · rw [if_pos he] at X0
      exact no F1 s2 X0 (Or.inr (Or.inl he))
  · obtain ⟨G', r1, r2⟩ := s3 F1 s2
    have hx : fX9_pays 1 a b c d e f t w F = some (0, F1) := by
      unfold fX9_pays
      rw [s1, Option.bind_some]
      dsimp only
      rw [if_pos rfl]
    by_cases hw : 0 ≤ w ∧ w ≤ 100
    · refine no_best hR (z := 0) (F1 := F1) (G' := G') ⟨1, a, b, c, d, e, f, t, w, _, rfl, k9, hx, rfl, rfl⟩ ⟨173, a, b, c, d, e, f, t, w, (0, G'), rfl, k10, ?_, rfl, rfl⟩ s2 r2
      unfold fX10_pays
      rw [m_isIn, i10, if_pos hw, r1, Option.bind_some]
      dsimp only
      rw [if_pos rfl]
    · refine no_best hR (z := 0) (F1 := F1) (G' := F1) ⟨1, a, b, c, d, e, f, t, w, _, rfl, k9, hx, rfl, rfl⟩ ⟨173, a, b, c, d, e, f, t, w, (0, F1), rfl, k10, ?_, rfl, rfl⟩ s2 (kM.rf F1)
      unfold fX10_pays
      rw [m_isIn, i10, if_neg hw]
