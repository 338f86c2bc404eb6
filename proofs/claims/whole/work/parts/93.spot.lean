/-! ===== spot, soon, home, halved ===== -/
theorem gof_nn1 {x : Int} (h : x ≠ BD → 0 ≤ gof x) (hx : x ≠ BD) : gof x ≠ -1 := by have := h hx; omega
section SPT
variable {v hd : Nat → Int} {V day days : Nat} {F : Mem} {c m : Int}
theorem csv_g (hC : CSV v hd V day days c m F) (hne : tbl F 0 (v 4).toNat ≠ BD) : 0 ≤ gof (tbl F 0 (v 4).toNat) ∧ gof (tbl F 0 (v 4).toNat) ≤ 3024 := by
  rcases all_bd hC.1.1.1.2.2.2.2 hC.1.1.2.2.2.2.2.1.2.2 hC.2.1 with w | w
  · exact absurd w hne
  · exact w.2
theorem csv_1 (hC : CSV v hd V day days c m F) (hne : tbl F 0 (v 4).toNat ≠ BD) : gof (tbl F 0 (v 4).toNat) ≠ -1 := by have := csv_g hC hne; omega
theorem day_N (v hd : Nat → Int) (day : Nat) (c m : Int) : iN (insD v hd day 1 c m) = (v 0).toNat := Nat.one_mul _
end SPT
theorem ix_lt {i d s n : Nat} (hi : i < d) (hs : s < n) : i * n + s < d * n := by
  have : (i + 1) * n ≤ d * n := Nat.mul_le_mul_right _ (by omega)
  rw [Nat.add_mul, Nat.one_mul] at this
  omega
theorem pc_spot (a b c d e f g : Int) : pcase RR gX9_spot gX10_spot [vI a, vI b, vI c, vI d, vI e, vI f, vI g] := by
  intro F hR hm
  rcases ask2 hR a b c d e with ⟨F1, V, day, days, v, hd, s1, s2, s3, s4, s5, s6⟩ | ⟨F1, s1, s2, s3⟩
  · obtain ⟨F2, q1, q2, q3⟩ := PLd_solve s3
    have k2 : kX F F2 := s2.tr (kX_67 q3)
    have hPV := q2.1.1.1
    have hO := hPV.2.2.2.2
    have b0 := hO.1
    have h17 := q2.1.1.2.2.2.2.2.1.2
    have hW := insD_WF (hd := hd) (day := day) hO h17.2 0 0
    have w1 : xw ((days : Int) - 1) = (days : Int) - 1 := xwn (by omega) (by omega)
    have eq : ∀ G' : Mem, IsX (insD v hd day days 0 0) tv0 (dcd G') → dcd G' 0 (v 4).toNat = tbl F2 0 (v 4).toNat := fun G' hG' => X_eq hW hG' q2.2.1 (Nat.zero_le _) (st_lt hO)
    -- an answer of none
    have none1 : ∀ F3 : Mem, kX F F3 → fX9_spot 1 a b c d e f g F = some (-2, F3) → (tbl F2 0 (v 4).toNat = BD ∨ ¬ ((0 ≤ f ∧ f < (days : Int)) ∧ (0 ≤ g ∧ g < v 0))) → ∃ (z : Int) (F1 F2 : Mem), gX9_spot (vR 1 :: [vI a, vI b, vI c, vI d, vI e, vI f, vI g]) F (some (vI z)) F1 ∧ gX10_spot (vR 173 :: [vI a, vI b, vI c, vI d, vI e, vI f, vI g]) F1 (some (vI z)) F2 ∧ RR F2 := by
      intro F3 k3 hx hno
      obtain ⟨G', r1, r2, r3⟩ := s6 F3 k3
      rw [eq G' r3.2.2] at r1
      by_cases hf : 0 ≤ f ∧ f ≤ (days : Int) - 1
      · refine no_best hR (z := -2) (F1 := F3) (G' := G') ⟨1, a, b, c, d, e, f, g, _, rfl, k9, hx, rfl, rfl⟩ ⟨173, a, b, c, d, e, f, g, (-2, G'), rfl, k10, ?_, rfl, rfl⟩ k3 r2
        unfold fX10_spot
        rw [m_isIn, i10, s5, w1, if_pos hf, ← s5, r1, Option.bind_some]
        dsimp only
        by_cases y : tbl F2 0 (v 4).toNat = BD
        · rw [if_pos y, if_pos rfl]
        · have hg : ¬ (0 ≤ g ∧ g < v 0) := by
            rcases hno with w | w
            · exact absurd w y
            · exact fun z => w ⟨by omega, z⟩
          rw [if_neg y, if_neg (by decide), m_isSlot r3.1.1.1 hO, if_neg hg, Option.bind_some, if_neg (by decide)]
      · refine no_best hR (z := -2) (F1 := F3) (G' := F3) ⟨1, a, b, c, d, e, f, g, _, rfl, k9, hx, rfl, rfl⟩ ⟨173, a, b, c, d, e, f, g, (-2, F3), rfl, k10, ?_, rfl, rfl⟩ k3 (kM.rf F3)
        unfold fX10_spot
        rw [m_isIn, i10, s5, w1, if_neg hf]
    have X0 : fX9_spot 1 a b c d e f g F = if gof (tbl F2 0 (v 4).toNat) ≠ -1 then (if f < 0 then some (-2, F2) else if e ≤ f then some (-2, F2) else if g < 0 then some (-2, F2) else if g < v 0 then (fX6_follow 72 63 F2).bind fun q13 => if (q13 63 0).toNat = 0 then none else if (0 : Int) ≤ (xw ((xw (f * (q13 ((q13 63 0).toNat) 0))) + g)) ∧ (xw ((xw (f * (q13 ((q13 63 0).toNat) 0))) + g)) < (alen 73 : Int) then some (q13 73 (xw ((xw (f * (q13 ((q13 63 0).toNat) 0))) + g)).toNat, q13) else none else some (-2, F2)) else some (-2, F2) := by
      unfold fX9_spot
      rw [s1, Option.bind_some]
      dsimp only
      simp only [Nat.reduceAdd]
      rw [if_neg (show ¬ (1 : Int) = 0 by decide), q1, Option.bind_some]
      dsimp only
      rw [pv_n hPV, if_neg hPV.2.1]
      simp only [pv_0 hPV]
    by_cases y : tbl F2 0 (v 4).toNat = BD
    · rw [y, gof_bd, if_neg (by decide)] at X0
      exact none1 F2 k2 X0 (Or.inl y)
    · rw [if_pos (csv_1 q2 y)] at X0
      by_cases hf : 0 ≤ f ∧ f < (days : Int)
      · rw [if_neg (show ¬ f < 0 by omega), if_neg (show ¬ e ≤ f by omega)] at X0
        by_cases hg : 0 ≤ g ∧ g < v 0
        · rw [if_neg (show ¬ g < 0 by omega), if_pos hg.2] at X0
          obtain ⟨kf, rfl⟩ := nat_of hf.1
          obtain ⟨kg, rfl⟩ := nat_of hg.1
          obtain ⟨F3, p1, p2, p3, p4⟩ := csv_follow q2 y
          have k3 : kX F F3 := k2.tr (kX_trip p4)
          have hPV3 : PVa v V F3 := hPV.mono (fun o k ho => p4 o k (by unfold isTP; omega) (by omega))
          have hlt : kf * (v 0).toNat + kg < days * (v 0).toNat := ix_lt (by omega) (by omega)
          have hnd := nd_le (days := days) hO h17.2
          have ix : xw (xw ((kf : Int) * v 0) + (kg : Int)) = ((kf * (v 0).toNat + kg : Nat) : Int) := by
            rw [cast_mul (show 0 ≤ v 0 by omega), xwN (by omega), xwA (by omega)]
          have ix2 : xw (xw (v 0 * (kf : Int)) + (kg : Int)) = ((kf * (v 0).toNat + kg : Nat) : Int) := by rw [Int.mul_comm]; exact ix
          have bi := b336 (show kf * (v 0).toNat + kg < 336 by omega)
          have tp := (p2 _ hlt).1
          rw [p1, Option.bind_some, pv_n hPV3, if_neg hPV3.2.1, pv_0 hPV3, ix, show alen 73 = 336 from rfl, if_pos bi, Int.toNat_natCast, tp] at X0
          obtain ⟨G', r1, r2, r3⟩ := s6 F3 k3
          have e1 := eq G' r3.2.2
          have yd : dcd G' 0 (v 4).toNat ≠ BD := by rw [e1]; exact y
          rw [if_neg yd] at r1
          obtain ⟨G2, t1, t2, t3, t4, t5⟩ := msv_walk r3 yd hlt
          have et := twA_eq hW q2.2.1 r3.2.2 (st_lt hO) hlt y
          have hf2 : 0 ≤ (kf : Int) ∧ (kf : Int) ≤ (days : Int) - 1 := by omega
          refine no_best hR (F1 := F3) (G' := G2) ⟨1, a, b, c, d, e, (kf : Int), (kg : Int), _, rfl, k9, X0, rfl, rfl⟩ ⟨173, a, b, c, d, e, (kf : Int), (kg : Int), ((twA (insD v hd day days 0 0) (tbl F2) (v 4).toNat (kf * (v 0).toNat + kg)).1, G2), rfl, k10, ?_, rfl, rfl⟩ k3 (r2.tr (kM_spo t5))
          unfold fX10_spot
          rw [m_isIn, i10, s5, w1, if_pos hf2, ← s5, r1, Option.bind_some]
          dsimp only
          rw [if_neg (show ¬ (1 : Int) = 0 by decide), m_isSlot r3.1.1.1 hO, if_pos hg, Option.bind_some, if_pos (show (1 : Int) ≠ 0 by decide), m_of r3.1.1.1 (i := 0) (x := 0) rfl (by omega), Option.bind_some, ix2, t1, Option.bind_some, t2, et]
        · refine none1 F2 k2 ?_ (Or.inr (fun z => hg z.2))
          rw [X0]
          by_cases w : g < 0
          · rw [if_pos w]
          · rw [if_neg w, if_neg (by omega)]
      · refine none1 F2 k2 ?_ (Or.inr (fun z => hf z.1))
        rw [X0]
        by_cases w : f < 0
        · rw [if_pos w]
        · rw [if_neg w, if_pos (by omega)]
  · obtain ⟨G', r1, r2⟩ := s3 F1 s2
    have hx : fX9_spot 1 a b c d e f g F = some (-2, F1) := by
      unfold fX9_spot
      rw [s1, Option.bind_some]
      dsimp only
      rw [if_pos rfl]
    by_cases hf : 0 ≤ f ∧ f ≤ xw (e - 1)
    · refine no_best hR (z := -2) (F1 := F1) (G' := G') ⟨1, a, b, c, d, e, f, g, _, rfl, k9, hx, rfl, rfl⟩ ⟨173, a, b, c, d, e, f, g, (-2, G'), rfl, k10, ?_, rfl, rfl⟩ s2 r2
      unfold fX10_spot
      rw [m_isIn, i10, if_pos hf, r1, Option.bind_some]
      dsimp only
      rw [if_pos rfl]
    · refine no_best hR (z := -2) (F1 := F1) (G' := F1) ⟨1, a, b, c, d, e, f, g, _, rfl, k9, hx, rfl, rfl⟩ ⟨173, a, b, c, d, e, f, g, (-2, F1), rfl, k10, ?_, rfl, rfl⟩ s2 (kM.rf F1)
      unfold fX10_spot
      rw [m_isIn, i10, if_neg hf]
theorem pc_soon (a b c d e f : Int) : pcase RR gX9_soon gX10_soon [vI a, vI b, vI c, vI d, vI e, vI f] := by
  intro F hR hm
  rcases gain2 hR a b c d with ⟨F1, V, day, v, hd, s1, s2, s3, s4, s5, s6⟩ | ⟨F1, s1, s2, s3⟩
  · have hPV := s3.1.1.1
    have hO := hPV.2.2.2.2
    have b0 := hO.1
    have hp := hO.2.1
    have hW := insD_WF (hd := hd) (day := day) hO (show 1 ≤ 7 by decide) 0 0
    have X0 : fX9_soon 1 a b c d e f F = if ¬ (0 ≤ e ∧ e < v 5) then some (-2, F1) else if f < 0 then some (-2, F1) else if f < v 0 then (fX6_follow 72 63 F1).bind fun q11 => if (0 : Int) ≤ f ∧ f < (alen 75 : Int) then if (0 : Int) ≤ f ∧ f < (alen 76 : Int) then if (q11 63 0).toNat = 0 then none else if (q11 63 0).toNat = 0 then none else (fX7_slotsBetween ((q11 63 0).toNat) (q11 76 f.toNat) e (q11 ((q11 63 0).toNat) 1) q11).bind fun r19 => some (xw ((q11 75 f.toNat) + r19), q11) else none else none else some (-2, F1) := by
      unfold fX9_soon
      rw [s1, Option.bind_some]
      dsimp only
      simp only [Nat.reduceAdd]
      rw [if_neg (csv_1 s3 s4), pv_n hPV, if_neg hPV.2.1, v_has hPV.2.2.2.1, i10, if_neg hPV.2.1, pv_0 hPV, ite_not]
    by_cases he : 0 ≤ e ∧ e < v 5
    · rw [if_neg (dnn he)] at X0
      by_cases hf : 0 ≤ f ∧ f < v 0
      · rw [if_neg (show ¬ f < 0 by omega), if_pos hf.2] at X0
        obtain ⟨ke, rfl⟩ := nat_of he.1
        obtain ⟨kf, rfl⟩ := nat_of hf.1
        obtain ⟨F3, p1, p2, p3, p4⟩ := csv_follow s3 s4
        have k3 : kX F F3 := s2.tr (kX_trip p4)
        have hPV3 : PVa v V F3 := hPV.mono (fun o k ho => p4 o k (by unfold isTP; omega) (by omega))
        have hlt : kf < 1 * (v 0).toNat := by omega
        have bi := b336 (show kf < 336 by omega)
        obtain ⟨tp1, tp2, tp3, tp4⟩ := p2 kf hlt
        have hX := s3.2.1
        have tb := tw_bd hW hX (1 * (v 0).toNat) 0 (v 4).toNat kf (by show 1 * (v 0).toNat ≤ _; omega) (Nat.zero_le _) hlt (st_lt hO) s4
        have tb1 : ((twA (insD v hd day 1 0 0) (tbl F1) (v 4).toNat kf).2.1 : Int) < v 5 := lt5 tb.1
        have tb3 : (twA (insD v hd day 1 0 0) (tbl F1) (v 4).toNat kf).2.2.1 ≤ 1 * (v 0).toNat := tb.2.2.1
        have tb2 := tb.2.1
        have sl := v_slots hPV3.2.2.2.1 hO hp.1 hp.2 tb1 he.2
        have slb := slt_bd hO hp.1 (a := (twA (insD v hd day 1 0 0) (tbl F1) (v 4).toNat kf).2.1) (b := ke) tb1 he.2
        have wA : xw (((twA (insD v hd day 1 0 0) (tbl F1) (v 4).toNat kf).2.2.1 : Int) + slt v (v 1) (twA (insD v hd day 1 0 0) (tbl F1) (v 4).toNat kf).2.1 ke) = ((twA (insD v hd day 1 0 0) (tbl F1) (v 4).toNat kf).2.2.1 : Int) + slt v (v 1) (twA (insD v hd day 1 0 0) (tbl F1) (v 4).toNat kf).2.1 ke := xwn (by omega) (by omega)
        rw [p1, Option.bind_some, show alen 75 = 336 from rfl, show alen 76 = 336 from rfl, if_pos bi, if_pos bi, pv_n hPV3, if_neg hPV3.2.1, if_neg hPV3.2.1, Int.toNat_natCast, tp3, tp4, pv_1 hPV3, sl, Option.bind_some, wA] at X0
        obtain ⟨G', r1, r2, r3, r4⟩ := s6 F3 k3
        have yd : dcd G' 0 (v 4).toNat ≠ BD := by rw [r4]; exact s4
        obtain ⟨G2, t1, t2, t3, t4, t5⟩ := msv_walk r3 yd hlt
        have et := twA_eq hW s3.2.1 r3.2.2 (st_lt hO) hlt s4
        rw [← et] at t2 t3 t4
        have hP2 : PIm (insD v hd day 1 0 0) v G2 := (mas_pim r3.1).mono (sq_spo t5)
        have pc2 : mpc v G2 = v 1 := by
          rw [sq_pc (sq_spo t5)]
          unfold mpc
          rw [r3.1.2.2.2.1.2.1, if_pos (Int.le_refl _)]
        have ms := m_slots hP2.1 hO pc2 hp.1 hp.2 tb1 he.2
        refine no_best hR (F1 := F3) (G' := G2) ⟨1, a, b, c, d, (ke : Int), (kf : Int), _, rfl, k9, X0, rfl, rfl⟩ ⟨173, a, b, c, d, (ke : Int), (kf : Int), (((twA (insD v hd day 1 0 0) (tbl F1) (v 4).toNat kf).2.2.1 : Int) + slt v (v 1) (twA (insD v hd day 1 0 0) (tbl F1) (v 4).toNat kf).2.1 ke, G2), rfl, k10, ?_, rfl, rfl⟩ k3 (r2.tr (kM_spo t5))
        unfold fX10_soon
        rw [r1, Option.bind_some]
        dsimp only
        rw [if_neg (show ¬ (1 : Int) = 0 by decide), m_isHouse r3.1.1.1 hO, if_pos he, Option.bind_some, if_neg (show ¬ (1 : Int) = 0 by decide), m_isSlot r3.1.1.1 hO, if_pos hf, Option.bind_some, if_pos (show (1 : Int) ≠ 0 by decide), t1, Option.bind_some]
        have fin : ∀ u : Int, u = ((twA (insD v hd day 1 0 0) (tbl F1) (v 4).toNat kf).2.2.1 : Int) → fX10_soon_b57 173 (ke : Int) u G2 = some (((twA (insD v hd day 1 0 0) (tbl F1) (v 4).toNat kf).2.2.1 : Int) + slt v (v 1) (twA (insD v hd day 1 0 0) (tbl F1) (v 4).toNat kf).2.1 ke, G2) := by
          intro u hu
          unfold fX10_soon_b57
          rw [t3, ms, Option.bind_some, hu, wA]
        by_cases w : G2 173 38 = -1
        · rw [if_neg (dnn w)]
          exact fin _ t4
        · rw [if_pos w]
          refine fin _ ?_
          rw [t2] at w
          rcases tb2 with z | z
          · exact absurd z w
          · have z2 : (twA (insD v hd day 1 0 0) (tbl F1) (v 4).toNat kf).2.2.1 = kf := z.2
            rw [z2]
      · have hx : fX9_soon 1 a b c d e f F = some (-2, F1) := by
          rw [X0]
          by_cases w : f < 0
          · rw [if_pos w]
          · rw [if_neg w, if_neg (by omega)]
        obtain ⟨G', r1, r2, r3, r4⟩ := s6 F1 s2
        refine no_best hR (z := -2) (F1 := F1) (G' := G') ⟨1, a, b, c, d, e, f, _, rfl, k9, hx, rfl, rfl⟩ ⟨173, a, b, c, d, e, f, (-2, G'), rfl, k10, ?_, rfl, rfl⟩ s2 r2
        unfold fX10_soon
        rw [r1, Option.bind_some]
        dsimp only
        rw [if_neg (show ¬ (1 : Int) = 0 by decide), m_isHouse r3.1.1.1 hO, if_pos he, Option.bind_some, if_neg (show ¬ (1 : Int) = 0 by decide), m_isSlot r3.1.1.1 hO, if_neg hf, Option.bind_some, if_neg (show ¬ (0 : Int) ≠ 0 by decide)]
    · rw [if_pos he] at X0
      obtain ⟨G', r1, r2, r3, r4⟩ := s6 F1 s2
      refine no_best hR (z := -2) (F1 := F1) (G' := G') ⟨1, a, b, c, d, e, f, _, rfl, k9, X0, rfl, rfl⟩ ⟨173, a, b, c, d, e, f, (-2, G'), rfl, k10, ?_, rfl, rfl⟩ s2 r2
      unfold fX10_soon
      rw [r1, Option.bind_some]
      dsimp only
      rw [if_neg (show ¬ (1 : Int) = 0 by decide), m_isHouse r3.1.1.1 hO, if_neg he, Option.bind_some, if_pos rfl]
  · obtain ⟨G', r1, r2⟩ := s3 F1 s2
    refine no_best hR (z := -2) (F1 := F1) (G' := G') ⟨1, a, b, c, d, e, f, (-2, F1), rfl, k9, ?_, rfl, rfl⟩ ⟨173, a, b, c, d, e, f, (-2, G'), rfl, k10, ?_, rfl, rfl⟩ s2 r2
    · unfold fX9_soon
      rw [s1, Option.bind_some]
      dsimp only
      rw [if_pos rfl]
    · unfold fX10_soon
      rw [r1, Option.bind_some]
      dsimp only
      rw [if_pos rfl]
