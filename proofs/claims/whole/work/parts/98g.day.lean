/-! ===== day ===== -/
theorem lgF_congr {f g : Nat → Int} : ∀ n, (∀ i, i < n → f i = g i) → lgF f n = lgF g n := by
  intro n
  induction n with
  | zero => intro _; rfl
  | succ n ih =>
    intro h
    have e := ih (fun i hi => h i (by omega))
    have e1 := h n (by omega)
    have e2 : (0 < n ∧ f n = f (n - 1)) ↔ (0 < n ∧ g n = g (n - 1)) := by
      by_cases n0 : 0 < n
      · rw [e1, h (n - 1) (by omega)]
      · exact ⟨fun z => absurd z.1 n0, fun z => absurd z.1 n0⟩
    show (xmax (lgF f n).1 (if f n = -1 then 0 else if 0 < n ∧ f n = f (n - 1) then (lgF f n).2 + 1 else 1), if f n = -1 then 0 else if 0 < n ∧ f n = f (n - 1) then (lgF f n).2 + 1 else 1) = (xmax (lgF g n).1 (if g n = -1 then 0 else if 0 < n ∧ g n = g (n - 1) then (lgF g n).2 + 1 else 1), if g n = -1 then 0 else if 0 < n ∧ g n = g (n - 1) then (lgF g n).2 + 1 else 1)
    rw [e, e1]
    by_cases y : g n = -1
    · rw [if_pos y, if_pos y]
    · rw [if_neg y, if_neg y]
      by_cases w : 0 < n ∧ g n = g (n - 1)
      · rw [if_pos w, if_pos (by rw [← e1]; exact e2.mpr w)]
      · rw [if_neg w, if_neg (fun z => w (e2.mp (by rw [e1]; exact z)))]
theorem smC {f g : Nat → Int} : ∀ n, (∀ i, i < n → f i = g i) → sm n f = sm n g := by
  intro n
  induction n with
  | zero => intro _; rfl
  | succ n ih =>
    intro h
    show sm n f + f n = sm n g + g n
    rw [ih (fun i hi => h i (by omega)), h n (by omega)]
theorem pc_day (a b c d e : Int) (he : in32 e) : pcase RR gX9_day gX10_day [vI a, vI b, vI c, vI d, vI e] := by
  intro F hR hm
  rcases gain2 hR a b c d with ⟨F1, V, day, v, hd, s1, s2, s3, s4, s5, s6⟩ | ⟨F1, s1, s2, s3⟩
  · have hPV := s3.1.1.1
    have hO := hPV.2.2.2.2
    have b0 := hO.1
    have b5 := hO.2.2.2.1
    have eD := csv_D s3
    have yne : yD v hd day ≠ BD := by rw [← eD]; exact s4
    have hW := insD_WF (hd := hd) (day := day) hO (show 1 ≤ 7 by decide) 0 0
    obtain ⟨F3, p1, p2, p3, p4⟩ := csv_follow s3 s4
    have k3 : kX F F3 := s2.tr (kX_trip p4)
    have hP3 : PO v hd V day 1 F3 := s3.1.1.mono (fun o k ho => p4 o k (by unfold isTP; omega) (by omega))
    have hPV3 := hP3.1
    have e634 : F3 63 4 = (((v 0).toNat : Nat) : Int) := by rw [hP3.2.2.2.2.1]; omega
    have e0N : (((v 0).toNat : Nat) : Int) = v 0 := by omega
    have t73 : ∀ i, i < (v 0).toNat → F3 73 i = wyF v hd day (tbl F1) i ∧ F3 74 i = wyG v hd day (tbl F1) i := fun i hi => ⟨(p2 i (by show i < 1 * (v 0).toNat; omega)).1, (p2 i (by show i < 1 * (v 0).toNat; omega)).2.1⟩
    have X0 : fX9_day 1 a b c d e F = if e = 0 then (fX1_touchRows 63 0 F3).bind fun r7 => some (xw (gof (yD v hd day) + r7), F3) else if e = 1 then (fX6_spoiled 72 63 F3).bind fun r10 => some (r10, F3) else if e = 2 then (fX6_idle 72 (F3 63 4) F3).bind fun r13 => some (r13, F3) else if e = 3 then (fX6_slotsAt 72 (-1) (F3 63 4) F3).bind fun r16 => some (r16, F3) else if e = 4 then (fX6_longest 72 (F3 63 4) F3).bind fun r19 => some (r19, F3) else if e = 5 then (fX9_dearest 1 (gof (yD v hd day)) F3).bind fun q22 => some (q22.1, q22.2) else if e = 6 then (fX9_lesson 1 (gof (yD v hd day)) F3).bind fun q25 => some (q25.1, q25.2) else if e = 7 then (fX9_enough 1 F3).bind fun q28 => some (q28.1, q28.2) else if 10 ≤ e then fX9_day_b185 1 (xw (e - 10)) F3 else fX9_day_b185 1 (-1) F3 := by
      unfold fX9_day
      rw [s1, Option.bind_some]
      dsimp only
      simp only [Nat.reduceAdd]
      rw [if_pos (csv_1 s3 s4), p1, Option.bind_some, eD]
    have fin : ∀ (z : Int) (F2 : Mem), fX9_day 1 a b c d e F = some (z, F2) → kX F3 F2 → (∀ G', MSV v hd day 1 G' → dcd G' 0 (v 4).toNat ≠ BD → (∀ i, i < (v 0).toNat → wyF v hd day (tbl F1) i = wyF v hd day (dcd G') i ∧ wyG v hd day (tbl F1) i = wyG v hd day (dcd G') i) → ∃ G2, (if (fX10_isIn e 0 7) ≠ 0 then fX10_day_b45 173 e G' else (fX10_of 173 5 G').bind fun r5 => if (fX10_isIn e 10 (xw (9 + r5))) ≠ 0 then fX10_day_b45 173 e G' else some ((-2), G')) = some (z, G2) ∧ kM G' G2) → ∃ (z : Int) (F1 F2 : Mem), gX9_day (vR 1 :: [vI a, vI b, vI c, vI d, vI e]) F (some (vI z)) F1 ∧ gX10_day (vR 173 :: [vI a, vI b, vI c, vI d, vI e]) F1 (some (vI z)) F2 ∧ RR F2 := by
      intro z F2 hx k2 hG
      have k2 : kX F F2 := k3.tr k2
      obtain ⟨G', r1, r2, r3, r4⟩ := s6 F2 k2
      have yd : dcd G' 0 (v 4).toNat ≠ BD := by rw [r4]; exact s4
      obtain ⟨G2, q1, q2⟩ := hG G' r3 yd (fun i hi => by
        have et := twA_eq hW s3.2.1 r3.2.2 (st_lt hO) (show i < 1 * (v 0).toNat by omega) s4
        unfold wyF wyG
        rw [et]
        exact ⟨rfl, rfl⟩)
      refine no_best hR (F1 := F2) (G' := G2) ⟨1, a, b, c, d, e, _, rfl, k9, hx, rfl, rfl⟩ ⟨173, a, b, c, d, e, (_, G2), rfl, k10, ?_, rfl, rfl⟩ k2 (r2.tr q2)
      unfold fX10_day
      rw [r1, Option.bind_some]
      dsimp only
      rw [if_neg (show ¬ (1 : Int) = 0 by decide)]
      exact q1
    have i07 : 0 ≤ e → e ≤ 7 → ∀ (G' : Mem) (A : Option (Int × Mem)), (if (fX10_isIn e 0 7) ≠ 0 then fX10_day_b45 173 e G' else A) = fX10_day_b45 173 e G' := by
      intro h1 h2 G' A
      rw [m_isIn, i11, if_pos ⟨h1, h2⟩]
    by_cases y0 : e = 0
    · subst y0
      have hyb := yl_bd hO yne 0
      have ey : xw (gof (yD v hd day) + sm (v 5).toNat (tcI v 0)) = yl v hd day 0 := by
        unfold yl yD
        generalize gof (best0 (insD v hd day 1 0 0) (v 4).toNat) = g at *
        generalize sm (v 5).toNat (tcI v 0) = s at *
        exact xwn (by omega) (by omega)
      rw [if_pos rfl, x_touchRows hPV3, Option.bind_some, ey] at X0
      refine fin _ F3 X0 (kX.rf F3) (fun G' hG' yd hw => ?_)
      obtain ⟨G1, q1, q2⟩ := m_yield (mat0 hG'.1) yne
      have m1 := mas_ref (L := G1) hG'.1 (fun o j o1 o2 o3 => q2 o j o1 o2 (fun z => o3 ⟨z.1, Or.inl z.2⟩))
      refine ⟨G1, ?_, m1.2⟩
      rw [i07 (by decide) (by decide)]
      unfold fX10_day_b45
      rw [if_pos rfl, q1, Option.bind_some]
    rw [if_neg y0] at X0
    by_cases y1 : e = 1
    · subst y1
      rw [if_pos rfl, x_spoiled hP3 (f := wyF v hd day (tbl F1)) (fun s hs => (t73 s (by omega)).1), Option.bind_some, sm_swap] at X0
      refine fin _ F3 X0 (kX.rf F3) (fun G' hG' yd hw => ?_)
      obtain ⟨G1, q1, q2⟩ := m_spoiled hG' yd
      refine ⟨G1, ?_, q2⟩
      rw [i07 (by decide) (by decide)]
      unfold fX10_day_b45
      rw [if_neg (by decide), if_pos rfl, q1, Option.bind_some]
      dsimp only
      rw [smC (v 0).toNat (fun s hs => smC (v 5).toNat (fun k _ => show spW v (wyF v hd day (dcd G')) hd day k s = spW v (wyF v hd day (tbl F1)) hd day k s by unfold spW; rw [(hw s hs).1]))]
    rw [if_neg y1] at X0
    by_cases y2 : e = 2
    · subst y2
      rw [if_pos rfl, e634, x_idle (N := (v 0).toNat) (f := wyF v hd day (tbl F1)) (g := wyG v hd day (tbl F1)) (by omega) (fun i hi => t73 i hi), Option.bind_some] at X0
      refine fin _ F3 X0 (kX.rf F3) (fun G' hG' yd hw => ?_)
      obtain ⟨G1, q1, q2⟩ := m_slotsAt hG' yd (-2) 1 _ (Or.inr (Or.inr ⟨rfl, rfl, rfl⟩))
      refine ⟨G1, ?_, q2⟩
      rw [i07 (by decide) (by decide)]
      unfold fX10_day_b45
      rw [if_neg (by decide), if_neg (by decide), if_pos rfl, q1, Option.bind_some]
      dsimp only
      rw [smC (v 0).toNat (fun s hs => show idI (wyF v hd day (dcd G')) (wyG v hd day (dcd G')) s = idI (wyF v hd day (tbl F1)) (wyG v hd day (tbl F1)) s by unfold idI; rw [(hw s hs).1, (hw s hs).2])]
    rw [if_neg y2] at X0
    by_cases y3 : e = 3
    · subst y3
      rw [if_pos rfl, e634, x_slotsAt (N := (v 0).toNat) (f := wyF v hd day (tbl F1)) (by omega) (fun i hi => (t73 i hi).1), Option.bind_some] at X0
      refine fin _ F3 X0 (kX.rf F3) (fun G' hG' yd hw => ?_)
      obtain ⟨G1, q1, q2⟩ := m_slotsAt hG' yd (-1) 1 _ (Or.inr (Or.inl ⟨rfl, rfl, rfl⟩))
      refine ⟨G1, ?_, q2⟩
      rw [i07 (by decide) (by decide)]
      unfold fX10_day_b45
      rw [if_neg (by decide), if_neg (by decide), if_neg (by decide), if_pos rfl, q1, Option.bind_some]
      dsimp only
      rw [smC (v 0).toNat (fun s hs => show atI (wyF v hd day (dcd G')) (-1) s = atI (wyF v hd day (tbl F1)) (-1) s by unfold atI; rw [(hw s hs).1])]
    rw [if_neg y3] at X0
    by_cases y4 : e = 4
    · subst y4
      rw [if_pos rfl, e634, x_longest (N := (v 0).toNat) (f := wyF v hd day (tbl F1)) (by omega) (fun i hi => (t73 i hi).1), Option.bind_some] at X0
      refine fin _ F3 X0 (kX.rf F3) (fun G' hG' yd hw => ?_)
      obtain ⟨G1, q1, q2⟩ := m_longest hG' yd
      refine ⟨G1, ?_, q2⟩
      rw [i07 (by decide) (by decide)]
      unfold fX10_day_b45
      rw [if_neg (by decide), if_neg (by decide), if_neg (by decide), if_neg (by decide), if_pos rfl, q1, Option.bind_some]
      dsimp only
      rw [lgF_congr (v 0).toNat (fun s hs => ((hw s hs).1).symm)]
    rw [if_neg y4] at X0
    by_cases y5 : e = 5
    · subst y5
      obtain ⟨F4, u1, u2⟩ := c_dearest hP3 yne s3.2.1 (fun i hi => (t73 i hi).2)
      rw [if_pos rfl, u1, Option.bind_some] at X0
      refine fin _ F4 X0 (kX_of (fun o k ho => u2 o k (by omega))) (fun G' hG' yd hw => ?_)
      obtain ⟨G1, q1, q2⟩ := m_dearest hG'.1 yne
      refine ⟨G1, ?_, q2⟩
      rw [i07 (by decide) (by decide)]
      unfold fX10_day_b45
      rw [if_neg (by decide), if_neg (by decide), if_neg (by decide), if_neg (by decide), if_neg (by decide), if_pos rfl, q1, Option.bind_some]
    rw [if_neg y5] at X0
    by_cases y6 : e = 6
    · subst y6
      obtain ⟨F4, u1, u2⟩ := c_lesson hP3 yne
      rw [if_pos rfl, u1, Option.bind_some] at X0
      refine fin _ F4 X0 (kX_of (fun o k ho => u2 o k (by omega))) (fun G' hG' yd hw => ?_)
      obtain ⟨G1, q1, q2⟩ := m_lesson hG'.1 yne
      refine ⟨G1, ?_, q2⟩
      rw [i07 (by decide) (by decide)]
      unfold fX10_day_b45
      rw [if_neg (by decide), if_neg (by decide), if_neg (by decide), if_neg (by decide), if_neg (by decide), if_neg (by decide), if_pos rfl, q1, Option.bind_some]
    rw [if_neg y6] at X0
    by_cases y7 : e = 7
    · subst y7
      obtain ⟨r, F4, u0, u1, u2⟩ := c_enough hP3 yne
      rw [if_pos rfl, u1, Option.bind_some] at X0
      refine fin _ F4 X0 (kX_of (fun o k ho => u2 o k (by omega))) (fun G' hG' yd hw => ?_)
      obtain ⟨r', G1, q0, q1, q2⟩ := m_enough hG'.1 yne
      have er := lsU_uq u0 q0
      subst er
      refine ⟨G1, ?_, q2⟩
      rw [i07 (by decide) (by decide)]
      unfold fX10_day_b45
      rw [if_neg (by decide), if_neg (by decide), if_neg (by decide), if_neg (by decide), if_neg (by decide), if_neg (by decide), if_neg (by decide), if_pos rfl, q1, Option.bind_some]
    rw [if_neg y7] at X0
    have n07 : ¬ (0 ≤ e ∧ e ≤ 7) := by omega
    by_cases y8 : 10 ≤ e ∧ e < v 5 + 10
    · obtain ⟨k, hk⟩ := nat_of (show 0 ≤ e - 10 by omega)
      have wk : xw (e - 10) = (k : Int) := by rw [hk]; exact xwn (by omega) (by omega)
      have hh : fX9_day_b185 1 (k : Int) F3 = some (sm (v 0).toNat (atI (wyF v hd day (tbl F1)) (k : Int)), F3) := by
        unfold fX9_day_b185
        simp only [Nat.reduceAdd]
        rw [pv_n hPV3, if_neg hPV3.2.1, v_has hPV3.2.2.2.1, if_pos (show 0 ≤ (k : Int) ∧ (k : Int) < v 5 by omega), if_neg (by decide), e634, x_slotsAt (N := (v 0).toNat) (f := wyF v hd day (tbl F1)) (by omega) (fun i hi => (t73 i hi).1), Option.bind_some]
      rw [if_pos y8.1, wk, hh] at X0
      refine fin _ F3 X0 (kX.rf F3) (fun G' hG' yd hw => ?_)
      obtain ⟨G1, q1, q2⟩ := m_slotsAt hG' yd (k : Int) 0 _ (Or.inl ⟨rfl, rfl⟩)
      refine ⟨G1, ?_, q2⟩
      have w9 : xw (9 + v 5) = 9 + v 5 := xwn (by omega) (by omega)
      rw [m_isIn, if_neg n07, if_neg (dnn rfl), m_of hG'.1.1.1 (i := 5) (x := 5) rfl (by omega), Option.bind_some, w9, m_isIn, if_pos (show 10 ≤ e ∧ e ≤ 9 + v 5 by omega), if_pos (by decide)]
      unfold fX10_day_b45
      rw [if_neg y0, if_neg y1, if_neg y2, if_neg y3, if_neg y4, if_neg y5, if_neg y6, if_neg y7, wk, q1, Option.bind_some]
      dsimp only
      rw [smC (v 0).toNat (fun s hs => show atI (wyF v hd day (dcd G')) (k : Int) s = atI (wyF v hd day (tbl F1)) (k : Int) s by unfold atI; rw [(hw s hs).1])]
    · have hh : fX9_day 1 a b c d e F = some (-2, F3) := by
        rw [X0]
        by_cases y9 : 10 ≤ e
        · have wk : xw (e - 10) = e - 10 := xwn (by omega) (by have := he.2; omega)
          rw [if_pos y9, wk]
          unfold fX9_day_b185
          simp only [Nat.reduceAdd]
          rw [pv_n hPV3, if_neg hPV3.2.1, v_has hPV3.2.2.2.1, if_neg (show ¬ (0 ≤ e - 10 ∧ e - 10 < v 5) by omega), if_pos rfl]
        · rw [if_neg y9]
          unfold fX9_day_b185
          simp only [Nat.reduceAdd]
          rw [pv_n hPV3, if_neg hPV3.2.1, v_has hPV3.2.2.2.1, if_neg (show ¬ (0 ≤ (-1 : Int) ∧ (-1 : Int) < v 5) by omega), if_pos rfl]
      refine fin _ F3 hh (kX.rf F3) (fun G' hG' yd hw => ⟨G', ?_, kM.rf G'⟩)
      have w9 : xw (9 + v 5) = 9 + v 5 := xwn (by omega) (by omega)
      rw [m_isIn, if_neg n07, if_neg (dnn rfl), m_of hG'.1.1.1 (i := 5) (x := 5) rfl (by omega), Option.bind_some, w9, m_isIn, if_neg (show ¬ (10 ≤ e ∧ e ≤ 9 + v 5) by omega), if_neg (dnn rfl)]
  · obtain ⟨G', r1, r2⟩ := s3 F1 s2
    refine no_best hR (z := -2) (F1 := F1) (G' := G') ⟨1, a, b, c, d, e, (-2, F1), rfl, k9, ?_, rfl, rfl⟩ ⟨173, a, b, c, d, e, (-2, G'), rfl, k10, ?_, rfl, rfl⟩ s2 r2
    · unfold fX9_day
      rw [s1, Option.bind_some]
      dsimp only
      rw [if_neg (dnn rfl)]
    · unfold fX10_day
      rw [r1, Option.bind_some]
      dsimp only
      rw [if_pos rfl]
