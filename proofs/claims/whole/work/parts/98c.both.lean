/-! ===== both ===== -/
/-- pairs with a: the b behind it, one by one -/
def innP (y : Nat → Nat → Int) (a : Nat) (s : Int × Int × Int) : Nat → Int × Int × Int
  | 0 => s
  | n + 1 => if (innP y a s n).1 < y a (a + 1 + n) then (y a (a + 1 + n), (a : Int), ((a + 1 + n : Nat) : Int)) else innP y a s n
def outP (y : Nat → Nat → Int) (H : Nat) (s : Int × Int × Int) : Nat → Int × Int × Int
  | 0 => s
  | n + 1 => innP y n (outP y H s n) (H - (n + 1))
section BTH
variable {v hd : Nat → Int} {V day : Nat} {F G : Mem}
noncomputable def yP (v hd : Nat → Int) (day : Nat) (a b : Nat) : Int := yl v hd day (xor_ (xshl 1 (a : Int)) (xshl 1 (b : Int)))
/-- the best pair so far is in order -/
def pOK (y0 : Int) (s : Int × Int × Int) : Prop := (y0 ≤ s.1 ∧ s.1 ≤ 30000) ∧ ((s.2.1 = -1 ∧ s.2.2 = -1) ∨ ((0 ≤ s.2.1 ∧ s.2.1 ≤ 7) ∧ (0 ≤ s.2.2 ∧ s.2.2 ≤ 7)))
theorem c_both (hP : PO v hd V day 1 F) (hne : yD v hd day ≠ BD) (sec : Int) : ∃ F', fX9_both_b54 FU 1 sec (yl v hd day 0) (-1) (v 5) 0 F = some (if sec = 0 then (outP (yP v hd day) (v 5).toNat (yl v hd day 0, -1, -1) (v 5).toNat).2.1 else (outP (yP v hd day) (v 5).toNat (yl v hd day 0, -1, -1) (v 5).toNat).2.2, F') ∧ (∀ o k, (o ≤ 63 ∨ 71 ≤ o) → F' o k = F o k) := by
  have hO := hP.1.2.2.2.2
  have b5 := hO.2.2.2.1
  obtain ⟨H, hH⟩ := nat_of (show 0 ≤ v 5 by omega)
  have hH2 : (v 5).toNat = H := by omega
  rw [hH2, hH]
  refine lp (fun n a (st : (Int × Int × Int) × Mem) => fX9_both_b54 n 1 sec st.1.1 (if sec = 0 then st.1.2.1 else st.1.2.2) (H : Int) (a : Int) st.2) H (fun a st => st.1 = outP (yP v hd day) H (yl v hd day 0, -1, -1) a ∧ PO v hd V day 1 st.2 ∧ (∀ o k, (o ≤ 63 ∨ 71 ≤ o) → st.2 o k = F o k)) (fun r => ∃ F', r = some (if sec = 0 then (outP (yP v hd day) H (yl v hd day 0, -1, -1) H).2.1 else (outP (yP v hd day) H (yl v hd day 0, -1, -1) H).2.2, F') ∧ (∀ o k, (o ≤ 63 ∨ 71 ≤ o) → F' o k = F o k)) ?_ ?_ FU 0 ((yl v hd day 0, -1, -1), F) (Nat.zero_le _) ⟨rfl, hP, fun _ _ _ => rfl⟩ (FU_gt (by omega)) |> fun h => ?_
  · have e : (if sec = 0 then (((yl v hd day 0, -1, -1), F) : (Int × Int × Int) × Mem).1.2.1 else (((yl v hd day 0, -1, -1), F) : (Int × Int × Int) × Mem).1.2.2) = -1 := by split <;> rfl
    rw [e] at h
    exact h
  · rintro n a ⟨s, K⟩ ha ⟨e0, hK, kK⟩
    dsimp only at e0 hK kK ⊢
    left
    have na : ¬ (H : Int) ≤ (a : Int) := by omega
    have ha1 : a < 2147483647 := by omega
    have E : fX9_both_b54 (n + 1) 1 sec s.1 (if sec = 0 then s.2.1 else s.2.2) (H : Int) (a : Int) K = fX9_both_b67 (fX9_both_b54 n) FU 1 sec s.1 (if sec = 0 then s.2.1 else s.2.2) (H : Int) (a : Int) ((a + 1 : Nat) : Int) K := by
      rw [fX9_both_b54, if_neg na, xwS ha1]
    show ∃ s' : (Int × Int × Int) × Mem, _ ∧ fX9_both_b54 (n + 1) 1 sec s.1 (if sec = 0 then s.2.1 else s.2.2) (H : Int) (a : Int) K = fX9_both_b54 n 1 sec s'.1.1 (if sec = 0 then s'.1.2.1 else s'.1.2.2) (H : Int) ((a + 1 : Nat) : Int) s'.2
    rw [E]
    have L := lp (fun m i (st : (Int × Int × Int) × Mem) => fX9_both_b67 (fX9_both_b54 n) m 1 sec st.1.1 (if sec = 0 then st.1.2.1 else st.1.2.2) (H : Int) (a : Int) ((a + 1 + i : Nat) : Int) st.2) (H - (a + 1)) (fun i st => st.1 = innP (yP v hd day) a s i ∧ PO v hd V day 1 st.2 ∧ (∀ o k, (o ≤ 63 ∨ 71 ≤ o) → st.2 o k = F o k)) (fun r => ∃ s' : (Int × Int × Int) × Mem, (s'.1 = outP (yP v hd day) H (yl v hd day 0, -1, -1) (a + 1) ∧ PO v hd V day 1 s'.2 ∧ (∀ o k, (o ≤ 63 ∨ 71 ≤ o) → s'.2 o k = F o k)) ∧ r = fX9_both_b54 n 1 sec s'.1.1 (if sec = 0 then s'.1.2.1 else s'.1.2.2) (H : Int) ((a + 1 : Nat) : Int) s'.2) ?_ ?_ FU 0 (s, K) (Nat.zero_le _) ⟨rfl, hK, kK⟩ (FU_gt (by omega))
    · exact L
    · rintro m i ⟨t, K1⟩ hi ⟨e1, hK1, kK1⟩
      dsimp only at e1 hK1 kK1 ⊢
      left
      have nb : ¬ (H : Int) ≤ ((a + 1 + i : Nat) : Int) := by omega
      have hb1 : a + 1 + i < 2147483647 := by omega
      obtain ⟨K2, p1, p2, p3⟩ := c_yield hK1 hne (xor_ (xshl 1 (a : Int)) (xshl 1 ((a + 1 + i : Nat) : Int)))
      have p1 : fX1_yieldWith 63 (xor_ (xshl 1 (a : Int)) (xshl 1 ((a + 1 + i : Nat) : Int))) K1 = some (yP v hd day a (a + 1 + i), K2) := p1
      have e : innP (yP v hd day) a s (i + 1) = if t.1 < yP v hd day a (a + 1 + i) then (yP v hd day a (a + 1 + i), (a : Int), ((a + 1 + i : Nat) : Int)) else t := by rw [e1]; rfl
      refine ⟨(innP (yP v hd day) a s (i + 1), K2), ⟨rfl, p2, fun o j ho => (p3 o j ho).trans (kK1 o j ho)⟩, ?_⟩
      dsimp only
      rw [e, fX9_both_b67, if_neg nb]
      simp only [Nat.reduceAdd]
      rw [p1, Option.bind_some]
      dsimp only
      rw [xwS hb1]
      by_cases q : yP v hd day a (a + 1 + i) ≤ t.1
      · rw [if_pos q, if_neg (Int.not_lt.mpr q)]; rfl
      · rw [if_neg q, if_pos (Int.not_le.mp q)]
        by_cases q2 : sec = 0
        · rw [if_pos q2, if_pos q2]; rfl
        · rw [if_neg q2, if_neg q2]; rfl
    · rintro m ⟨t, K1⟩ ⟨e1, hK1, kK1⟩
      dsimp only at e1 hK1 kK1 ⊢
      have nb : (H : Int) ≤ ((a + 1 + (H - (a + 1)) : Nat) : Int) := by omega
      refine ⟨(t, K1), ⟨?_, hK1, kK1⟩, ?_⟩
      · rw [e1, e0]; rfl
      · rw [fX9_both_b67, if_pos nb, xwS ha1]
  · rintro n ⟨s, K⟩ ⟨e0, hK, kK⟩
    dsimp only at e0 hK kK ⊢
    refine ⟨K, ?_, kK⟩
    rw [fX9_both_b54, if_pos (Int.le_refl _), e0]
/-- a pair as the reference keeps it -/
def p8 (s : Int × Int × Int) : Int := if s.2.1 = -1 then -1 else 8 * s.2.1 + s.2.2
theorem m_both (h : MAS v hd day 1 G) (hne : yD v hd day ≠ BD) (sec : Int) : ∃ G', fX10_both_b31 FU 173 sec (yl v hd day 0) (-1) 0 0 G = some (if sec = 0 then (outP (yP v hd day) (v 5).toNat (yl v hd day 0, -1, -1) (v 5).toNat).2.1 else (outP (yP v hd day) (v 5).toNat (yl v hd day 0, -1, -1) (v 5).toNat).2.2, G') ∧ kM G G' := by
  have hO := h.1.2
  have b5 := hO.2.2.2.1
  obtain ⟨H, hH⟩ := nat_of (show 0 ≤ v 5 by omega)
  have hH2 : (v 5).toNat = H := by omega
  rw [hH2]
  have y0r := yl_range hO hne 0
  have ypr : ∀ a b, 0 ≤ yP v hd day a b ∧ yP v hd day a b ≤ 30000 := fun a b => yl_range hO hne _
  generalize hy0 : yl v hd day 0 = y0 at *
  refine lp (fun n a (st : (Int × Int × Int) × Mem) => fX10_both_b31 n 173 sec y0 (p8 st.1) (st.1.1 - y0) (a : Int) st.2) H (fun a st => st.1 = outP (yP v hd day) H (y0, -1, -1) a ∧ pOK y0 st.1 ∧ MAS v hd day 1 st.2 ∧ kM G st.2) (fun r => ∃ G', r = some (if sec = 0 then (outP (yP v hd day) H (y0, -1, -1) H).2.1 else (outP (yP v hd day) H (y0, -1, -1) H).2.2, G') ∧ kM G G') ?_ ?_ FU 0 ((y0, -1, -1), G) (Nat.zero_le _) ⟨rfl, ⟨⟨Int.le_refl _, y0r.2⟩, Or.inl ⟨rfl, rfl⟩⟩, h, kM.rf G⟩ (FU_gt (by omega)) |> fun h2 => ?_
  · have e : (((y0, -1, -1), G) : (Int × Int × Int) × Mem).1.1 - y0 = 0 := Int.sub_self y0
    rw [e] at h2
    exact h2
  · rintro n a ⟨s, K⟩ ha ⟨e0, hs, hK, kK⟩
    dsimp only at e0 hs hK kK ⊢
    left
    have na : ¬ v 5 ≤ (a : Int) := by omega
    have ha1 : a < 2147483647 := by omega
    have E : fX10_both_b31 (n + 1) 173 sec y0 (p8 s) (s.1 - y0) (a : Int) K = fX10_both_b47 (fX10_both_b31 n) FU 173 sec y0 (p8 s) (s.1 - y0) (a : Int) ((a + 1 : Nat) : Int) K := by
      rw [fX10_both_b31, m_of hK.1.1 (i := 5) (x := 5) rfl (by omega), Option.bind_some, if_neg na, xwS ha1]
    show ∃ s' : (Int × Int × Int) × Mem, _ ∧ fX10_both_b31 (n + 1) 173 sec y0 (p8 s) (s.1 - y0) (a : Int) K = fX10_both_b31 n 173 sec y0 (p8 s'.1) (s'.1.1 - y0) ((a + 1 : Nat) : Int) s'.2
    rw [E]
    have L := lp (fun m i (st : (Int × Int × Int) × Mem) => fX10_both_b47 (fX10_both_b31 n) m 173 sec y0 (p8 st.1) (st.1.1 - y0) (a : Int) ((a + 1 + i : Nat) : Int) st.2) (H - (a + 1)) (fun i st => st.1 = innP (yP v hd day) a s i ∧ pOK y0 st.1 ∧ MAS v hd day 1 st.2 ∧ kM G st.2) (fun r => ∃ s' : (Int × Int × Int) × Mem, (s'.1 = outP (yP v hd day) H (y0, -1, -1) (a + 1) ∧ pOK y0 s'.1 ∧ MAS v hd day 1 s'.2 ∧ kM G s'.2) ∧ r = fX10_both_b31 n 173 sec y0 (p8 s'.1) (s'.1.1 - y0) ((a + 1 : Nat) : Int) s'.2) ?_ ?_ FU 0 (s, K) (Nat.zero_le _) ⟨rfl, hs, hK, kK⟩ (FU_gt (by omega))
    · exact L
    · rintro m i ⟨t, K1⟩ hi ⟨e1, ht, hK1, kK1⟩
      dsimp only at e1 ht hK1 kK1 ⊢
      left
      have nb : ¬ v 5 ≤ ((a + 1 + i : Nat) : Int) := by omega
      have hb1 : a + 1 + i < 2147483647 := by omega
      have a8 : a < 8 := by omega
      have b8 : a + 1 + i < 8 := by omega
      have hT : MAT v hd day (xor_ (xshl 1 (a : Int)) (xshl 1 ((a + 1 + i : Nat) : Int))) (mset (mset K1 173 11 (a : Int)) 173 13 ((a + 1 + i : Nat) : Int)) := mat_set hK1 (fun c hc => by
        rw [bits2 a a8 (a + 1 + i) b8 c hc]
        omega)
      obtain ⟨K2, q1, q2⟩ := m_yield hT hne
      have q1 : fX10_yieldOf 173 (mset (mset K1 173 11 (a : Int)) 173 13 ((a + 1 + i : Nat) : Int)) = some (yP v hd day a (a + 1 + i), K2) := q1
      have hb := mas_back (L := mset (mset K1 173 11 (a : Int)) 173 13 ((a + 1 + i : Nat) : Int)) (L' := K2) hK1 (fun o j ho => by rw [mset_ne _ _ (by omega), mset_ne _ _ (by omega)]) q2
      have yr := ypr a (a + 1 + i)
      have e : innP (yP v hd day) a s (i + 1) = if t.1 < yP v hd day a (a + 1 + i) then (yP v hd day a (a + 1 + i), (a : Int), ((a + 1 + i : Nat) : Int)) else t := by rw [e1]; rfl
      show ∃ s' : (Int × Int × Int) × Mem, _ ∧ fX10_both_b47 (fX10_both_b31 n) (m + 1) 173 sec y0 (p8 t) (t.1 - y0) (a : Int) ((a + 1 + i : Nat) : Int) K1 = fX10_both_b47 (fX10_both_b31 n) m 173 sec y0 (p8 s'.1) (s'.1.1 - y0) (a : Int) ((a + 1 + (i + 1) : Nat) : Int) s'.2
      rw [fX10_both_b47, m_of hK1.1.1 (i := 5) (x := 5) rfl (by omega), Option.bind_some, if_neg nb, q1, Option.bind_some]
      dsimp only
      have w8 : xw (xw (8 * (a : Int)) + ((a + 1 + i : Nat) : Int)) = 8 * (a : Int) + ((a + 1 + i : Nat) : Int) := by rw [xwn (x := 8 * (a : Int)) (by omega) (by omega), xwn (by omega) (by omega)]
      rw [xwS hb1, e, w8]
      clear w8 e e1 hT q1
      generalize yP v hd day a (a + 1 + i) = yk at *
      rw [xwn (x := yk - y0) (by omega) (by omega)]
      unfold pOK at ht
      by_cases q : t.1 < yk
      · rw [if_pos (show t.1 - y0 < yk - y0 by omega), if_pos q]
        refine ⟨((yk, (a : Int), ((a + 1 + i : Nat) : Int)), mset (mset K2 173 11 (-1)) 173 13 (-1)), ⟨rfl, ⟨⟨by show y0 ≤ yk; omega, yr.2⟩, Or.inr ⟨by show 0 ≤ (a : Int) ∧ (a : Int) ≤ 7; omega, by show 0 ≤ ((a + 1 + i : Nat) : Int) ∧ ((a + 1 + i : Nat) : Int) ≤ 7; omega⟩⟩, hb.1, kK1.tr hb.2⟩, ?_⟩
        have e8 : p8 (yk, (a : Int), ((a + 1 + i : Nat) : Int)) = 8 * (a : Int) + ((a + 1 + i : Nat) : Int) := if_neg (show ¬ (a : Int) = -1 by omega)
        dsimp only
        rw [e8]; rfl
      · rw [if_neg (show ¬ t.1 - y0 < yk - y0 by omega), if_neg q]
        exact ⟨(t, mset (mset K2 173 11 (-1)) 173 13 (-1)), ⟨rfl, ht, hb.1, kK1.tr hb.2⟩, rfl⟩
    · rintro m ⟨t, K1⟩ ⟨e1, ht, hK1, kK1⟩
      dsimp only at e1 ht hK1 kK1 ⊢
      have nb : v 5 ≤ ((a + 1 + (H - (a + 1)) : Nat) : Int) := by omega
      refine ⟨(t, K1), ⟨?_, ht, hK1, kK1⟩, ?_⟩
      · rw [e1, e0]; rfl
      · rw [fX10_both_b47, m_of hK1.1.1 (i := 5) (x := 5) rfl (by omega), Option.bind_some, if_pos nb, xwS ha1]
  · rintro n ⟨s, K⟩ ⟨e0, hs, hK, kK⟩
    dsimp only at e0 hs hK kK ⊢
    have nb : v 5 ≤ ((H : Nat) : Int) := by omega
    refine ⟨K, ?_, kK⟩
    rw [fX10_both_b31, m_of hK.1.1 (i := 5) (x := 5) rfl (by omega), Option.bind_some, if_pos nb, ← e0]
    rcases hs.2 with ⟨a1, a2⟩ | ⟨a1, a2⟩
    · have e8 : p8 s = -1 := if_pos a1
      rw [e8, if_neg (dnn rfl), a1, a2, ite_self]
    · have e8 : p8 s = 8 * s.2.1 + s.2.2 := if_neg (by omega)
      rw [e8, if_pos (show 8 * s.2.1 + s.2.2 ≠ -1 by omega)]
      by_cases q : sec = 0
      · rw [if_pos q, if_pos q, Int.tdiv_eq_ediv_of_nonneg (by omega), xwn (by omega) (by omega)]
        congr 2
        omega
      · rw [if_neg q, if_neg q, Int.tmod_eq_emod_of_nonneg (by omega)]
        congr 2
        omega
end BTH
theorem pc_both (a b c d sec : Int) : pcase RR gX9_both gX10_both [vI a, vI b, vI c, vI d, vI sec] := by
  intro F hR hm
  rcases gain2 hR a b c d with ⟨F1, V, day, v, hd, s1, s2, s3, s4, s5, s6⟩ | ⟨F1, s1, s2, s3⟩
  · have hPV := s3.1.1.1
    have hO := hPV.2.2.2.2
    have eD := csv_D s3
    have yne : yD v hd day ≠ BD := by rw [← eD]; exact s4
    have hyb := yl_bd hO yne 0
    have ey : xw (gof (yD v hd day) + sm (v 5).toNat (tcI v 0)) = yl v hd day 0 := by
      unfold yl yD
      generalize gof (best0 (insD v hd day 1 0 0) (v 4).toNat) = g at *
      generalize sm (v 5).toNat (tcI v 0) = s at *
      exact xwn (by omega) (by omega)
    obtain ⟨F2, p1, p2⟩ := c_both s3.1.1 yne sec
    have k2 : kX F F2 := s2.tr (kX_of (fun o k ho => p2 o k (by omega)))
    have hx : fX9_both 1 a b c d sec F = some (if sec = 0 then (outP (yP v hd day) (v 5).toNat (yl v hd day 0, -1, -1) (v 5).toNat).2.1 else (outP (yP v hd day) (v 5).toNat (yl v hd day 0, -1, -1) (v 5).toNat).2.2, F2) := by
      unfold fX9_both
      rw [s1, Option.bind_some]
      dsimp only
      simp only [Nat.reduceAdd]
      rw [if_pos (csv_1 s3 s4), x_touchRows hPV, Option.bind_some, pv_n hPV, if_neg hPV.2.1, pv_5 hPV, eD, ey]
      exact p1
    obtain ⟨G', r1, r2, r3, r4⟩ := s6 F2 k2
    obtain ⟨G1, q1, q2⟩ := m_yield (mat0 r3.1) yne
    have m1 := mas_ref (L := G1) r3.1 (fun o j o1 o2 o3 => q2 o j o1 o2 (fun z => o3 ⟨z.1, Or.inl z.2⟩))
    obtain ⟨G2, t1, t2⟩ := m_both m1.1 yne sec
    refine no_best hR (F1 := F2) (G' := G2) ⟨1, a, b, c, d, sec, _, rfl, k9, hx, rfl, rfl⟩ ⟨173, a, b, c, d, sec, (_, G2), rfl, k10, ?_, rfl, rfl⟩ k2 ((r2.tr m1.2).tr t2)
    unfold fX10_both
    rw [r1, Option.bind_some]
    dsimp only
    rw [if_pos (show (1 : Int) ≠ 0 by decide), q1, Option.bind_some]
    exact t1
  · obtain ⟨G', r1, r2⟩ := s3 F1 s2
    refine no_best hR (z := -2) (F1 := F1) (G' := G') ⟨1, a, b, c, d, sec, (-2, F1), rfl, k9, ?_, rfl, rfl⟩ ⟨173, a, b, c, d, sec, (-2, G'), rfl, k10, ?_, rfl, rfl⟩ s2 r2
    · unfold fX9_both
      rw [s1, Option.bind_some]
      dsimp only
      rw [if_neg (dnn rfl)]
    · unfold fX10_both
      rw [r1, Option.bind_some]
      dsimp only
      rw [if_neg (dnn rfl)]
