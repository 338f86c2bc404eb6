/-! ===== ease, needs ===== -/
/-- the least, and where first -/
def esF (h : Nat → Int) : Nat → Int × Int
  | 0 => (-1, -1)
  | n + 1 => if h n ≠ -1 ∧ ((esF h n).1 = -1 ∨ h n < (esF h n).1) then (h n, (n : Int)) else esF h n
theorem esF_sp {h : Nat → Int} (hh : ∀ n, h n = -1 ∨ 0 ≤ h n) : ∀ n, ((esF h n).1 = -1 ∧ (esF h n).2 = -1) ∨ (0 ≤ (esF h n).1 ∧ 0 ≤ (esF h n).2) := by
  intro n
  induction n with
  | zero => exact Or.inl ⟨rfl, rfl⟩
  | succ n ih =>
    have e : esF h (n + 1) = if h n ≠ -1 ∧ ((esF h n).1 = -1 ∨ h n < (esF h n).1) then (h n, (n : Int)) else esF h n := rfl
    rw [e]
    by_cases q : h n ≠ -1 ∧ ((esF h n).1 = -1 ∨ h n < (esF h n).1)
    · rw [if_pos q]
      right
      rcases hh n with w | w
      · exact absurd w q.1
      · exact ⟨w, by show (0 : Int) ≤ (n : Int); omega⟩
    · rw [if_neg q]; exact ih
section ESN
variable {v hd : Nat → Int} {V day : Nat} {F G : Mem}
noncomputable def hEs (v hd : Nat → Int) (day k m : Nat) (f : Nat) : Int := hq (yD v hd day) (yJ v hd day (k : Int) f (f + m))
theorem c_ease (hC : CSV v hd V day 1 0 0 F) (hR : IsR (insD v hd day 1 0 0) (v 4).toNat (rch F) (1 * (v 0).toNat)) (hne : yD v hd day ≠ BD) {k m : Nat} (hk : (k : Int) < v 5) (hm1 : 1 ≤ m) (hm : (m : Int) ≤ v 0) (l : Int) : fX9_ease_b72 FU 1 (k : Int) (m : Int) l (gof (yD v hd day)) (-1) (-1) 0 F = some (if l = 0 then (esF (hEs v hd day k m) ((v 0).toNat - m + 1)).2 else (esF (hEs v hd day k m) ((v 0).toNat - m + 1)).1, F) := by
  have hPV := hC.1.1.1
  have hO := hPV.2.2.2.2
  have b0 := hO.1
  have eD := csv_D hC
  have hh : ∀ f : Nat, (f : Int) + (m : Int) ≤ v 0 → fX1_harmOf 63 (gof (yD v hd day)) (k : Int) (f : Int) ((f + m : Nat) : Int) F = some (hEs v hd day k m f) := by
    intro f hf
    have := (c_harm hC hR (by rw [eD]; exact hne) hk (f := f) (t := f + m) (by omega) (by omega)).1
    rw [eD] at this
    exact this
  refine lp (fun n f (st : Int × Int) => fX9_ease_b72 n 1 (k : Int) (m : Int) l (gof (yD v hd day)) st.1 st.2 (f : Int) F) ((v 0).toNat - m + 1) (fun f st => st = esF (hEs v hd day k m) f) (fun r => r = some (if l = 0 then (esF (hEs v hd day k m) ((v 0).toNat - m + 1)).2 else (esF (hEs v hd day k m) ((v 0).toNat - m + 1)).1, F)) ?_ ?_ FU 0 (-1, -1) (Nat.zero_le _) rfl (FU_gt (by omega))
  · rintro n f st hf rfl
    left
    refine ⟨_, rfl, ?_⟩
    have w1 : xw (v 0 - (m : Int)) = v 0 - (m : Int) := xwn (by omega) (by omega)
    have hf2 : (f : Int) + (m : Int) ≤ v 0 := by clear w1; omega
    have nf : ¬ v 0 - (m : Int) < (f : Int) := by clear w1; omega
    have hb1 : f + m < 2147483648 := by clear w1; omega
    have hf1 : f < 2147483647 := by clear w1; omega
    have e : esF (hEs v hd day k m) (f + 1) = if hEs v hd day k m f ≠ -1 ∧ ((esF (hEs v hd day k m) f).1 = -1 ∨ hEs v hd day k m f < (esF (hEs v hd day k m) f).1) then (hEs v hd day k m f, (f : Int)) else esF (hEs v hd day k m) f := rfl
    rw [e]
    have hhf := hh f hf2
    generalize esF (hEs v hd day k m) f = st at *
    generalize hEs v hd day k m f = h at *
    show fX9_ease_b72 (n + 1) 1 (k : Int) (m : Int) l (gof (yD v hd day)) st.1 st.2 (f : Int) F = _
    rw [fX9_ease_b72]
    simp only [Nat.reduceAdd]
    rw [pv_n hPV, if_neg hPV.2.1, pv_0 hPV, w1, if_neg nf, xwA hb1, hhf, Option.bind_some, xwS hf1]
    by_cases q1 : h = -1
    · rw [if_pos q1, if_neg (show ¬ (h ≠ -1 ∧ (st.1 = -1 ∨ h < st.1)) from fun z => z.1 q1)]
    · rw [if_neg q1]
      by_cases q2 : st.1 = -1
      · rw [if_pos q2, if_pos (show h ≠ -1 ∧ (st.1 = -1 ∨ h < st.1) from ⟨q1, Or.inl q2⟩)]
      · rw [if_neg q2]
        by_cases q3 : st.1 ≤ h
        · rw [if_pos q3, if_neg (show ¬ (h ≠ -1 ∧ (st.1 = -1 ∨ h < st.1)) from fun z => z.2.elim q2 (fun y => absurd y (Int.not_lt.mpr q3)))]
        · rw [if_neg q3, if_pos (show h ≠ -1 ∧ (st.1 = -1 ∨ h < st.1) from ⟨q1, Or.inr (Int.not_le.mp q3)⟩)]
  · rintro n st rfl
    have w1 : xw (v 0 - (m : Int)) = v 0 - (m : Int) := xwn (by omega) (by omega)
    have nf : v 0 - (m : Int) < (((v 0).toNat - m + 1 : Nat) : Int) := by clear w1; omega
    show fX9_ease_b72 (n + 1) 1 (k : Int) (m : Int) l (gof (yD v hd day)) _ _ (((v 0).toNat - m + 1 : Nat) : Int) F = _
    rw [fX9_ease_b72]
    simp only [Nat.reduceAdd]
    rw [pv_n hPV, if_neg hPV.2.1, pv_0 hPV, w1, if_pos nf]
    by_cases q : l = 0
    · rw [if_pos q, if_pos q]
    · rw [if_neg q, if_neg q]
theorem hEs_01 (hC : CSV v hd V day 1 0 0 F) (hR : IsR (insD v hd day 1 0 0) (v 4).toNat (rch F) (1 * (v 0).toNat)) (hne : yD v hd day ≠ BD) {k m f : Nat} (hk : (k : Int) < v 5) (hm1 : 1 ≤ m) (hf : (f : Int) + (m : Int) ≤ v 0) : (hEs v hd day k m f = -1 ∧ yJ v hd day (k : Int) f (f + m) = BD) ∨ ((0 ≤ hEs v hd day k m f ∧ hEs v hd day k m f ≤ 3024) ∧ yJ v hd day (k : Int) f (f + m) ≠ BD ∧ hEs v hd day k m f = gof (yD v hd day) - gof (yJ v hd day (k : Int) f (f + m))) := by
  have eD := csv_D hC
  by_cases y : yJ v hd day (k : Int) f (f + m) = BD
  · exact Or.inl ⟨if_pos y, y⟩
  · right
    have := (c_harm hC hR (by rw [eD]; exact hne) hk (f := f) (t := f + m) (by omega) (by omega)).2 y
    rw [eD] at this
    exact ⟨this, y, if_neg y⟩
theorem m_ease (h : MAS v hd day 1 G) (hne : yD v hd day ≠ BD) {k m : Nat} (hk : (k : Int) < v 5) (hm1 : 1 ≤ m) (hm : (m : Int) ≤ v 0) (l : Int) (h01 : ∀ f : Nat, (f : Int) + (m : Int) ≤ v 0 → (hEs v hd day k m f = -1 ∧ yJ v hd day (k : Int) f (f + m) = BD) ∨ ((0 ≤ hEs v hd day k m f ∧ hEs v hd day k m f ≤ 3024) ∧ yJ v hd day (k : Int) f (f + m) ≠ BD ∧ hEs v hd day k m f = gof (yD v hd day) - gof (yJ v hd day (k : Int) f (f + m)))) :
    ∃ G', fX10_ease_b48 FU 173 (k : Int) (m : Int) l (-1) 0 0 G = some (if l = 0 then (esF (hEs v hd day k m) ((v 0).toNat - m + 1)).2 else (esF (hEs v hd day k m) ((v 0).toNat - m + 1)).1, G') ∧ kM G G' := by
  have hO := h.1.2
  have b0 := hO.1
  refine lp (fun n f (st : (Int × Int) × Mem) => fX10_ease_b48 n 173 (k : Int) (m : Int) l st.1.1 st.1.2 (f : Int) st.2) ((v 0).toNat - m + 1) (fun f st => ((st.1 = (-1, 0) ∧ esF (hEs v hd day k m) f = (-1, -1)) ∨ (0 ≤ st.1.1 ∧ 0 ≤ st.1.2 ∧ esF (hEs v hd day k m) f = (st.1.2, st.1.1))) ∧ MAS v hd day 1 st.2 ∧ kM G st.2)
    (fun r => ∃ G', r = some (if l = 0 then (esF (hEs v hd day k m) ((v 0).toNat - m + 1)).2 else (esF (hEs v hd day k m) ((v 0).toNat - m + 1)).1, G') ∧ kM G G') ?_ ?_ FU 0 ((-1, 0), G) (Nat.zero_le _) ⟨Or.inl ⟨rfl, rfl⟩, h, kM.rf G⟩ (FU_gt (by omega))
  · rintro n f ⟨⟨x8, x9⟩, K⟩ hf ⟨hst, hK, kK⟩
    dsimp only at hst hK kK ⊢
    left
    have hf2 : (f : Int) + (m : Int) ≤ v 0 := by omega
    have nf : ¬ v 0 < ((f + m : Nat) : Int) := by omega
    have hb1 : f + m < 2147483648 := by omega
    have hf1 : f < 2147483647 := by omega
    have e : esF (hEs v hd day k m) (f + 1) = if hEs v hd day k m f ≠ -1 ∧ ((esF (hEs v hd day k m) f).1 = -1 ∨ hEs v hd day k m f < (esF (hEs v hd day k m) f).1) then (hEs v hd day k m f, (f : Int)) else esF (hEs v hd day k m) f := rfl
    obtain ⟨K2, t1, t2, t3⟩ := m_harmOf hK hne hk (f := f) (t := f + m) (by omega) (by omega)
    have E : fX10_ease_b48 (n + 1) 173 (k : Int) (m : Int) l x8 x9 (f : Int) K = if (if yJ v hd day (k : Int) f (f + m) = BD then -2 else gof (yD v hd day) - gof (yJ v hd day (k : Int) f (f + m))) < 0 then fX10_ease_b48 n 173 (k : Int) (m : Int) l x8 x9 ((f + 1 : Nat) : Int) K2 else if x8 < 0 then fX10_ease_b48 n 173 (k : Int) (m : Int) l (f : Int) (if yJ v hd day (k : Int) f (f + m) = BD then -2 else gof (yD v hd day) - gof (yJ v hd day (k : Int) f (f + m))) ((f + 1 : Nat) : Int) K2 else if (if yJ v hd day (k : Int) f (f + m) = BD then -2 else gof (yD v hd day) - gof (yJ v hd day (k : Int) f (f + m))) < x9 then fX10_ease_b48 n 173 (k : Int) (m : Int) l (f : Int) (if yJ v hd day (k : Int) f (f + m) = BD then -2 else gof (yD v hd day) - gof (yJ v hd day (k : Int) f (f + m))) ((f + 1 : Nat) : Int) K2 else fX10_ease_b48 n 173 (k : Int) (m : Int) l x8 x9 ((f + 1 : Nat) : Int) K2 := by
      rw [fX10_ease_b48, m_of hK.1.1 (i := 0) (x := 0) rfl (by omega), Option.bind_some, xwA hb1, if_neg nf, t1, Option.bind_some, xwS hf1]
    show ∃ s' : (Int × Int) × Mem, _ ∧ fX10_ease_b48 (n + 1) 173 (k : Int) (m : Int) l x8 x9 (f : Int) K = fX10_ease_b48 n 173 (k : Int) (m : Int) l s'.1.1 s'.1.2 ((f + 1 : Nat) : Int) s'.2
    rw [E, e]
    rcases h01 f hf2 with ⟨w1, w2⟩ | ⟨w1, w2, w3⟩
    · have nn : ¬ (hEs v hd day k m f ≠ -1 ∧ ((esF (hEs v hd day k m) f).1 = -1 ∨ hEs v hd day k m f < (esF (hEs v hd day k m) f).1)) := fun z => z.1 w1
      rw [if_pos w2, if_pos (show (-2 : Int) < 0 by decide), if_neg nn]
      exact ⟨((x8, x9), K2), ⟨hst, t2, kK.tr t3⟩, rfl⟩
    · rw [if_neg w2, ← w3]
      generalize hEs v hd day k m f = hv at *
      rw [if_neg (show ¬ hv < 0 by omega)]
      rcases hst with ⟨a1, a2⟩ | ⟨a1, a2, a3⟩
      · have a3 : x8 = -1 ∧ x9 = 0 := ⟨congrArg Prod.fst a1, congrArg Prod.snd a1⟩
        rw [a2, if_pos (show x8 < 0 by omega), if_pos (show hv ≠ -1 ∧ (((-1 : Int), (-1 : Int)).1 = -1 ∨ hv < ((-1 : Int), (-1 : Int)).1) from ⟨by omega, Or.inl rfl⟩)]
        exact ⟨(((f : Int), hv), K2), ⟨Or.inr ⟨by dsimp only; omega, by dsimp only; omega, rfl⟩, t2, kK.tr t3⟩, rfl⟩
      · rw [a3, if_neg (show ¬ x8 < 0 by omega)]
        by_cases q : hv < x9
        · rw [if_pos q, if_pos (show hv ≠ -1 ∧ ((x9, x8).1 = -1 ∨ hv < (x9, x8).1) from ⟨by omega, Or.inr q⟩)]
          exact ⟨(((f : Int), hv), K2), ⟨Or.inr ⟨by dsimp only; omega, by dsimp only; omega, rfl⟩, t2, kK.tr t3⟩, rfl⟩
        · rw [if_neg q, if_neg (show ¬ (hv ≠ -1 ∧ ((x9, x8).1 = -1 ∨ hv < (x9, x8).1)) from fun z => z.2.elim (fun y => by have y : x9 = -1 := y; omega) q)]
          exact ⟨((x8, x9), K2), ⟨Or.inr ⟨a1, a2, rfl⟩, t2, kK.tr t3⟩, rfl⟩
  · rintro n ⟨⟨x8, x9⟩, K⟩ ⟨hst, hK, kK⟩
    dsimp only at hst hK kK ⊢
    have hb1 : (v 0).toNat - m + 1 + m < 2147483648 := by omega
    have nf : v 0 < (((v 0).toNat - m + 1 + m : Nat) : Int) := by omega
    refine ⟨K, ?_, kK⟩
    rw [fX10_ease_b48, m_of hK.1.1 (i := 0) (x := 0) rfl (by omega), Option.bind_some, xwA hb1, if_pos nf]
    rcases hst with ⟨a1, a2⟩ | ⟨a1, a2, a3⟩
    · have a3 : x8 = -1 := congrArg Prod.fst a1
      rw [a2, if_neg (dnn a3), ite_self]
    · rw [a3, if_pos (show x8 ≠ -1 by omega)]
      by_cases q : l = 0
      · rw [if_pos q, if_pos q]
      · rw [if_neg q, if_neg q]
end ESN
theorem pc_ease (a b c d e m l : Int) : pcase RR gX9_ease gX10_ease [vI a, vI b, vI c, vI d, vI e, vI m, vI l] := by
  intro F hR hmk
  rcases gain2 hR a b c d with ⟨F1, V, day, v, hd, s1, s2, s3, s4, s5, s6⟩ | ⟨F1, s1, s2, s3⟩
  · have hPV := s3.1.1.1
    have hO := hPV.2.2.2.2
    have b0 := hO.1
    have eD := csv_D s3
    have yne : yD v hd day ≠ BD := by rw [← eD]; exact s4
    have X0 : fX9_ease 1 a b c d e m l F = if ¬ (0 ≤ e ∧ e < v 5) then some (-2, F1) else if m < 1 then some (-2, F1) else if m ≤ v 0 then ((fX1_reachAll 63 F1).bind fun q11 => fX9_ease_b72 FU 1 e m l (gof (tbl F1 0 (v 4).toNat)) (-1) (-1) 0 q11) else some (-2, F1) := by
      unfold fX9_ease
      rw [s1, Option.bind_some]
      dsimp only
      simp only [Nat.reduceAdd]
      rw [if_neg (csv_1 s3 s4), pv_n hPV, if_neg hPV.2.1, v_has hPV.2.2.2.1, i10, if_neg hPV.2.1, ite_not]
      simp only [pv_0 hPV]
    have Y0 : ∀ G0 G', fX10_isAsked 173 a b c d 1 G0 = some (1, G') → MSV v hd day 1 G' → fX10_ease 173 a b c d e m l G0 = if 0 ≤ e ∧ e < v 5 then (if 1 ≤ m ∧ m ≤ v 0 then fX10_ease_b48 FU 173 e m l (-1) 0 0 G' else some (-2, G')) else some (-2, G') := by
      intro G0 G' hr h
      unfold fX10_ease
      rw [hr, Option.bind_some]
      dsimp only
      rw [if_neg (show ¬ (1 : Int) = 0 by decide), m_isHouse h.1.1.1 hO e, Option.bind_some, i10, m_of h.1.1.1 (i := 0) (x := 0) rfl (by omega), Option.bind_some, m_isIn, i11]
    by_cases he : 0 ≤ e ∧ e < v 5
    · rw [if_neg (dnn he)] at X0
      by_cases hm : 1 ≤ m ∧ m ≤ v 0
      · rw [if_neg (show ¬ m < 1 by omega), if_pos hm.2] at X0
        obtain ⟨ke, rfl⟩ := nat_of he.1
        obtain ⟨km, rfl⟩ := nat_of (show 0 ≤ m by omega)
        obtain ⟨F2, p1, p2, p3, p4, p5⟩ := csv_reach s3
        have k2 : kX F F2 := s2.tr (fun o k ho => p5 o k (by omega))
        rw [p1, Option.bind_some, eD, c_ease p2 p4 yne he.2 (by omega) hm.2 l] at X0
        obtain ⟨G', r1, r2, r3, r4⟩ := s6 F2 k2
        obtain ⟨G2, t1, t2⟩ := m_ease r3.1 yne he.2 (m := km) (by omega) hm.2 l (fun f hf => hEs_01 p2 p4 yne he.2 (by omega) hf)
        have hy := Y0 F2 G' r1 r3
        rw [if_pos he, if_pos hm, t1] at hy
        exact no_best hR (F1 := F2) (G' := G2) ⟨1, a, b, c, d, (ke : Int), (km : Int), l, _, rfl, k9, X0, rfl, rfl⟩ ⟨173, a, b, c, d, (ke : Int), (km : Int), l, _, rfl, k10, hy, rfl, rfl⟩ k2 (r2.tr t2)
      · have hx : fX9_ease 1 a b c d e m l F = some (-2, F1) := by
          rw [X0]
          by_cases q : m < 1
          · rw [if_pos q]
          · rw [if_neg q, if_neg (by omega)]
        obtain ⟨G', r1, r2, r3, r4⟩ := s6 F1 s2
        have hy := Y0 F1 G' r1 r3
        rw [if_neg hm, ite_self] at hy
        exact no_best hR (z := -2) (F1 := F1) (G' := G') ⟨1, a, b, c, d, e, m, l, _, rfl, k9, hx, rfl, rfl⟩ ⟨173, a, b, c, d, e, m, l, _, rfl, k10, hy, rfl, rfl⟩ s2 r2
    · rw [if_pos he] at X0
      obtain ⟨G', r1, r2, r3, r4⟩ := s6 F1 s2
      have hy := Y0 F1 G' r1 r3
      rw [if_neg he] at hy
      exact no_best hR (z := -2) (F1 := F1) (G' := G') ⟨1, a, b, c, d, e, m, l, _, rfl, k9, X0, rfl, rfl⟩ ⟨173, a, b, c, d, e, m, l, _, rfl, k10, hy, rfl, rfl⟩ s2 r2
  · obtain ⟨G', r1, r2⟩ := s3 F1 s2
    refine no_best hR (z := -2) (F1 := F1) (G' := G') ⟨1, a, b, c, d, e, m, l, (-2, F1), rfl, k9, ?_, rfl, rfl⟩ ⟨173, a, b, c, d, e, m, l, (-2, G'), rfl, k10, ?_, rfl, rfl⟩ s2 r2
    · unfold fX9_ease
      rw [s1, Option.bind_some]
      dsimp only
      rw [if_pos rfl]
    · unfold fX10_ease
      rw [r1, Option.bind_some]
      dsimp only
      rw [if_pos rfl]
