/-! ===== day: the dearest slot ===== -/
section DRS
variable {v hd : Nat → Int} {V day : Nat} {F G : Mem}
noncomputable def dlF (v hd : Nat → Int) (day i : Nat) : Int := gof (yD v hd day) - gof (yB v hd day (-1) i (i + 1))
theorem yD_bd (hO : VO v) (hne : yD v hd day ≠ BD) : 0 ≤ gof (yD v hd day) ∧ gof (yD v hd day) ≤ 3024 := best0_bd (dayW hO 0) (st_lt hO) (N48 hO) hne
theorem dlF_bd (hO : VO v) (hne : yD v hd day ≠ BD) (i : Nat) : -3024 ≤ dlF v hd day i ∧ dlF v hd day i ≤ 3024 := by
  have b1 := yD_bd hO hne
  have b2 : 0 ≤ gof (yB v hd day (-1) i (i + 1)) ∧ gof (yB v hd day (-1) i (i + 1)) ≤ 3024 := best0_bd (insB_WF hO (-1) i (i + 1)) (st_lt hO) (N48 hO) (yB_ne hO hne (-1) i (i + 1))
  unfold dlF
  omega
theorem dlF_idle (hO : VO v) (hne : yD v hd day ≠ BD) {X : Nat → Nat → Int} (hX : IsX (insD v hd day 1 0 0) tv0 X) {i : Nat} (hi : i < (v 0).toNat) (hg : wyG v hd day X i = 0) : dlF v hd day i ≤ 0 := by
  have hW := insD_WF (hd := hd) (day := day) hO (show 1 ≤ 7 by decide) 0 0
  have hV := insB_WF (hd := hd) (day := day) hO (-1) i (i + 1)
  have hst := st_lt hO
  obtain ⟨Y, hY⟩ := X_ex hV tv0
  have e1 : X 0 (v 4).toNat = yD v hd day := best0_eq hW hst hX
  have e2 : Y 0 (v 4).toNat = yB v hd day (-1) i (i + 1) := best0_eq hV hst hY
  have q := idle_thm hW hV (insP_same v (v 1) (1 * (v 0).toNat) (muD v) _ _) (q := i) (show i < 1 * (v 0).toNat by omega) (fun r h _ _ hr => by
    show barG (gnD v hd day 0 0) (-1) i (i + 1) r h = gnD v hd day 0 0 r h
    unfold barG
    rw [if_neg (by omega)]) (fun h _ => by
    show barG (gnD v hd day 0 0) (-1) i (i + 1) i h = 0
    unfold barG
    rw [if_pos ⟨by omega, Or.inl rfl⟩]) hX hY (1 * (v 0).toNat) 0 (v 4).toNat (by show 1 * (v 0).toNat ≤ _; omega) (Nat.zero_le _) hst (by rw [e1]; exact hne) (Or.inr hg)
  rw [e1, e2] at q
  have := gof_mono q.2 hne q.1
  unfold dlF
  omega
theorem c_dearest (hP : PO v hd V day 1 F) (hne : yD v hd day ≠ BD) {X : Nat → Nat → Int} (hX : IsX (insD v hd day 1 0 0) tv0 X) (hg : ∀ i, i < (v 0).toNat → F 74 i = wyG v hd day X i) : ∃ F', fX9_dearest 1 (gof (yD v hd day)) F = some ((lsF (dlF v hd day) 0 (v 0).toNat).2, F') ∧ (∀ o k, (o ≤ 63 ∨ 71 ≤ o) → F' o k = F o k) := by
  have hO := hP.1.2.2.2.2
  have b0 := hO.1
  unfold fX9_dearest
  refine lp (fun n i (st : (Int × Int) × Mem) => fX9_dearest_b7 n 1 (gof (yD v hd day)) st.1.1 st.1.2 (i : Int) st.2) (v 0).toNat (fun i st => st.1 = lsF (dlF v hd day) 0 i ∧ PO v hd V day 1 st.2 ∧ (∀ o k, (o ≤ 63 ∨ 71 ≤ o) → st.2 o k = F o k)) (fun r => ∃ F', r = some ((lsF (dlF v hd day) 0 (v 0).toNat).2, F') ∧ (∀ o k, (o ≤ 63 ∨ 71 ≤ o) → F' o k = F o k)) ?_ ?_ FU 0 ((0, -1), F) (Nat.zero_le _) ⟨rfl, hP, fun _ _ _ => rfl⟩ (FU_gt (by omega))
  · rintro n i ⟨st, K⟩ hi ⟨e0, hK, kK⟩
    dsimp only at e0 hK kK ⊢
    left
    have e634 : K 63 4 = v 0 := by rw [hK.2.2.2.2.1]; omega
    have nN : ¬ v 0 ≤ (i : Int) := by omega
    have hi1 : i < 2147483647 := by omega
    have bi := b336 (show i < 336 by omega)
    have e74 : K 74 i = wyG v hd day X i := (kK 74 i (by omega)).trans (hg i hi)
    obtain ⟨K2, p1, p2, p3⟩ := c_loss hK (gof (yD v hd day)) (-1) (f := i) (t := i + 1) (by omega) (by omega)
    have bd := dlF_bd hO hne i
    have ew : xw (gof (yD v hd day) - gof (yB v hd day (-1) i (i + 1))) = dlF v hd day i := xwn (by unfold dlF at bd; omega) (by unfold dlF at bd; omega)
    rw [ew] at p1
    have e : lsF (dlF v hd day) 0 (i + 1) = if st.1 < dlF v hd day i then (dlF v hd day i, (i : Int)) else st := by rw [e0]; rfl
    have s0 : 0 ≤ st.1 := by
      rw [e0]
      exact (lsF_bd (y := dlF v hd day) (a := 0) (lo := -3024) (hi := 3024) (by omega) i (fun j _ => dlF_bd hO hne j)).2.2
    have E : fX9_dearest_b7 (n + 1) 1 (gof (yD v hd day)) st.1 st.2 (i : Int) K = if wyG v hd day X i ≠ 0 then (if dlF v hd day i ≤ st.1 then fX9_dearest_b7 n 1 (gof (yD v hd day)) st.1 st.2 ((i + 1 : Nat) : Int) K2 else fX9_dearest_b7 n 1 (gof (yD v hd day)) (dlF v hd day i) (i : Int) ((i + 1 : Nat) : Int) K2) else fX9_dearest_b7 n 1 (gof (yD v hd day)) st.1 st.2 ((i + 1 : Nat) : Int) K := by
      rw [fX9_dearest_b7]
      simp only [Nat.reduceAdd]
      rw [e634, if_neg nN, show alen 74 = 336 from rfl, if_pos bi, Int.toNat_natCast, e74, xwS hi1, p1, Option.bind_some]
    by_cases y : wyG v hd day X i = 0
    · have le := dlF_idle hO hne hX hi y
      rw [if_neg (dnn y)] at E
      refine ⟨(st, K), ⟨?_, hK, kK⟩, E⟩
      rw [e, if_neg (by omega)]
    · rw [if_pos y] at E
      by_cases q : dlF v hd day i ≤ st.1
      · rw [if_pos q] at E
        refine ⟨(st, K2), ⟨?_, p2, fun o k ho => (p3 o k ho).trans (kK o k ho)⟩, E⟩
        rw [e, if_neg (Int.not_lt.mpr q)]
      · rw [if_neg q] at E
        refine ⟨((dlF v hd day i, (i : Int)), K2), ⟨?_, p2, fun o k ho => (p3 o k ho).trans (kK o k ho)⟩, E⟩
        rw [e, if_pos (Int.not_le.mp q)]
  · rintro n ⟨st, K⟩ ⟨e0, hK, kK⟩
    dsimp only at e0 hK kK ⊢
    have e634 : K 63 4 = v 0 := by rw [hK.2.2.2.2.1]; omega
    have nN : v 0 ≤ (((v 0).toNat : Nat) : Int) := by omega
    refine ⟨K, ?_, kK⟩
    rw [fX9_dearest_b7]
    simp only [Nat.reduceAdd]
    rw [e634, if_pos nN, e0]
theorem m_dearest (h : MAS v hd day 1 G) (hne : yD v hd day ≠ BD) : ∃ G', fX10_dearest 173 G = some ((lsF (dlF v hd day) 0 (v 0).toNat).2, G') ∧ kM G G' := by
  have hO := h.1.2
  have b0 := hO.1
  unfold fX10_dearest
  refine lp (fun n i (st : (Int × Int) × Mem) => fX10_dearest_b6 n 173 st.1.2 st.1.1 (i : Int) st.2) (v 0).toNat (fun i st => st.1 = lsF (dlF v hd day) 0 i ∧ MAS v hd day 1 st.2 ∧ kM G st.2) (fun r => ∃ G', r = some ((lsF (dlF v hd day) 0 (v 0).toNat).2, G') ∧ kM G G') ?_ ?_ FU 0 ((0, -1), G) (Nat.zero_le _) ⟨rfl, h, kM.rf G⟩ (FU_gt (by omega))
  · rintro n i ⟨st, K⟩ hi ⟨e0, hK, kK⟩
    dsimp only at e0 hK kK ⊢
    left
    have nN : ¬ v 0 ≤ (i : Int) := by omega
    have hi1 : i < 2147483647 := by omega
    obtain ⟨K2, p1, p2, p3⟩ := m_worthOf hK hne (k := -1) (f := i) (t := i + 1) (by omega) (by omega)
    have bd := dlF_bd hO hne i
    have ew : xw (gof (yD v hd day) - gof (yB v hd day (-1) i (i + 1))) = dlF v hd day i := xwn (by unfold dlF at bd; omega) (by unfold dlF at bd; omega)
    rw [ew] at p1
    have e : lsF (dlF v hd day) 0 (i + 1) = if st.1 < dlF v hd day i then (dlF v hd day i, (i : Int)) else st := by rw [e0]; rfl
    have E : fX10_dearest_b6 (n + 1) 173 st.2 st.1 (i : Int) K = if st.1 < dlF v hd day i then fX10_dearest_b6 n 173 (i : Int) (dlF v hd day i) ((i + 1 : Nat) : Int) K2 else fX10_dearest_b6 n 173 st.2 st.1 ((i + 1 : Nat) : Int) K2 := by
      rw [fX10_dearest_b6, m_of hK.1.1 (i := 0) (x := 0) rfl (by omega), Option.bind_some, if_neg nN, xwS hi1, p1, Option.bind_some]
    by_cases q : st.1 < dlF v hd day i
    · rw [if_pos q] at E
      refine ⟨((dlF v hd day i, (i : Int)), K2), ⟨?_, p2, kK.tr p3⟩, E⟩
      rw [e, if_pos q]
    · rw [if_neg q] at E
      refine ⟨(st, K2), ⟨?_, p2, kK.tr p3⟩, E⟩
      rw [e, if_neg q]
  · rintro n ⟨st, K⟩ ⟨e0, hK, kK⟩
    dsimp only at e0 hK kK ⊢
    have nN : v 0 ≤ (((v 0).toNat : Nat) : Int) := by omega
    refine ⟨K, ?_, kK⟩
    rw [fX10_dearest_b6, m_of hK.1.1 (i := 0) (x := 0) rfl (by omega), Option.bind_some, if_pos nN, e0]
end DRS
