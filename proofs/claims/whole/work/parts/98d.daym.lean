/-! ===== day: the reference's tellings of a way ===== -/
section DYM
variable {v hd : Nat → Int} {V day : Nat} {F G : Mem}
noncomputable def wyF (v hd : Nat → Int) (day : Nat) (X : Nat → Nat → Int) (i : Nat) : Int := (twA (insD v hd day 1 0 0) X (v 4).toNat i).1
noncomputable def wyG (v hd : Nat → Int) (day : Nat) (X : Nat → Nat → Int) (i : Nat) : Int := (twA (insD v hd day 1 0 0) X (v 4).toNat i).2.2.2
theorem msv_spo (h : MSV v hd day 1 G) {G' : Mem} (e : ∀ o k, ¬ (o = 173 ∧ spo k) → G' o k = G o k) : MSV v hd day 1 G' ∧ dcd G' = dcd G := by
  have t := tb_spo h.2.1 e
  have m := mas_ref (L := G') h.1 (fun o k o1 o2 o3 => e o k (fun z => o3 ⟨z.1, Or.inr (Or.inr (Or.inr (Or.inr z.2)))⟩))
  exact ⟨⟨m.1, t.1, by rw [t.2]; exact h.2.2⟩, t.2⟩
/-- one step of the way, its facts -/
theorem msv_at (h : MSV v hd day 1 G) (hne : dcd G 0 (v 4).toNat ≠ BD) {i : Nat} (hi : i < (v 0).toNat) : ∃ G', fX10_walksTo 173 (i : Int) G = some G' ∧ G' 173 38 = wyF v hd day (dcd G) i ∧ MSV v hd day 1 G' ∧ dcd G' = dcd G ∧ kM G G' ∧ (wyF v hd day (dcd G) i = -1 ∨ ∃ k : Nat, (k : Int) < v 5 ∧ wyF v hd day (dcd G) i = (k : Int) ∧ fX10_gainIn 173 (k : Int) (i : Int) G' = some (wyG v hd day (dcd G) i)) := by
  have hO := h.1.1.2
  have hlt : i < 1 * (v 0).toNat := by omega
  obtain ⟨G2, t1, t2, t3, t4, t5⟩ := msv_walk h hne hlt
  have m := msv_spo h t5
  have hW := insD_WF (hd := hd) (day := day) hO (show 1 ≤ 7 by decide) 0 0
  have tb := tw_bd hW h.2.2 (1 * (v 0).toNat) 0 (v 4).toNat i (by show 1 * (v 0).toNat ≤ _; omega) (Nat.zero_le _) hlt (st_lt hO) hne
  refine ⟨G2, t1, t2, m.1, m.2, kM_spo t5, ?_⟩
  rcases tb.2.1 with z | z
  · exact Or.inl z
  · refine Or.inr ⟨(twA (insD v hd day 1 0 0) (dcd G) (v 4).toNat i).2.1, lt5 tb.1, z.1, ?_⟩
    have hP2 : PIm (insD v hd day 1 0 0) v G2 := mas_pim m.1.1
    have pg := pim_G hP2 (s := i) (h := (twA (insD v hd day 1 0 0) (dcd G) (v 4).toNat i).2.1) hlt tb.1
    rw [pg]
    exact congrArg some (tb.2.2.2.2 _ z.1).symm
theorem m_slotsAt (h : MSV v hd day 1 G) (hne : dcd G 0 (v 4).toNat ≠ BD) (x1 x2 : Int) (c : Nat → Int) (hc : (x2 = 0 ∧ c = atI (wyF v hd day (dcd G)) x1) ∨ (x2 = 1 ∧ x1 = -1 ∧ c = atI (wyF v hd day (dcd G)) (-1)) ∨ (x2 = 1 ∧ x1 = -2 ∧ c = idI (wyF v hd day (dcd G)) (wyG v hd day (dcd G)))) : ∃ G', fX10_slotsAt 173 x1 x2 G = some (sm (v 0).toNat c, G') ∧ kM G G' := by
  have b0 := h.1.1.2.1
  generalize hX : dcd G = X at *
  have c01 : ∀ i, 0 ≤ c i ∧ c i ≤ ((1 : Nat) : Int) := by
    intro i
    rcases hc with z | z | z
    · rw [z.2]; unfold atI; split <;> omega
    · rw [z.2.2]; unfold atI; split <;> omega
    · rw [z.2.2]; unfold idI; split <;> omega
  unfold fX10_slotsAt
  refine lp (fun n i (st : Int × Mem) => fX10_slotsAt_b5 n 173 x1 x2 st.1 (i : Int) st.2) (v 0).toNat (fun i st => st.1 = sm i c ∧ MSV v hd day 1 st.2 ∧ dcd st.2 = X ∧ kM G st.2) (fun r => ∃ G', r = some (sm (v 0).toNat c, G') ∧ kM G G') ?_ ?_ FU 0 (0, G) (Nat.zero_le _) ⟨rfl, h, hX, kM.rf G⟩ (FU_gt (by omega))
  · rintro n i ⟨a, K⟩ hi ⟨e0, hK, eK, kK⟩
    dsimp only at e0 hK eK kK ⊢
    left
    obtain ⟨K2, p1, p2, p3, p4, p5, p6⟩ := msv_at hK (by rw [eK]; exact hne) hi
    rw [eK] at p2 p4 p6
    have sb := sum_bd48 (N := i) (g := c) (B := 1) (by omega) (fun j _ => c01 j)
    have ci := c01 i
    have nN : ¬ v 0 ≤ (i : Int) := by omega
    have hi1 : i < 2147483647 := by omega
    refine ⟨(a + c i, K2), ⟨by rw [e0]; rfl, p3, p4, kK.tr p5⟩, ?_⟩
    rw [← e0] at sb
    have w0 : xw (a + 0) = a + 0 := xwn (by omega) (by omega)
    have w1 : xw (a + 1) = a + 1 := xwn (by omega) (by omega)
    dsimp only
    rw [fX10_slotsAt_b5, m_of hK.1.1.1 (i := 0) (x := 0) rfl (by omega), Option.bind_some, if_neg nN, p1, Option.bind_some, p2]
    rcases hc with z | z | z
    · have ec : c i = if wyF v hd day X i = x1 then 1 else 0 := by rw [z.2]; rfl
      rw [ec]
      by_cases y : wyF v hd day X i = x1
      · rw [if_neg (dnn y), if_pos z.1, if_pos y, w1, xwS hi1]
      · rw [if_pos y, if_neg y]
        unfold fX10_slotsAt_b46
        rw [if_pos z.1, w0, xwS hi1]
    · have ec : c i = if wyF v hd day X i = -1 then 1 else 0 := by rw [z.2.2]; rfl
      have z2 : ¬ x2 = 0 := by omega
      rw [ec, z.2.1]
      by_cases y : wyF v hd day X i = -1
      · rw [if_neg (dnn y), if_neg z2, if_neg (dnn y), if_pos y, w1, xwS hi1]
      · rw [if_pos y, if_neg y]
        unfold fX10_slotsAt_b46
        rw [if_neg z2, if_pos (show (-1 : Int) ≠ -2 by decide), w0, xwS hi1]
    · have ec : c i = if wyF v hd day X i ≠ -1 ∧ wyG v hd day X i = 0 then 1 else 0 := by rw [z.2.2]; rfl
      have z2 : ¬ x2 = 0 := by omega
      have y2 : wyF v hd day X i ≠ -2 := by
        rcases p6 with w | ⟨k, -, w, -⟩ <;> omega
      rw [ec, z.2.1, if_pos y2]
      unfold fX10_slotsAt_b46
      rw [if_neg z2, if_neg (dnn rfl), p2]
      rcases p6 with w | ⟨k, w1', w2, w3⟩
      · rw [if_pos w, if_neg (fun z => z.1 w), w0, xwS hi1]
      · have y3 : ¬ wyF v hd day X i = -1 := by omega
        rw [if_neg y3, w2, w3, Option.bind_some, ← w2]
        by_cases y4 : wyG v hd day X i = 0
        · rw [if_neg (dnn y4), if_pos ⟨y3, y4⟩, w1, xwS hi1]
        · rw [if_pos y4, if_neg (fun z => y4 z.2), w0, xwS hi1]
  · rintro n ⟨a, K⟩ ⟨e0, hK, eK, kK⟩
    dsimp only at e0 hK eK kK ⊢
    have nN : v 0 ≤ (((v 0).toNat : Nat) : Int) := by omega
    refine ⟨K, ?_, kK⟩
    rw [fX10_slotsAt_b5, m_of hK.1.1.1 (i := 0) (x := 0) rfl (by omega), Option.bind_some, if_pos nN, e0]
theorem m_longest (h : MSV v hd day 1 G) (hne : dcd G 0 (v 4).toNat ≠ BD) : ∃ G', fX10_longest 173 G = some ((lgF (wyF v hd day (dcd G)) (v 0).toNat).1, G') ∧ kM G G' := by
  have b0 := h.1.1.2.1
  generalize hX : dcd G = X at *
  unfold fX10_longest
  refine lp (fun n i (st : (Int × Int) × Int × Mem) => fX10_longest_b9 n 173 st.1.1 st.1.2 st.2.1 (i : Int) st.2.2) (v 0).toNat (fun i st => st.1 = lgF (wyF v hd day X) i ∧ st.2.1 = (if i = 0 then -1 else wyF v hd day X (i - 1)) ∧ MSV v hd day 1 st.2.2 ∧ dcd st.2.2 = X ∧ kM G st.2.2) (fun r => ∃ G', r = some ((lgF (wyF v hd day X) (v 0).toNat).1, G') ∧ kM G G') ?_ ?_ FU 0 ((0, 0), -1, G) (Nat.zero_le _) ⟨rfl, rfl, h, hX, kM.rf G⟩ (FU_gt (by omega))
  · rintro n i ⟨a, w, K⟩ hi ⟨e0, ew, hK, eK, kK⟩
    dsimp only at e0 ew hK eK kK ⊢
    left
    obtain ⟨K2, p1, p2, p3, p4, p5, p6⟩ := msv_at hK (by rw [eK]; exact hne) hi
    rw [eK] at p2 p4 p6
    have bd := lgF_bd (wyF v hd day X) i
    have nN : ¬ v 0 ≤ (i : Int) := by omega
    have hi1 : i < 2147483647 := by omega
    have e : lgF (wyF v hd day X) (i + 1) = (xmax (lgF (wyF v hd day X) i).1 (if wyF v hd day X i = -1 then 0 else if 0 < i ∧ wyF v hd day X i = wyF v hd day X (i - 1) then (lgF (wyF v hd day X) i).2 + 1 else 1), if wyF v hd day X i = -1 then 0 else if 0 < i ∧ wyF v hd day X i = wyF v hd day X (i - 1) then (lgF (wyF v hd day X) i).2 + 1 else 1) := rfl
    refine ⟨(lgF (wyF v hd day X) (i + 1), wyF v hd day X i, K2), ⟨rfl, by rw [if_neg (Nat.succ_ne_zero i)]; rfl, p3, p4, kK.tr p5⟩, ?_⟩
    dsimp only
    rw [e, ← e0]
    rw [← e0] at bd
    have w1 : xw (a.2 + 1) = a.2 + 1 := xwn (by omega) (by omega)
    have E : ∀ u : Int, fX10_longest_b52 (fX10_longest_b9 n) 173 a.1 (i : Int) u K2 = fX10_longest_b9 n 173 (xmax a.1 u) u (wyF v hd day X i) ((i + 1 : Nat) : Int) K2 := by
      intro u
      unfold fX10_longest_b52 xmax
      rw [p2, xwS hi1]
      by_cases q : u ≤ a.1
      · rw [if_pos q, if_neg (Int.not_lt.mpr q)]
      · rw [if_neg q, if_pos (Int.not_le.mp q)]
    rw [fX10_longest_b9, m_of hK.1.1.1 (i := 0) (x := 0) rfl (by omega), Option.bind_some, if_neg nN, p1, Option.bind_some, p2, w1, E, E, E]
    by_cases y : wyF v hd day X i = -1
    · rw [if_neg (dnn y), if_pos y]
    · rw [if_pos y, if_neg y]
      by_cases y2 : 0 < i ∧ wyF v hd day X i = wyF v hd day X (i - 1)
      · have ew2 : wyF v hd day X i = w := by rw [ew, if_neg (by omega)]; exact y2.2
        rw [if_pos y2, if_neg (dnn ew2)]
      · have ew2 : wyF v hd day X i ≠ w := by
          rw [ew]
          by_cases i0 : i = 0
          · rw [if_pos i0]; exact y
          · rw [if_neg i0]; exact fun z => y2 ⟨by omega, z⟩
        rw [if_neg y2, if_pos ew2]
  · rintro n ⟨a, w, K⟩ ⟨e0, ew, hK, eK, kK⟩
    dsimp only at e0 ew hK eK kK ⊢
    have nN : v 0 ≤ (((v 0).toNat : Nat) : Int) := by omega
    refine ⟨K, ?_, kK⟩
    rw [fX10_longest_b9, m_of hK.1.1.1 (i := 0) (x := 0) rfl (by omega), Option.bind_some, if_pos nN, e0]
theorem m_spoiled (h : MSV v hd day 1 G) (hne : dcd G 0 (v 4).toNat ≠ BD) : ∃ G', fX10_spoiled 173 G = some (sm (v 0).toNat (fun s => sm (v 5).toNat (fun k => spW v (wyF v hd day (dcd G)) hd day k s)), G') ∧ kM G G' := by
  have hO := h.1.1.2
  have b0 := hO.1
  have b5 := hO.2.2.2.1
  generalize hX : dcd G = X at *
  have sb : ∀ k s : Nat, (k : Int) < v 5 → 0 ≤ spW v (wyF v hd day X) hd day k s ∧ spW v (wyF v hd day X) hd day k s ≤ ((9 : Nat) : Int) := fun k s hh => by
    have := hO.2.2.2.2.2.1 k hh
    unfold spW
    split <;> omega
  have hb : ∀ s, 0 ≤ sm (v 5).toNat (fun k => spW v (wyF v hd day X) hd day k s) ∧ sm (v 5).toNat (fun k => spW v (wyF v hd day X) hd day k s) ≤ ((9 * 48 : Nat) : Int) := fun s => sum_bd48 (by omega) (fun j _ => sb j s (by omega))
  unfold fX10_spoiled
  refine lp (fun n i (st : Int × Mem) => fX10_spoiled_b4 n 173 st.1 (i : Int) st.2) (v 0).toNat (fun i st => st.1 = sm i (fun s => sm (v 5).toNat (fun k => spW v (wyF v hd day X) hd day k s)) ∧ MSV v hd day 1 st.2 ∧ dcd st.2 = X ∧ kM G st.2) (fun r => ∃ G', r = some (sm (v 0).toNat (fun s => sm (v 5).toNat (fun k => spW v (wyF v hd day X) hd day k s)), G') ∧ kM G G') ?_ ?_ FU 0 (0, G) (Nat.zero_le _) ⟨rfl, h, hX, kM.rf G⟩ (FU_gt (by omega))
  · rintro n i ⟨a, K⟩ hi ⟨e0, hK, eK, kK⟩
    dsimp only at e0 hK eK kK ⊢
    left
    obtain ⟨K2, p1, p2, p3, p4, p5, p6⟩ := msv_at hK (by rw [eK]; exact hne) hi
    rw [eK] at p2 p4 p6
    have sbi := sum_bd48 (N := i) (g := fun s => sm (v 5).toNat (fun k => spW v (wyF v hd day X) hd day k s)) (B := 9 * 48) (by omega) (fun j _ => hb j)
    have nN : ¬ v 0 ≤ (i : Int) := by omega
    have hi1 : i < 2147483647 := by omega
    refine ⟨(a + sm (v 5).toNat (fun k => spW v (wyF v hd day X) hd day k i), K2), ⟨by rw [e0]; rfl, p3, p4, kK.tr p5⟩, ?_⟩
    rw [← e0] at sbi
    dsimp only
    rw [fX10_spoiled_b4, m_of hK.1.1.1 (i := 0) (x := 0) rfl (by omega), Option.bind_some, if_neg nN, p1, Option.bind_some]
    clear e0
    refine lp (fun m k x => fX10_spoiled_b20 (fX10_spoiled_b4 n) m 173 x (i : Int) (k : Int) K2) (v 5).toNat (fun k x => x = a + sm k (fun k => spW v (wyF v hd day X) hd day k i)) (fun r => r = fX10_spoiled_b4 n 173 (a + sm (v 5).toNat (fun k => spW v (wyF v hd day X) hd day k i)) ((i + 1 : Nat) : Int) K2) ?_ ?_ FU 0 a (by omega) (by show a = a + 0; omega) (FU_gt (by omega))
    · rintro m k x hk rfl
      left
      have hk5 : (k : Int) < v 5 := by omega
      have hc := sb k i hk5
      have hd2 := sum_bd48 (N := k) (g := fun k => spW v (wyF v hd day X) hd day k i) (B := 9) (by omega) (fun j _ => sb j i (by omega))
      refine ⟨_, rfl, ?_⟩
      have n5 : ¬ v 5 ≤ (k : Int) := by omega
      have k8 : k < 8 := by omega
      have hk1 : k < 2147483647 := by omega
      have c3 := hO.2.2.2.2.2.1 k hk5
      have M2 := p3.1.1.1
      have hdx : K2 173 26 = (day : Int) := p3.1.2.2.2.2.1
      have h179 := p3.1.2.2.1 (48 * day + i) (by have := p3.1.2.1.1; omega)
      have mk : mkd v K2 k = v (8 + 4 * k + 1) := by
        unfold mkd
        rw [p3.1.2.2.2.1.1, p3.1.2.2.2.1.2.2, if_neg (by omega)]
      have ms := m_sees M2 k8 1 (i : Int)
      have mm := m_mayI (F := K2) (d := day) (x := i) (by have := p3.1.2.1.1; omega) (by omega) (k : Int)
      rw [mk] at ms
      rw [h179] at mm
      have h3 := m_house M2 (h := k) (i := 3) (y := 3) k8 (by omega) rfl
      have mkk := m_kind M2 k8
      rw [mk] at mkk
      have e : spW v (wyF v hd day X) hd day k i = if v (8 + 4 * k + 1) = 0 ∨ (wyF v hd day X i = (k : Int) ∧ (v (8 + 4 * k + 1) ≠ 3 ∨ (v 2 ≤ (i : Int) ∧ (i : Int) < v 3)) ∧ (hd (48 * day + i) = -1 ∨ hd (48 * day + i) = (k : Int))) then 0 else v (8 + 4 * k + 3) := rfl
      have es : a + sm (k + 1) (fun k => spW v (wyF v hd day X) hd day k i) = a + sm k (fun k => spW v (wyF v hd day X) hd day k i) + spW v (wyF v hd day X) hd day k i := (Int.add_assoc _ _ _).symm
      rw [es]
      generalize sm k (fun k => spW v (wyF v hd day X) hd day k i) = s at *
      have w0 : xw (a + s + 0) = a + s + 0 := xwn (by omega) (by omega)
      have w3 : xw (a + s + v (8 + 4 * k + 3)) = a + s + v (8 + 4 * k + 3) := xwn (by omega) (by omega)
      have E : ∀ u : Int, (v (8 + 4 * k + 1) ≠ 0 → (u = 0 ↔ ¬ (wyF v hd day X i = (k : Int) ∧ (v (8 + 4 * k + 1) ≠ 3 ∨ (v 2 ≤ (i : Int) ∧ (i : Int) < v 3)) ∧ (hd (48 * day + i) = -1 ∨ hd (48 * day + i) = (k : Int))))) → fX10_spoiled_b65 (fX10_spoiled_b4 n) (fX10_spoiled_b20 (fX10_spoiled_b4 n) m) 173 (a + s) (i : Int) (k : Int) u K2 = fX10_spoiled_b20 (fX10_spoiled_b4 n) m 173 (a + s + spW v (wyF v hd day X) hd day k i) (i : Int) ((k + 1 : Nat) : Int) K2 := by
        intro u hu
        unfold fX10_spoiled_b65
        rw [mkk, Option.bind_some, h3, Option.bind_some, w0, w3, xwS hk1, e]
        by_cases y1 : v (8 + 4 * k + 1) = 0
        · rw [if_pos y1, if_pos (Or.inl y1)]
        · rw [if_neg y1]
          have hu := hu y1
          by_cases y2 : u = 0
          · have y3 := hu.mp y2
            rw [if_pos y2, if_neg (fun z => z.elim y1 y3)]
          · have y3 : (wyF v hd day X i = (k : Int) ∧ (v (8 + 4 * k + 1) ≠ 3 ∨ (v 2 ≤ (i : Int) ∧ (i : Int) < v 3)) ∧ (hd (48 * day + i) = -1 ∨ hd (48 * day + i) = (k : Int))) := Classical.byContradiction (fun z => y2 (hu.mpr z))
            rw [if_neg y2, if_pos (Or.inr y3)]
      show fX10_spoiled_b20 (fX10_spoiled_b4 n) (m + 1) 173 (a + s) (i : Int) (k : Int) K2 = _
      rw [fX10_spoiled_b20, m_of M2 (i := 5) (x := 5) rfl (by omega), Option.bind_some, if_neg n5, p2]
      by_cases y1 : wyF v hd day X i = (k : Int)
      · rw [if_neg (dnn y1), ms, Option.bind_some, i10]
        by_cases y2 : v (8 + 4 * k + 1) = 0 ∨ ((1 : Int) ≠ 0 ∧ (v (8 + 4 * k + 1) ≠ 3 ∨ (v 2 ≤ (i : Int) ∧ (i : Int) < v 3)))
        · rw [if_pos y2, hdx, mm, Option.bind_some, i10]
          by_cases y3 : hd (48 * day + i) = -1 ∨ hd (48 * day + i) = (k : Int)
          · rw [if_pos y3]
            refine E 1 (fun y0 => ⟨fun z => absurd z (by decide), fun z => absurd ⟨y1, ?_, y3⟩ z⟩)
            rcases y2 with w | w
            · exact absurd w y0
            · exact w.2
          · rw [if_neg y3]
            exact E 0 (fun _ => ⟨fun _ z => y3 z.2.2, fun _ => rfl⟩)
        · rw [if_neg y2]
          exact E 0 (fun _ => ⟨fun _ z => y2 (Or.inr ⟨by decide, z.2.1⟩), fun _ => rfl⟩)
      · rw [if_pos y1]
        exact E 0 (fun _ => ⟨fun _ z => y1 z.1, fun _ => rfl⟩)
    · rintro m x rfl
      have n5 : v 5 ≤ (((v 5).toNat : Nat) : Int) := by omega
      rw [fX10_spoiled_b20, m_of p3.1.1.1 (i := 5) (x := 5) rfl (by omega), Option.bind_some, if_pos n5, xwS hi1]
  · rintro n ⟨a, K⟩ ⟨e0, hK, eK, kK⟩
    dsimp only at e0 hK eK kK ⊢
    have nN : v 0 ≤ (((v 0).toNat : Nat) : Int) := by omega
    refine ⟨K, ?_, kK⟩
    rw [fX10_spoiled_b4, m_of hK.1.1.1 (i := 0) (x := 0) rfl (by omega), Option.bind_some, if_pos nN, e0]
end DYM
