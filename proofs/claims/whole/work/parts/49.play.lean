/-! ===== calls on a round ===== -/
theorem RR.A {F F1 : Mem} (h1 : kX F F1) : F1 174 = F 174 := funext fun k => h1 174 k (by omega)
theorem x_walked {F : Mem} (hR : RR F) {a b : Int} (ha : 0 ≤ a ∧ a < F 174 0) (hb : 0 ≤ b ∧ b < F 174 1) : ∃ F' k, fX9_isWalked 1 a b F = some (1, F') ∧ kX F F' ∧ isStop (vOf (F 174) a.toNat) (rOf (F 174) b.toNat) k ∧ WX (vOf (F 174) a.toNat) (sta (vOf (F 174) a.toNat) (rOf (F 174) b.toNat) k) (2 + 7 + 9 * a.toNat) F' ∧ F' 60 1 = (k : Int) ∧ F' 60 2 = clm (vOf (F 174) a.toNat) (rOf (F 174) b.toNat) k := by
  obtain ⟨hA, hT, -⟩ := hR
  have h0 := hA.1
  have h1 := hA.2.1
  have hV := hT.2.2.2.2.2.1 a.toNat (by omega)
  have hO := hA.2.2.2.2.2.2.1 a.toNat (by omega)
  have hS := hT.2.2.2.2.2.2.1 b.toNat (by omega)
  have hRO := hA.2.2.2.2.2.2.2.1 b.toNat (by omega)
  obtain ⟨F', k, f1, f2, f3, f4, f5, f6, f7⟩ := x_follow hV hO hS hRO (by omega) (by omega)
  have n0 : ¬ 2 + 7 + 9 * a.toNat = 0 := by omega
  have n1 : ¬ 2 + 25 + 2 * b.toNat = 0 := by omega
  have e : shO 2 1 b.toNat = 2 + 25 + 2 * b.toNat := rfl
  refine ⟨F', k, ?_, fun o j h => f7 o j (by omega) (by omega), f2, ⟨f3, n0, hV.mono (fun o j q1 q2 => f7 o j (by omega) (by omega)), f6⟩, f4, f5⟩
  unfold fX9_isWalked
  simp only [t_valley hA hT, t_sheet hA hT (s := 1) (x := 1) (by omega) (by omega) b rfl, Option.bind_some, if_pos ha, if_pos hb, e, if_neg n0, if_neg n1, Nat.reduceAdd] at *
  rw [f1, Option.bind_some]
theorem x_walkedN {F : Mem} (hR : RR F) {a b : Int} (h : ¬ ((0 ≤ a ∧ a < F 174 0) ∧ (0 ≤ b ∧ b < F 174 1))) : fX9_isWalked 1 a b F = some (0, F) := by
  obtain ⟨hA, hT, -⟩ := hR
  unfold fX9_isWalked
  simp only [t_valley hA hT, t_sheet hA hT (s := 1) (x := 1) (by omega) (by omega) b rfl, Option.bind_some]
  by_cases ha : 0 ≤ a ∧ a < F 174 0
  · have hb : ¬ (0 ≤ b ∧ b < F 174 1) := fun z => h ⟨ha, z⟩
    simp only [if_pos ha, if_neg hb, if_true, ite_self]
  · simp only [if_neg ha, if_true]
theorem m_round {F : Mem} (hA : AO (F 174)) (h11 : F 173 11 = -1) (h12 : F 173 12 = 0) (h13 : F 173 13 = -1) {a b : Int} (ha : 0 ≤ a ∧ a < F 174 0) (hb : 0 ≤ b ∧ b < F 174 1) : ∃ F' k, fX10_isRound 173 a b F = some (1, F') ∧ kM F F' ∧ isStop (vOf (F 174) a.toNat) (rOf (F 174) b.toNat) k ∧ MX (vOf (F 174) a.toNat) (sta (vOf (F 174) a.toNat) (rOf (F 174) b.toNat) k) F' ∧ F' 173 15 = (k : Int) ∧ F' 173 16 = clm (vOf (F 174) a.toNat) (rOf (F 174) b.toNat) k := by
  have h1 := hA.2.1
  obtain ⟨hM, hO⟩ := m_valleyMV hA ha
  generalize hG : mset F 173 10 (610 + 58 * a) = G at hM
  have g1 : ∀ o j, o ≠ 173 → G o j = F o j := fun o j h => by rw [← hG, mset_ne _ _ (by omega)]
  have g2 : ∀ j, j ≠ 10 → G 173 j = F 173 j := fun j h => by rw [← hG, mset_ne _ _ (by omega)]
  have eA : G 174 = F 174 := funext fun k => g1 174 k (by omega)
  have hRO := hA.2.2.2.2.2.2.2.1 b.toNat (by omega)
  obtain ⟨F', k, f1, f2, f3, f4, f5, f6, f7⟩ := m_goes (F := G) (i := b.toNat) (r := rOf (F 174) b.toNat) hM hO (by omega) (by rw [eA]) hRO ((g2 12 (by omega)).trans h12)
  rw [show ((b.toNat : Nat) : Int) = b by omega] at f1
  refine ⟨F', k, ?_, ⟨fun o j h => (f6 o j (by omega) (by omega)).trans (g1 o j (by omega)), (f7 11 (by omega) (by omega)).trans (g2 11 (by omega)), (f7 12 (by omega) (by omega)).trans (g2 12 (by omega)), (f7 13 (by omega) (by omega)).trans (g2 13 (by omega))⟩, f2, ⟨hM.mono (f7 10 (by omega) (by omega)) (fun k => f6 174 k (by omega) (by omega)), ?_, ?_, f5⟩, f3, f4⟩
  · unfold fX10_isRound
    rw [m_valley hA, if_pos ha, Option.bind_some]
    dsimp only
    rw [hG, e10, m_isOf (F := G) (by rw [eA]; exact hA) (s := 1) (x := 1) (by omega) b rfl, Option.bind_some, i11, eA, if_pos hb, f1, Option.bind_some]
  · rw [f7 11 (by omega) (by omega), g2 11 (by omega), h11]
  · rw [f7 13 (by omega) (by omega), g2 13 (by omega), h13]
theorem m_roundN {F : Mem} (hA : AO (F 174)) {a b : Int} (h : ¬ ((0 ≤ a ∧ a < F 174 0) ∧ (0 ≤ b ∧ b < F 174 1))) : ∃ F', fX10_isRound 173 a b F = some (0, F') ∧ kM F F' := by
  unfold fX10_isRound
  rw [m_valley hA]
  by_cases ha : 0 ≤ a ∧ a < F 174 0
  · have hb : ¬ (0 ≤ b ∧ b < F 174 1) := fun z => h ⟨ha, z⟩
    have eA : (mset F 173 10 (610 + 58 * a)) 174 = F 174 := funext fun k => mset_ne _ _ (by omega)
    rw [if_pos ha, Option.bind_some]
    dsimp only
    rw [e10, m_isOf (F := mset F 173 10 (610 + 58 * a)) (by rw [eA]; exact hA) (s := 1) (x := 1) (by omega) b rfl, Option.bind_some, i11, eA, if_neg hb]
    exact ⟨_, rfl, kM_v0 _ _⟩
  · rw [if_neg ha, Option.bind_some]
    dsimp only
    rw [e00]
    exact ⟨_, rfl, kM.rf _⟩
/-- both walk, or neither -/
theorem walk2 {F : Mem} (hR : RR F) (a b : Int) : (∃ (F1 F2 : Mem) (k V : Nat) (v S : Nat → Int), fX9_isWalked 1 a b F = some (1, F1) ∧ fX10_isRound 173 a b F1 = some (1, F2) ∧ kX F F1 ∧ kM F1 F2 ∧ VO v ∧ WX v S V F1 ∧ MX v S F2 ∧ F1 60 1 = (k : Int) ∧ F2 173 15 = (k : Int) ∧ F1 60 2 = F2 173 16 ∧ (0 ≤ a ∧ a < F 174 0) ∧ (0 ≤ b ∧ b < F 174 1) ∧ v = vOf (F 174) a.toNat ∧ isStop v (rOf (F 174) b.toNat) k ∧ S = sta v (rOf (F 174) b.toNat) k) ∨
    (∃ F2, fX9_isWalked 1 a b F = some (0, F) ∧ fX10_isRound 173 a b F = some (0, F2) ∧ kM F F2) := by
  by_cases h : (0 ≤ a ∧ a < F 174 0) ∧ (0 ≤ b ∧ b < F 174 1)
  · obtain ⟨F1, k, x1, x2, x3, x4, x5, x6⟩ := x_walked hR h.1 h.2
    have hR1 := hR.x x2
    have eA := RR.A x2
    obtain ⟨F2, k2, y1, y2, y3, y4, y5, y6⟩ := m_round (F := F1) hR1.1 hR1.2.2.2.1 hR1.2.2.2.2.1 hR1.2.2.2.2.2 (a := a) (b := b) (by rw [eA]; exact h.1) (by rw [eA]; exact h.2)
    rw [eA] at y3 y4 y6
    have ek := stop_uniq x3 y3
    subst ek
    have hO := hR.1.2.2.2.2.2.2.1 a.toNat (by have := hR.1.1; omega)
    exact Or.inl ⟨F1, F2, k, _, _, _, x1, y1, x2, y2, hO, x4, y4, x5, y5, x6.trans y6.symm, h.1, h.2, rfl, x3, rfl⟩
  · obtain ⟨F2, y1, y2⟩ := m_roundN hR.1 h
    exact Or.inr ⟨F2, x_walkedN hR h, y1, y2⟩
theorem pc_play (a b c : Int) : pcase RR gX9_play gX10_play [vI a, vI b, vI c] := by
  intro F hR hm
  rcases walk2 hR a b with ⟨F1, F2, k, V, v, S, x1, y1, x2, y2, hO, hW, hM, w1, w2, w3, -⟩ | ⟨F2, x1, y1, y2⟩
  · obtain ⟨z, h1, h2⟩ : ∃ z, fX9_play 1 a b c F = some (z, F1) ∧ fX10_play 173 a b c F1 = some (z, F2) := by
      unfold fX9_play fX10_play
      simp only [x1, y1, Option.bind_some, e11, Nat.reduceAdd, x_allRight hW hO, x_allWrong hW hO, m_rows hM hO, w1, w2, w3, gwI1, gwI0]
      have f0 : (fun h => sm (v 0).toNat (gwI v S 0 0 h)) = (fun h => sm (v 0).toNat (wrI v S h)) := funext fun h => sm_congr _ (fun i _ => gwI0 0 h i)
      have f1 : (fun h => sm (v 0).toNat (gwI v S 0 1 h)) = (fun h => sm (v 0).toNat (wrI v S h)) := funext fun h => sm_congr _ (fun i _ => gwI0 1 h i)
      have f2 : ∀ q, (fun h => sm (v 0).toNat (gwI v S 1 q h)) = (fun h => sm (v 0).toNat (riI v S q h)) := fun q => funext fun h => sm_congr _ (fun i _ => gwI1 q h i)
      simp only [f0, f1, f2]
      by_cases c0 : c = 0
      · simp only [if_pos c0]; exact ⟨_, rfl, rfl⟩
      · by_cases c1 : c = 1
        · simp only [if_neg c0, if_pos c1]; exact ⟨_, rfl, rfl⟩
        · by_cases c2 : c = 2
          · simp only [if_neg c0, if_neg c1, if_pos c2]; exact ⟨_, rfl, rfl⟩
          · by_cases c3 : c = 3
            · simp only [if_neg c0, if_neg c1, if_neg c2, if_pos c3]; exact ⟨_, rfl, rfl⟩
            · by_cases c4 : c = 4
              · simp only [if_neg c0, if_neg c1, if_neg c2, if_neg c3, if_pos c4]; exact ⟨_, rfl, rfl⟩
              · by_cases c5 : c = 5
                · simp only [if_neg c0, if_neg c1, if_neg c2, if_neg c3, if_neg c4, if_pos c5]; exact ⟨_, rfl, rfl⟩
                · simp only [if_neg c0, if_neg c1, if_neg c2, if_neg c3, if_neg c4, if_neg c5]; exact ⟨_, rfl, rfl⟩
    exact ⟨z, F1, F2, ⟨1, a, b, c, _, rfl, k9, h1, rfl, rfl⟩, ⟨173, a, b, c, _, rfl, k10, h2, rfl, rfl⟩, hR.step x2 y2⟩
  · refine ⟨-1, F, F2, ⟨1, a, b, c, (-1, F), rfl, k9, ?_, rfl, rfl⟩, ⟨173, a, b, c, (-1, F2), rfl, k10, ?_, rfl, rfl⟩, hR.step (kX.rf F) y2⟩
    · unfold fX9_play
      simp only [x1, Option.bind_some, e01]
    · unfold fX10_play
      simp only [y1, Option.bind_some, e01]
theorem pc_where (a b c : Int) : pcase RR gX9_where gX10_where [vI a, vI b, vI c] := by
  intro F hR hm
  rcases walk2 hR a b with ⟨F1, F2, k, V, v, S, x1, y1, x2, y2, hO, hW, hM, w1, w2, w3, -⟩ | ⟨F2, x1, y1, y2⟩
  · have b0 := hO.1
    have hV0 := hW.2.1
    obtain ⟨z, h1, h2⟩ : ∃ z, fX9_where 1 a b c F = some (z, F1) ∧ fX10_where 173 a b c F1 = some (z, F2) := by
      unfold fX9_where fX10_where
      have e1 : (F1 60 0).toNat = V := wx_n hW
      have e2 : F1 V 0 = v 0 := wx_V0 hW
      simp only [x1, y1, Option.bind_some, e10, Nat.reduceAdd, e1, if_neg hV0, e2, m_isSlot hM.1 hO, i10]
      by_cases q : 0 ≤ c ∧ c < v 0
      · obtain ⟨kc, rfl⟩ := nat_of q.1
        have q1 : ¬ (kc : Int) < 0 := by omega
        have q2 : (0 : Int) ≤ (kc : Int) ∧ (kc : Int) < ((48 : Nat) : Int) := by omega
        have l1 : alen 61 = 48 := rfl
        have l2 : alen 177 = 48 := rfl
        simp only [if_neg q1, if_pos q.2, if_pos q, l1, l2, if_pos q2, Int.toNat_natCast, hW.2.2.2 kc q.2, hM.2.2.2 kc (by omega)]
        exact ⟨_, rfl, rfl⟩
      · refine ⟨-2, ?_, by rw [if_neg q]⟩
        by_cases q1 : c < 0
        · rw [if_pos q1]
        · rw [if_neg q1, if_neg (by omega)]
    exact ⟨z, F1, F2, ⟨1, a, b, c, _, rfl, k9, h1, rfl, rfl⟩, ⟨173, a, b, c, _, rfl, k10, h2, rfl, rfl⟩, hR.step x2 y2⟩
  · refine ⟨-2, F, F2, ⟨1, a, b, c, (-2, F), rfl, k9, ?_, rfl, rfl⟩, ⟨173, a, b, c, (-2, F2), rfl, k10, ?_, rfl, rfl⟩, hR.step (kX.rf F) y2⟩
    · unfold fX9_where
      simp only [x1, Option.bind_some, if_true]
    · unfold fX10_where
      simp only [y1, Option.bind_some, if_true]
theorem pc_row (a b c d e : Int) (hd : in32 d) : pcase RR gX9_row gX10_row [vI a, vI b, vI c, vI d, vI e] := by
  intro F hR hm
  rcases walk2 hR a b with ⟨F1, F2, k, V, v, S, x1, y1, x2, y2, hO, hW, hM, w1, w2, w3, -⟩ | ⟨F2, x1, y1, y2⟩
  · have b0 := hO.1
    obtain ⟨z, h1, h2⟩ : ∃ z, fX9_row 1 a b c d e F = some (z, F1) ∧ fX10_row 173 a b c d e F1 = some (z, F2) := by
      unfold fX9_row fX10_row
      obtain ⟨zs, s1, s2, s3⟩ := x_slotOfRow hW hO c d
      simp only [x1, y1, Option.bind_some, e10, Nat.reduceAdd, m_isHouse hM.1 hO, i10, m_isIn, i11, s1]
      by_cases q : 0 ≤ c ∧ c < v 5 ∧ 0 ≤ d
      · have q1 : 0 ≤ c ∧ c < v 5 := ⟨q.1, q.2.1⟩
        have q2 : ¬ d < 0 := by omega
        simp only [if_pos q1, if_neg q2]
        obtain ⟨kc, rfl⟩ := nat_of q.1
        have FFs := s2 q
        rw [Int.toNat_natCast] at FFs
        by_cases r : 0 ≤ e ∧ e ≤ 2
        · obtain ⟨zm, m1, m2⟩ := m_row hM hO q.2.1 e q.2.2 hd.2
          have r1 : ¬ e < 0 := by omega
          simp only [if_neg r1, if_pos r.2, if_pos r, m1]
          refine ⟨zm, ?_, rfl⟩
          rcases FFs with ⟨s, a1, a2, a3, a4⟩ | ⟨a1, a2⟩
          · have a4 : zs = (s : Int) := a4
            subst a4
            have ez : zm = rowG v S kc e s := FF_uniq m2 (Or.inl ⟨s, a1, a2, a3, rfl⟩)
            have l1 : alen 61 = 48 := rfl
            have q5 : (0 : Int) ≤ (s : Int) ∧ (s : Int) < ((48 : Nat) : Int) := by omega
            rw [ez, if_pos (by omega), x_isRight hW hO q.2.1 (by omega), Option.bind_some, l1, if_pos q5, Int.toNat_natCast, hW.2.2.2 s (by omega)]
            unfold rowG
            by_cases t0 : e = 0
            · rw [if_neg (by omega), if_pos t0]
            · rw [if_pos t0, if_neg t0]
              by_cases t2 : e = 2
              · rw [if_pos (by omega), if_pos t2]
              · rw [if_neg (by omega), if_neg t2]
                split <;> rfl
          · subst a2
            have ez : zm = -2 := FF_uniq m2 (Or.inr ⟨a1, rfl⟩)
            rw [ez, if_neg (by decide)]
        · simp only [if_neg r]
          refine ⟨-2, ?_, rfl⟩
          by_cases r1 : e < 0
          · rw [if_pos r1]
          · rw [if_neg r1, if_neg (by omega)]
      · have z1 := s3 q
        refine ⟨-2, ?_, ?_⟩
        · rw [z1]
          split
          · rfl
          · split
            · rw [if_neg (by decide)]
            · rfl
        · by_cases q1 : 0 ≤ c ∧ c < v 5
          · rw [if_pos q1, if_pos (by omega)]
          · rw [if_neg q1]
    exact ⟨z, F1, F2, ⟨1, a, b, c, d, e, _, rfl, k9, h1, rfl, rfl⟩, ⟨173, a, b, c, d, e, _, rfl, k10, h2, rfl, rfl⟩, hR.step x2 y2⟩
  · refine ⟨-2, F, F2, ⟨1, a, b, c, d, e, (-2, F), rfl, k9, ?_, rfl, rfl⟩, ⟨173, a, b, c, d, e, (-2, F2), rfl, k10, ?_, rfl, rfl⟩, hR.step (kX.rf F) y2⟩
    · unfold fX9_row
      simp only [x1, Option.bind_some, if_true]
    · unfold fX10_row
      simp only [y1, Option.bind_some, if_true]
theorem pc_rows (a b c d : Int) : pcase RR gX9_rows gX10_rows_ [vI a, vI b, vI c, vI d] := by
  intro F hR hm
  rcases walk2 hR a b with ⟨F1, F2, k, V, v, S, x1, y1, x2, y2, hO, hW, hM, w1, w2, w3, -⟩ | ⟨F2, x1, y1, y2⟩
  · have b0 := hO.1
    have hV0 := hW.2.1
    obtain ⟨z, h1, h2⟩ : ∃ z, fX9_rows 1 a b c d F = some (z, F1) ∧ fX10_rows_ 173 a b c d F1 = some (z, F2) := by
      unfold fX9_rows fX10_rows_
      have e1 : (F1 60 0).toNat = V := wx_n hW
      have e2 : F1 V 0 = v 0 := wx_V0 hW
      simp only [x1, y1, Option.bind_some, e10, Nat.reduceAdd, e1, if_neg hV0, e2, v_has hW.2.2.1, i11, m_isHouse hM.1 hO, i10, m_isIn]
      by_cases q : 0 ≤ c ∧ c < v 5
      · obtain ⟨kc, rfl⟩ := nat_of q.1
        obtain ⟨ke, hke⟩ := nat_of (show 0 ≤ v 0 by omega)
        have hke2 : (v 0).toNat = ke := by omega
        obtain ⟨zm, m1, m2, m3, m4, m5⟩ := m_rowsQ hM hO q.2 d
        obtain ⟨zf, f1, f2⟩ := x_firstWrong hW hO q.2
        have rb := x_rowsBefore hW hO (e := ke) q.2 (by omega)
        rw [← hke] at rb
        simp only [if_pos q, rb, x_wrongRows hW hO q.2, f1, x_wrongSlots hW hO q.2, Option.bind_some, m1]
        by_cases d0 : d = 0
        · rw [if_pos d0, if_pos (by omega), m2 d0, hke2]; exact ⟨_, rfl, rfl⟩
        · rw [if_neg d0]
          by_cases d1 : d = 1
          · rw [if_pos d1, if_pos (by omega), m3 d1]; exact ⟨_, rfl, rfl⟩
          · rw [if_neg d1]
            by_cases d2 : d = 2
            · rw [if_pos d2, if_pos (by omega), FF_uniq (m4 d2) f2]; exact ⟨_, rfl, rfl⟩
            · rw [if_neg d2]
              by_cases d3 : d = 3
              · rw [if_pos d3, if_pos (by omega), m5 d3]; exact ⟨_, rfl, rfl⟩
              · rw [if_neg d3, if_neg (by omega)]; exact ⟨_, rfl, rfl⟩
      · simp only [if_neg q]
        exact ⟨_, rfl, rfl⟩
    exact ⟨z, F1, F2, ⟨1, a, b, c, d, _, rfl, k9, h1, rfl, rfl⟩, ⟨173, a, b, c, d, _, rfl, k10, h2, rfl, rfl⟩, hR.step x2 y2⟩
  · refine ⟨-2, F, F2, ⟨1, a, b, c, d, (-2, F), rfl, k9, ?_, rfl, rfl⟩, ⟨173, a, b, c, d, (-2, F2), rfl, k10, ?_, rfl, rfl⟩, hR.step (kX.rf F) y2⟩
    · unfold fX9_rows
      simp only [x1, Option.bind_some, if_true]
    · unfold fX10_rows_
      simp only [y1, Option.bind_some, if_true]
