/-! ===== the reference's way ===== -/
/-- the reference's table as it stands -/
def TBm (I : Ins) (F : Mem) : Prop := (∀ t b, t ≤ iN I → b < iH I → cok (iN I - t) (F 183 (8 * t + b)) (F 184 (8 * t + b))) ∧ F 173 27 = (iN I : Int)
def spo (k : Nat) : Prop := k = 38 ∨ k = 39 ∨ k = 40
theorem sq_spo {F G : Mem} (h : ∀ o k, ¬ (o = 173 ∧ spo k) → G o k = F o k) : sameQ F G := ⟨fun k hk => h _ _ (by unfold spo; omega), fun k => h _ _ (by omega), fun k => h _ _ (by omega)⟩
theorem tb_spo {I : Ins} {F G : Mem} (hT : TBm I F) (h : ∀ o k, ¬ (o = 173 ∧ spo k) → G o k = F o k) : TBm I G ∧ dcd G = dcd F := by
  refine ⟨⟨fun t b ht hb => ?_, (h _ _ (by unfold spo; omega)).trans hT.2⟩, funext fun s => funext fun k => ?_⟩
  · rw [h _ _ (by omega), h _ _ (by omega)]; exact hT.1 t b ht hb
  · unfold dcd
    rw [h _ _ (by omega), h _ _ (by omega)]
section RFW
variable {I : Ins} {v : Nat → Int} {F : Mem} {tv : Nat → Int}
/-- two scores are one when GAIN and CLIMB are -/
theorem sco_eq {k : Nat} (hk : k ≤ 336) {g c g' c' : Int} (h : cok k g c) (h0 : 0 ≤ g) (hg : 0 ≤ g') (hc : 0 ≤ c' ∧ c' < 65536) : 65536 * g' - c' = sco g c ↔ (g' = g ∧ c' = c) := by
  have e : sco g c = 65536 * g - c := if_neg (by omega)
  have hc2 : 0 ≤ c ∧ c < 65536 := by rcases h with w | w <;> omega
  rw [e]
  constructor
  · intro z; omega
  · rintro ⟨rfl, rfl⟩; rfl
theorem m_isNext (hP : PIm I v F) (hT : TBm I F) {s h g : Nat} (hs : s < iN I) (hh : h < iH I) (hg : g < iH I) (hne : dcd F s h ≠ BD) : fX10_isNext 173 (h : Int) (g : Int) (s : Int) ((8 * s + h : Nat) : Int) F = some (if gov I (dcd F) s h g = dcd F s h then 1 else 0) := by
  have hW := hP.2.2.2.2.1
  have hN := hW.1
  have t99 := hP.2.2.2.2.2.1 h g hh hg
  have no : gov I (dcd F) s h g = BD → (some 0 : Option Int) = some (if gov I (dcd F) s h g = dcd F s h then 1 else 0) := fun e => by
    rw [e, if_neg (fun z => hne z.symm)]
  have hst : s + iT I h g < 2147483648 := by omega
  have bat := b2696 (a := s) (b := h) (by omega) (by omega)
  unfold fX10_isNext
  rw [pim_T hP hh hg, Option.bind_some, xwA hst, hT.2]
  by_cases q1 : g = h
  · rw [if_pos (show (g : Int) = (h : Int) by omega)]
    exact no (by unfold gov; rw [if_pos (Or.inl q1)])
  · rw [if_neg (show ¬ (g : Int) = (h : Int) by omega)]
    have hfs := (fre_sp (I := I) (iN I - s) s (by omega)).1
    by_cases q2 : iN I < s + iT I h g
    · rw [if_pos (show ((iN I : Nat) : Int) < ((s + iT I h g : Nat) : Int) by omega)]
      exact no (by unfold gov; rw [if_pos (Or.inr (Or.inl (by omega)))])
    · have t1 := hW.2.2.1 h g hh hg (fun z => q1 z.symm)
      have s4 : s + iT I h g ≤ 400 := by omega
      have g4 : g ≤ 400 := by omega
      have bt := b2696 (a := s + iT I h g) (b := g) (by omega) (by omega)
      have hct := hT.1 (s + iT I h g) g (by omega) hg
      have hc0 := hT.1 s h (by omega) hh
      have fr := m_free hP (s := s) (t := s + iT I h g) (by omega) (by omega)
      have c1 := hW.2.2.2 h g hh hg
      rw [if_neg (show ¬ ((iN I : Nat) : Int) < ((s + iT I h g : Nat) : Int) by omega), xw8' s4 g4, al183, al184, fr, Option.bind_some, i10]
      simp only [if_pos bt, if_pos bat, Int.toNat_natCast, Nat.reduceAdd]
      by_cases q4 : iT I h g ≤ fre I s
      · rw [if_pos (show s + iT I h g ≤ s + fre I s by omega), pim_S hP hh hg]
        simp only [Option.bind_some]
        have ed : dcd F (s + iT I h g) g = sco (F 183 (8 * (s + iT I h g) + g)) (F 184 (8 * (s + iT I h g) + g)) := rfl
        have e0 : dcd F s h = sco (F 183 (8 * s + h)) (F 184 (8 * s + h)) := rfl
        rw [e0] at hne no ⊢
        have h00 := (sco_gof (by omega) hc0).2 hne
        by_cases q3 : F 183 (8 * (s + iT I h g) + g) < 0
        · have e : dcd F (s + iT I h g) g = BD := by rw [ed]; exact if_pos q3
          rw [if_pos (show F 183 (8 * (s + iT I h g) + g) ≠ F 183 (8 * s + h) by omega)]
          exact no (by unfold gov; rw [if_pos (Or.inr (Or.inr e))])
        · have ec : dcd F (s + iT I h g) g = 65536 * F 183 (8 * (s + iT I h g) + g) - F 184 (8 * (s + iT I h g) + g) := by rw [ed]; exact if_neg q3
          have hbb : (0 ≤ F 183 (8 * (s + iT I h g) + g) ∧ F 183 (8 * (s + iT I h g) + g) ≤ 3024) ∧ (0 ≤ F 184 (8 * (s + iT I h g) + g) ∧ F 184 (8 * (s + iT I h g) + g) ≤ 33264) := by rcases hct with w | w <;> omega
          have hne2 : dcd F (s + iT I h g) g ≠ BD := by
            rw [ec]
            intro z
            have z : 65536 * F 183 (8 * (s + iT I h g) + g) - F 184 (8 * (s + iT I h g) + g) = -1000000000 := z
            omega
          have eg : gov I (dcd F) s h g = 65536 * F 183 (8 * (s + iT I h g) + g) - (F 184 (8 * (s + iT I h g) + g) + iS I h g) := by
            unfold gov
            rw [if_neg (fun z => z.elim q1 (fun w => w.elim (by omega) hne2)), ec]; omega
          have key := sco_eq (k := iN I - s) (by omega) hc0 h00.1 (g' := F 183 (8 * (s + iT I h g) + g)) (c' := F 184 (8 * (s + iT I h g) + g) + iS I h g) (by omega) (by omega)
          simp only [eg]
          have w : xw (F 184 (8 * (s + iT I h g) + g) + iS I h g) = F 184 (8 * (s + iT I h g) + g) + iS I h g := xwn (by omega) (by omega)
          simp only [w]
          by_cases q5 : F 183 (8 * (s + iT I h g) + g) = F 183 (8 * s + h)
          · rw [if_neg (fun z => z q5)]
            by_cases q6 : F 184 (8 * (s + iT I h g) + g) + iS I h g = F 184 (8 * s + h)
            · rw [if_neg (fun z => z q6), if_pos (key.mpr ⟨q5, q6⟩)]
            · rw [if_pos q6, if_neg (fun z => q6 (key.mp z).2)]
          · rw [if_pos q5, if_neg (fun z => q5 (key.mp z).1)]
      · rw [if_neg (show ¬ s + iT I h g ≤ s + fre I s by omega)]
        exact no (by unfold gov; rw [if_pos (Or.inr (Or.inl (by omega)))])
/-- the reference's test of staying -/
theorem m_stays (hP : PIm I v F) (hT : TBm I F) {s h : Nat} (hs : s < iN I) (hh : h < iH I) (hne : dcd F s h ≠ BD) :
    (0 ≤ F 183 (8 * (s + 1) + h) ∧ (iM I s = -1 ∨ iM I s = (h : Int)) ∧ xw (F 183 (8 * (s + 1) + h) + iG I s h) = F 183 (8 * s + h) ∧ F 184 (8 * (s + 1) + h) = F 184 (8 * s + h)) ↔ stv I (dcd F) s h = dcd F s h := by
  have hW := hP.2.2.2.2.1
  have hN := hW.1
  have hg := hW.2.1 s h hs hh
  have hc1 := hT.1 (s + 1) h (by omega) hh
  have hc0 := hT.1 s h (by omega) hh
  have ed : dcd F (s + 1) h = sco (F 183 (8 * (s + 1) + h)) (F 184 (8 * (s + 1) + h)) := rfl
  have e0 : dcd F s h = sco (F 183 (8 * s + h)) (F 184 (8 * s + h)) := rfl
  rw [e0] at hne ⊢
  have h00 := (sco_gof (by omega) hc0).2 hne
  unfold stv
  generalize F 183 (8 * s + h) = g0 at *
  generalize F 184 (8 * s + h) = c0 at *
  generalize F 183 (8 * (s + 1) + h) = gg at *
  generalize F 184 (8 * (s + 1) + h) = cc at *
  by_cases q3 : gg < 0
  · have e : dcd F (s + 1) h = BD := by rw [ed]; exact if_pos q3
    rw [if_pos (Or.inl e)]
    exact ⟨fun z => by omega, fun z => absurd z.symm hne⟩
  · have ec : dcd F (s + 1) h = 65536 * gg - cc := by rw [ed]; exact if_neg q3
    have hbb : (0 ≤ gg ∧ gg ≤ 3024) ∧ (0 ≤ cc ∧ cc ≤ 33264) := by rcases hc1 with w | w <;> omega
    have hne2 : dcd F (s + 1) h ≠ BD := by
      rw [ec]
      intro z
      have z : 65536 * gg - cc = -1000000000 := z
      omega
    have w : xw (gg + iG I s h) = gg + iG I s h := xwn (by omega) (by omega)
    have key := sco_eq (k := iN I - s) (by omega) hc0 h00.1 (g' := gg + iG I s h) (c' := cc) (by omega) (by omega)
    rw [w]
    by_cases q4 : iM I s = -1 ∨ iM I s = (h : Int)
    · rw [if_neg (fun z => z.elim hne2 (fun y => y q4)), ec, show 65536 * gg - cc + iG I s h * 65536 = 65536 * (gg + iG I s h) - cc by omega]
      exact ⟨fun z => key.mpr ⟨z.2.2.1, z.2.2.2⟩, fun z => ⟨by omega, q4, (key.mp z).1, (key.mp z).2⟩⟩
    · rw [if_pos (Or.inr q4)]
      exact ⟨fun z => absurd z.2.1 q4, fun z => absurd z.symm hne⟩
theorem m_walksTo (hP : PIm I v F) (hT : TBm I F) (hX : IsX I tv (dcd F)) (hne : dcd F 0 (v 4).toNat ≠ BD) {i : Nat} (hi : i < iN I) : ∃ F', fX10_walksTo 173 (i : Int) F = some F' ∧ F' 173 38 = (twA I (dcd F) (v 4).toNat i).1 ∧ F' 173 39 = ((twA I (dcd F) (v 4).toNat i).2.1 : Int) ∧ F' 173 40 = ((twA I (dcd F) (v 4).toNat i).2.2.1 : Int) ∧ (∀ o k, ¬ (o = 173 ∧ spo k) → F' o k = F o k) := by
  have hW := hP.2.2.2.2.1
  have hN := hW.1
  have b4 := hP.2.1.2.2.2.1
  have hH := hP.2.2.2.1
  obtain ⟨z, hz⟩ := nat_of b4.1
  have hz2 : (v 4).toNat = z := by omega
  rw [hz2] at hne ⊢
  unfold fX10_walksTo
  rw [m_of hP.1 (i := 4) (x := 4) rfl (by omega), Option.bind_some, hz]
  have hXX : dcd F = dcd F := rfl
  generalize hXd : dcd F = X at *
  clear hXX
  refine lp (fun n _ (st : Nat × Nat × Mem) => fX10_walksTo_b13 n 173 (i : Int) (st.1 : Int) (st.2.1 : Int) st.2.2) (i + 1)
    (fun k st => k ≤ st.2.1 ∧ (∀ o k, ¬ (o = 173 ∧ spo k) → st.2.2 o k = F o k) ∧ ((st.2.1 ≤ i ∧ st.1 < iH I ∧ X st.2.1 st.1 ≠ BD ∧ twA I X z i = tw I X (iN I) st.2.1 st.1 i) ∨ (i < st.2.1 ∧ st.2.2 173 38 = (twA I X z i).1 ∧ st.2.2 173 39 = ((twA I X z i).2.1 : Int) ∧ st.2.2 173 40 = ((twA I X z i).2.2.1 : Int))))
    (fun r => ∃ F', r = some F' ∧ F' 173 38 = (twA I X z i).1 ∧ F' 173 39 = ((twA I X z i).2.1 : Int) ∧ F' 173 40 = ((twA I X z i).2.2.1 : Int) ∧ (∀ o k, ¬ (o = 173 ∧ spo k) → F' o k = F o k)) ?_ ?_ FU 0 (z, 0, mset F 173 38 (-1)) (Nat.zero_le _) ⟨Nat.le_refl _, fun o k h => mset_ne _ _ (fun y => h ⟨y.1, Or.inl y.2⟩), Or.inl ⟨Nat.zero_le _, by dsimp only; omega, hne, rfl⟩⟩ (FU_gt (by omega))
  · rintro n k ⟨h, s, G⟩ hk ⟨g1, g2, g3⟩
    dsimp only at g1 g2 g3 ⊢
    rcases g3 with ⟨a1, a2, a3, a4⟩ | ⟨a1, a2, a3, a4⟩
    · left
      have hs : s < iN I := by omega
      have ns : ¬ (i : Int) < (s : Int) := by omega
      have hPG := hP.mono (sq_spo g2)
      obtain ⟨hTG, eD⟩ := tb_spo hT g2
      rw [hXd] at eD
      have hm := pim_M hPG hs
      have s4 : s ≤ 400 := by omega
      have h4 : h ≤ 400 := by omega
      have bat := b2696 (a := s) (b := h) (by omega) (by omega)
      have bat8 := b2696 (a := s + 1) (b := h) (by omega) (by omega)
      have w8 : xw (((8 * s + h : Nat) : Int) + 8) = ((8 * (s + 1) + h : Nat) : Int) := by rw [xwn (by omega) (by omega)]; omega
      have hs1 : s < 2147483647 := by omega
      have gi := pim_G hPG hs a2
      have hst := m_stays hPG hTG hs a2 (by rw [eD]; exact a3)
      rw [eD] at hst
      obtain ⟨n1, n2⟩ := nx_sp hX hs a2 a3
      have twN : tw I X (iN I) s h i = tw I X (iN I + 1) s h i := tw_fuel hW hX _ _ s h i (by omega) (by omega) a1 hi a2 a3
      rw [twN] at a4
      -- staying
      have ST : stv I X s h = X s h → ∃ s' : Nat × Nat × Mem, (k + 1 ≤ s'.2.1 ∧ (∀ o k, ¬ (o = 173 ∧ spo k) → s'.2.2 o k = F o k) ∧ ((s'.2.1 ≤ i ∧ s'.1 < iH I ∧ X s'.2.1 s'.1 ≠ BD ∧ twA I X z i = tw I X (iN I) s'.2.1 s'.1 i) ∨ (i < s'.2.1 ∧ s'.2.2 173 38 = (twA I X z i).1 ∧ s'.2.2 173 39 = ((twA I X z i).2.1 : Int) ∧ s'.2.2 173 40 = ((twA I X z i).2.2.1 : Int)))) ∧ fX10_walksTo_b110 (fX10_walksTo_b13 n) 173 (i : Int) (h : Int) (s : Int) ((8 * s + h : Nat) : Int) 1 G = fX10_walksTo_b13 n 173 (i : Int) (s'.1 : Int) (s'.2.1 : Int) s'.2.2 := by
        intro e
        have hn : nxh I X s h = h := if_pos e
        rcases n2 with ⟨-, -, b3, -⟩ | ⟨b1, -⟩
        · rw [tw_stay hn] at a4
          refine ⟨(h, s + 1, mset (mset (mset G 173 38 (h : Int)) 173 39 (h : Int)) 173 40 (s : Int)), ⟨by dsimp only; omega, fun o k ho => ?_, ?_⟩, ?_⟩
          · dsimp only
            rw [mset_ne _ _ (fun y => ho ⟨y.1, Or.inr (Or.inr y.2)⟩), mset_ne _ _ (fun y => ho ⟨y.1, Or.inr (Or.inl y.2)⟩), mset_ne _ _ (fun y => ho ⟨y.1, Or.inl y.2⟩)]
            exact g2 o k ho
          · dsimp only
            by_cases y : i = s
            · right
              rw [if_pos y] at a4
              rw [a4]
              refine ⟨by omega, ?_, ?_, ?_⟩
              · rw [mset_ne _ _ (by omega), mset_ne _ _ (by omega), mset_eq]
              · rw [mset_ne _ _ (by omega), mset_eq]
              · rw [mset_eq]
            · left
              rw [if_neg y] at a4
              exact ⟨by omega, a2, b3, a4⟩
          · unfold fX10_walksTo_b110
            rw [if_neg (by decide), xwS hs1]
        · exact absurd hn b1
      -- going
      have GO : ¬ stv I X s h = X s h → ∃ s' : Nat × Nat × Mem, (k + 1 ≤ s'.2.1 ∧ (∀ o k, ¬ (o = 173 ∧ spo k) → s'.2.2 o k = F o k) ∧ ((s'.2.1 ≤ i ∧ s'.1 < iH I ∧ X s'.2.1 s'.1 ≠ BD ∧ twA I X z i = tw I X (iN I) s'.2.1 s'.1 i) ∨ (i < s'.2.1 ∧ s'.2.2 173 38 = (twA I X z i).1 ∧ s'.2.2 173 39 = ((twA I X z i).2.1 : Int) ∧ s'.2.2 173 40 = ((twA I X z i).2.2.1 : Int)))) ∧ fX10_walksTo_b110 (fX10_walksTo_b13 n) 173 (i : Int) (h : Int) (s : Int) ((8 * s + h : Nat) : Int) 0 G = fX10_walksTo_b13 n 173 (i : Int) (s'.1 : Int) (s'.2.1 : Int) s'.2.2 := by
        intro e
        rcases n2 with ⟨b1, b2, -⟩ | ⟨b1, b2, b3, b4, b5, b6, b7⟩
        · exact absurd b2 e
        · unfold fX10_walksTo_b110
          rw [if_pos rfl]
          generalize hY : mset (mset (mset G 173 38 (h : Int)) 173 39 (h : Int)) 173 40 (s : Int) = Y
          have y2 : ∀ o k, ¬ (o = 173 ∧ spo k) → Y o k = F o k := fun o k ho => by
            rw [← hY, mset_ne _ _ (fun y => ho ⟨y.1, Or.inr (Or.inr y.2)⟩), mset_ne _ _ (fun y => ho ⟨y.1, Or.inr (Or.inl y.2)⟩), mset_ne _ _ (fun y => ho ⟨y.1, Or.inl y.2⟩)]
            exact g2 o k ho
          have hPY := hP.mono (sq_spo y2)
          obtain ⟨hTY, eDY⟩ := tb_spo hT y2
          rw [hXd] at eDY
          have t1 := hW.2.2.1 h _ a2 n1 (fun w => b1 w.symm)
          have t99 := hP.2.2.2.2.2.1 h _ a2 n1
          have hfs := (fre_sp (I := I) (iN I - s) s (by omega)).1
          have ewg : tw I X (iN I + 1) s h i = if i < s + iT I h (nxh I X s h) then (-1, nxh I X s h, s + iT I h (nxh I X s h), 0) else tw I X (iN I) (s + iT I h (nxh I X s h)) (nxh I X s h) i := tw_go b1
          rw [ewg] at a4
          have isN : ∀ g, g < iH I → fX10_isNext 173 (h : Int) (g : Int) (s : Int) ((8 * s + h : Nat) : Int) Y = some (if gov I X s h g = X s h then 1 else 0) := fun g hg => by
            have := m_isNext hPY hTY hs a2 hg (by rw [eDY]; exact a3)
            rw [eDY] at this
            exact this
          generalize nxh I X s h = b at *
          refine lp (fun m g (_ : Unit) => fX10_walksTo_b141 (fX10_walksTo_b13 n) m 173 (i : Int) (h : Int) (s : Int) ((8 * s + h : Nat) : Int) (g : Int) Y) b (fun g _ => True) (fun r => ∃ s' : Nat × Nat × Mem, (k + 1 ≤ s'.2.1 ∧ (∀ o k, ¬ (o = 173 ∧ spo k) → s'.2.2 o k = F o k) ∧ ((s'.2.1 ≤ i ∧ s'.1 < iH I ∧ X s'.2.1 s'.1 ≠ BD ∧ twA I X z i = tw I X (iN I) s'.2.1 s'.1 i) ∨ (i < s'.2.1 ∧ s'.2.2 173 38 = (twA I X z i).1 ∧ s'.2.2 173 39 = ((twA I X z i).2.1 : Int) ∧ s'.2.2 173 40 = ((twA I X z i).2.2.1 : Int)))) ∧ r = fX10_walksTo_b13 n 173 (i : Int) (s'.1 : Int) (s'.2.1 : Int) s'.2.2) ?_ ?_ FU 0 () (Nat.zero_le _) trivial (FU_gt (by omega))
          · rintro m g - hg -
            left
            have hg1 : g < 2147483647 := by omega
            refine ⟨(), trivial, ?_⟩
            show fX10_walksTo_b141 (fX10_walksTo_b13 n) (m + 1) 173 (i : Int) (h : Int) (s : Int) ((8 * s + h : Nat) : Int) (g : Int) Y = _
            rw [fX10_walksTo_b141, isN g (by omega), Option.bind_some, i11, if_neg (b4 g hg), xwS hg1]
          · rintro m - -
            have hPZ := hP.mono (sq_spo (G := mset (mset Y 173 38 (-1)) 173 39 (b : Int)) (fun o k ho => by
              rw [mset_ne _ _ (fun y => ho ⟨y.1, Or.inr (Or.inl y.2)⟩), mset_ne _ _ (fun y => ho ⟨y.1, Or.inl y.2⟩)]
              exact y2 o k ho))
            have hst2 : s + iT I h b < 2147483648 := by omega
            refine ⟨(b, s + iT I h b, mset (mset (mset Y 173 38 (-1)) 173 39 (b : Int)) 173 40 ((s + iT I h b : Nat) : Int)), ⟨by dsimp only; omega, fun o k ho => ?_, ?_⟩, ?_⟩
            · dsimp only
              rw [mset_ne _ _ (fun y => ho ⟨y.1, Or.inr (Or.inr y.2)⟩), mset_ne _ _ (fun y => ho ⟨y.1, Or.inr (Or.inl y.2)⟩), mset_ne _ _ (fun y => ho ⟨y.1, Or.inl y.2⟩)]
              exact y2 o k ho
            · dsimp only
              by_cases y : i < s + iT I h b
              · right
                rw [if_pos y] at a4
                rw [a4]
                refine ⟨y, ?_, ?_, ?_⟩
                · rw [mset_ne _ _ (by omega), mset_ne _ _ (by omega), mset_eq]
                · rw [mset_ne _ _ (by omega), mset_eq]
                · rw [mset_eq]
              · left
                rw [if_neg y] at a4
                exact ⟨by omega, n1, b6, a4⟩
            · show fX10_walksTo_b141 (fX10_walksTo_b13 n) (m + 1) 173 (i : Int) (h : Int) (s : Int) ((8 * s + h : Nat) : Int) (b : Int) Y = _
              rw [fX10_walksTo_b141, isN b n1, Option.bind_some, i11, if_pos b3, pim_T hPZ a2 n1, Option.bind_some, xwA hst2, mset_eq]
      have A45 : (iM I s = -1 ∨ iM I s = (h : Int)) → ∃ s' : Nat × Nat × Mem, (k + 1 ≤ s'.2.1 ∧ (∀ o k, ¬ (o = 173 ∧ spo k) → s'.2.2 o k = F o k) ∧ ((s'.2.1 ≤ i ∧ s'.1 < iH I ∧ X s'.2.1 s'.1 ≠ BD ∧ twA I X z i = tw I X (iN I) s'.2.1 s'.1 i) ∨ (i < s'.2.1 ∧ s'.2.2 173 38 = (twA I X z i).1 ∧ s'.2.2 173 39 = ((twA I X z i).2.1 : Int) ∧ s'.2.2 173 40 = ((twA I X z i).2.2.1 : Int)))) ∧ fX10_walksTo_b45 (fX10_walksTo_b13 n) 173 (i : Int) (h : Int) (s : Int) ((8 * s + h : Nat) : Int) G = fX10_walksTo_b13 n 173 (i : Int) (s'.1 : Int) (s'.2.1 : Int) s'.2.2 := by
        intro hc
        unfold fX10_walksTo_b45
        rw [w8, al183, al184, gi, Option.bind_some]
        simp only [if_pos bat, if_pos bat8, Int.toNat_natCast, Nat.reduceAdd]
        by_cases r1 : G 183 (8 * (s + 1) + h) < 0
        · rw [if_pos r1]
          exact GO (fun e => absurd (hst.mpr e).1 (Int.not_le.mpr r1))
        · rw [if_neg r1]
          by_cases r2 : xw (G 183 (8 * (s + 1) + h) + iG I s h) = G 183 (8 * s + h)
          · rw [if_neg (fun y => y r2)]
            by_cases r3 : G 184 (8 * (s + 1) + h) = G 184 (8 * s + h)
            · rw [if_neg (fun y => y r3)]
              exact ST (hst.mp ⟨Int.not_lt.mp r1, hc, r2, r3⟩)
            · rw [if_pos r3]
              exact GO (fun e => r3 (hst.mpr e).2.2.2)
          · rw [if_pos r2]
            exact GO (fun e => r2 (hst.mpr e).2.2.1)
      show ∃ s' : Nat × Nat × Mem, _ ∧ fX10_walksTo_b13 (n + 1) 173 (i : Int) (h : Int) (s : Int) G = fX10_walksTo_b13 n 173 (i : Int) (s'.1 : Int) (s'.2.1 : Int) s'.2.2
      rw [fX10_walksTo_b13, if_neg ns, hm, Option.bind_some, xw8' s4 h4]
      by_cases q1 : iM I s = -1
      · rw [if_pos q1]
        exact A45 (Or.inl q1)
      · rw [if_neg q1]
        by_cases q2 : iM I s = (h : Int)
        · rw [if_neg (fun y => y q2)]
          exact A45 (Or.inr q2)
        · rw [if_pos q2]
          exact GO (fun e => (hst.mpr e).2.1.elim q1 q2)
    · right
      refine ⟨G, ?_, a2, a3, a4, g2⟩
      rw [fX10_walksTo_b13, if_pos (by omega)]
  · rintro n ⟨h, s, G⟩ ⟨g1, g2, g3⟩
    dsimp only at g1 g2 g3 ⊢
    rcases g3 with ⟨a1, -⟩ | ⟨a1, a2, a3, a4⟩
    · omega
    · refine ⟨G, ?_, a2, a3, a4, g2⟩
      rw [fX10_walksTo_b13, if_pos (by omega)]
end RFW
