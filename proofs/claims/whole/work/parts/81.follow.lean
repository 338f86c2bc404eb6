/-! ===== the class's way ===== -/
theorem a73 : alen (72 + 1) = 336 := rfl
theorem a74 : alen (72 + 2) = 336 := rfl
theorem a75 : alen (72 + 3) = 336 := rfl
theorem a76 : alen (72 + 4) = 336 := rfl
theorem a77 : alen (72 + 5) = 392 := rfl
/-- the way, told slot by slot -/
def TP (I : Ins) (X : Nat → Nat → Int) (z : Nat) (F : Mem) : Prop := ∀ i, i < iN I → F 73 i = (twA I X z i).1 ∧ F 74 i = (twA I X z i).2.2.2 ∧ F 75 i = ((twA I X z i).2.2.1 : Int) ∧ F 76 i = ((twA I X z i).2.1 : Int)
section FLW
variable {I : Ins} {v : Nat → Int} {V : Nat} {F : Mem} {tv : Nat → Int}
theorem x_nextFrom (hP : PIc I v V F) (ht : tv01 tv) (hX : IsX I tv (tbl F)) (hfr : ∀ s, s ≤ iN I → F 67 s = (fre I s : Int)) {s h : Nat} (hs : s < iN I) (hh : h < iH I) (hne : tbl F s h ≠ BD) : fX6_nextFrom 63 (s : Int) (h : Int) F = some (nxh I (tbl F) s h : Int) := by
  obtain ⟨h1, h2, h3, hW, -⟩ := id hP
  have hN := hW.1
  have hbd : ∀ t c, t ≤ iN I → c < iH I → sbd (iN I - t) (tbl F t c) := fun t c t1 t2 => X_bd hW ht hX t1 t2
  have h8 : h < 8 := by omega
  have s336 : s ≤ 336 := by omega
  obtain ⟨n1, n2⟩ := nx_sp hX hs hh hne
  unfold fX6_nextFrom
  rw [if_neg (show ¬ (63 : Nat) = 0 by decide), x_scoreAt s336 h8, Option.bind_some, if_neg (show ¬ (63 : Nat) = 0 by decide), x_staying hP hs hh (hbd _ _ (by omega) hh), Option.bind_some]
  rcases n2 with ⟨b1, b2, -⟩ | ⟨b1, b2, b3, b4, -⟩
  · rw [if_neg (fun z => z b2), b1]
  · rw [if_pos b2]
    generalize hb : nxh I (tbl F) s h = b at *
    refine lp (fun n j (_ : Unit) => fX6_nextFrom_b22 F n 63 (s : Int) (h : Int) (tbl F s h) (j : Int)) b (fun j _ => True) (fun r => r = some (b : Int)) ?_ ?_ FU 0 () (Nat.zero_le _) trivial (FU_gt (by omega))
    · rintro n j - hj -
      left
      refine ⟨(), trivial, ?_⟩
      have nH : ¬ (iH I : Int) ≤ (j : Int) := by omega
      have hk1 : j < 2147483647 := by omega
      show fX6_nextFrom_b22 F (n + 1) 63 (s : Int) (h : Int) (tbl F s h) (j : Int) = _
      rw [fX6_nextFrom_b22, if_neg (show ¬ (63 : Nat) = 0 by decide), pv_n h1, if_neg h1.2.1, pv_5 h1, h3, if_neg nH, xwS hk1]
      by_cases y : j = h
      · rw [if_pos (by omega)]
      · rw [if_neg (by omega), if_neg (show ¬ (63 : Nat) = 0 by decide), x_going hP hs hh (show j < iH I by omega) y (hfr s (by omega)) (fun t c t1 t2 t3 => hbd t c t2 t3), Option.bind_some, if_pos (b4 j hj)]
    · rintro n - -
      have nH : ¬ (iH I : Int) ≤ (b : Int) := by omega
      show fX6_nextFrom_b22 F (n + 1) 63 (s : Int) (h : Int) (tbl F s h) (b : Int) = _
      rw [fX6_nextFrom_b22, if_neg (show ¬ (63 : Nat) = 0 by decide), pv_n h1, if_neg h1.2.1, pv_5 h1, h3, if_neg nH, if_neg (show ¬ (b : Int) = (h : Int) by omega), if_neg (show ¬ (63 : Nat) = 0 by decide), x_going hP hs hh n1 b1 (hfr s (by omega)) (fun t c t1 t2 t3 => hbd t c t2 t3), Option.bind_some, if_neg (fun z => z b3)]
/-- the cells that the way is told in -/
def isTP (o : Nat) : Prop := o = 73 ∨ o = 74 ∨ o = 75 ∨ o = 76
theorem PIc.trip {G : Mem} (h : PIc I v V F) (hG : ∀ o k, ¬ isTP o → G o k = F o k) : PIc I v V G := h.mono (fun o k ho => hG o k (by unfold isTP; omega))
theorem tbl_trip {G : Mem} (hG : ∀ o k, ¬ isTP o → G o k = F o k) : tbl G = tbl F := funext fun s => funext fun h => hG 70 _ (by unfold isTP; omega)
theorem x_follow6 (hP : PIc I v V F) (ht : tv01 tv) (hX : IsX I tv (tbl F)) (hfr : ∀ s, s ≤ iN I → F 67 s = (fre I s : Int)) (hne : tbl F 0 (v 4).toNat ≠ BD) (hN1 : 1 ≤ iN I) : ∃ F', fX6_follow 72 63 F = some F' ∧ TP I (tbl F) (v 4).toNat F' ∧ F' 72 4 = ((twA I (tbl F) (v 4).toNat (iN I - 1)).2.1 : Int) ∧ (∀ o k, ¬ isTP o → ¬ (o = 72 ∧ k = 4) → F' o k = F o k) := by
  obtain ⟨h1, h2, h3, hW, h5, h6, h7, h8⟩ := id hP
  have hN := hW.1
  have b4 := h1.2.2.2.2.2.2.2.1
  obtain ⟨z, hz⟩ := nat_of b4.1
  have hz2 : (v 4).toNat = z := by omega
  rw [hz2] at hne ⊢
  have n63 : ¬ (63 : Nat) = 0 := by decide
  unfold fX6_follow
  rw [if_neg n63, pv_n h1, if_neg h1.2.1, pv_4 h1, hz]
  generalize hXX : tbl F = X at *
  refine lp (fun n k (st : Nat × Nat × Mem) => fX6_follow_b13 n 72 63 (st.1 : Int) (st.2.1 : Int) (k : Int) st.2.2) (iN I)
    (fun k st => k ≤ st.2.1 ∧ st.2.1 ≤ iN I ∧ st.1 < iH I ∧ X st.2.1 st.1 ≠ BD ∧ (∀ i, i < st.2.1 → st.2.2 73 i = (twA I X z i).1 ∧ st.2.2 74 i = (twA I X z i).2.2.2 ∧ st.2.2 75 i = ((twA I X z i).2.2.1 : Int) ∧ st.2.2 76 i = ((twA I X z i).2.1 : Int)) ∧ (∀ i, st.2.1 ≤ i → i < iN I → twA I X z i = tw I X (iN I) st.2.1 st.1 i) ∧ (st.2.1 = 0 ∨ (twA I X z (st.2.1 - 1)).2.1 = st.1) ∧ (∀ o k, ¬ isTP o → st.2.2 o k = F o k))
    (fun r => ∃ F', r = some F' ∧ TP I X z F' ∧ F' 72 4 = ((twA I X z (iN I - 1)).2.1 : Int) ∧ (∀ o k, ¬ isTP o → ¬ (o = 72 ∧ k = 4) → F' o k = F o k)) ?_ ?_ FU 0 (z, 0, F) (Nat.zero_le _) ⟨Nat.le_refl _, Nat.zero_le _, by dsimp only; omega, hne, fun i hi => absurd hi (Nat.not_lt_zero i), fun i _ _ => rfl, Or.inl rfl, fun _ _ _ => rfl⟩ (FU_gt (by omega))
  · rintro n k ⟨h, s, G⟩ hk ⟨g1, g2, g3, g4, g5, g6, g7, g8⟩
    dsimp only at g1 g2 g3 g4 g5 g6 g7 g8 ⊢
    have e4 : G 63 4 = (iN I : Int) := (g8 63 4 (by unfold isTP; omega)).trans h2
    have nk : ¬ (iN I : Int) ≤ (k : Int) := by omega
    by_cases hs : s = iN I
    · right
      have ns : (iN I : Int) ≤ (s : Int) := by omega
      refine ⟨mset G 72 4 (h : Int), ?_, fun i hi => ?_, ?_, fun o j o1 o2 => ?_⟩
      · rw [fX6_follow_b13, if_neg n63, e4, if_neg nk, if_neg n63, if_pos ns]
      · have := g5 i (by omega)
        rw [mset_ne _ _ (by omega), mset_ne _ _ (by omega), mset_ne _ _ (by omega), mset_ne _ _ (by omega)]
        exact this
      · rw [mset_eq]
        rcases g7 with w | w
        · omega
        · rw [hs] at w; rw [w]
      · rw [mset_ne _ _ o2]; exact g8 o j o1
    · left
      have hs2 : s < iN I := by omega
      have ns : ¬ (iN I : Int) ≤ (s : Int) := by omega
      have hPG := hP.trip g8
      have eT : tbl G = X := (tbl_trip g8).trans hXX
      have nx := x_nextFrom hPG ht (by rw [eT]; exact hX) (fun t ht2 => (g8 67 t (by unfold isTP; omega)).trans (hfr t ht2)) hs2 g3 (by rw [eT]; exact g4)
      rw [eT] at nx
      obtain ⟨n1, n2⟩ := nx_sp hX hs2 g3 g4
      have hk1 : k < 2147483647 := by omega
      -- the slots of one step
      have L : ∀ (b e rd : Nat) (sp gn : Int), b < iH I → s < e → e ≤ iN I → X e b ≠ BD → (b = h → sp = (h : Int) ∧ gn = iG I s h ∧ e = s + 1) → (b ≠ h → sp = -1 ∧ gn = 0) → (∀ i, s ≤ i → i < e → twA I X z i = (sp, b, rd, gn)) → (∀ i, e ≤ i → i < iN I → twA I X z i = tw I X (iN I) e b i) →
          ∃ s' : Nat × Nat × Mem, (k + 1 ≤ s'.2.1 ∧ s'.2.1 ≤ iN I ∧ s'.1 < iH I ∧ X s'.2.1 s'.1 ≠ BD ∧ (∀ i, i < s'.2.1 → s'.2.2 73 i = (twA I X z i).1 ∧ s'.2.2 74 i = (twA I X z i).2.2.2 ∧ s'.2.2 75 i = ((twA I X z i).2.2.1 : Int) ∧ s'.2.2 76 i = ((twA I X z i).2.1 : Int)) ∧ (∀ i, s'.2.1 ≤ i → i < iN I → twA I X z i = tw I X (iN I) s'.2.1 s'.1 i) ∧ (s'.2.1 = 0 ∨ (twA I X z (s'.2.1 - 1)).2.1 = s'.1) ∧ (∀ o k, ¬ isTP o → s'.2.2 o k = F o k)) ∧
          fX6_follow_b82 (fX6_follow_b13 n) FU 72 63 (h : Int) (k : Int) (b : Int) (e : Int) (rd : Int) (s : Int) G = fX6_follow_b13 n 72 63 (s'.1 : Int) (s'.2.1 : Int) ((k + 1 : Nat) : Int) s'.2.2 := by
        intro b e rd sp gn c1 c2 c3 c4 c5 c6 c7 c8
        refine lp (fun m i (Y : Mem) => fX6_follow_b82 (fX6_follow_b13 n) m 72 63 (h : Int) (k : Int) (b : Int) (e : Int) (rd : Int) (i : Int) Y) e (fun i Y => s ≤ i ∧ (∀ j, j < i → Y 73 j = (twA I X z j).1 ∧ Y 74 j = (twA I X z j).2.2.2 ∧ Y 75 j = ((twA I X z j).2.2.1 : Int) ∧ Y 76 j = ((twA I X z j).2.1 : Int)) ∧ (∀ o k, ¬ isTP o → Y o k = F o k)) (fun r => ∃ s' : Nat × Nat × Mem, (k + 1 ≤ s'.2.1 ∧ s'.2.1 ≤ iN I ∧ s'.1 < iH I ∧ X s'.2.1 s'.1 ≠ BD ∧ (∀ i, i < s'.2.1 → s'.2.2 73 i = (twA I X z i).1 ∧ s'.2.2 74 i = (twA I X z i).2.2.2 ∧ s'.2.2 75 i = ((twA I X z i).2.2.1 : Int) ∧ s'.2.2 76 i = ((twA I X z i).2.1 : Int)) ∧ (∀ i, s'.2.1 ≤ i → i < iN I → twA I X z i = tw I X (iN I) s'.2.1 s'.1 i) ∧ (s'.2.1 = 0 ∨ (twA I X z (s'.2.1 - 1)).2.1 = s'.1) ∧ (∀ o k, ¬ isTP o → s'.2.2 o k = F o k)) ∧ r = fX6_follow_b13 n 72 63 (s'.1 : Int) (s'.2.1 : Int) ((k + 1 : Nat) : Int) s'.2.2) ?_ ?_ FU s G (by omega) ⟨Nat.le_refl _, g5, g8⟩ (show _ < 100000 + s by omega)
        · rintro m i Y hi ⟨y0, y1, y2⟩
          left
          have tw1 := c7 i y0 hi
          have bi := b336 (show i < 336 by omega)
          have ne : ¬ (e : Int) ≤ (i : Int) := by omega
          have e4Y : Y 63 4 = (iN I : Int) := (y2 63 4 (by unfold isTP; omega)).trans h2
          have nN : ¬ (iN I : Int) ≤ (i : Int) := by omega
          have hi1 : i < 2147483647 := by omega
          refine ⟨mset (mset (mset (mset Y 73 i sp) 74 i gn) 75 i (rd : Int)) 76 i (b : Int), ⟨by omega, fun j hj => ?_, fun o j ho => ?_⟩, ?_⟩
          · by_cases w : j = i
            · subst w
              rw [tw1]
              refine ⟨?_, ?_, ?_, ?_⟩
              · rw [mset_ne _ _ (by omega), mset_ne _ _ (by omega), mset_ne _ _ (by omega), mset_eq]
              · rw [mset_ne _ _ (by omega), mset_ne _ _ (by omega), mset_eq]
              · rw [mset_ne _ _ (by omega), mset_eq]
              · rw [mset_eq]
            · have := y1 j (by omega)
              refine ⟨?_, ?_, ?_, ?_⟩
              all_goals rw [mset_ne _ _ (by omega), mset_ne _ _ (by omega), mset_ne _ _ (by omega), mset_ne _ _ (by omega)]
              · exact this.1
              · exact this.2.1
              · exact this.2.2.1
              · exact this.2.2.2
          · have ho2 : o ≠ 73 ∧ o ≠ 74 ∧ o ≠ 75 ∧ o ≠ 76 := by unfold isTP at ho; omega
            rw [mset_ne _ _ (by omega), mset_ne _ _ (by omega), mset_ne _ _ (by omega), mset_ne _ _ (by omega)]
            exact y2 o j ho
          · show fX6_follow_b82 (fX6_follow_b13 n) (m + 1) 72 63 (h : Int) (k : Int) (b : Int) (e : Int) (rd : Int) (i : Int) Y = _
            rw [fX6_follow_b82, if_neg ne, if_neg n63, e4Y, if_neg nN]
            by_cases w : b = h
            · obtain ⟨d1, d2, d3⟩ := c5 w
              have nw : ¬ (b : Int) ≠ (h : Int) := by omega
              have hPY : PIc I v V (mset Y 73 i (h : Int)) := hP.trip (fun o j ho => by
                have ho2 : o ≠ 73 := by unfold isTP at ho; omega
                rw [mset_ne _ _ (by omega)]; exact y2 o j ho)
              have gi := x_gainIn hPY (s := i) (h := h) (by omega) g3
              have : i = s := by omega
              rw [if_neg nw]
              unfold fX6_follow_b115
              rw [a73, if_pos bi, if_neg nw, if_neg n63, Int.toNat_natCast, show (72 + 1 : Nat) = 73 from rfl, gi, Option.bind_some, a74, if_pos bi, a75, if_pos bi, a76, if_pos bi, xwS hi1, d1, d2, this]
            · obtain ⟨d1, d2⟩ := c6 w
              have nw : (b : Int) ≠ (h : Int) := by omega
              rw [if_pos nw]
              unfold fX6_follow_b115
              rw [a73, if_pos bi, if_pos nw, Int.toNat_natCast, a74, if_pos bi, a75, if_pos bi, a76, if_pos bi, xwS hi1, d1, d2]
        · rintro m Y ⟨y0, y1, y2⟩
          refine ⟨(b, e, Y), ⟨by dsimp only; omega, c3, c1, c4, y1, c8, Or.inr ?_, y2⟩, ?_⟩
          · show (twA I X z (e - 1)).2.1 = b
            rw [c7 (e - 1) (by omega) (by omega)]
          · show fX6_follow_b82 (fX6_follow_b13 n) (m + 1) 72 63 (h : Int) (k : Int) (b : Int) (e : Int) (rd : Int) (e : Int) Y = _
            rw [fX6_follow_b82, if_pos (Int.le_refl _), xwS hk1]
      have twN : ∀ i, s ≤ i → i < iN I → tw I X (iN I) s h i = tw I X (iN I + 1) s h i := fun i i1 i2 => tw_fuel hW hX _ _ s h i (by omega) (by omega) i1 i2 g3 g4
      show ∃ s' : Nat × Nat × Mem, _ ∧ fX6_follow_b13 (n + 1) 72 63 (h : Int) (s : Int) (k : Int) G = fX6_follow_b13 n 72 63 (s'.1 : Int) (s'.2.1 : Int) ((k + 1 : Nat) : Int) s'.2.2
      rw [fX6_follow_b13, if_neg n63, e4, if_neg nk, if_neg n63, if_neg ns, nx, Option.bind_some]
      rcases n2 with ⟨b1, b2, b3, b4, b5⟩ | ⟨b1, b2, b3, b4, b5, b6, b7⟩
      · have nb : ¬ (nxh I X s h : Int) ≠ (h : Int) := by rw [b1]; exact fun z => z rfl
        have hs1 : s < 2147483647 := by omega
        rw [if_neg nb, xwS hs1]
        unfold fX6_follow_b63
        rw [if_neg nb, b1]
        refine L h (s + 1) s (h : Int) (iG I s h) g3 (by omega) (by omega) b3 (fun _ => ⟨rfl, rfl, rfl⟩) (fun w => absurd rfl w) (fun i i1 i2 => ?_) (fun i i1 i2 => ?_)
        · rw [g6 i i1 (by omega), twN i i1 (by omega), tw_stay b1, if_pos (by omega)]
        · rw [g6 i (by omega) i2, twN i (by omega) i2, tw_stay b1, if_neg (by omega)]
      · generalize hb : nxh I X s h = b at *
        have nb : (b : Int) ≠ (h : Int) := by omega
        have t1 := hW.2.2.1 h b g3 n1 (fun w => b1 w.symm)
        have hfs := (fre_sp (I := I) (iN I - s) s (by omega)).1
        have em : xmax 1 (iT I h b : Int) = (iT I h b : Int) := by unfold xmax; split <;> omega
        have hst : s + iT I h b < 2147483648 := by omega
        rw [if_pos nb, if_neg n63, x_timeOf hPG g3 n1, Option.bind_some, em, xwA hst]
        unfold fX6_follow_b63
        rw [if_pos nb]
        refine L b (s + iT I h b) (s + iT I h b) (-1) 0 n1 (by omega) (by omega) b6 (fun w => absurd w b1) (fun _ => ⟨rfl, rfl⟩) (fun i i1 i2 => ?_) (fun i i1 i2 => ?_)
        · rw [g6 i i1 (by omega), twN i i1 (by omega), tw_go (by rw [hb]; exact b1), hb, if_pos i2]
        · rw [g6 i (by omega) i2, twN i (by omega) i2, tw_go (by rw [hb]; exact b1), hb, if_neg (by omega)]
  · rintro n ⟨h, s, G⟩ ⟨g1, g2, g3, g4, g5, g6, g7, g8⟩
    dsimp only at g1 g2 g3 g4 g5 g6 g7 g8 ⊢
    have e4 : G 63 4 = (iN I : Int) := (g8 63 4 (by unfold isTP; omega)).trans h2
    have hs : s = iN I := by omega
    refine ⟨mset G 72 4 (h : Int), ?_, fun i hi => ?_, ?_, fun o j o1 o2 => ?_⟩
    · rw [fX6_follow_b13, if_neg n63, e4, if_pos (Int.le_refl _)]
    · have := g5 i (by omega)
      rw [mset_ne _ _ (by omega), mset_ne _ _ (by omega), mset_ne _ _ (by omega), mset_ne _ _ (by omega)]
      exact this
    · rw [mset_eq]
      rcases g7 with w | w
      · omega
      · rw [hs] at w; rw [w]
    · rw [mset_ne _ _ o2]; exact g8 o j o1
end FLW
