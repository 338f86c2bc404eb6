/-! ===== the class's plan, solved ===== -/
def tbl (F : Mem) (s h : Nat) : Int := F 70 (8 * s + h)
def PIc (I : Ins) (v : Nat → Int) (V : Nat) (F : Mem) : Prop := PVa v V F ∧ F 63 4 = (iN I : Int) ∧ v 5 = (iH I : Int) ∧ WF I ∧ (∀ a b, a < iH I → b < iH I → iT I a b ≤ 99) ∧ (∀ s, s < iN I → F 66 s = iM I s) ∧ (∀ s h, s < iN I → h < iH I → F 65 (8 * s + h) = iG I s h) ∧ (∀ a b, a < iH I → b < iH I → F 68 (8 * a + b) = iS I a b ∧ F 69 (8 * a + b) = (iT I a b : Int))
/-- the table from row k on -/
def IsXf (I : Ins) (tv : Nat → Int) (X : Nat → Nat → Int) (k : Nat) : Prop := (∀ h, h < iH I → X (iN I) h = tv h) ∧ ∀ s, k ≤ s → s < iN I → ∀ h, h < iH I → X s h = bsv I X s h (iH I)
theorem Xf_bdd {I : Ins} {tv : Nat → Int} {X : Nat → Nat → Int} {k : Nat} (hW : WF I) (ht : tv01 tv) (hX : IsXf I tv X k) : ∀ d s, iN I ≤ s + d → k ≤ s → s ≤ iN I → ∀ h, h < iH I → sbd (iN I - s) (X s h) := by
  have base : ∀ h, h < iH I → sbd (iN I - iN I) (X (iN I) h) := by
    intro h hh
    rw [hX.1 h hh, Nat.sub_self]
    rcases ht h with q | q
    · exact Or.inl q
    · right; rw [q]; omega
  intro d
  induction d with
  | zero =>
    intro s h1 _ h2 h hh
    have : s = iN I := by omega
    subst this
    exact base h hh
  | succ d ih =>
    intro s h1 h0 h2 h hh
    by_cases q : s = iN I
    · subst q
      exact base h hh
    · rw [hX.2 s h0 (by omega) h hh]
      have hfs := (fre_sp (I := I) (iN I - s) s (by omega)).1
      refine bsv_bd (stv_bd hW (by omega) hh (ih _ (by omega) (by omega) (by omega) h hh)) _ (fun b hb => gov_bd hW (by omega) hh hb (fun y1 y2 => ?_))
      have t1 := hW.2.2.1 h b hh hb (fun z => y1 z.symm)
      exact ih _ (by omega) (by omega) (by omega) b hb
section SLV
variable {I : Ins} {v : Nat → Int} {V : Nat} {F : Mem}
theorem PIc.mono {G : Mem} (h : PIc I v V F) (hG : ∀ o k, (o ≤ 63 ∨ o = 65 ∨ o = 66 ∨ o = 68 ∨ o = 69) → G o k = F o k) : PIc I v V G := by
  obtain ⟨h1, h2, h3, h4, h5, h6, h7, h8⟩ := h
  exact ⟨h1.mono (fun o k ho => hG o k (by omega)), (hG _ _ (by omega)).trans h2, h3, h4, h5, fun s hs => (hG _ _ (by omega)).trans (h6 s hs), fun s h hs hh => (hG _ _ (by omega)).trans (h7 s h hs hh), fun a b ha hb => ⟨(hG _ _ (by omega)).trans (h8 a b ha hb).1, (hG _ _ (by omega)).trans (h8 a b ha hb).2⟩⟩
theorem xwM1 {N k : Nat} (hN : N ≤ 1000) (hk : k ≤ N) : xw ((N : Int) - 1 - (k : Int) + -1) = (N : Int) - 1 - ((k + 1 : Nat) : Int) := by rw [xwn (by omega) (by omega)]; omega
theorem x_countFree (hP : PIc I v V F) : ∃ F', fX1_countFree 63 F = some F' ∧ (∀ s, s ≤ iN I → F' 67 s = (fre I s : Int)) ∧ (∀ o k, o ≠ 67 → F' o k = F o k) := by
  obtain ⟨h1, h2, h3, h4, h5, h6, h7, h8⟩ := id hP
  have hN := h4.1.1
  have b1 : (0 : Int) ≤ (iN I : Int) ∧ (iN I : Int) < ((337 : Nat) : Int) := by omega
  unfold fX1_countFree
  rw [h2, a67, if_pos b1]
  simp only [Int.toNat_natCast, Nat.reduceAdd]
  generalize hG : mset F 67 (iN I) 0 = G
  have g1 : ∀ o k, o ≠ 67 → G o k = F o k := fun o k ho => by rw [← hG, mset_ne _ _ (by omega)]
  have g2 : G 67 (iN I) = 0 := by rw [← hG, mset_eq]
  have e0 : xw (G 63 4 - 1) = (iN I : Int) - 1 - ((0 : Nat) : Int) := by rw [g1 _ _ (by omega), h2, xwn (by omega) (by omega)]; omega
  rw [e0]
  clear e0
  refine lp (fun n k (X : Mem) => fX1_countFree_b17 n 63 ((iN I : Int) - 1 - (k : Int)) X) (iN I) (fun k X => (∀ s, iN I ≤ s + k → s ≤ iN I → X 67 s = (fre I s : Int)) ∧ (∀ o j, o ≠ 67 → X o j = F o j)) (fun r => ∃ F', r = some F' ∧ (∀ s, s ≤ iN I → F' 67 s = (fre I s : Int)) ∧ (∀ o k, o ≠ 67 → F' o k = F o k)) ?_ ?_ FU 0 G (by omega) ⟨fun s s1 s2 => ?_, g1⟩ (FU_gt (by omega))
  · rintro n k X hk ⟨q1, q2⟩
    left
    obtain ⟨s, hs⟩ : ∃ s : Nat, (iN I : Int) - 1 - (k : Int) = (s : Int) ∧ s + k + 1 = iN I := ⟨iN I - 1 - k, by omega, by omega⟩
    have bs : (0 : Int) ≤ (s : Int) ∧ (s : Int) < ((336 : Nat) : Int) := by omega
    have bs2 : (0 : Int) ≤ (s : Int) ∧ (s : Int) < ((337 : Nat) : Int) := by omega
    have bs3 : (0 : Int) ≤ ((s + 1 : Nat) : Int) ∧ ((s + 1 : Nat) : Int) < ((337 : Nat) : Int) := by omega
    have hfs := (fre_sp (I := I) (iN I - (s + 1)) (s + 1) (by omega)).1
    refine ⟨mset X 67 s (fre I s : Int), ⟨fun t t1 t2 => ?_, fun o j ho => ?_⟩, ?_⟩
    · by_cases y : t = s
      · subst y; rw [mset_eq]
      · rw [mset_ne _ _ (by omega)]; exact q1 t (by omega) t2
    · rw [mset_ne _ _ (by omega)]; exact q2 o j ho
    · have n0 : ¬ (s : Int) < 0 := by omega
      have m1 : X 66 s = iM I s := (q2 66 s (by omega)).trans (h6 s (by omega))
      have m2 : X 67 (s + 1) = (fre I (s + 1) : Int) := q1 (s + 1) (by omega) (by omega)
      have w1 : s < 2147483647 := by omega
      have w2 : fre I (s + 1) < 2147483647 := by omega
      have fs := fre_step (I := I) (s := s) (by omega)
      show fX1_countFree_b17 (n + 1) 63 ((iN I : Int) - 1 - (k : Int)) X = fX1_countFree_b17 n 63 ((iN I : Int) - 1 - ((k + 1 : Nat) : Int)) _
      rw [← xwM1 (by omega) (by omega), hs.1, fX1_countFree_b17, if_neg n0, a66, a67, xwS w1]
      simp only [if_pos bs, if_pos bs2, if_pos bs3, Int.toNat_natCast, Nat.reduceAdd, m1, m2]
      rw [xwS w2, fs]
      by_cases c : iM I s = -1
      · rw [if_neg (fun z => z c), if_pos c]
      · rw [if_pos c, if_neg c]; rfl
  · rintro n X ⟨q1, q2⟩
    refine ⟨X, ?_, fun s hs => q1 s (by omega) hs, q2⟩
    have n0 : (iN I : Int) - 1 - ((iN I : Nat) : Int) < 0 := by omega
    show fX1_countFree_b17 (n + 1) 63 ((iN I : Int) - 1 - ((iN I : Nat) : Int)) X = _
    rw [fX1_countFree_b17, if_pos n0]
  · have : s = iN I := by omega
    subst this
    rw [g2, fre_N]; rfl
theorem xw8p {a b : Nat} (ha : a ≤ 399) (hb : b ≤ 400) : xw (xw (xw ((a : Int) + 1) * 8) + (b : Int)) = ((8 * (a + 1) + b : Nat) : Int) := by
  rw [xwS (by omega)]
  exact xw8 (by omega) hb
theorem b2696 {a b : Nat} (ha : a ≤ 336) (hb : b < 8) : (0 : Int) ≤ ((8 * a + b : Nat) : Int) ∧ ((8 * a + b : Nat) : Int) < ((2696 : Nat) : Int) := by omega
theorem b64 {a b : Nat} (ha : a < 8) (hb : b < 8) : (0 : Int) ≤ ((8 * a + b : Nat) : Int) ∧ ((8 * a + b : Nat) : Int) < ((64 : Nat) : Int) := by omega
theorem b336 {a : Nat} (ha : a < 336) : (0 : Int) ≤ (a : Int) ∧ (a : Int) < ((336 : Nat) : Int) := by omega
theorem b337 {a : Nat} (ha : a ≤ 336) : (0 : Int) ≤ (a : Int) ∧ (a : Int) < ((337 : Nat) : Int) := by omega
theorem x_canStay (hP : PIc I v V F) {s h : Nat} (hs : s < iN I) : fX1_canStay 63 (s : Int) (h : Int) F = some (if iM I s = -1 ∨ iM I s = (h : Int) then 1 else 0) := by
  have h6 := hP.2.2.2.2.2.1 s hs
  have hN := hP.2.2.2.1.1.1
  have bs := b336 (show s < 336 by omega)
  unfold fX1_canStay
  rw [a66]
  simp only [if_pos bs, Int.toNat_natCast, Nat.reduceAdd, h6]
  by_cases q : iM I s = -1
  · rw [if_pos q, if_pos (Or.inl q)]
  · rw [if_neg q]
    by_cases q2 : iM I s = (h : Int)
    · rw [if_neg (fun z => z q2), if_pos (Or.inr q2)]
    · rw [if_pos q2, if_neg (fun z => z.elim q q2)]
theorem x_staying (hP : PIc I v V F) {s h : Nat} (hs : s < iN I) (hh : h < iH I) (hb : sbd (iN I - (s + 1)) (tbl F (s + 1) h)) : fX1_staying 63 (s : Int) (h : Int) F = some (stv I (tbl F) s h) := by
  have h7 := hP.2.2.2.2.2.2.1 s h hs hh
  have hW := hP.2.2.2.1
  have hN := hW.1
  have hg := hW.2.1 s h hs hh
  have b1 := b2696 (a := s + 1) (b := h) (by omega) (by omega)
  have b2 := bk8 (a := s) (k := h) (by omega) (by omega)
  have hs3 : s ≤ 399 := by omega
  have hs4 : s ≤ 400 := by omega
  have hh4 : h ≤ 400 := by omega
  have key : tbl F (s + 1) h ≠ BD → -33264 ≤ tbl F (s + 1) h ∧ tbl F (s + 1) h ≤ 198180864 := by
    intro z
    rcases hb with w | w
    · exact absurd w z
    · generalize hk : iN I - (s + 1) = k at w
      omega
  unfold fX1_staying
  rw [xw8p hs3 hh4, xw8 hs4 hh4, a70, a65, x_canStay hP hs]
  simp only [if_pos b1, if_pos b2, Int.toNat_natCast, Nat.reduceAdd, Option.bind_some, h7]
  have et : F 70 (8 * (s + 1) + h) = tbl F (s + 1) h := rfl
  rw [et, i11]
  unfold stv
  by_cases q1 : tbl F (s + 1) h = BD
  · rw [if_pos q1, if_pos (Or.inl q1)]
  · have kk := key q1
    rw [if_neg q1]
    by_cases q2 : iM I s = -1 ∨ iM I s = (h : Int)
    · rw [if_pos q2, if_neg (fun z => z.elim q1 (fun w => w q2)), xwn (x := iG I s h * 65536) (by omega) (by omega), xwn (by omega) (by omega)]
    · rw [if_neg q2, if_pos (Or.inr q2)]
theorem x_bestFrom (hP : PIc I v V F) {s h : Nat} (hs : s < iN I) (hh : h < iH I) (hf : F 67 s = (fre I s : Int)) (hb : ∀ t b, s < t → t ≤ iN I → b < iH I → sbd (iN I - t) (tbl F t b)) : fX1_bestFrom 63 (s : Int) (h : Int) (iH I : Int) F = some (bsv I (tbl F) s h (iH I)) := by
  obtain ⟨h1, h2, h3, hW, h5, h6, h7, h8⟩ := id hP
  have hN := hW.1
  have hfs := (fre_sp (I := I) (iN I - s) s (by omega)).1
  have bs := b337 (show s ≤ 336 by omega)
  have lim : s + fre I s < 2147483648 := by omega
  unfold fX1_bestFrom
  rw [x_staying hP hs hh (hb _ _ (by omega) (by omega) hh), Option.bind_some, a67, if_pos bs, Int.toNat_natCast, show (63 + 4 : Nat) = 67 from rfl, hf, xwA lim]
  have stb := stv_bd hW hs hh (hb _ _ (by omega) (by omega) hh)
  have gob : ∀ b, b < iH I → sbd (iN I - s) (gov I (tbl F) s h b) := fun b hb2 => gov_bd hW (by omega) hh hb2 (fun y1 y2 => hb _ _ (by have := hW.2.2.1 h b hh hb2 (fun z => y1 z.symm); omega) (by omega) hb2)
  refine lp (fun n b x => fX1_bestFrom_b21 F n 63 (s : Int) (h : Int) (iH I : Int) x ((s + fre I s : Nat) : Int) (b : Int)) (iH I) (fun b x => x = bsv I (tbl F) s h b) (fun r => r = some (bsv I (tbl F) s h (iH I))) ?_ ?_ FU 0 _ (Nat.zero_le _) rfl (FU_gt (by omega))
  · rintro n b x hbH rfl
    left
    refine ⟨_, rfl, ?_⟩
    have e8 := (h8 h b hh hbH).2
    have e8s := (h8 h b hh hbH).1
    have t99 := h5 h b hh hbH
    have c1 := hW.2.2.2 h b hh hbH
    have bb := bsv_bd stb b (fun j hj => gob j (by omega))
    have bg := gob b hbH
    have bhb := b64 (a := h) (b := b) (by omega) (by omega)
    have hh4 : h ≤ 400 := by omega
    have hb4 : b ≤ 400 := by omega
    have nH : ¬ (iH I : Int) ≤ (b : Int) := by omega
    have hst : s + iT I h b < 2147483648 := by omega
    have hst4 : s + iT I h b ≤ 400 ∨ True := Or.inr trivial
    have hk1 : b < 2147483647 := by omega
    have hbs : s + iT I h b ≤ 435 := by omega
    generalize hX : bsv I (tbl F) s h b = X at bb
    have eX : bsv I (tbl F) s h (b + 1) = if X < gov I (tbl F) s h b then gov I (tbl F) s h b else X := by rw [← hX]; rfl
    rw [eX]
    show fX1_bestFrom_b21 F (n + 1) 63 (s : Int) (h : Int) (iH I : Int) X ((s + fre I s : Nat) : Int) (b : Int) = fX1_bestFrom_b21 F n 63 (s : Int) (h : Int) (iH I : Int) _ ((s + fre I s : Nat) : Int) ((b + 1 : Nat) : Int)
    rw [fX1_bestFrom_b21, if_neg nH, xw8 hh4 hb4, a69, a68, a70, xwS hk1]
    simp only [if_pos bhb, Int.toNat_natCast, Nat.reduceAdd, e8, e8s]
    rw [xwA hst]
    have bd3 : sbd (iN I - s) BD := Or.inl rfl
    have oX := sbd_ge (k := iN I - s) (by omega) bb
    have keep : gov I (tbl F) s h b = BD → (if X < gov I (tbl F) s h b then gov I (tbl F) s h b else X) = X := by
      intro z
      rw [z, if_neg]
      rcases oX with w | w
      · rw [w]; exact Int.lt_irrefl _
      · exact Int.not_lt.mpr (Int.le_of_lt w)
    by_cases q1 : b = h
    · have : gov I (tbl F) s h b = BD := by unfold gov; rw [if_pos (Or.inl q1)]
      rw [if_pos (by omega), keep this]
    · rw [if_neg (by omega)]
      by_cases q2 : fre I s < iT I h b
      · have : gov I (tbl F) s h b = BD := by unfold gov; rw [if_pos (Or.inr (Or.inl q2))]
        rw [if_pos (by omega), keep this]
      · have hle : s + iT I h b ≤ iN I := by omega
        have t1 := hW.2.2.1 h b hh hbH (fun z => q1 z.symm)
        have b1 := b2696 (a := s + iT I h b) (b := b) (by omega) (by omega)
        have s4 : s + iT I h b ≤ 400 := by omega
        have sb := hb (s + iT I h b) b (by omega) hle hbH
        rw [if_neg (by omega), xw8 s4 hb4]
        simp only [if_pos b1, Int.toNat_natCast]
        have et : F 70 (8 * (s + iT I h b) + b) = tbl F (s + iT I h b) b := rfl
        rw [et]
        by_cases q3 : tbl F (s + iT I h b) b = BD
        · have hg : gov I (tbl F) s h b = BD := by unfold gov; rw [if_pos (Or.inr (Or.inr q3))]
          have hX2 : (-1000000000 : Int) ≤ X := by
            rcases oX with w | w
            · rw [w]; exact Int.le_refl _
            · exact Int.le_of_lt w
          have e3 : tbl F (s + iT I h b) b = -1000000000 := q3
          rw [keep hg, e3, xwn (by omega) (by omega), if_pos (by omega)]
        · have hg : gov I (tbl F) s h b = tbl F (s + iT I h b) b - iS I h b := by
            unfold gov
            rw [if_neg (fun z => z.elim q1 (fun w => w.elim q2 q3))]
          have sr : -33264 ≤ tbl F (s + iT I h b) b ∧ tbl F (s + iT I h b) b ≤ 198180864 := by
            rcases sb with w | w
            · exact absurd w q3
            · generalize hk : iN I - (s + iT I h b) = k at w
              omega
          rw [hg, xwn (by omega) (by omega)]
          by_cases q4 : tbl F (s + iT I h b) b - iS I h b ≤ X
          · rw [if_pos q4, if_neg (Int.not_lt.mpr q4)]
          · rw [if_neg q4, if_pos (Int.not_le.mp q4)]
  · rintro n x rfl
    show fX1_bestFrom_b21 F (n + 1) 63 (s : Int) (h : Int) (iH I : Int) _ ((s + fre I s : Nat) : Int) (iH I : Int) = _
    rw [fX1_bestFrom_b21, if_pos (Int.le_refl _)]
end SLV
