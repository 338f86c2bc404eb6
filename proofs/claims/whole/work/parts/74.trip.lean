/-! ===== plans, pure: the way that is taken ===== -/
/-- the first of n where g is x -/
def fsI (g : Nat → Int) (x : Int) : Nat → Nat
  | 0 => 0
  | n + 1 => if fsI g x n < n then fsI g x n else if g n = x then n else n + 1
theorem fsI_sp (g : Nat → Int) (x : Int) : ∀ n, fsI g x n ≤ n ∧ (∀ j, j < fsI g x n → g j ≠ x) ∧ (fsI g x n < n → g (fsI g x n) = x) := by
  intro n
  induction n with
  | zero => exact ⟨Nat.le_refl _, fun j hj => absurd hj (Nat.not_lt_zero j), fun h => absurd h (Nat.lt_irrefl 0)⟩
  | succ n ih =>
    obtain ⟨h1, h2, h3⟩ := ih
    have e : fsI g x (n + 1) = if fsI g x n < n then fsI g x n else if g n = x then n else n + 1 := rfl
    rw [e]
    by_cases q : fsI g x n < n
    · rw [if_pos q]
      exact ⟨by omega, h2, fun _ => h3 q⟩
    · rw [if_neg q]
      have : fsI g x n = n := by omega
      rw [this] at h2
      by_cases w : g n = x
      · rw [if_pos w]
        exact ⟨by omega, h2, fun _ => w⟩
      · rw [if_neg w]
        refine ⟨Nat.le_refl _, fun j hj => ?_, fun h => absurd h (Nat.lt_irrefl _)⟩
        by_cases y : j = n
        · subst y; exact w
        · exact h2 j (by omega)
noncomputable def nxh (I : Ins) (X : Nat → Nat → Int) (s h : Nat) : Nat := if stv I X s h = X s h then h else fsI (fun b => gov I X s h b) (X s h) (iH I)
theorem nx_sp {I : Ins} {X : Nat → Nat → Int} {tv : Nat → Int} (hX : IsX I tv X) {s h : Nat} (hs : s < iN I) (hh : h < iH I) (hne : X s h ≠ BD) :
    nxh I X s h < iH I ∧ ((nxh I X s h = h ∧ stv I X s h = X s h ∧ X (s + 1) h ≠ BD ∧ (iM I s = -1 ∨ iM I s = (h : Int)) ∧ X s h = X (s + 1) h + iG I s h * 65536) ∨
      (nxh I X s h ≠ h ∧ stv I X s h ≠ X s h ∧ gov I X s h (nxh I X s h) = X s h ∧ (∀ j, j < nxh I X s h → gov I X s h j ≠ X s h) ∧ iT I h (nxh I X s h) ≤ fre I s ∧ X (s + iT I h (nxh I X s h)) (nxh I X s h) ≠ BD ∧ X s h = X (s + iT I h (nxh I X s h)) (nxh I X s h) - iS I h (nxh I X s h))) := by
  have e := hX.2 s hs h hh
  by_cases q : stv I X s h = X s h
  · have en : nxh I X s h = h := if_pos q
    rw [en]
    refine ⟨hh, Or.inl ⟨rfl, q, ?_⟩⟩
    have zc : ¬ (X (s + 1) h = BD ∨ ¬ (iM I s = -1 ∨ iM I s = (h : Int))) := fun w => hne (by rw [← q]; unfold stv; rw [if_pos w])
    have es : stv I X s h = X (s + 1) h + iG I s h * 65536 := by unfold stv; rw [if_neg zc]
    refine ⟨fun w => zc (Or.inl w), ?_, by rw [← q, es]⟩
    by_cases c : iM I s = -1 ∨ iM I s = (h : Int)
    · exact c
    · exact absurd (Or.inr c) zc
  · have en : nxh I X s h = fsI (fun b => gov I X s h b) (X s h) (iH I) := if_neg q
    obtain ⟨h1, h2, h3⟩ := fsI_sp (fun b => gov I X s h b) (X s h) (iH I)
    rw [← en] at h1 h2 h3
    have hlt : nxh I X s h < iH I := by
      rcases bsv_of (I := I) (X := X) (s := s) (h := h) (iH I) with z | ⟨b, hb, z⟩
      · exact absurd (e.trans z).symm q
      · by_cases y : nxh I X s h < iH I
        · exact y
        · exact absurd (e.trans z).symm (h2 b (by omega))
    have hg : gov I X s h (nxh I X s h) = X s h := h3 hlt
    have zc : ¬ (nxh I X s h = h ∨ fre I s < iT I h (nxh I X s h) ∨ X (s + iT I h (nxh I X s h)) (nxh I X s h) = BD) := fun w => hne (by rw [← hg]; unfold gov; rw [if_pos w])
    refine ⟨hlt, Or.inr ⟨fun w => zc (Or.inl w), q, hg, h2, ?_, fun w => zc (Or.inr (Or.inr w)), ?_⟩⟩
    · by_cases w : iT I h (nxh I X s h) ≤ fre I s
      · exact w
      · exact absurd (Or.inr (Or.inl (by omega))) zc
    · have : gov I X s h (nxh I X s h) = X (s + iT I h (nxh I X s h)) (nxh I X s h) - iS I h (nxh I X s h) := by unfold gov; rw [if_neg zc]
      rw [← hg]
      rw [hg] at this
      exact hg.trans this
/-- where the pair is in slot i: the house (-1: on a way), the goal, the slot in which it is free, what is gained -/
noncomputable def tw (I : Ins) (X : Nat → Nat → Int) : Nat → Nat → Nat → Nat → Int × Nat × Nat × Int
  | 0, _, _, _ => (-1, 0, 0, 0)
  | n + 1, s, h, i => if nxh I X s h = h then (if i = s then ((h : Int), h, s, iG I s h) else tw I X n (s + 1) h i) else if i < s + iT I h (nxh I X s h) then (-1, nxh I X s h, s + iT I h (nxh I X s h), 0) else tw I X n (s + iT I h (nxh I X s h)) (nxh I X s h) i
theorem tw_fuel {I : Ins} {X : Nat → Nat → Int} {tv : Nat → Int} (hW : WF I) (hX : IsX I tv X) : ∀ n m s h i, iN I ≤ n + s → iN I ≤ m + s → s ≤ i → i < iN I → h < iH I → X s h ≠ BD → tw I X n s h i = tw I X m s h i := by
  intro n
  induction n with
  | zero => intro m s h i h1 h2 h3 h4; omega
  | succ n ih =>
    intro m s h i h1 h2 h3 h4 hh hne
    cases m with
    | zero => omega
    | succ m =>
      obtain ⟨a1, a2⟩ := nx_sp hX (s := s) (h := h) (by omega) hh hne
      show (if nxh I X s h = h then (if i = s then ((h : Int), h, s, iG I s h) else tw I X n (s + 1) h i) else if i < s + iT I h (nxh I X s h) then (-1, nxh I X s h, s + iT I h (nxh I X s h), 0) else tw I X n (s + iT I h (nxh I X s h)) (nxh I X s h) i) =
        (if nxh I X s h = h then (if i = s then ((h : Int), h, s, iG I s h) else tw I X m (s + 1) h i) else if i < s + iT I h (nxh I X s h) then (-1, nxh I X s h, s + iT I h (nxh I X s h), 0) else tw I X m (s + iT I h (nxh I X s h)) (nxh I X s h) i)
      rcases a2 with ⟨b1, b2, b3, b4, b5⟩ | ⟨b1, b2, b3, b4, b5, b6, b7⟩
      · rw [if_pos b1, if_pos b1]
        by_cases y : i = s
        · rw [if_pos y, if_pos y]
        · rw [if_neg y, if_neg y]
          exact ih m (s + 1) h i (by omega) (by omega) (by omega) h4 hh b3
      · rw [if_neg b1, if_neg b1]
        have t1 := hW.2.2.1 h _ hh a1 (fun z => b1 z.symm)
        by_cases y : i < s + iT I h (nxh I X s h)
        · rw [if_pos y, if_pos y]
        · rw [if_neg y, if_neg y]
          exact ih m _ _ i (by omega) (by omega) (by omega) h4 a1 b6
/-- one step of it -/
theorem tw_stay {I : Ins} {X : Nat → Nat → Int} {n s h i : Nat} (hn : nxh I X s h = h) : tw I X (n + 1) s h i = if i = s then ((h : Int), h, s, iG I s h) else tw I X n (s + 1) h i := if_pos hn
theorem tw_go {I : Ins} {X : Nat → Nat → Int} {n s h i : Nat} (hn : nxh I X s h ≠ h) : tw I X (n + 1) s h i = if i < s + iT I h (nxh I X s h) then (-1, nxh I X s h, s + iT I h (nxh I X s h), 0) else tw I X n (s + iT I h (nxh I X s h)) (nxh I X s h) i := if_neg hn
noncomputable def twA (I : Ins) (X : Nat → Nat → Int) (z i : Nat) : Int × Nat × Nat × Int := tw I X (iN I) 0 z i
theorem tw_bd {I : Ins} {X : Nat → Nat → Int} {tv : Nat → Int} (hW : WF I) (hX : IsX I tv X) : ∀ n s h i, iN I ≤ n + s → s ≤ i → i < iN I → h < iH I → X s h ≠ BD → (tw I X n s h i).2.1 < iH I ∧ ((tw I X n s h i).1 = -1 ∨ ((tw I X n s h i).1 = ((tw I X n s h i).2.1 : Int) ∧ (tw I X n s h i).2.2.1 = i)) ∧ (tw I X n s h i).2.2.1 ≤ iN I ∧ ((tw I X n s h i).1 = -1 → (tw I X n s h i).2.2.2 = 0) ∧ (∀ k : Nat, (tw I X n s h i).1 = (k : Int) → (tw I X n s h i).2.2.2 = iG I i k) := by
  intro n
  induction n with
  | zero => intro s h i h1 h2 h3; omega
  | succ n ih =>
    intro s h i h1 h2 h3 hh hne
    obtain ⟨a1, a2⟩ := nx_sp hX (s := s) (h := h) (by omega) hh hne
    rcases a2 with ⟨b1, b2, b3, b4, b5⟩ | ⟨b1, b2, b3, b4, b5, b6, b7⟩
    · rw [tw_stay b1]
      by_cases y : i = s
      · rw [if_pos y]
        refine ⟨hh, Or.inr ⟨rfl, y.symm⟩, by dsimp only; omega, fun z => ?_, fun k z => ?_⟩
        · have z : (h : Int) = -1 := z
          omega
        · have z : (h : Int) = (k : Int) := z
          have : h = k := by omega
          subst this; subst y; rfl
      · rw [if_neg y]
        exact ih (s + 1) h i (by omega) (by omega) h3 hh b3
    · rw [tw_go b1]
      have t1 := hW.2.2.1 h _ hh a1 (fun z => b1 z.symm)
      have hf := (fre_sp (I := I) (iN I - s) s (by omega)).1
      by_cases y : i < s + iT I h (nxh I X s h)
      · rw [if_pos y]
        refine ⟨a1, Or.inl rfl, by dsimp only; omega, fun _ => rfl, fun k z => ?_⟩
        have z : (-1 : Int) = (k : Int) := z
        omega
      · rw [if_neg y]
        exact ih _ _ i (by omega) (by omega) h3 a1 b6
/-- a slot in which nothing is gained isn't missed -/
theorem idle_thm {I J : Ins} {X Y : Nat → Nat → Int} (hW : WF I) (hV : WF J) (hs : sameI I J) {q : Nat} (hq : q < iN I) (hg : ∀ r h, r < iN I → h < iH I → r ≠ q → iG J r h = iG I r h) (hgq : ∀ h, h < iH I → iG J q h = 0) (hX : IsX I tv0 X) (hY : IsX J tv0 Y) :
    ∀ n s h, iN I ≤ n + s → s ≤ iN I → h < iH I → X s h ≠ BD → (q < s ∨ (tw I X n s h q).2.2.2 = 0) → Y s h ≠ BD ∧ X s h ≤ Y s h := by
  obtain ⟨e1, e2, e3, e4, e5⟩ := id hs
  intro n
  induction n with
  | zero =>
    intro s h h1 h2 hh hne _
    have : s = iN I := by omega
    subst this
    have := hX.1 h hh
    have h5 := hY.1 h (by omega)
    rw [e1] at h5
    rw [h5, this]
    exact ⟨(show (0 : Int) ≠ -1000000000 by decide), Int.le_refl _⟩
  | succ n ih =>
    intro s h h1 h2 hh hne hc
    by_cases hsN : s = iN I
    · subst hsN
      have := hX.1 h hh
      have h5 := hY.1 h (by omega)
      rw [e1] at h5
      rw [h5, this]
      exact ⟨(show (0 : Int) ≠ -1000000000 by decide), Int.le_refl _⟩
    · obtain ⟨a1, a2⟩ := nx_sp hX (s := s) (h := h) (by omega) hh hne
      have e := hY.2 s (by omega) h (by omega)
      obtain ⟨g1, g2⟩ := bsv_ge (I := J) (X := Y) (s := s) (h := h) (iH J)
      rw [← e] at g1 g2
      have hbX : (-1000000000 : Int) < X s h := by
        rcases sbd_ge (by have := hW.1; omega) (X_bd hW tv0_01 hX (s := s) (h := h) (by omega) hh) with z | z
        · exact absurd z hne
        · exact z
      have fin : X s h ≤ Y s h → Y s h ≠ BD ∧ X s h ≤ Y s h := fun z => ⟨fun y => by have y : Y s h = -1000000000 := y; omega, z⟩
      rcases a2 with ⟨b1, b2, b3, b4, b5⟩ | ⟨b1, b2, b3, b4, b5, b6, b7⟩
      · rw [tw_stay b1] at hc
        have hgs : iG J s h = iG I s h ∧ (q < s + 1 ∨ (tw I X n (s + 1) h q).2.2.2 = 0) := by
          by_cases y : q = s
          · subst y
            rw [if_pos rfl] at hc
            rcases hc with z | z
            · omega
            · have z : iG I q h = 0 := z
              exact ⟨by rw [hgq h hh, z], Or.inl (by omega)⟩
          · rw [if_neg y] at hc
            exact ⟨hg s h (by omega) hh (fun z => y z.symm), hc.elim (fun z => Or.inl (by omega)) Or.inr⟩
        obtain ⟨c1, c2⟩ := ih (s + 1) h (by omega) (by omega) hh b3 hgs.2
        have es2 : stv J Y s h = Y (s + 1) h + iG J s h * 65536 := by
          unfold stv
          rw [if_neg]
          rintro (w | w)
          · exact c1 w
          · rw [e3] at w; exact w b4
        rw [hgs.1] at es2
        exact fin (by omega)
      · rw [tw_go b1] at hc
        have t1 := hW.2.2.1 h _ hh a1 (fun z => b1 z.symm)
        have hf := (fre_sp (I := I) (iN I - s) s (by omega)).1
        have hc2 : q < s + iT I h (nxh I X s h) ∨ (tw I X n (s + iT I h (nxh I X s h)) (nxh I X s h) q).2.2.2 = 0 := by
          by_cases y : q < s + iT I h (nxh I X s h)
          · exact Or.inl y
          · rw [if_neg y] at hc
            exact hc.elim (fun z => Or.inl (by omega)) Or.inr
        obtain ⟨c1, c2⟩ := ih _ _ (by omega) (by omega) a1 b6 hc2
        have eg : gov J Y s h (nxh I X s h) = Y (s + iT J h (nxh I X s h)) (nxh I X s h) - iS J h (nxh I X s h) := by
          unfold gov
          rw [e4, same_fre hs, if_neg]
          rintro (w | w | w)
          · exact b1 w
          · omega
          · exact c1 w
        have gg := g2 (nxh I X s h) (by omega)
        rw [e4, e5] at eg
        exact fin (by omega)
