/-! ===== plans, pure: the table of scores ===== -/
abbrev BD : Int := -1000000000
abbrev Ins := Nat × Nat × (Nat → Int) × (Nat → Nat → Int) × (Nat → Nat → Nat) × (Nat → Nat → Int)
def iN (I : Ins) : Nat := I.1
def iH (I : Ins) : Nat := I.2.1
def iM (I : Ins) : Nat → Int := I.2.2.1
def iG (I : Ins) : Nat → Nat → Int := I.2.2.2.1
def iT (I : Ins) : Nat → Nat → Nat := I.2.2.2.2.1
def iS (I : Ins) : Nat → Nat → Int := I.2.2.2.2.2
/-- how many slots are free, d slots ahead of the end -/
def frd (mu : Nat → Int) (N : Nat) : Nat → Nat
  | 0 => 0
  | d + 1 => if mu (N - (d + 1)) = -1 then frd mu N d + 1 else 0
def fre (I : Ins) (s : Nat) : Nat := frd (iM I) (iN I) (iN I - s)
theorem fre_N (I : Ins) : fre I (iN I) = 0 := by unfold fre; rw [Nat.sub_self]; rfl
theorem fre_step {I : Ins} {s : Nat} (hs : s < iN I) : fre I s = if iM I s = -1 then fre I (s + 1) + 1 else 0 := by
  unfold fre
  obtain ⟨d, hd⟩ : ∃ d, iN I - s = d + 1 := ⟨iN I - s - 1, by omega⟩
  rw [hd, show iN I - (s + 1) = d by omega]
  show (if iM I (iN I - (d + 1)) = -1 then frd (iM I) (iN I) d + 1 else 0) = _
  rw [show iN I - (d + 1) = s by omega]
theorem fre_sp {I : Ins} : ∀ d s, s + d = iN I → s + fre I s ≤ iN I ∧ (∀ r, s ≤ r → r < s + fre I s → iM I r = -1) ∧ (s + fre I s < iN I → iM I (s + fre I s) ≠ -1) := by
  intro d
  induction d with
  | zero =>
    intro s hs
    have : s = iN I := by omega
    subst this
    rw [fre_N]
    exact ⟨by omega, fun r h1 h2 => by omega, fun h => by omega⟩
  | succ d ih =>
    intro s hs
    obtain ⟨h1, h2, h3⟩ := ih (s + 1) (by omega)
    rw [fre_step (by omega)]
    by_cases q : iM I s = -1
    · rw [if_pos q]
      refine ⟨by omega, fun r r1 r2 => ?_, fun h => ?_⟩
      · by_cases y : r = s
        · rw [y]; exact q
        · exact h2 r (by omega) (by omega)
      · have := h3 (by omega)
        rw [show s + (fre I (s + 1) + 1) = s + 1 + fre I (s + 1) by omega]
        exact this
    · rw [if_neg q]
      exact ⟨by omega, fun r r1 r2 => by omega, fun _ => q⟩
theorem fre_iff {I : Ins} {s t : Nat} (hs : s ≤ iN I) (ht : s ≤ t) : t ≤ s + fre I s ↔ (t ≤ iN I ∧ ∀ r, s ≤ r → r < t → iM I r = -1) := by
  obtain ⟨h1, h2, h3⟩ := fre_sp (I := I) (iN I - s) s (by omega)
  constructor
  · intro h
    exact ⟨by omega, fun r r1 r2 => h2 r r1 (by omega)⟩
  · rintro ⟨a1, a2⟩
    by_cases y : t ≤ s + fre I s
    · exact y
    · exact absurd (a2 (s + fre I s) (by omega) (by omega)) (h3 (by omega))
def canS (I : Ins) (s h : Nat) : Prop := iM I s = -1 ∨ iM I s = (h : Int)
noncomputable def stv (I : Ins) (X : Nat → Nat → Int) (s h : Nat) : Int := if X (s + 1) h = BD ∨ ¬ (iM I s = -1 ∨ iM I s = (h : Int)) then BD else X (s + 1) h + iG I s h * 65536
def gov (I : Ins) (X : Nat → Nat → Int) (s h b : Nat) : Int := if b = h ∨ fre I s < iT I h b ∨ X (s + iT I h b) b = BD then BD else X (s + iT I h b) b - iS I h b
noncomputable def bsv (I : Ins) (X : Nat → Nat → Int) (s h : Nat) : Nat → Int
  | 0 => stv I X s h
  | n + 1 => if bsv I X s h n < gov I X s h n then gov I X s h n else bsv I X s h n
/-- the table: at the end tv, ahead of it the best of staying and going -/
def IsX (I : Ins) (tv : Nat → Int) (X : Nat → Nat → Int) : Prop := (∀ h, h < iH I → X (iN I) h = tv h) ∧ ∀ s, s < iN I → ∀ h, h < iH I → X s h = bsv I X s h (iH I)
def WF (I : Ins) : Prop := (iN I ≤ 336 ∧ iH I ≤ 8) ∧ (∀ s h, s < iN I → h < iH I → 0 ≤ iG I s h ∧ iG I s h ≤ 9) ∧ (∀ a b, a < iH I → b < iH I → a ≠ b → 1 ≤ iT I a b) ∧ (∀ a b, a < iH I → b < iH I → 0 ≤ iS I a b ∧ iS I a b ≤ 99)
theorem bsv_congr {I : Ins} {X Y : Nat → Nat → Int} {s h : Nat} (h0 : stv I X s h = stv I Y s h) : ∀ n, (∀ b, b < n → gov I X s h b = gov I Y s h b) → bsv I X s h n = bsv I Y s h n := by
  intro n
  induction n with
  | zero => intro _; exact h0
  | succ n ih =>
    intro hb
    show (if bsv I X s h n < gov I X s h n then gov I X s h n else bsv I X s h n) = (if bsv I Y s h n < gov I Y s h n then gov I Y s h n else bsv I Y s h n)
    rw [ih (fun b hb2 => hb b (by omega)), hb n (by omega)]
/-- there is one table alone -/
theorem X_uniq {I : Ins} {tv : Nat → Int} {X Y : Nat → Nat → Int} (hW : WF I) (hX : IsX I tv X) (hY : IsX I tv Y) : ∀ d s, iN I ≤ s + d → s ≤ iN I → ∀ h, h < iH I → X s h = Y s h := by
  intro d
  induction d with
  | zero =>
    intro s h1 h2 h hh
    have : s = iN I := by omega
    subst this
    rw [hX.1 h hh, hY.1 h hh]
  | succ d ih =>
    intro s h1 h2 h hh
    by_cases q : s = iN I
    · subst q
      rw [hX.1 h hh, hY.1 h hh]
    · rw [hX.2 s (by omega) h hh, hY.2 s (by omega) h hh]
      have hfs := (fre_sp (I := I) (iN I - s) s (by omega)).1
      refine bsv_congr ?_ _ (fun b hb => ?_)
      · unfold stv
        rw [ih (s + 1) (by omega) (by omega) h hh]
      · unfold gov
        by_cases y : b = h ∨ fre I s < iT I h b
        · rw [if_pos (y.elim Or.inl (fun z => Or.inr (Or.inl z))), if_pos (y.elim Or.inl (fun z => Or.inr (Or.inl z)))]
        · have t1 := hW.2.2.1 h b hh hb (fun z => y (Or.inl z.symm))
          rw [ih (s + iT I h b) (by omega) (by omega) b hb]
theorem X_eq {I : Ins} {tv : Nat → Int} {X Y : Nat → Nat → Int} (hW : WF I) (hX : IsX I tv X) (hY : IsX I tv Y) {s h : Nat} (hs : s ≤ iN I) (hh : h < iH I) : X s h = Y s h := X_uniq hW hX hY (iN I - s) s (by omega) hs h hh
/-- the bounds of a score, k slots ahead of the end -/
def sbd (k : Nat) (x : Int) : Prop := x = BD ∨ (-(99 * (k : Int)) ≤ x ∧ x ≤ 589824 * (k : Int))
theorem sbd_ge {k : Nat} {x : Int} (hk : k ≤ 336) (h : sbd k x) : x = BD ∨ BD < x := by
  rcases h with h | h
  · exact Or.inl h
  · right; show (-1000000000 : Int) < x; omega
theorem stv_bd {I : Ins} {X : Nat → Nat → Int} (hW : WF I) {s h : Nat} (hs : s < iN I) (hh : h < iH I) (hX : sbd (iN I - (s + 1)) (X (s + 1) h)) : sbd (iN I - s) (stv I X s h) := by
  have hg := hW.2.1 s h hs hh
  unfold stv
  split
  · exact Or.inl rfl
  · rename_i y
    rcases hX with q | q
    · exact absurd (Or.inl q) y
    · right
      rw [show iN I - s = iN I - (s + 1) + 1 by omega]
      generalize iN I - (s + 1) = k at *
      omega
theorem gov_bd {I : Ins} {X : Nat → Nat → Int} (hW : WF I) {s h b : Nat} (hs : s ≤ iN I) (hh : h < iH I) (hb : b < iH I) (hX : b ≠ h → iT I h b ≤ fre I s → sbd (iN I - (s + iT I h b)) (X (s + iT I h b) b)) : sbd (iN I - s) (gov I X s h b) := by
  have hfs := (fre_sp (I := I) (iN I - s) s (by omega)).1
  unfold gov
  split
  · exact Or.inl rfl
  · rename_i y
    have y1 : b ≠ h := fun z => y (Or.inl z)
    have y2 : ¬ fre I s < iT I h b := fun z => y (Or.inr (Or.inl z))
    have t1 := hW.2.2.1 h b hh hb (fun z => y1 z.symm)
    have c1 := hW.2.2.2 h b hh hb
    rcases hX y1 (by omega) with q | q
    · exact absurd (Or.inr (Or.inr q)) y
    · right
      obtain ⟨k, hk⟩ : ∃ k, iN I - s = iN I - (s + iT I h b) + 1 + k := ⟨iT I h b - 1, by omega⟩
      rw [hk]
      generalize iN I - (s + iT I h b) = j at *
      omega
theorem bsv_bd {I : Ins} {X : Nat → Nat → Int} {s h : Nat} {k : Nat} (h0 : sbd k (stv I X s h)) : ∀ n, (∀ b, b < n → sbd k (gov I X s h b)) → sbd k (bsv I X s h n) := by
  intro n
  induction n with
  | zero => intro _; exact h0
  | succ n ih =>
    intro hb
    show sbd k (if bsv I X s h n < gov I X s h n then gov I X s h n else bsv I X s h n)
    split
    · exact hb n (by omega)
    · exact ih (fun b h => hb b (by omega))
def tv01 (tv : Nat → Int) : Prop := ∀ h, tv h = BD ∨ tv h = 0
theorem X_bdd {I : Ins} {tv : Nat → Int} {X : Nat → Nat → Int} (hW : WF I) (ht : tv01 tv) (hX : IsX I tv X) : ∀ d s, iN I ≤ s + d → s ≤ iN I → ∀ h, h < iH I → sbd (iN I - s) (X s h) := by
  have base : ∀ h, h < iH I → sbd (iN I - iN I) (X (iN I) h) := by
    intro h hh
    rw [hX.1 h hh, Nat.sub_self]
    rcases ht h with q | q
    · exact Or.inl q
    · right; rw [q]; omega
  intro d
  induction d with
  | zero =>
    intro s h1 h2 h hh
    have : s = iN I := by omega
    subst this
    exact base h hh
  | succ d ih =>
    intro s h1 h2 h hh
    by_cases q : s = iN I
    · subst q
      exact base h hh
    · rw [hX.2 s (by omega) h hh]
      have hfs := (fre_sp (I := I) (iN I - s) s (by omega)).1
      refine bsv_bd (stv_bd hW (by omega) hh (ih _ (by omega) (by omega) h hh)) _ (fun b hb => gov_bd hW (by omega) hh hb (fun y1 y2 => ?_))
      have t1 := hW.2.2.1 h b hh hb (fun z => y1 z.symm)
      exact ih _ (by omega) (by omega) b hb
theorem X_bd {I : Ins} {tv : Nat → Int} {X : Nat → Nat → Int} (hW : WF I) (ht : tv01 tv) (hX : IsX I tv X) {s h : Nat} (hs : s ≤ iN I) (hh : h < iH I) : sbd (iN I - s) (X s h) := X_bdd hW ht hX (iN I - s) s (by omega) hs h hh
theorem stv_bX {I : Ins} {tv : Nat → Int} {X : Nat → Nat → Int} (hW : WF I) (ht : tv01 tv) (hX : IsX I tv X) {s h : Nat} (hs : s < iN I) (hh : h < iH I) : sbd (iN I - s) (stv I X s h) := stv_bd hW hs hh (X_bd hW ht hX (by omega) hh)
theorem gov_bX {I : Ins} {tv : Nat → Int} {X : Nat → Nat → Int} (hW : WF I) (ht : tv01 tv) (hX : IsX I tv X) {s h b : Nat} (hs : s ≤ iN I) (hh : h < iH I) (hb : b < iH I) : sbd (iN I - s) (gov I X s h b) :=
  gov_bd hW hs hh hb (fun _ y2 => X_bd hW ht hX (by have := (fre_sp (I := I) (iN I - s) s (by omega)).1; omega) hb)
/-- the best is one of them, and none is better -/
theorem bsv_ge {I : Ins} {X : Nat → Nat → Int} {s h : Nat} : ∀ n, stv I X s h ≤ bsv I X s h n ∧ ∀ b, b < n → gov I X s h b ≤ bsv I X s h n := by
  intro n
  induction n with
  | zero => exact ⟨Int.le_refl _, fun b hb => by omega⟩
  | succ n ih =>
    have e : bsv I X s h (n + 1) = if bsv I X s h n < gov I X s h n then gov I X s h n else bsv I X s h n := rfl
    rw [e]
    split
    · refine ⟨by omega, fun b hb => ?_⟩
      by_cases y : b = n
      · subst y; exact Int.le_refl _
      · have := ih.2 b (by omega); omega
    · refine ⟨ih.1, fun b hb => ?_⟩
      by_cases y : b = n
      · subst y; omega
      · exact ih.2 b (by omega)
theorem bsv_of {I : Ins} {X : Nat → Nat → Int} {s h : Nat} : ∀ n, bsv I X s h n = stv I X s h ∨ ∃ b, b < n ∧ bsv I X s h n = gov I X s h b := by
  intro n
  induction n with
  | zero => exact Or.inl rfl
  | succ n ih =>
    have e : bsv I X s h (n + 1) = if bsv I X s h n < gov I X s h n then gov I X s h n else bsv I X s h n := rfl
    rw [e]
    split
    · exact Or.inr ⟨n, by omega, rfl⟩
    · rcases ih with q | ⟨b, hb, q⟩
      · exact Or.inl q
      · exact Or.inr ⟨b, by omega, q⟩
/-- a longer pace makes no less -/
theorem stay_run {I : Ins} {tv : Nat → Int} {X : Nat → Nat → Int} (hW : WF I) (hX : IsX I tv X) (ht : tv01 tv) {h : Nat} (hh : h < iH I) : ∀ d u, u + d ≤ iN I → (∀ r, u ≤ r → r < u + d → iM I r = -1) → X (u + d) h ≠ BD → X u h ≠ BD ∧ X (u + d) h ≤ X u h := by
  intro d
  induction d with
  | zero => intro u _ _ h; exact ⟨h, Int.le_refl _⟩
  | succ d ih =>
    intro u h1 h2 h3
    rw [show u + (d + 1) = u + 1 + d by omega] at h3 ⊢
    obtain ⟨a1, a2⟩ := ih (u + 1) (by omega) (fun r r1 r2 => h2 r (by omega) (by omega)) h3
    have e := hX.2 u (by omega) h hh
    have g := (bsv_ge (I := I) (X := X) (s := u) (h := h) (iH I)).1
    have hs : stv I X u h = X (u + 1) h + iG I u h * 65536 := by
      unfold stv
      rw [if_neg]
      rintro (z | z)
      · exact a1 z
      · exact z (Or.inl (h2 u (by omega) (by omega)))
    have hg := hW.2.1 u h (by omega) hh
    have hb := X_bd hW ht hX (s := u + 1) (h := h) (by omega) hh
    have hb2 := sbd_ge (k := iN I - (u + 1)) (by have := hW.1; omega) hb
    have h4 : (-1000000000 : Int) < X (u + 1) h := by
      rcases hb2 with q | q
      · exact absurd q a1
      · exact q
    rw [← e, hs] at g
    refine ⟨fun z => ?_, by omega⟩
    have z : X u h = -1000000000 := z
    omega
/-- the same plan, but ways that take no longer and gains that are no smaller -/
theorem X_mono {I J : Ins} {tv : Nat → Int} {X Y : Nat → Nat → Int} (hW : WF I) (hV : WF J) (ht : tv01 tv) (hX : IsX I tv X) (hY : IsX J tv Y) (eN : iN J = iN I) (eH : iH J = iH I) (eM : iM J = iM I) (eS : iS J = iS I) (eT : ∀ a b, a < iH I → b < iH I → iT J a b ≤ iT I a b) (eG : ∀ s h, s < iN I → h < iH I → iG I s h ≤ iG J s h) :
    ∀ d s, iN I ≤ s + d → s ≤ iN I → ∀ h, h < iH I → X s h ≠ BD → Y s h ≠ BD ∧ X s h ≤ Y s h := by
  have eF : ∀ s, fre J s = fre I s := fun s => by unfold fre; rw [eN, eM]
  intro d
  induction d with
  | zero =>
    intro s h1 h2 h hh hne
    have : s = iN I := by omega
    subst this
    have h4 := hX.1 h hh
    have h5 := hY.1 h (by omega)
    rw [eN] at h5
    rw [h5, ← h4]
    exact ⟨hne, Int.le_refl _⟩
  | succ d ih =>
    intro s h1 h2 h hh hne
    by_cases q : s = iN I
    · subst q
      have h4 := hX.1 h hh
      have h5 := hY.1 h (by omega)
      rw [eN] at h5
      rw [h5, ← h4]
      exact ⟨hne, Int.le_refl _⟩
    · have e := hX.2 s (by omega) h hh
      have e2 := hY.2 s (by omega) h (by omega)
      obtain ⟨g1, g2⟩ := bsv_ge (I := J) (X := Y) (s := s) (h := h) (iH J)
      rw [← e2] at g1 g2
      have hbX := X_bd hW ht hX (s := s) (h := h) (by omega) hh
      have hbX2 : (-1000000000 : Int) < X s h := by
        rcases sbd_ge (by have := hW.1; omega) hbX with z | z
        · exact absurd z hne
        · exact z
      have fin : X s h ≤ Y s h → Y s h ≠ BD ∧ X s h ≤ Y s h := fun z => ⟨fun y => by have y : Y s h = -1000000000 := y; omega, z⟩
      rcases bsv_of (I := I) (X := X) (s := s) (h := h) (iH I) with z | ⟨b, hb, z⟩
      · rw [← e] at z
        have zc : ¬ (X (s + 1) h = BD ∨ ¬ (iM I s = -1 ∨ iM I s = (h : Int))) := fun w => hne (by rw [z]; unfold stv; rw [if_pos w])
        have hx1 : X (s + 1) h ≠ BD := fun w => zc (Or.inl w)
        obtain ⟨a1, a2⟩ := ih (s + 1) (by omega) (by omega) h hh hx1
        have es : stv I X s h = X (s + 1) h + iG I s h * 65536 := by unfold stv; rw [if_neg zc]
        have es2 : stv J Y s h = Y (s + 1) h + iG J s h * 65536 := by
          unfold stv
          rw [if_neg]
          rintro (w | w)
          · exact a1 w
          · rw [eM] at w; exact zc (Or.inr w)
        have := eG s h (by omega) hh
        exact fin (by omega)
      · rw [← e] at z
        have zc : ¬ (b = h ∨ fre I s < iT I h b ∨ X (s + iT I h b) b = BD) := fun w => hne (by rw [z]; unfold gov; rw [if_pos w])
        have z1 : b ≠ h := fun w => zc (Or.inl w)
        have z2 : ¬ fre I s < iT I h b := fun w => zc (Or.inr (Or.inl w))
        have z3 : X (s + iT I h b) b ≠ BD := fun w => zc (Or.inr (Or.inr w))
        have t1 := hW.2.2.1 h b hh hb (fun w => z1 w.symm)
        obtain ⟨f1, f2, -⟩ := fre_sp (I := I) (iN I - s) s (by omega)
        obtain ⟨a1, a2⟩ := ih (s + iT I h b) (by omega) (by omega) b hb z3
        have tt := eT h b hh hb
        have hr := stay_run hV hY ht (h := b) (by omega) (iT I h b - iT J h b) (s + iT J h b) (by omega) (fun r r1 r2 => by rw [eM]; exact f2 r (by omega) (by omega)) (by rw [show s + iT J h b + (iT I h b - iT J h b) = s + iT I h b by omega]; exact a1)
        rw [show s + iT J h b + (iT I h b - iT J h b) = s + iT I h b by omega] at hr
        have eg : gov I X s h b = X (s + iT I h b) b - iS I h b := by unfold gov; rw [if_neg zc]
        have eg2 : gov J Y s h b = Y (s + iT J h b) b - iS J h b := by
          unfold gov
          rw [if_neg]
          rintro (w | w | w)
          · exact z1 w
          · rw [eF] at w; omega
          · exact hr.1 w
        have := g2 b (by omega)
        rw [eS] at eg2
        exact fin (by omega)
