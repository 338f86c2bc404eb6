/-! ===== plans of a valley, and their changes ===== -/
def insP (v : Nat → Int) (p : Int) (N : Nat) (mu : Nat → Int) (gn : Nat → Nat → Int) : Ins := (N, (v 5).toNat, mu, gn, fun a b => (slt v p a b).toNat, fun a b => stp v a b)
section INS
variable {v : Nat → Int} {V : Nat} {F : Mem} {p : Int} {N : Nat} {mu : Nat → Int} {gn : Nat → Nat → Int}
theorem lt5 {x : Int} {h : Nat} (hh : h < x.toNat) : (h : Int) < x := by omega
theorem insH {h : Nat} (hh : h < iH (insP v p N mu gn)) : (h : Int) < v 5 := lt5 hh
theorem le8 {a b c : Int} (h : 0 ≤ a ∧ a < b ∧ b ≤ 8) : b.toNat ≤ 8 := by omega
theorem ge1 {x : Int} (h : 1 ≤ x) : 1 ≤ x.toNat := by omega
theorem le99 {x : Int} (h : x ≤ 99) : x.toNat ≤ 99 := by omega
theorem insP_WF (hO : VO v) (hp : 1 ≤ p) (hN : N ≤ 336) (hg : ∀ s h : Nat, s < N → (h : Int) < v 5 → 0 ≤ gn s h ∧ gn s h ≤ 9) : WF (insP v p N mu gn) :=
  ⟨⟨hN, le8 (c := 0) hO.2.2.2.1⟩, fun s h hs hh => hg s h hs (insH hh), fun a b ha hb hab => ge1 ((slt_bd hO hp (insH ha) (insH hb)).2.2 hab), fun a b ha hb => stp_bd hO (insH ha) (insH hb)⟩
theorem insP_T (hO : VO v) (hp : 1 ≤ p) : ∀ a b, a < iH (insP v p N mu gn) → b < iH (insP v p N mu gn) → iT (insP v p N mu gn) a b ≤ 99 := fun a b ha hb => le99 (slt_bd hO hp (insH ha) (insH hb)).2.1
theorem toN {x : Int} (h : 0 ≤ x) : ((x.toNat : Nat) : Int) = x := by omega
/-- a plan in memory is one of a valley -/
theorem PIc_of (hV : PVa v V F) (hp : 1 ≤ p) (hN : N ≤ 336) (h4 : F 63 4 = (N : Int)) (hg : ∀ s h : Nat, s < N → (h : Int) < v 5 → 0 ≤ gn s h ∧ gn s h ≤ 9) (h65 : ∀ s h : Nat, s < N → (h : Int) < v 5 → F 65 (8 * s + h) = gn s h) (h66 : ∀ s, s < N → F 66 s = mu s) (h6 : ∀ a b : Nat, (a : Int) < v 5 → (b : Int) < v 5 → F 68 (8 * a + b) = stp v a b ∧ F 69 (8 * a + b) = slt v p a b) : PIc (insP v p N mu gn) v V F := by
  have hO := hV.2.2.2.2
  have b5 : 0 ≤ v 5 := Int.le_trans hO.2.2.2.1.1 (Int.le_of_lt hO.2.2.2.1.2.1)
  exact ⟨hV, h4, (toN b5).symm, insP_WF hO hp hN hg, insP_T hO hp, h66, fun s h hs hh => h65 s h hs (insH hh), fun a b ha hb => ⟨(h6 a b (insH ha) (insH hb)).1, (h6 a b (insH ha) (insH hb)).2.trans (toN (slt_bd hO hp (insH ha) (insH hb)).1).symm⟩⟩
/-- what a plan of some days is -/
def insD (v hd : Nat → Int) (day days : Nat) (c m : Int) : Ins := insP v (v 1) (days * (v 0).toNat) (muD v) (gnD v hd day c m)
theorem PIc_PL {hd : Nat → Int} {day days : Nat} {c m : Int} (h : PLd v hd V day days c m F) : PIc (insD v hd day days c m) v V F :=
  PIc_of h.1.1 h.1.1.2.2.2.2.2.1.1 (po_N h.1) h.1.2.2.2.2.1 (fun s k _ hk => gnD_bd h.1.1.2.2.2.2 hd day c m s hk) h.2.2.1 h.2.2.2.1 h.2.2.2.2
/-- the same, but no gain at some house (-1: all) in some slots -/
def barG (g : Nat → Nat → Int) (house : Int) (f t s h : Nat) : Int := if (f ≤ s ∧ s < t) ∧ (house = -1 ∨ house = (h : Int)) then 0 else g s h
def setG (I : Ins) (g : Nat → Nat → Int) : Ins := (iN I, iH I, iM I, g, iT I, iS I)
theorem setG_same (I : Ins) (g : Nat → Nat → Int) : sameI I (setG I g) := ⟨rfl, rfl, rfl, rfl, rfl⟩
theorem setG_WF {I : Ins} {g : Nat → Nat → Int} (hW : WF I) (hg : ∀ s h, s < iN I → h < iH I → 0 ≤ g s h ∧ g s h ≤ 9) : WF (setG I g) := ⟨hW.1, hg, hW.2.2.1, hW.2.2.2⟩
theorem barG_bd {I : Ins} (hW : WF I) (house : Int) (f t : Nat) : ∀ s h, s < iN I → h < iH I → 0 ≤ barG (iG I) house f t s h ∧ barG (iG I) house f t s h ≤ 9 := by
  intro s h hs hh
  have := hW.2.1 s h hs hh
  unfold barG
  split <;> omega
theorem PIc_G {I : Ins} {g : Nat → Nat → Int} {G : Mem} (hP : PIc I v V F) (hF : ∀ o k, o ≠ 65 → G o k = F o k) (hg : ∀ s h, s < iN I → h < iH I → 0 ≤ g s h ∧ g s h ≤ 9) (h65 : ∀ s h, s < iN I → h < iH I → G 65 (8 * s + h) = g s h) : PIc (setG I g) v V G := by
  obtain ⟨h1, h2, h3, hW, h5, h6, h7, h8⟩ := hP
  exact ⟨h1.mono (fun o k ho => hF o k (by omega)), (hF _ _ (by omega)).trans h2, h3, setG_WF hW hg, h5, fun s hs => (hF _ _ (by omega)).trans (h6 s hs), h65, fun a b ha hb => ⟨(hF _ _ (by omega)).trans (h8 a b ha hb).1, (hF _ _ (by omega)).trans (h8 a b ha hb).2⟩⟩
theorem x_bar {I : Ins} (hP : PIc I v V F) (house : Int) {f t : Nat} (hf : f ≤ 1000) (ht : t ≤ 1000) : ∃ F', fX1_bar 63 house (f : Int) (t : Int) F = some F' ∧ PIc (setG I (barG (iG I) house f t)) v V F' ∧ (∀ o k, o ≠ 65 → F' o k = F o k) := by
  obtain ⟨h1, h2, h3, hW, h5, h6, h7, h8⟩ := id hP
  have hN := hW.1
  have e0 : xmax 0 (f : Int) = (f : Int) := by unfold xmax; split <;> omega
  unfold fX1_bar
  rw [e0]
  suffices H : ∃ F', fX1_bar_b7 FU 63 house (t : Int) (f : Int) F = some F' ∧ (∀ o k, o ≠ 65 → F' o k = F o k) ∧ (∀ s h, s < iN I → h < iH I → F' 65 (8 * s + h) = barG (iG I) house f t s h) by
    obtain ⟨F', a1, a2, a3⟩ := H
    exact ⟨F', a1, PIc_G hP a2 (barG_bd hW house f t) a3, a2⟩
  refine lp (fun n k (X : Mem) => fX1_bar_b7 n 63 house (t : Int) (k : Int) X) (if t < iN I then (if t < f then f else t) else if iN I < f then f else iN I) (fun k X => f ≤ k ∧ (∀ o i, o ≠ 65 → X o i = F o i) ∧ (∀ s h, s < iN I → h < iH I → X 65 (8 * s + h) = if s < k then barG (iG I) house f t s h else iG I s h))
    (fun r => ∃ F', r = some F' ∧ (∀ o k, o ≠ 65 → F' o k = F o k) ∧ (∀ s h, s < iN I → h < iH I → F' 65 (8 * s + h) = barG (iG I) house f t s h)) ?_ ?_ FU f F ?_ ⟨Nat.le_refl _, fun _ _ _ => rfl, fun s h hs hh => ?_⟩ ?_
  · rintro n k X hk ⟨g0, g1, g2⟩
    have hk2 : k < t ∧ k < iN I := by split at hk <;> (split at hk <;> omega)
    left
    have nt : ¬ (t : Int) ≤ (k : Int) := by omega
    have nN : ¬ (iN I : Int) ≤ (k : Int) := by omega
    have e4 : X 63 4 = (iN I : Int) := (g1 63 4 (by omega)).trans h2
    have hk1 : k < 2147483647 := by omega
    have k4 : k ≤ 400 := by omega
    show ∃ s' : Mem, _ ∧ fX1_bar_b7 (n + 1) 63 house (t : Int) (k : Int) X = fX1_bar_b7 n 63 house (t : Int) ((k + 1 : Nat) : Int) s'
    rw [fX1_bar_b7, if_neg nt, e4, if_neg nN]
    refine lp (fun m j (Y : Mem) => fX1_bar_b25 (fX1_bar_b7 n) m 63 house (t : Int) (k : Int) (j : Int) Y) (iH I) (fun j Y => (∀ o i, o ≠ 65 → Y o i = F o i) ∧ (∀ s h, s < iN I → h < iH I → Y 65 (8 * s + h) = if s < k ∨ (s = k ∧ h < j) then barG (iG I) house f t s h else iG I s h)) (fun r => ∃ s' : Mem, (f ≤ k + 1 ∧ (∀ o i, o ≠ 65 → s' o i = F o i) ∧ (∀ s h, s < iN I → h < iH I → s' 65 (8 * s + h) = if s < k + 1 then barG (iG I) house f t s h else iG I s h)) ∧ r = fX1_bar_b7 n 63 house (t : Int) ((k + 1 : Nat) : Int) s') ?_ ?_ FU 0 X (Nat.zero_le _) ⟨g1, fun s h hs hh => ?_⟩ (FU_gt (by omega))
    · rintro m j Y hj ⟨p1, p2⟩
      left
      have hPY : PVa v V Y := h1.mono (fun o i ho => p1 o i (by omega))
      have nH : ¬ (iH I : Int) ≤ (j : Int) := by omega
      have j4 : j ≤ 400 := by omega
      have hj1 : j < 2147483647 := by omega
      have bk := bk8 (a := k) (k := j) (by omega) (by omega)
      have E : fX1_bar_b25 (fX1_bar_b7 n) (m + 1) 63 house (t : Int) (k : Int) (j : Int) Y = fX1_bar_b25 (fX1_bar_b7 n) m 63 house (t : Int) (k : Int) ((j + 1 : Nat) : Int) (if house = -1 ∨ house = (j : Int) then mset Y 65 (8 * k + j) 0 else Y) := by
        rw [fX1_bar_b25, pv_n hPY, if_neg h1.2.1, pv_5 hPY, h3, if_neg nH, xw8 k4 j4, a65, if_pos bk, Int.toNat_natCast, xwS hj1]
        by_cases y1 : house = -1
        · rw [if_pos y1, if_pos (Or.inl y1)]
        · rw [if_neg y1]
          by_cases y2 : house = (j : Int)
          · rw [if_neg (fun z => z y2), if_pos (Or.inr y2)]
          · rw [if_pos y2, if_neg (fun z => z.elim y1 y2)]
      refine ⟨_, ⟨fun o i ho => ?_, fun s h hs hh => ?_⟩, E⟩
      · split
        · rw [mset_ne _ _ (by omega)]; exact p1 o i ho
        · exact p1 o i ho
      · by_cases y : s = k ∧ h = j
        · rw [y.1, y.2, if_pos (show k < k ∨ (k = k ∧ j < j + 1) by omega)]
          unfold barG
          by_cases y3 : house = -1 ∨ house = (j : Int)
          · rw [if_pos y3, mset_eq, if_pos ⟨⟨g0, hk2.1⟩, y3⟩]
          · rw [if_neg y3, if_neg (fun z => y3 z.2)]
            have := p2 k j hk2.2 hj
            rw [if_neg (by omega)] at this
            exact this
        · have e1 : (if house = -1 ∨ house = (j : Int) then mset Y 65 (8 * k + j) 0 else Y) 65 (8 * s + h) = Y 65 (8 * s + h) := by
            split
            · rw [mset_ne _ _ (by omega)]
            · rfl
          rw [e1, p2 s h hs hh]
          by_cases y4 : s < k ∨ (s = k ∧ h < j)
          · rw [if_pos y4, if_pos (by omega)]
          · rw [if_neg y4, if_neg (by omega)]
    · rintro m Y ⟨p1, p2⟩
      have hPY : PVa v V Y := h1.mono (fun o i ho => p1 o i (by omega))
      refine ⟨Y, ⟨by omega, p1, fun s h hs hh => ?_⟩, ?_⟩
      · rw [p2 s h hs hh]
        by_cases y : s < k + 1
        · rw [if_pos y, if_pos (by omega)]
        · rw [if_neg y, if_neg (by omega)]
      · show fX1_bar_b25 (fX1_bar_b7 n) (m + 1) 63 house (t : Int) (k : Int) ((iH I : Nat) : Int) Y = _
        rw [fX1_bar_b25, pv_n hPY, if_neg h1.2.1, pv_5 hPY, h3, if_pos (Int.le_refl _), xwS hk1]
    · rw [g2 s h hs hh]
      by_cases y : s < k
      · rw [if_pos y, if_pos (Or.inl y)]
      · rw [if_neg y, if_neg (by omega)]
  · rintro n X ⟨g0, g1, g2⟩
    generalize hM : (if t < iN I then (if t < f then f else t) else if iN I < f then f else iN I) = M at *
    have e4 : X 63 4 = (iN I : Int) := (g1 63 4 (by omega)).trans h2
    refine ⟨X, ?_, g1, fun s h hs hh => ?_⟩
    · show fX1_bar_b7 (n + 1) 63 house (t : Int) (M : Int) X = _
      rw [fX1_bar_b7, e4]
      by_cases q : (t : Int) ≤ (M : Int)
      · rw [if_pos q]
      · rw [if_neg q, if_pos]
        split at hM <;> (split at hM <;> omega)
    · rw [g2 s h hs hh]
      by_cases y : s < M
      · rw [if_pos y]
      · rw [if_neg y]
        unfold barG
        rw [if_neg]
        rintro ⟨z, -⟩
        split at hM <;> (split at hM <;> omega)
  · split <;> split <;> omega
  · rw [h7 s h hs hh]
    by_cases y : s < f
    · rw [if_pos y]
      unfold barG
      rw [if_neg (by omega)]
    · rw [if_neg y]
  · show _ < 100000 + f
    split <;> split <;> omega
/-- gains of houses of one pair of eyes alone -/
def eyeG (v : Nat → Int) (g : Nat → Nat → Int) (s h : Nat) : Int := if v (8 + 4 * h + 1) = 1 then g s h else 0
theorem x_eyes {I : Ins} (hP : PIc I v V F) : ∃ F', fX1_keepGainOfEyes 63 F = some F' ∧ PIc (setG I (eyeG v (iG I))) v V F' ∧ (∀ o k, o ≠ 65 → F' o k = F o k) := by
  obtain ⟨h1, h2, h3, hW, h5, h6, h7, h8⟩ := id hP
  have hN := hW.1
  have hO := h1.2.2.2.2
  unfold fX1_keepGainOfEyes
  suffices H : ∃ F', fX1_keepGainOfEyes_b2 FU 63 0 F = some F' ∧ (∀ o k, o ≠ 65 → F' o k = F o k) ∧ (∀ s h, s < iN I → h < iH I → F' 65 (8 * s + h) = eyeG v (iG I) s h) by
    obtain ⟨F', a1, a2, a3⟩ := H
    refine ⟨F', a1, PIc_G hP a2 (fun s h hs hh => ?_) a3, a2⟩
    have := hW.2.1 s h hs hh
    unfold eyeG
    split <;> omega
  refine lp (fun n k (X : Mem) => fX1_keepGainOfEyes_b2 n 63 (k : Int) X) (iH I) (fun k X => (∀ o i, o ≠ 65 → X o i = F o i) ∧ (∀ s h, s < iN I → h < iH I → X 65 (8 * s + h) = if h < k then eyeG v (iG I) s h else iG I s h)) (fun r => ∃ F', r = some F' ∧ (∀ o k, o ≠ 65 → F' o k = F o k) ∧ (∀ s h, s < iN I → h < iH I → F' 65 (8 * s + h) = eyeG v (iG I) s h)) ?_ ?_ FU 0 F (Nat.zero_le _) ⟨fun _ _ _ => rfl, fun s h hs hh => by rw [if_neg (Nat.not_lt_zero h)]; exact h7 s h hs hh⟩ (FU_gt (by omega))
  · rintro n k X hk ⟨g1, g2⟩
    left
    have hPX : PVa v V X := h1.mono (fun o i ho => g1 o i (by omega))
    have hk5 : (k : Int) < v 5 := by omega
    have nH : ¬ (iH I : Int) ≤ (k : Int) := by omega
    have hk1 : k < 2147483647 := by omega
    have ck := v_cell hPX.2.2.2.1 hO (h := k) (i := 1) (y := 1) hk5 (by omega) rfl
    have e4 : X 63 4 = (iN I : Int) := (g1 63 4 (by omega)).trans h2
    have E : fX1_keepGainOfEyes_b2 (n + 1) 63 (k : Int) X = if v (8 + 4 * k + 1) = 1 then fX1_keepGainOfEyes_b2 n 63 ((k + 1 : Nat) : Int) X else (fX1_bar 63 (k : Int) 0 (iN I : Int) X).bind fun q9 => fX1_keepGainOfEyes_b2 n 63 ((k + 1 : Nat) : Int) q9 := by
      rw [fX1_keepGainOfEyes_b2, pv_n hPX, if_neg h1.2.1, pv_5 hPX, h3, if_neg nH, if_neg h1.2.1, ck, Option.bind_some, e4, xwS hk1]
    show ∃ s' : Mem, _ ∧ fX1_keepGainOfEyes_b2 (n + 1) 63 (k : Int) X = fX1_keepGainOfEyes_b2 n 63 ((k + 1 : Nat) : Int) s'
    rw [E]
    by_cases y : v (8 + 4 * k + 1) = 1
    · rw [if_pos y]
      refine ⟨X, ⟨g1, fun s h hs hh => ?_⟩, rfl⟩
      rw [g2 s h hs hh]
      by_cases w : h < k
      · rw [if_pos w, if_pos (by omega)]
      · rw [if_neg w]
        by_cases w2 : h < k + 1
        · have : h = k := by omega
          subst this
          rw [if_pos w2]
          unfold eyeG
          rw [if_pos y]
        · rw [if_neg w2]
    · rw [if_neg y]
      have hPX2 : PIc (setG I (fun s h => if h < k then eyeG v (iG I) s h else iG I s h)) v V X := PIc_G hP g1 (fun s h hs hh => by
        have := hW.2.1 s h hs hh
        unfold eyeG
        split
        · split <;> omega
        · omega) g2
      obtain ⟨Y, b1, b2, b3⟩ := x_bar hPX2 (k : Int) (f := 0) (t := iN I) (by omega) (by omega)
      have b1 : fX1_bar 63 (k : Int) 0 (iN I : Int) X = some Y := b1
      rw [b1, Option.bind_some]
      refine ⟨Y, ⟨fun o i ho => (b3 o i ho).trans (g1 o i ho), fun s h hs hh => ?_⟩, rfl⟩
      have e := b2.2.2.2.2.2.2.1 s h hs hh
      rw [e]
      show barG (fun s h => if h < k then eyeG v (iG I) s h else iG I s h) (k : Int) 0 (iN I) s h = _
      unfold barG
      by_cases w : h = k
      · subst w
        rw [if_pos ⟨⟨Nat.zero_le _, hs⟩, Or.inr rfl⟩, if_pos (Nat.lt_succ_self _)]
        unfold eyeG
        rw [if_neg y]
      · rw [if_neg (by omega)]
        show (if h < k then eyeG v (iG I) s h else iG I s h) = _
        by_cases w2 : h < k
        · rw [if_pos w2, if_pos (by omega)]
        · rw [if_neg w2, if_neg (by omega)]
  · rintro n X ⟨g1, g2⟩
    have hPX : PVa v V X := h1.mono (fun o i ho => g1 o i (by omega))
    refine ⟨X, ?_, g1, fun s h hs hh => by rw [g2 s h hs hh, if_pos hh]⟩
    show fX1_keepGainOfEyes_b2 (n + 1) 63 ((iH I : Nat) : Int) X = _
    rw [fX1_keepGainOfEyes_b2, pv_n hPX, if_neg h1.2.1, pv_5 hPX, h3, if_pos (Int.le_refl _)]
/-- no must at all -/
def setM (I : Ins) (mu : Nat → Int) : Ins := (iN I, iH I, mu, iG I, iT I, iS I)
theorem x_noMusts {I : Ins} (hP : PIc I v V F) : ∃ F', fX1_dropMusts 63 F = some F' ∧ PIc (setM I (fun _ => -1)) v V F' ∧ (∀ o k, o ≠ 66 → F' o k = F o k) := by
  obtain ⟨h1, h2, h3, hW, h5, h6, h7, h8⟩ := id hP
  obtain ⟨F', a1, a2, a3⟩ := x_dropMusts h2 hW.1.1
  exact ⟨F', a1, ⟨h1.mono (fun o k ho => a3 o k (by omega)), (a3 _ _ (by omega)).trans h2, h3, ⟨hW.1, hW.2.1, hW.2.2.1, hW.2.2.2⟩, h5, a2, fun s h hs hh => (a3 _ _ (by omega)).trans (h7 s h hs hh), fun a b ha hb => ⟨(a3 _ _ (by omega)).trans (h8 a b ha hb).1, (a3 _ _ (by omega)).trans (h8 a b ha hb).2⟩⟩, a3⟩
/-- rows of those who touch -/
def tcI (v : Nat → Int) (m : Int) (h : Nat) : Int := if v (8 + 4 * h + 1) = 0 ∨ xand (xshr m (h : Int)) 1 = 1 then v (8 + 4 * h + 2) * v 0 else 0
theorem rt0 (v : Nat → Int) (h : Nat) : rt v 0 h = v (8 + 4 * h + 2) := if_neg (fun z => z.1 rfl)
theorem tc_mul (hO : VO v) {h : Nat} (hh : (h : Int) < v 5) : 0 ≤ v (8 + 4 * h + 2) * v 0 ∧ v (8 + 4 * h + 2) * v 0 ≤ ((432 : Nat) : Int) := by
  have b0 := hO.1
  have := (hO.2.2.2.2.2.1 h hh).2.2.1
  have h1 : 0 ≤ v (8 + 4 * h + 2) * v 0 := Int.mul_nonneg (by omega) (by omega)
  have h2 : v (8 + 4 * h + 2) * v 0 ≤ 9 * 48 := Int.mul_le_mul (by omega) (by omega) (by omega) (by omega)
  exact ⟨h1, Int.le_trans h2 (by decide)⟩
theorem tcI_bd (hO : VO v) (m : Int) {h : Nat} (hh : (h : Int) < v 5) : 0 ≤ tcI v m h ∧ tcI v m h ≤ ((432 : Nat) : Int) := by
  have h1 := tc_mul hO hh
  unfold tcI
  by_cases q : v (8 + 4 * h + 1) = 0 ∨ xand (xshr m (h : Int)) 1 = 1
  · rw [if_pos q]; exact h1
  · rw [if_neg q]; exact ⟨Int.le_refl _, by decide⟩
theorem xw_aq {a q : Int} (h1 : 0 ≤ a) (h2 : a ≤ 100000) (h3 : 0 ≤ q) (h4 : q ≤ 432) : xw (a + xw q) = a + q := by rw [xwn (x := q) (by omega) (by omega), xwn (by omega) (by omega)]
theorem x_touchRows (hP : PVa v V F) (m : Int) : fX1_touchRows 63 m F = some (sm (v 5).toNat (tcI v m)) := by
  have hO := hP.2.2.2.2
  have b0 := hO.1
  have b5 := hO.2.2.2.1
  unfold fX1_touchRows
  refine lpS (fun n k a => fX1_touchRows_b4 F n 63 m a (k : Int)) (v 5).toNat (tcI v m) 432 some (fun i hi => tcI_bd hO m (by omega)) (fun n k hk q1 q2 => ?_) (fun n _ _ => ?_) (by omega)
  · have hk5 : (k : Int) < v 5 := by omega
    have n5 : ¬ v 5 ≤ (k : Int) := by omega
    have hk1 : k < 2147483647 := by omega
    have hmb := tc_mul hO hk5
    have q3 : sm k (tcI v m) ≤ 100000 := by
      generalize sm k (tcI v m) = a at *
      omega
    have wA := xw_aq q1 q3 hmb.1 hmb.2
    have e : tcI v m k = if v (8 + 4 * k + 1) = 0 ∨ xand (xshr m (k : Int)) 1 = 1 then v (8 + 4 * k + 2) * v 0 else 0 := rfl
    generalize sm k (tcI v m) = a at *
    have E : fX1_touchRows_b38 F (fX1_touchRows_b4 F n) 63 m a (k : Int) = fX1_touchRows_b4 F n 63 m (a + v (8 + 4 * k + 2) * v 0) ((k + 1 : Nat) : Int) := by
      unfold fX1_touchRows_b38
      rw [pv_n hP, if_neg hP.2.1, v_rate hP.2.2.2.1 hO 0 hk5, Option.bind_some, if_neg hP.2.1, pv_0 hP, rt0, wA, xwS hk1]
    show fX1_touchRows_b4 F (n + 1) 63 m a (k : Int) = fX1_touchRows_b4 F n 63 m (a + tcI v m k) ((k + 1 : Nat) : Int)
    rw [e, fX1_touchRows_b4, pv_n hP, if_neg hP.2.1, pv_5 hP, if_neg n5, if_neg hP.2.1, v_touch hP.2.2.2.1 hO hk5, Option.bind_some, E, xwS hk1, i11]
    by_cases y1 : v (8 + 4 * k + 1) = 0
    · rw [if_pos y1, if_pos (Or.inl y1)]
    · rw [if_neg y1]
      by_cases y2 : xand (xshr m (k : Int)) 1 = 1
      · rw [if_neg (fun z => z y2), if_pos (Or.inr y2)]
      · rw [if_pos y2, if_neg (fun z => z.elim y1 y2), Int.add_zero]
  · have n5 : v 5 ≤ (((v 5).toNat : Nat) : Int) := by omega
    show fX1_touchRows_b4 F (n + 1) 63 m _ (((v 5).toNat : Nat) : Int) = _
    rw [fX1_touchRows_b4, pv_n hP, if_neg hP.2.1, pv_5 hP, if_pos n5]
end INS
