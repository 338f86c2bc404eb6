/-! ===== the class's plan, reached from the start ===== -/
def rch (F : Mem) (s h : Nat) : Int := F 71 (8 * s + h)
theorem rch_set {s h : Nat} {F : Mem} {x : Int} {t b : Nat} (hh : h < 8) (hb : b < 8) : rch (mset F 71 (8 * s + h) x) t b = if t = s ∧ b = h then x else rch F t b := by
  unfold rch
  by_cases y : t = s ∧ b = h
  · rw [if_pos y, y.1, y.2, mset_eq]
  · rw [if_neg y, mset_ne _ _ (by omega)]
theorem b392 {a b : Nat} (ha : a ≤ 48) (hb : b < 8) : (0 : Int) ≤ ((8 * a + b : Nat) : Int) ∧ ((8 * a + b : Nat) : Int) < ((392 : Nat) : Int) := by omega
theorem bsf_rows {I : Ins} {R Q : Nat → Nat → Int} (hW : WF I) {s h : Nat} (hh : h < iH I) (e : ∀ t b, t ≤ s → b < iH I → R t b = Q t b) : ∀ n, n ≤ iH I → bsf I R s h n = bsf I Q s h n := by
  intro n
  induction n with
  | zero =>
    intro _
    show stf I R s h = stf I Q s h
    unfold stf
    rw [e s h (Nat.le_refl _) hh]
  | succ n ih =>
    intro hn
    have ea : arf I R (s + 1) n h = arf I Q (s + 1) n h := by
      unfold arf
      by_cases y : n = h
      · rw [if_pos (Or.inl y), if_pos (Or.inl y)]
      · have t1 := hW.2.2.1 n h (by omega) hh y
        rw [e (s + 1 - iT I n h) n (by omega) (by omega)]
    show (if bsf I R s h n < arf I R (s + 1) n h then arf I R (s + 1) n h else bsf I R s h n) = (if bsf I Q s h n < arf I Q (s + 1) n h then arf I Q (s + 1) n h else bsf I Q s h n)
    rw [ea, ih (by omega)]
section RCH
variable {I : Ins} {v : Nat → Int} {V : Nat} {F : Mem}
theorem x_arriving (hP : PIc I v V F) (h48 : iN I ≤ 48) (hfr : ∀ s, s ≤ iN I → F 67 s = (fre I s : Int)) {s a h : Nat} (hs : s < iN I) (ha : a < iH I) (hh : h < iH I) (hah : a ≠ h) (hb : ∀ t b, t ≤ s → b < iH I → sbd t (rch F t b)) : fX1_arriving 63 ((s + 1 : Nat) : Int) (a : Int) (h : Int) F = some (arf I (rch F) (s + 1) a h) := by
  obtain ⟨h1, h2, h3, hW, h5, h6, h7, h8⟩ := id hP
  have hN := hW.1
  have e8 := (h8 a h ha hh).2
  have e8s := (h8 a h ha hh).1
  have t99 := h5 a h ha hh
  have t1 := hW.2.2.1 a h ha hh hah
  have c1 := hW.2.2.2 a h ha hh
  have bah := b64 (a := a) (b := h) (by omega) (by omega)
  have a4 : a ≤ 400 := by omega
  have h4 : h ≤ 400 := by omega
  unfold fX1_arriving
  rw [xw8 a4 h4, a69, a68, a67, a71]
  simp only [if_pos bah, Int.toNat_natCast, Nat.reduceAdd, e8, e8s]
  rw [xwn (x := ((s + 1 : Nat) : Int) - (iT I a h : Int)) (by omega) (by omega)]
  unfold arf
  by_cases q1 : s + 1 < iT I a h
  · rw [if_pos (by omega), if_pos (Or.inr (Or.inl q1))]
  · obtain ⟨l, hl⟩ : ∃ l, s + 1 - iT I a h = l := ⟨_, rfl⟩
    have el : ((s + 1 : Nat) : Int) - (iT I a h : Int) = (l : Int) := by omega
    have ln : ¬ (l : Int) < 0 := by omega
    have bl := b337 (show l ≤ 336 by omega)
    have bl2 := b392 (a := l) (b := a) (by omega) (by omega)
    have l4 : l ≤ 400 := by omega
    have hfs := (fre_sp (I := I) (iN I - l) l (by omega)).1
    have hlf : l + fre I l < 2147483648 := by omega
    have sb := hb l a (by omega) ha
    have hfl := hfr l (by omega)
    rw [hl, el, if_neg ln, if_pos bl, Int.toNat_natCast, hfl, xwA hlf, xw8 l4 a4]
    by_cases q2 : fre I l < iT I a h
    · rw [if_pos (by omega), if_pos (Or.inr (Or.inr (Or.inl q2)))]
    · rw [if_neg (by omega)]
      simp only [if_pos bl2, Int.toNat_natCast]
      have er : F 71 (8 * l + a) = rch F l a := rfl
      rw [er]
      by_cases q3 : rch F l a = BD
      · rw [if_neg (fun z => z q3), if_pos (Or.inr (Or.inr (Or.inr q3)))]
      · rw [if_pos q3, if_neg (fun z => z.elim hah (fun w => w.elim q1 (fun u => u.elim q2 q3)))]
        rcases sb with w | w
        · exact absurd w q3
        · rw [xwn (by omega) (by omega)]
/-- scores up to the begin of a slot, with J's gains in the slot ahead of it -/
theorem x_reachSlot {J : Ins} (hP : PIc I v V F) (h48 : iN I ≤ 48) (hfr : ∀ s, s ≤ iN I → F 67 s = (fre I s : Int)) (hV : WF J) (hJ : sameI I J) {s : Nat} (hs : s < iN I) {hx : Int}
    (hw : ∀ h : Nat, h < iH I → (hx = -1 ∧ iG J s h = F 65 (8 * s + h)) ∨ (hx ≠ -1 ∧ hx ≠ (h : Int) ∧ iG J s h = 0) ∨ (hx ≠ -1 ∧ hx = (h : Int) ∧ ∀ G : Mem, (∀ o k, o ≤ 64 → G o k = F o k) → fX1_gainIfHeld 63 (s : Int) (h : Int) G = some (iG J s h)))
    (hb : ∀ t b, t ≤ s → b < iH I → sbd t (rch F t b)) :
    ∃ F', fX1_reachSlot 63 ((s + 1 : Nat) : Int) hx F = some F' ∧ (∀ h, h < iH I → rch F' (s + 1) h = bsf J (rch F) s h (iH J)) ∧ (∀ o k, ¬ (o = 71 ∧ 8 * (s + 1) ≤ k ∧ k < 8 * (s + 1) + 8) → F' o k = F o k) := by
  obtain ⟨h1, h2, h3, hW, h5, h6, h7, h8⟩ := id hP
  obtain ⟨e1, e2, e3, e4, e5⟩ := id hJ
  have hN := hW.1
  have eF : ∀ R t a h, arf J R t a h = arf I R t a h := fun R t a h => by unfold arf; rw [e4, e5, same_fre hJ]
  have w1 : xw (((s + 1 : Nat) : Int) - 1) = (s : Int) := by rw [xwn (by omega) (by omega)]; omega
  unfold fX1_reachSlot
  refine lp (fun n h (X : Mem) => fX1_reachSlot_b2 n 63 ((s + 1 : Nat) : Int) hx (h : Int) X) (iH I) (fun h X => (∀ j, j < h → rch X (s + 1) j = bsf J (rch F) s j (iH J)) ∧ (∀ o k, ¬ (o = 71 ∧ 8 * (s + 1) ≤ k ∧ k < 8 * (s + 1) + 8) → X o k = F o k)) (fun r => ∃ F', r = some F' ∧ (∀ h, h < iH I → rch F' (s + 1) h = bsf J (rch F) s h (iH J)) ∧ (∀ o k, ¬ (o = 71 ∧ 8 * (s + 1) ≤ k ∧ k < 8 * (s + 1) + 8) → F' o k = F o k)) ?_ ?_ FU 0 F (Nat.zero_le _) ⟨fun j hj => absurd hj (by omega), fun _ _ _ => rfl⟩ (FU_gt (by omega))
  · rintro n h X hh ⟨g1, g2⟩
    have hPX : PIc I v V X := hP.mono (fun o k ho => g2 o k (by omega))
    have hfX : ∀ s, s ≤ iN I → X 67 s = (fre I s : Int) := fun t ht => (g2 67 t (by omega)).trans (hfr t ht)
    have rX : ∀ t b, t ≤ s → b < 8 → rch X t b = rch F t b := fun t b ht hb8 => g2 71 _ (by omega)
    have hbX : ∀ t b, t ≤ s → b < iH I → sbd t (rch X t b) := fun t b ht hbb => by rw [rX t b ht (by omega)]; exact hb t b ht hbb
    have nH : ¬ (iH I : Int) ≤ (h : Int) := by omega
    have h4 : h ≤ 400 := by omega
    have s4 : s ≤ 400 := by omega
    have s14 : s + 1 ≤ 400 := by omega
    have bsh := b392 (a := s) (b := h) (by omega) (by omega)
    have bsh1 := b392 (a := s + 1) (b := h) (by omega) (by omega)
    have bg := bk8 (a := s) (k := h) (by omega) (by omega)
    have hk1 : h < 2147483647 := by omega
    have h8' : h < 8 := by omega
    have hgJ := hV.2.1 s h (by rw [e1]; exact hs) (by rw [e2]; exact hh)
    have stJ : sbd (s + 1) (stf J (rch F) s h) := stf_bd hV (by rw [e1]; exact hs) (by rw [e2]; exact hh) (hb s h (Nat.le_refl _) hh)
    have arJ : ∀ a, a < iH I → sbd (s + 1) (arf J (rch F) (s + 1) a h) := fun a ha => arf_bd hV (by rw [e2]; exact ha) (by rw [e2]; exact hh) (fun y1 y2 => hb _ _ (by have := hV.2.2.1 a h (by rw [e2]; exact ha) (by rw [e2]; exact hh) y1; omega) ha)
    -- arrivals
    have AR : ∃ s' : Mem, ((∀ j, j < h + 1 → rch s' (s + 1) j = bsf J (rch F) s j (iH J)) ∧ (∀ o k, ¬ (o = 71 ∧ 8 * (s + 1) ≤ k ∧ k < 8 * (s + 1) + 8) → s' o k = F o k)) ∧ fX1_reachSlot_b106 (fX1_reachSlot_b2 n) FU 63 ((s + 1 : Nat) : Int) hx (h : Int) (stf J (rch F) s h) 0 X = fX1_reachSlot_b2 n 63 ((s + 1 : Nat) : Int) hx ((h + 1 : Nat) : Int) s' := by
      refine lp (fun m a x => fX1_reachSlot_b106 (fX1_reachSlot_b2 n) m 63 ((s + 1 : Nat) : Int) hx (h : Int) x (a : Int) X) (iH I) (fun a x => x = bsf J (rch F) s h a) (fun r => ∃ s' : Mem, ((∀ j, j < h + 1 → rch s' (s + 1) j = bsf J (rch F) s j (iH J)) ∧ (∀ o k, ¬ (o = 71 ∧ 8 * (s + 1) ≤ k ∧ k < 8 * (s + 1) + 8) → s' o k = F o k)) ∧ r = fX1_reachSlot_b2 n 63 ((s + 1 : Nat) : Int) hx ((h + 1 : Nat) : Int) s') ?_ ?_ FU 0 _ (Nat.zero_le _) rfl (FU_gt (by omega))
      · rintro m a x ha rfl
        left
        refine ⟨_, rfl, ?_⟩
        have nA : ¬ (iH I : Int) ≤ (a : Int) := by omega
        have ha1 : a < 2147483647 := by omega
        have oX := bsf_bd (n := a) stJ (fun b hb2 => arJ b (by omega))
        have oX2 := sbd_ge (by omega) oX
        generalize hX : bsf J (rch F) s h a = Xv at oX oX2
        have eX : bsf J (rch F) s h (a + 1) = if Xv < arf J (rch F) (s + 1) a h then arf J (rch F) (s + 1) a h else Xv := by rw [← hX]; rfl
        rw [eX]
        show fX1_reachSlot_b106 (fX1_reachSlot_b2 n) (m + 1) 63 ((s + 1 : Nat) : Int) hx (h : Int) Xv (a : Int) X = _
        rw [fX1_reachSlot_b106, pv_n hPX.1, if_neg h1.2.1, pv_5 hPX.1, h3, if_neg nA, xwS ha1]
        by_cases q : a = h
        · have : arf J (rch F) (s + 1) a h = BD := by unfold arf; rw [if_pos (Or.inl q)]
          rw [if_pos (by omega), this, if_neg]
          rcases oX2 with w | w
          · rw [w]; exact Int.lt_irrefl _
          · exact Int.not_lt.mpr (Int.le_of_lt w)
        · have ea : arf I (rch X) (s + 1) a h = arf J (rch F) (s + 1) a h := by
            rw [eF]
            unfold arf
            have t1 := hW.2.2.1 a h ha hh q
            rw [rX (s + 1 - iT I a h) a (by omega) (by omega)]
          rw [if_neg (by omega), x_arriving hPX h48 hfX hs ha hh q hbX, Option.bind_some, ea]
          rfl
      · rintro m x rfl
        refine ⟨mset X 71 (8 * (s + 1) + h) (bsf J (rch F) s h (iH J)), ⟨fun j hj => ?_, fun o k ho => ?_⟩, ?_⟩
        · rw [rch_set h8' (by omega)]
          by_cases y : j = h
          · subst y; rw [if_pos ⟨rfl, rfl⟩]
          · rw [if_neg (by omega)]; exact g1 j (by omega)
        · rw [mset_ne _ _ (by omega)]; exact g2 o k ho
        · show fX1_reachSlot_b106 (fX1_reachSlot_b2 n) (m + 1) 63 ((s + 1 : Nat) : Int) hx (h : Int) _ ((iH I : Nat) : Int) X = _
          rw [fX1_reachSlot_b106, pv_n hPX.1, if_neg h1.2.1, pv_5 hPX.1, h3, if_pos (Int.le_refl _), xw8 s14 h4, a71, if_pos bsh1, Int.toNat_natCast, xwS hk1, e2]
    left
    show ∃ s', _ ∧ fX1_reachSlot_b2 (n + 1) 63 ((s + 1 : Nat) : Int) hx (h : Int) X = fX1_reachSlot_b2 n 63 ((s + 1 : Nat) : Int) hx ((h + 1 : Nat) : Int) s'
    have est : rch F s h ≠ BD → (iM I s = -1 ∨ iM I s = (h : Int)) → stf J (rch F) s h = rch F s h + iG J s h * 65536 := by
      intro z1 z2
      unfold stf
      rw [e3, if_neg (fun z => z.elim z1 (fun w => w z2))]
    have est0 : (rch F s h = BD ∨ ¬ (iM I s = -1 ∨ iM I s = (h : Int))) → stf J (rch F) s h = BD := by
      intro z
      unfold stf
      rw [e3, if_pos z]
    have er : X 71 (8 * s + h) = rch F s h := rX s h (Nat.le_refl _) h8'
    have e65 : X 65 (8 * s + h) = F 65 (8 * s + h) := g2 _ _ (by omega)
    rw [fX1_reachSlot_b2, pv_n hPX.1, if_neg h1.2.1, pv_5 hPX.1, h3, if_neg nH, w1, xw8 s4 h4, a71, a65]
    simp only [if_pos bsh, if_pos bg, Int.toNat_natCast, Nat.reduceAdd, er, e65]
    rw [x_canStay hPX hs, Option.bind_some, i10]
    by_cases q1 : rch F s h = BD
    · rw [if_pos q1]
      rw [est0 (Or.inl q1)] at AR
      exact AR
    · rw [if_neg q1]
      by_cases q2 : iM I s = -1 ∨ iM I s = (h : Int)
      · rw [if_pos q2]
        have kk : -4752 ≤ rch F s h ∧ rch F s h ≤ 28311552 := by
          rcases hb s h (Nat.le_refl _) hh with w | w
          · exact absurd w q1
          · omega
        rw [est q1 q2] at AR
        rcases hw h hh with ⟨z1, z2⟩ | ⟨z1, z2, z3⟩ | ⟨z1, z2, z3⟩
        · rw [if_neg (fun z => z z1), ← z2, xwn (x := iG J s h * 65536) (by omega) (by omega), xwn (by omega) (by omega)]
          exact AR
        · rw [z3] at AR
          rw [if_pos z1, if_pos z2, xwn (x := 0 * 65536) (by omega) (by omega), xwn (by omega) (by omega)]
          exact AR
        · rw [if_pos z1, if_neg (fun z => z z2), z3 X (fun o k ho => g2 o k (by omega)), Option.bind_some, xwn (x := iG J s h * 65536) (by omega) (by omega), xwn (by omega) (by omega)]
          exact AR
      · rw [if_neg q2]
        rw [est0 (Or.inr q2)] at AR
        exact AR
  · rintro n X ⟨g1, g2⟩
    have hPX : PIc I v V X := hP.mono (fun o k ho => g2 o k (by omega))
    refine ⟨X, ?_, g1, g2⟩
    show fX1_reachSlot_b2 (n + 1) 63 ((s + 1 : Nat) : Int) hx ((iH I : Nat) : Int) X = _
    rw [fX1_reachSlot_b2, pv_n hPX.1, if_neg h1.2.1, pv_5 hPX.1, h3, if_pos (Int.le_refl _)]
theorem sameI.rf (I : Ins) : sameI I I := ⟨rfl, rfl, rfl, rfl, rfl⟩
theorem x_reachAll (hP : PIc I v V F) (h48 : iN I ≤ 48) (hfr : ∀ s, s ≤ iN I → F 67 s = (fre I s : Int)) : ∃ F', fX1_reachAll 63 F = some F' ∧ IsR I (v 4).toNat (rch F') (iN I) ∧ (∀ o k, o ≠ 71 → F' o k = F o k) := by
  obtain ⟨h1, h2, h3, hW, h5, h6, h7, h8⟩ := id hP
  have hN := hW.1
  have hO := h1.2.2.2.2
  have b4 := hO.2.2.2.1
  obtain ⟨z, hz⟩ := nat_of b4.1
  have hz2 : (v 4).toNat = z := by omega
  rw [hz2]
  unfold fX1_reachAll
  have S : ∀ Z : Mem, (∀ o k, o ≠ 71 → Z o k = F o k) → (∀ h, h < iH I → rch Z 0 h = if h = z then 0 else BD) → ∃ F', fX1_reachAll_b47 FU 63 1 Z = some F' ∧ IsR I z (rch F') (iN I) ∧ (∀ o k, o ≠ 71 → F' o k = F o k) := by
    intro Z z1 z2
    refine lp (fun n s (X : Mem) => fX1_reachAll_b47 n 63 ((s + 1 : Nat) : Int) X) (iN I) (fun s X => (∀ o k, o ≠ 71 → X o k = F o k) ∧ IsR I z (rch X) s) (fun r => ∃ F', r = some F' ∧ IsR I z (rch F') (iN I) ∧ (∀ o k, o ≠ 71 → F' o k = F o k)) ?_ ?_ FU 0 Z (Nat.zero_le _) ⟨z1, z2, fun s hs => absurd hs (by omega)⟩ (FU_gt (by omega))
    · rintro n s X hs ⟨q1, q2⟩
      left
      have hPX : PIc I v V X := hP.mono (fun o k ho => q1 o k (by omega))
      obtain ⟨Y, r1, r2, r3⟩ := x_reachSlot (J := I) (hx := -1) hPX h48 (fun t ht => (q1 67 t (by omega)).trans (hfr t ht)) hW (sameI.rf I) hs (fun h hh => Or.inl ⟨rfl, ((q1 65 _ (by omega)).trans (h7 s h hs hh)).symm⟩) (fun t b ht hb => R_bd hW (by omega) q2 ht hb)
      have n4 : ¬ (iN I : Int) < ((s + 1 : Nat) : Int) := by omega
      have hk1 : s + 1 < 2147483647 := by omega
      have rY : ∀ t b, t ≤ s → b < iH I → rch Y t b = rch X t b := fun t b ht hb => r3 71 _ (by omega)
      refine ⟨Y, ⟨fun o k ho => (r3 o k (by omega)).trans (q1 o k ho), fun h hh => ?_, fun t ht h hh => ?_⟩, ?_⟩
      · rw [rY 0 h (by omega) hh]; exact q2.1 h hh
      · rw [bsf_rows hW (s := t) (h := h) hh (R := rch Y) (Q := rch X) (fun u b hu hb => rY u b (by omega) hb) _ (Nat.le_refl _)]
        by_cases y : t = s
        · subst y; exact r2 h hh
        · rw [rY (t + 1) h (by omega) hh]; exact q2.2 t (by omega) h hh
      · show fX1_reachAll_b47 (n + 1) 63 ((s + 1 : Nat) : Int) X = _
        rw [fX1_reachAll_b47, q1 63 4 (by omega), h2, if_neg n4, r1, Option.bind_some, xwS hk1]
    · rintro n X ⟨q1, q2⟩
      have n4 : (iN I : Int) < ((iN I + 1 : Nat) : Int) := by omega
      refine ⟨X, ?_, q2, q1⟩
      show fX1_reachAll_b47 (n + 1) 63 ((iN I + 1 : Nat) : Int) X = _
      rw [fX1_reachAll_b47, q1 63 4 (by omega), h2, if_pos n4]
  refine lp (fun n h (X : Mem) => fX1_reachAll_b2 n 63 (h : Int) X) (iH I) (fun h X => (∀ o k, o ≠ 71 → X o k = F o k) ∧ ∀ j, j < h → rch X 0 j = if j = z then 0 else BD) (fun r => ∃ F', r = some F' ∧ IsR I z (rch F') (iN I) ∧ (∀ o k, o ≠ 71 → F' o k = F o k)) ?_ ?_ FU 0 F (Nat.zero_le _) ⟨fun _ _ _ => rfl, fun j hj => absurd hj (by omega)⟩ (FU_gt (by omega))
  · rintro n h X hh ⟨q1, q2⟩
    left
    have hPX : PIc I v V X := hP.mono (fun o k ho => q1 o k (by omega))
    have nH : ¬ (iH I : Int) ≤ (h : Int) := by omega
    have bh : (0 : Int) ≤ (h : Int) ∧ (h : Int) < ((392 : Nat) : Int) := by omega
    have hk1 : h < 2147483647 := by omega
    have h8' : h < 8 := by omega
    have e0 : 8 * 0 + h = h := by omega
    refine ⟨mset X 71 (8 * 0 + h) (if h = z then 0 else BD), ⟨fun o k ho => ?_, fun j hj => ?_⟩, ?_⟩
    · rw [mset_ne _ _ (by omega)]; exact q1 o k ho
    · rw [rch_set h8' (by omega)]
      by_cases y : j = h
      · subst y; rw [if_pos ⟨rfl, rfl⟩]
      · rw [if_neg (by omega)]; exact q2 j (by omega)
    · rw [e0]
      show fX1_reachAll_b2 (n + 1) 63 (h : Int) X = fX1_reachAll_b2 n 63 ((h + 1 : Nat) : Int) _
      rw [fX1_reachAll_b2, pv_n hPX.1, if_neg h1.2.1, pv_5 hPX.1, h3, if_neg nH, if_neg h1.2.1, pv_4 hPX.1, hz, a71, xwS hk1]
      simp only [if_pos bh, Int.toNat_natCast, Nat.reduceAdd]
      by_cases y : h = z
      · rw [if_neg (by omega), if_pos y]
      · rw [if_pos (by omega), if_neg y]
  · rintro n X ⟨q1, q2⟩
    have hPX : PIc I v V X := hP.mono (fun o k ho => q1 o k (by omega))
    show ∃ F', fX1_reachAll_b2 (n + 1) 63 ((iH I : Nat) : Int) X = some F' ∧ _
    rw [fX1_reachAll_b2, pv_n hPX.1, if_neg h1.2.1, pv_5 hPX.1, h3, if_pos (Int.le_refl _)]
    exact S X q1 q2
end RCH
