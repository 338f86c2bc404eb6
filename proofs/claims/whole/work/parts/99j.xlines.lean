/-! ===== text: the class's lines ===== -/
def XRd (A : Nat → Int) (R : RST) (G : Mem) : Prop := XM A G ∧ XT A R.1 G ∧ G 35 7 = R.2.2.1 ∧ G 35 8 = R.2.2.2
def kXn (G G' : Mem) : Prop := ∀ o k, ¬ (o = 35 ∧ 2 ≤ k ∧ k ≤ 8) → o ≠ 36 → G' o k = G o k
def itn (A : Nat → Int) : Nat → Nat → Nat
  | 0, s => s
  | j + 1, s => itn A j (nx A s)
noncomputable def cN (A : Nat → Int) (ch a : Int) (R : RST) : RST := if R.2.1 = 0 ∧ tKd A R.1 = 2 then aAdv A (if fX2_canBe ch (tV A R.1) a ≠ 0 then R else aNote 2 (R.1 : Int) R) else aEnds R
noncomputable def cF (A : Nat → Int) : List Int → Int → RST → RST
  | [], _, R => aE A R
  | ch :: l, a, R => cF A l (tV A R.1) (cN A ch a R)
theorem kXn.rf (G : Mem) : kXn G G := fun _ _ _ _ => rfl
theorem kXn.tr {F G H : Mem} (h1 : kXn F G) (h2 : kXn G H) : kXn F H := fun o k a b => (h2 o k a b).trans (h1 o k a b)
theorem bnd1 {α : Type} (x : Option α) : (x.bind fun q => some q) = x := by cases x <;> rfl
section TJ
variable {A : Nat → Int} {R : RST} {G : Mem}
theorem cN_w {ch a : Int} (h : R.2.1 ≠ 0) : cN A ch a R = R := by unfold cN; rw [if_neg (fun z => h z.1), aEnds_w h]
theorem cF_w : ∀ (l : List Int) (a : Int) (R : RST), R.2.1 ≠ 0 → cF A l a R = R := by
  intro l
  induction l with
  | nil => intro a R h; exact aE_w h
  | cons ch l ih =>
    intro a R h
    show cF A l (tV A R.1) (cN A ch a R) = R
    rw [cN_w h]
    exact ih _ R h
theorem IV.c (hA : TA A) (h : IV A R) (ch a : Int) : IV A (cN A ch a R) := by
  unfold cN
  by_cases x : R.2.1 = 0 ∧ tKd A R.1 = 2
  · rw [if_pos x]
    split
    · exact h.adv hA
    · exact h.badnum hA (by omega)
  · rw [if_neg x]; exact h.ends
theorem XRd.mono {F : Mem} (h : XRd A R G) (h1 : ∀ k, k ≤ 8 → F 35 k = G 35 k) (h3 : ∀ k, F 3 k = G 3 k) : XRd A R F := by
  obtain ⟨a, ⟨b1, b2, b3, b4⟩, c, d⟩ := h
  exact ⟨a.mono (h1 _ (by omega)) (h1 _ (by omega)) h3, ⟨(h1 _ (by omega)).trans b1, (h1 _ (by omega)).trans b2, (h1 _ (by omega)).trans b3, fun z => (h1 _ (by omega)).trans (b4 z)⟩, (h1 _ (by omega)).trans c, (h1 _ (by omega)).trans d⟩
theorem x_setf (h : XRd A R G) (w k : Int) : XRd A (R.1, w, k, (R.1 : Int)) (mset (mset G 35 7 k) 35 8 (mset G 35 7 k 35 3)) ∧ kXn G (mset (mset G 35 7 k) 35 8 (mset G 35 7 k 35 3)) ∧ ∀ j, mset (mset G 35 7 k) 35 8 (mset G 35 7 k 35 3) 36 j = G 36 j := by
  obtain ⟨a, ⟨b1, b2, b3, b4⟩, c, d⟩ := h
  have e3 : mset G 35 7 k 35 3 = (R.1 : Int) := by rw [mset_ne _ _ (by omega)]; exact b1
  rw [e3]
  generalize eF : mset (mset G 35 7 k) 35 8 (R.1 : Int) = F
  have f1 : ∀ o j, ¬ (o = 35 ∧ (j = 7 ∨ j = 8)) → F o j = G o j := fun o j z => by rw [← eF, mset_ne _ _ (by omega), mset_ne _ _ (by omega)]
  refine ⟨⟨a.mono (f1 _ _ (by omega)) (f1 _ _ (by omega)) (fun j => f1 _ _ (by omega)), ⟨(f1 _ _ (by omega)).trans b1, (f1 _ _ (by omega)).trans b2, (f1 _ _ (by omega)).trans b3, fun z => (f1 _ _ (by omega)).trans (b4 z)⟩, ?_, ?_⟩, fun o j z1 z2 => f1 o j (by omega), fun j => f1 _ _ (by omega)⟩
  · rw [← eF, mset_ne _ _ (by omega), mset_eq]
  · rw [← eF, mset_eq]
theorem x_refuse (h : XRd A R G) (w : R.2.1 = 0) : XRd A (aEnds R) (fX2_refuse 35 G) ∧ kXn G (fX2_refuse 35 G) ∧ ∀ j, fX2_refuse 35 G 36 j = G 36 j := by
  have e : aEnds R = (R.1, 1, 1, (R.1 : Int)) := if_pos w
  rw [e]
  exact x_setf h 1 1
theorem x_note (h : XRd A R G) (w : R.2.1 = 0) (k : Int) : XRd A (aNote k (R.1 : Int) R) (fX2_note 35 k G) ∧ kXn G (fX2_note 35 k G) ∧ ∀ j, fX2_note 35 k G 36 j = G 36 j := by
  have h7 := h.2.2.1
  unfold fX2_note
  by_cases f : R.2.2.1 = 0
  · have e : aNote k (R.1 : Int) R = (R.1, R.2.1, k, (R.1 : Int)) := if_pos ⟨w, f⟩
    rw [h7, if_neg (dnn f), e]
    exact x_setf h R.2.1 k
  · have e : aNote k (R.1 : Int) R = R := if_neg (fun z => f z.2)
    rw [h7, if_pos f, e]
    exact ⟨h, kXn.rf G, fun _ => rfl⟩
theorem x_take (hA : TA A) (h : XRd A R G) (hs : R.1 ≤ tN A) : ∃ G', fX2_takeToken 35 G = some G' ∧ XRd A (aAdv A R) G' ∧ kXn G G' ∧ ∀ j, G' 36 j = G 36 j := by
  obtain ⟨a, b, c, d⟩ := h
  obtain ⟨G', r1, r2, r3⟩ := x_token hA a (tE_sp hA hs).2.1 b.2.1
  exact ⟨G', r1, ⟨a.mono (r3 _ _ (by omega)) (r3 _ _ (by omega)) (fun j => r3 _ _ (by omega)), r2, (r3 _ _ (by omega)).trans c, (r3 _ _ (by omega)).trans d⟩, fun o j z1 z2 => r3 o j (by omega), fun j => r3 _ _ (by omega)⟩
theorem aNote_adv {k y : Int} : aAdv A (aNote k y R) = aNote k y (aAdv A R) := by
  by_cases x : R.2.1 = 0 ∧ R.2.2.1 = 0
  · have e1 : aNote k y R = (R.1, R.2.1, k, y) := if_pos x
    have e2 : aNote k y (aAdv A R) = (nx A R.1, R.2.1, k, y) := if_pos x
    rw [e1, e2]; rfl
  · have e1 : aNote k y R = R := if_neg x
    have e2 : aNote k y (aAdv A R) = aAdv A R := if_neg x
    rw [e1, e2]
theorem al36 : alen (35 + 1) = 5 := rfl
/-- the numbers of a line, and its end -/
theorem x_loop (hA : TA A) {x2 : Int} {x3 x4 : Nat} {many : Int} : ∀ (l : List Int) (i : Nat) (a : Int) (R : RST) (G : Mem) (n : Nat), l.length + 1 ≤ n → many = ((i + l.length : Nat) : Int) → slen x4 = ((i + l.length : Nat) : Int) → (∀ j, j < l.length → sch x4 ((i + j : Nat) : Int) = l.getD j 0) → i + l.length ≤ 5 → XRd A R G → IV A R → R.2.1 = 0 → (i = 0 → a = -1) → (∀ i', i = i' + 1 → G 36 i' = a) →
    ∃ G1, XRd A (cF A l a R) G1 ∧ kXn G G1 ∧ (∀ j, j < i → G1 36 j = G 36 j) ∧ ((cF A l a R).2.1 = 0 → ∀ j, j < l.length → G1 36 (i + j) = tV A (itn A j R.1)) ∧ fX2_readLine_b66 n 35 x2 x3 x4 many (i : Int) G = if (cF A l a R).2.2.1 ≠ 0 then some G1 else fX2_keepLine 35 x2 x3 many G1 := by
  intro l
  induction l with
  | nil =>
    intro i a R G n hn hm hsl hsc h5 hX hI w ha0 ha1
    obtain ⟨n, rfl⟩ : ∃ n', n = n' + 1 := ⟨n - 1, by omega⟩
    have hm2 : many = (i : Int) := hm
    show ∃ G1, XRd A (aE A R) G1 ∧ _
    rw [fX2_readLine_b66, hm2, if_pos (Int.le_refl _), hX.2.1.2.2.1]
    by_cases k : tKd A R.1 = 3
    · have e : aE A R = aAdv A R := if_pos ⟨w, k⟩
      have e2 : cF A [] a R = aAdv A R := e
      obtain ⟨G1, r1, r2, r3, r4⟩ := x_take hA hX hI.1
      rw [e, e2, if_pos k, r1, Option.bind_some, r2.2.2.1]
      refine ⟨G1, r2, r3, fun j _ => r4 j, fun _ j hj => absurd hj (Nat.not_lt_zero j), ?_⟩
      rw [bnd1]
    · have e : aE A R = aEnds R := if_neg (fun z => k z.2)
      have e2 : cF A [] a R = aEnds R := e
      obtain ⟨r2, r3, r4⟩ := x_refuse hX w
      have e3 : (aEnds R).2.2.1 = 1 := by unfold aEnds; rw [if_pos w]
      rw [e, e2, if_neg k, e3]
      refine ⟨_, r2, r3, fun j _ => r4 j, fun _ j hj => absurd hj (Nat.not_lt_zero j), ?_⟩
      rw [if_pos (show (1 : Int) ≠ 0 by decide)]
  | cons ch l ih =>
    intro i a R G n hn hm hsl hsc h5 hX hI w ha0 ha1
    rw [List.length_cons] at hn hm hsl h5
    obtain ⟨n, rfl⟩ : ∃ n', n = n' + 1 := ⟨n - 1, by omega⟩
    have ec : sch x4 (i : Int) = ch := hsc 0 (by rw [List.length_cons]; omega)
    have hXm : ∀ v, XRd A R (mset G 36 i v) := fun v => hX.mono (fun k _ => mset_ne _ _ (by omega)) (fun k => mset_ne _ _ (by omega))
    have kXm : ∀ v, kXn G (mset G 36 i v) := fun v o k z1 z2 => mset_ne _ _ (by omega)
    show ∃ G1, XRd A (cF A l (tV A R.1) (cN A ch a R)) G1 ∧ _
    have e0 : cF A (ch :: l) a R = cF A l (tV A R.1) (cN A ch a R) := rfl
    rw [e0]
    by_cases k : tKd A R.1 = 2
    · have hv : G 35 5 = tV A R.1 := hX.2.1.2.2.2 k
      have hv2 : mset G 36 i (tV A R.1) 35 5 = tV A R.1 := by rw [mset_ne _ _ (by omega)]; exact hv
      have E : fX2_readLine_b66 (n + 1) 35 x2 x3 x4 many (i : Int) G = fX2_readLine_b126 (fX2_readLine_b66 n) 35 x2 x3 x4 many (i : Int) ch (tV A R.1) a (mset G 36 i (tV A R.1)) := by
        rw [fX2_readLine_b66, if_neg (by omega), hX.2.1.2.2.1, if_pos k, al36, if_pos (by omega), if_pos (by omega), ec, hv, Int.toNat_natCast, show (35 + 1 : Nat) = 36 from rfl, hv2]
        by_cases y : i = 0
        · rw [if_neg (by omega), ha0 y]
        · obtain ⟨i', rfl⟩ : ∃ i', i = i' + 1 := ⟨i - 1, by omega⟩
          have ex : xw (((i' + 1 : Nat) : Int) - 1) = (i' : Int) := by rw [xwn (by omega) (by omega)]; omega
          have ea : mset G 36 (i' + 1) (tV A R.1) 36 i' = a := by rw [mset_ne _ _ (by omega)]; exact ha1 i' rfl
          rw [if_pos (by omega), ex, if_pos (by omega), Int.toNat_natCast, ea]
      have main : ∀ (R2 : RST) (G2 : Mem), cN A ch a R = aAdv A R2 → R2.1 = R.1 → R2.2.1 = 0 → XRd A R2 G2 → kXn G G2 → (∀ j, G2 36 j = mset G 36 i (tV A R.1) 36 j) → ∃ G1, XRd A (cF A l (tV A R.1) (cN A ch a R)) G1 ∧ kXn G G1 ∧ (∀ j, j < i → G1 36 j = G 36 j) ∧ ((cF A l (tV A R.1) (cN A ch a R)).2.1 = 0 → ∀ j, j < l.length + 1 → G1 36 (i + j) = tV A (itn A j R.1)) ∧ fX2_readLine_b137 (fX2_readLine_b66 n) 35 x2 x3 x4 many (i : Int) G2 = if (cF A l (tV A R.1) (cN A ch a R)).2.2.1 ≠ 0 then some G1 else fX2_keepLine 35 x2 x3 many G1 := by
        intro R2 G2 eN e1 w2 hX2 hk2 h36
        obtain ⟨G3, s1, s2, s3, s4⟩ := x_take hA hX2 (by rw [e1]; exact hI.1)
        rw [← eN] at s2
        have wN : (cN A ch a R).2.1 = 0 := by rw [eN]; exact w2
        have sN : (cN A ch a R).1 = nx A R.1 := by rw [eN]; show nx A R2.1 = _; rw [e1]
        have hp : G3 36 i = tV A R.1 := by rw [s4, h36, mset_eq]
        obtain ⟨G1, q1, q2, q3, q4, q5⟩ := ih (i + 1) (tV A R.1) (cN A ch a R) G3 n (by omega) (by rw [hm]; congr 1; omega) (by rw [hsl]; congr 1; omega) (fun j hj => by
          have := hsc (j + 1) (by rw [List.length_cons]; omega)
          rw [show i + 1 + j = i + (j + 1) by omega]
          exact this) (by omega) s2 (hI.c hA ch a) wN (fun z => absurd z (by omega)) (fun i' z => by rw [show i' = i from (by omega)]; exact hp)
        refine ⟨G1, q1, (hk2.tr s3).tr q2, fun j hj => ?_, fun z j hj => ?_, ?_⟩
        · rw [q3 j (by omega), s4, h36, mset_ne _ _ (by omega)]
        · cases j with
          | zero => exact (q3 i (by omega)).trans hp
          | succ j =>
            have := q4 z j (by omega)
            rw [sN] at this
            rw [show i + (j + 1) = i + 1 + j by omega]
            exact this
        · unfold fX2_readLine_b137
          rw [s1, Option.bind_some, xwS (by omega)]
          exact q5
      rw [E]
      unfold fX2_readLine_b126
      have hkk : R.2.1 = 0 ∧ tKd A R.1 = 2 := ⟨w, k⟩
      by_cases y : fX2_canBe ch (tV A R.1) a ≠ 0
      · rw [if_pos y]
        exact main R _ (by unfold cN; rw [if_pos hkk, if_pos y]) rfl w (hXm _) (kXm _) (fun j => rfl)
      · rw [if_neg y]
        obtain ⟨t1, t2, t3⟩ := x_note (hXm (tV A R.1)) w 2
        obtain ⟨b1, b2⟩ := aNote_1 (R := R) (k := 2) (y := (R.1 : Int))
        exact main _ _ (by unfold cN; rw [if_pos hkk, if_neg y]) b1 (b2.trans w) t1 ((kXm _).tr t2) t3
    · have eN : cN A ch a R = aEnds R := by unfold cN; rw [if_neg (fun z => k z.2)]
      have e3 : (aEnds R).2.2.1 = 1 ∧ (aEnds R).2.1 = 1 := by unfold aEnds; rw [if_pos w]; exact ⟨rfl, rfl⟩
      have eF : cF A l (tV A R.1) (cN A ch a R) = aEnds R := by rw [eN]; exact cF_w l _ _ (by rw [e3.2]; decide)
      obtain ⟨r2, r3, r4⟩ := x_refuse hX w
      rw [eF, fX2_readLine_b66, if_neg (by omega), hX.2.1.2.2.1, if_neg k, e3.1, e3.2]
      refine ⟨_, r2, r3, fun j _ => r4 j, fun z => absurd z (show ¬ (1 : Int) = 0 by decide), ?_⟩
      rw [if_pos (show (1 : Int) ≠ 0 by decide)]
/-- a line's letters -/
def rgL (l : Nat) : List Int := [[115], [112], [102, 116], [104], [97, 114, 114], [97, 114, 114], [97, 114, 114], [97, 114, 114], [104, 102, 116], [104, 102, 116], [104, 100, 102, 116], [104, 111, 100, 102, 116], [104, 111, 100, 102, 116], [107], [104, 111], [104], [104, 97]].getD l []
theorem rg_sp {l : Nat} (hl : l < 17) : slen (fX2_rangesOf (l : Int)) = ((rgL l).length : Int) ∧ (rgL l).length ≤ 5 ∧ ∀ j, j < (rgL l).length → sch (fX2_rangesOf (l : Int)) ((0 + j : Nat) : Int) = (rgL l).getD j 0 := by
  have h : ((List.range 17).all fun l => decide (slen (fX2_rangesOf ((l : Nat) : Int)) = ((rgL l).length : Int)) && (decide ((rgL l).length ≤ 5) && (List.range (rgL l).length).all fun j => decide (sch (fX2_rangesOf ((l : Nat) : Int)) ((0 + j : Nat) : Int) = (rgL l).getD j 0))) = true := by decide +kernel
  have h1 := List.all_eq_true.mp h l (List.mem_range.mpr hl)
  simp only [Bool.and_eq_true, decide_eq_true_eq] at h1
  exact ⟨h1.1, h1.2.1, fun j hj => of_decide_eq_true (List.all_eq_true.mp h1.2.2 j (List.mem_range.mpr hj))⟩
/-- the class reads a line of a known word -/
theorem x_line (hA : TA A) (hX : XRd A R G) (hI : IV A R) (w : R.2.1 = 0) (k : tKd A R.1 = 1) {st : Int} {l : Nat} (hl : l < 17) (hw : tW A R.1 = (l : Int) + 1) (hst : fX2_sortOf (l : Int) = st) {m : Int} (hm : (m = 1 ∧ (fX2_sheetOf 35 (l : Int) = 0 ∨ fX3_isFull (fX2_sheetOf 35 (l : Int)) G = 0)) ∨ (m = 0 ∧ fX2_sheetOf 35 (l : Int) ≠ 0 ∧ fX3_isFull (fX2_sheetOf 35 (l : Int)) G ≠ 0)) : ∃ G1, XRd A (cF A (rgL l) (-1) (hdR A m R)) G1 ∧ kXn G G1 ∧ ((cF A (rgL l) (-1) (hdR A m R)).2.1 = 0 → ∀ j, j < (rgL l).length → G1 36 j = tV A (itn A j (nx A R.1))) ∧ fX2_readLine 35 st G = if (cF A (rgL l) (-1) (hdR A m R)).2.2.1 ≠ 0 then some G1 else fX2_keepLine 35 (l : Int) (fX2_sheetOf 35 (l : Int)) ((rgL l).length : Int) G1 := by
  have eL : fX2_lineAtHand 35 st G = some (l : Int) := by
    have e1 : tW A R.1 - 1 = (l : Int) := by omega
    rw [x_lineAt hA hX.1 hX.2.1 hI.1, if_pos ⟨k, by omega, by rw [e1]; exact hst⟩, e1]
  obtain ⟨c1, c2, c3⟩ := rg_sp hl
  have hb : ∀ (G0 : Mem) (R0 : RST), XRd A R0 G0 → kXn G G0 → R0.1 = R.1 → R0.2.1 = 0 → aAdv A R0 = hdR A m R → ∃ G1, XRd A (cF A (rgL l) (-1) (hdR A m R)) G1 ∧ kXn G G1 ∧ ((cF A (rgL l) (-1) (hdR A m R)).2.1 = 0 → ∀ j, j < (rgL l).length → G1 36 j = tV A (itn A j (nx A R.1))) ∧ fX2_readLine_b38 35 (l : Int) (fX2_sheetOf 35 (l : Int)) G0 = if (cF A (rgL l) (-1) (hdR A m R)).2.2.1 ≠ 0 then some G1 else fX2_keepLine 35 (l : Int) (fX2_sheetOf 35 (l : Int)) ((rgL l).length : Int) G1 := by
    intro G0 R0 hX0 hk0 e1 w0 eA
    obtain ⟨G2, s1, s2, s3, s4⟩ := x_take hA hX0 (by rw [e1]; exact hI.1)
    have w2 : (aAdv A R0).2.1 = 0 := w0
    have p2 : (aAdv A R0).1 = nx A R.1 := by show nx A R0.1 = _; rw [e1]
    rw [eA] at s2 w2 p2
    obtain ⟨G1, q1, q2, -, q4, q5⟩ := x_loop hA (x2 := (l : Int)) (x3 := fX2_sheetOf 35 (l : Int)) (x4 := fX2_rangesOf (l : Int)) (many := ((rgL l).length : Int)) (rgL l) 0 (-1) (hdR A m R) G2 FU (by have := FU_gt (k := 10) (by decide); omega) (by rw [Nat.zero_add]) (by rw [Nat.zero_add]; exact c1) c3 (by omega) s2 (hdR_iv hA hI k m) w2 (fun _ => rfl) (fun i' z => absurd z (by omega))
    refine ⟨G1, q1, (hk0.tr s3).tr q2, fun z j hj => ?_, ?_⟩
    · have := q4 z j hj
      rw [Nat.zero_add, p2] at this
      exact this
    · unfold fX2_readLine_b38
      rw [s1, Option.bind_some, c1, al36, xmin_l (by omega)]
      exact q5
  unfold fX2_readLine
  rw [eL, Option.bind_some, if_pos (by omega)]
  rcases hm with ⟨rfl, hm⟩ | ⟨rfl, h1, h2⟩
  · have := hb G R hX (kXn.rf G) rfl w (by unfold hdR; rw [if_neg (by decide)])
    by_cases y : fX2_sheetOf 35 (l : Int) = 0
    · rw [if_pos y]; exact this
    · rw [if_neg y, if_pos (hm.resolve_left y)]; exact this
  · rw [if_neg h1, if_neg h2]
    obtain ⟨t1, t2, t3⟩ := x_note hX w 3
    obtain ⟨b1, b2⟩ := aNote_1 (R := R) (k := 3) (y := (R.1 : Int))
    exact hb _ _ t1 t2 b1 (b2.trans w) (by unfold hdR; rw [if_pos rfl, aNote_adv])
end TJ
