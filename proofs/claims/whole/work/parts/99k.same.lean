/-! ===== text: both readings of a line are one ===== -/
def OK (R : RST) : Prop := R.2.1 = 0 ∧ R.2.2.1 = 0
section TKE
variable {A : Nat → Int} {R : RST}
theorem tV_in (hA : TA A) {s : Nat} (hs : s ≤ tN A) (k : tKd A s = 2) : 0 ≤ tV A s ∧ tV A s ≤ 99 := by
  unfold tKd at k
  by_cases h0 : byA A s < 0
  · rw [if_pos h0] at k; omega
  · rw [if_neg h0] at k
    by_cases h1 : bLt (byA A s) = true
    · rw [if_pos h1] at k; omega
    · rw [if_neg h1] at k
      by_cases h2 : bDg (byA A s) = true
      · rw [if_pos h2] at k
        have h3 : tE A s ≤ s + 2 := by
          by_cases y : tE A s ≤ s + 2
          · exact y
          · rw [if_neg y] at k; omega
        obtain ⟨a, b, c, d⟩ := tE_dg hA hs h1 h2
        have c0 := bDg_i.mp (c s (Nat.le_refl _) a)
        unfold tV
        by_cases y : tE A s = s + 1
        · rw [if_pos y]; omega
        · rw [if_neg y]
          have c1 := bDg_i.mp (c (s + 1) (by omega) (by omega))
          omega
      · rw [if_neg h2] at k; split at k <;> omega
theorem cN_aN (hA : TA A) (hI : IV A R) {ch a lo hi : Int} (h : OK R → tKd A R.1 = 2 → (fX2_canBe ch (tV A R.1) a ≠ 0 ↔ (lo ≤ tV A R.1 ∧ tV A R.1 ≤ hi))) : (aN A lo hi R).2 = cN A ch a R := by
  unfold aN cN
  by_cases x : R.2.1 = 0 ∧ tKd A R.1 = 2
  · rw [if_pos x, if_pos x]
    by_cases f : R.2.2.1 = 0
    · have h2 := h ⟨x.1, f⟩ x.2
      by_cases y : lo ≤ tV A R.1 ∧ tV A R.1 ≤ hi
      · rw [if_pos y, if_pos (h2.mpr y)]
      · rw [if_neg y, if_neg (fun z => y (h2.mp z))]
    · have e : aNote 2 (R.1 : Int) R = R := if_neg (fun z => f z.2)
      rw [e]
      by_cases y : lo ≤ tV A R.1 ∧ tV A R.1 ≤ hi
      · rw [if_pos y]; split <;> rfl
      · rw [if_neg y]; split <;> rfl
  · rw [if_neg x, if_neg x]
theorem aNote_ok {k y : Int} (hk : k ≠ 0) (h : OK (aNote k y R)) : False := by
  unfold aNote at h
  by_cases x : R.2.1 = 0 ∧ R.2.2.1 = 0
  · rw [if_pos x] at h; exact hk h.2
  · rw [if_neg x] at h; exact x h
theorem aEnds_ok (h : OK (aEnds R)) : False := by
  unfold aEnds at h
  by_cases x : R.2.1 = 0
  · rw [if_pos x] at h; exact absurd h.1 (show ¬ (1 : Int) = 0 by decide)
  · rw [if_neg x] at h; exact x h.1
theorem aN_ok {lo hi : Int} (h : OK (aN A lo hi R).2) : OK R ∧ tKd A R.1 = 2 ∧ (lo ≤ tV A R.1 ∧ tV A R.1 ≤ hi) ∧ (aN A lo hi R).1 = tV A R.1 ∧ (aN A lo hi R).2.1 = nx A R.1 := by
  unfold aN at h ⊢
  by_cases x : R.2.1 = 0 ∧ tKd A R.1 = 2
  · rw [if_pos x] at h ⊢
    by_cases y : lo ≤ tV A R.1 ∧ tV A R.1 ≤ hi
    · rw [if_pos y] at h ⊢
      exact ⟨h, x.2, y, rfl, rfl⟩
    · rw [if_neg y] at h
      exact (aNote_ok (k := 2) (y := (R.1 : Int)) (R := R) (by decide) h).elim
  · rw [if_neg x] at h
    exact (aEnds_ok h).elim
theorem nO_ok {than : Int} (h : OK (nO A than R).2) : OK R ∧ tKd A R.1 = 2 ∧ (0 ≤ tV A R.1 ∧ tV A R.1 ≤ 7) ∧ tV A R.1 ≠ than ∧ (nO A than R).1 = tV A R.1 ∧ (nO A than R).2.1 = nx A R.1 := by
  unfold nO at h ⊢
  by_cases x : R.2.1 = 0 ∧ tKd A R.1 = 2
  · rw [if_pos x] at h ⊢
    by_cases y : (0 ≤ tV A R.1 ∧ tV A R.1 ≤ 7) ∧ tV A R.1 ≠ than
    · rw [if_pos y] at h ⊢
      rw [if_pos y.1]
      exact ⟨h, x.2, y.1, y.2, rfl, rfl⟩
    · rw [if_neg y] at h
      exact (aNote_ok (k := 2) (y := (R.1 : Int)) (R := R) (by decide) h).elim
  · rw [if_neg x] at h
    exact (aEnds_ok h).elim
theorem aE_ok (h : OK (aE A R)) : OK R ∧ tKd A R.1 = 3 ∧ (aE A R).1 = nx A R.1 := by
  unfold aE at h ⊢
  by_cases x : R.2.1 = 0 ∧ tKd A R.1 = 3
  · rw [if_pos x] at h ⊢; exact ⟨h, x.2, rfl⟩
  · rw [if_neg x] at h; exact (aEnds_ok h).elim
theorem hdR_ok {m : Int} (h : OK (hdR A m R)) : m ≠ 0 ∧ OK R := by
  unfold hdR at h
  by_cases y : m = 0
  · rw [if_pos y] at h
    exact (aNote_ok (k := 3) (y := (R.1 : Int)) (R := aAdv A R) (by decide) h).elim
  · rw [if_neg y] at h; exact ⟨y, h⟩
theorem hdR_1 {m : Int} : (hdR A m R).1 = nx A R.1 := by
  unfold hdR
  split
  · exact aNote_1.1
  · rfl
theorem hdR_f {m : Int} (f : R.2.2.1 ≠ 0) : hdR A m R = aAdv A R := by
  unfold hdR
  split
  · exact if_neg (fun z => f z.2)
  · rfl
theorem cN_mono (hA : TA A) (hI : IV A R) {ch a : Int} : R.1 ≤ (cN A ch a R).1 := by
  obtain ⟨-, -, c, -⟩ := nxq_sp hA hI.1
  unfold cN
  split
  · split
    · exact c
    · show R.1 ≤ nx A (aNote 2 (R.1 : Int) R).1
      rw [aNote_1.1]; exact c
  · unfold aEnds; split <;> exact Nat.le_refl _
theorem cF_mono (hA : TA A) : ∀ (l : List Int) (a : Int) (R : RST), IV A R → R.1 ≤ (cF A l a R).1 ∧ IV A (cF A l a R) := by
  intro l
  induction l with
  | nil =>
    intro a R hI
    obtain ⟨-, -, c, -⟩ := nxq_sp hA hI.1
    refine ⟨?_, hI.e hA⟩
    show R.1 ≤ (aE A R).1
    unfold aE
    split
    · exact c
    · unfold aEnds; split <;> exact Nat.le_refl _
  | cons ch l ih =>
    intro a R hI
    obtain ⟨x, y⟩ := ih (tV A R.1) (cN A ch a R) (hI.c hA ch a)
    exact ⟨Nat.le_trans (cN_mono hA hI) x, y⟩
/-- letter by letter -/
theorem e_h (hA : TA A) (hI : IV A R) {a : Int} : (n1 A R).2 = cN A 104 a R := cN_aN hA hI (fun _ k => by
  have := tV_in hA hI.1 k
  have e : fX2_canBe 104 (tV A R.1) a = if 8 ≤ tV A R.1 then 0 else 1 := rfl
  rw [e]; split <;> omega)
theorem e_f (hA : TA A) (hI : IV A R) {a : Int} : (n2 A R).2 = cN A 102 a R := cN_aN hA hI (fun _ k => by
  have := tV_in hA hI.1 k
  have e : fX2_canBe 102 (tV A R.1) a = if 48 ≤ tV A R.1 then 0 else 1 := rfl
  rw [e]; split <;> omega)
theorem e_a (hA : TA A) (hI : IV A R) {a : Int} : (n99 A R).2 = cN A 97 a R := cN_aN hA hI (fun _ k => by
  have := tV_in hA hI.1 k
  have e : fX2_canBe 97 (tV A R.1) a = 1 := rfl
  rw [e]; omega)
theorem e_r (hA : TA A) (hI : IV A R) {a : Int} : (n9 A R).2 = cN A 114 a R := cN_aN hA hI (fun _ k => by
  have := tV_in hA hI.1 k
  have e : fX2_canBe 114 (tV A R.1) a = if 9 < tV A R.1 then 0 else 1 := rfl
  rw [e]; split <;> omega)
theorem e_d (hA : TA A) (hI : IV A R) {a : Int} : (n6 A R).2 = cN A 100 a R := cN_aN hA hI (fun _ k => by
  have := tV_in hA hI.1 k
  have e : fX2_canBe 100 (tV A R.1) a = if 7 ≤ tV A R.1 then 0 else 1 := rfl
  rw [e]; split <;> omega)
theorem e_k (hA : TA A) (hI : IV A R) {a : Int} : (n29 A R).2 = cN A 107 a R := cN_aN hA hI (fun _ k => by
  have := tV_in hA hI.1 k
  have e : fX2_canBe 107 (tV A R.1) a = if 30 ≤ tV A R.1 then 0 else 1 := rfl
  rw [e]; split <;> omega)
theorem e_s (hA : TA A) (hI : IV A R) {a : Int} : (nS A R).2 = cN A 115 a R := cN_aN hA hI (fun _ k => by
  have e : fX2_canBe 115 (tV A R.1) a = if tV A R.1 < 1 then 0 else if 48 < tV A R.1 then 0 else 1 := rfl
  rw [e]; split
  · omega
  · split <;> omega)
theorem e_p (hA : TA A) (hI : IV A R) {a : Int} : (nP A R).2 = cN A 112 a R := cN_aN hA hI (fun _ k => by
  have e : fX2_canBe 112 (tV A R.1) a = if tV A R.1 < 1 then 0 else if 99 < tV A R.1 then 0 else 1 := rfl
  rw [e]; split
  · omega
  · split <;> omega)
theorem e_ft (hA : TA A) (hI : IV A R) {a : Int} : (nT A R).2 = cN A 116 (tV A R.1) (cN A 102 a R) := by
  rw [← e_f hA hI (a := a)]
  refine cN_aN hA (hI.n hA 0 47) (fun hO k => ?_)
  obtain ⟨o1, o2, o3, o4, o5⟩ := aN_ok hO
  have e4 : (n2 A R).1 = tV A R.1 := o4
  have hI2 : IV A (n2 A R).2 := hI.n hA 0 47
  show fX2_canBe 116 (tV A (n2 A R).2.1) (tV A R.1) ≠ 0 ↔ ((n2 A R).1 + 1 ≤ tV A (n2 A R).2.1 ∧ tV A (n2 A R).2.1 ≤ 48)
  have e : fX2_canBe 116 (tV A (n2 A R).2.1) (tV A R.1) = if 48 < tV A (n2 A R).2.1 then 0 else if tV A (n2 A R).2.1 ≤ tV A R.1 then 0 else if tV A (n2 A R).2.1 < 1 then 0 else 1 := rfl
  rw [e, e4]
  split
  · omega
  · split
    · omega
    · split <;> omega
theorem e_o (hA : TA A) (hI : IV A R) {a : Int} : (nO A (n1 A R).1 (n1 A R).2).2 = cN A 111 (tV A R.1) (cN A 104 a R) := by
  rw [← e_h hA hI (a := a)]
  have hI1 : IV A (n1 A R).2 := hI.n hA 0 7
  have hv : OK (n1 A R).2 → (n1 A R).1 = tV A R.1 := fun hO => (aN_ok hO).2.2.2.1
  generalize (n1 A R).1 = th at hv
  generalize (n1 A R).2 = R1 at hv hI1
  unfold nO cN
  by_cases x : R1.2.1 = 0 ∧ tKd A R1.1 = 2
  · rw [if_pos x, if_pos x]
    dsimp only
    have e : fX2_canBe 111 (tV A R1.1) (tV A R.1) = if 8 ≤ tV A R1.1 then 0 else if tV A R1.1 = tV A R.1 then 0 else 1 := rfl
    have t := tV_in hA hI1.1 x.2
    by_cases f : R1.2.2.1 = 0
    · have h1 := hv ⟨x.1, f⟩
      rw [e]
      by_cases y : (0 ≤ tV A R1.1 ∧ tV A R1.1 ≤ 7) ∧ tV A R1.1 ≠ th
      · rw [if_pos y, if_neg (c := 8 ≤ tV A R1.1) (by omega), if_neg (c := tV A R1.1 = tV A R.1) (by omega), if_pos (show (1 : Int) ≠ 0 by decide)]
      · rw [if_neg y]
        have z : ¬ (if 8 ≤ tV A R1.1 then (0 : Int) else if tV A R1.1 = tV A R.1 then 0 else 1) ≠ 0 := by
          by_cases q : 8 ≤ tV A R1.1
          · rw [if_pos q]; decide
          · rw [if_neg q, if_pos (by omega)]; decide
        rw [if_neg z]
    · have e2 : aNote 2 (R1.1 : Int) R1 = R1 := if_neg (fun z => f z.2)
      rw [e2]
      split <;> split <;> rfl
  · rw [if_neg x, if_neg x]
/-- line by line -/
theorem cf_1 {ch : Int} : cF A [ch] (-1) R = aE A (cN A ch (-1) R) := rfl
theorem l_slots (hA : TA A) (hI : IV A R) : cF A (rgL 0) (-1) R = aE A (nS A R).2 := by rw [e_s hA hI (a := -1)]; rfl
theorem l_pace (hA : TA A) (hI : IV A R) : cF A (rgL 1) (-1) R = aE A (nP A R).2 := by rw [e_p hA hI (a := -1)]; rfl
theorem l_light (hA : TA A) (hI : IV A R) : cF A (rgL 2) (-1) R = aE A (nT A R).2 := by rw [e_ft hA hI (a := -1)]; rfl
theorem l_start (hA : TA A) (hI : IV A R) : cF A (rgL 3) (-1) R = aE A (n1 A R).2 := by rw [e_h hA hI (a := -1)]; rfl
theorem l_house (hA : TA A) (hI : IV A R) {l : Nat} (hl : rgL l = [97, 114, 114]) : cF A (rgL l) (-1) R = aE A (n9 A (n9 A (n99 A R).2).2).2 := by
  have hI1 : IV A (n99 A R).2 := hI.n hA 0 99
  have hI2 : IV A (n9 A (n99 A R).2).2 := hI1.n hA 0 9
  rw [e_r hA hI2 (a := tV A (n99 A R).2.1), e_r hA hI1 (a := tV A R.1), e_a hA hI (a := -1), hl]
  rfl
theorem l_hft (hA : TA A) (hI : IV A R) {l : Nat} (hl : rgL l = [104, 102, 116]) : cF A (rgL l) (-1) R = aE A (nT A (n1 A R).2).2 := by
  have hI1 : IV A (n1 A R).2 := hI.n hA 0 7
  rw [e_ft hA hI1 (a := tV A R.1), e_h hA hI (a := -1), hl]
  rfl
theorem l_own (hA : TA A) (hI : IV A R) : cF A (rgL 10) (-1) R = aE A (nT A (n6 A (n1 A R).2).2).2 := by
  have hI1 : IV A (n1 A R).2 := hI.n hA 0 7
  have hI2 : IV A (n6 A (n1 A R).2).2 := hI1.n hA 0 6
  rw [e_ft hA hI2 (a := tV A (n1 A R).2.1), e_d hA hI1 (a := tV A R.1), e_h hA hI (a := -1)]
  rfl
theorem l_sell (hA : TA A) (hI : IV A R) {l : Nat} (hl : rgL l = [104, 111, 100, 102, 116]) : cF A (rgL l) (-1) R = aE A (nT A (n6 A (nO A (n1 A R).1 (n1 A R).2).2).2).2 := by
  have hI1 : IV A (n1 A R).2 := hI.n hA 0 7
  have hI2 := nO_iv hA hI1 (n1 A R).1
  have hI3 : IV A (n6 A (nO A (n1 A R).1 (n1 A R).2).2).2 := hI2.n hA 0 6
  rw [e_ft hA hI3 (a := tV A (nO A (n1 A R).1 (n1 A R).2).2.1), e_d hA hI2 (a := tV A (n1 A R).2.1), e_o hA hI (a := -1), hl, e_h hA hI (a := -1)]
  rfl
theorem l_back (hA : TA A) (hI : IV A R) : cF A (rgL 13) (-1) R = aE A (n29 A R).2 := by rw [e_k hA hI (a := -1)]; rfl
theorem l_will (hA : TA A) (hI : IV A R) : cF A (rgL 14) (-1) R = aE A (nO A (n1 A R).1 (n1 A R).2).2 := by rw [e_o hA hI (a := -1)]; rfl
theorem l_dies (hA : TA A) (hI : IV A R) : cF A (rgL 15) (-1) R = aE A (n1 A R).2 := by rw [e_h hA hI (a := -1)]; rfl
theorem l_list (hA : TA A) (hI : IV A R) : cF A (rgL 16) (-1) R = aE A (n99 A (n1 A R).2).2 := by
  have hI1 : IV A (n1 A R).2 := hI.n hA 0 7
  rw [e_a hA hI1 (a := tV A R.1), e_h hA hI (a := -1)]
  rfl
/-- what was read, where no fault is -/
theorem v_hft (h : OK (aE A (nT A (n1 A R).2).2)) : OK R ∧ (n1 A R).1 = tV A R.1 ∧ (n2 A (n1 A R).2).1 = tV A (nx A R.1) ∧ (nT A (n1 A R).2).1 = tV A (nx A (nx A R.1)) := by
  obtain ⟨h1, -⟩ := aE_ok h
  obtain ⟨h2, -, -, a1, b1⟩ := aN_ok h1
  obtain ⟨h3, -, -, a2, b2⟩ := aN_ok h2
  obtain ⟨h4, -, -, a3, b3⟩ := aN_ok h3
  refine ⟨h4, a3, a2.trans (congrArg (tV A) b3), a1.trans (congrArg (tV A) (b2.trans (congrArg (nx A) b3)))⟩
theorem v_ft (h : OK (nT A R).2) : OK R ∧ (n2 A R).1 = tV A R.1 ∧ (nT A R).1 = tV A (nx A R.1) := by
  obtain ⟨h2, -, -, a1, b1⟩ := aN_ok h
  obtain ⟨h3, -, -, a2, b2⟩ := aN_ok h2
  exact ⟨h3, a2, a1.trans (congrArg (tV A) b2)⟩
end TKE
