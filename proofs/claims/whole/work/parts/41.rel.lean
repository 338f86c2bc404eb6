/-! ===== what is told: the reference's numbers and the class's cells ===== -/
def SR (w n : Nat) (a : Nat → Int) (F : Mem) (s : Nat) : Prop := isK s 3 ∧ cst s 1 = (w : Int) ∧ cst s 0 = (n : Int) ∧ alen (s + 1) = w * n ∧ F s 3 = a 0 ∧ (0 ≤ a 0 ∧ a 0 ≤ n) ∧ ∀ k i : Nat, (k : Int) < a 0 → i < w → F (s + 1) (w * k + i) = a (1 + w * k + i)
/-- a byte, with a sign -/
def sb (x : Int) : Int := if x < 128 then x else x - 256
def RO (r : Nat → Int) : Prop := (0 ≤ r 0 ∧ r 0 ≤ 16) ∧ ∀ k : Nat, (k : Int) < r 0 → (0 ≤ r (1 + 3 * k) ∧ r (1 + 3 * k) ≤ 7) ∧ (0 ≤ r (1 + 3 * k + 1) ∧ r (1 + 3 * k + 1) < r (1 + 3 * k + 2) ∧ r (1 + 3 * k + 2) ≤ 48)
def EO (r : Nat → Int) : Prop := (0 ≤ r 0 ∧ r 0 ≤ 20) ∧ ∀ k : Nat, (k : Int) < r 0 → (0 ≤ r (1 + 2 * k) ∧ r (1 + 2 * k) ≤ 7) ∧ (0 ≤ r (1 + 2 * k + 1) ∧ r (1 + 2 * k + 1) ≤ 99)
/-- a deed's numbers, by its kind -/
def DO (d : Nat → Int) : Prop := (∀ i, i < 6 → -1 ≤ d i ∧ d i ≤ 48) ∧
  ((d 0 = 0 ∧ (0 ≤ d 1 ∧ d 1 ≤ 7) ∧ (0 ≤ d 2 ∧ d 2 ≤ 6) ∧ (0 ≤ d 3 ∧ d 3 < d 4 ∧ d 4 ≤ 48)) ∨
   ((d 0 = 1 ∨ d 0 = 2) ∧ (0 ≤ d 1 ∧ d 1 ≤ 7) ∧ (0 ≤ d 2 ∧ d 2 ≤ 7) ∧ (0 ≤ d 3 ∧ d 3 ≤ 6) ∧ (0 ≤ d 4 ∧ d 4 < d 5 ∧ d 5 ≤ 48)) ∨
   (d 0 = 3 ∧ (0 ≤ d 1 ∧ d 1 ≤ 29)) ∨
   (d 0 = 4 ∧ (0 ≤ d 1 ∧ d 1 ≤ 7) ∧ (0 ≤ d 2 ∧ d 2 ≤ 7)) ∨
   (d 0 = 5 ∧ (0 ≤ d 1 ∧ d 1 ≤ 7)))
def LO (r : Nat → Int) : Prop := (0 ≤ r 0 ∧ r 0 ≤ 30) ∧ ∀ k : Nat, (k : Int) < r 0 → DO (fun i => r (1 + 6 * k + i))
def vOf (A : Nat → Int) (i : Nat) : Nat → Int := fun j => A (610 + 58 * i + j)
def rOf (A : Nat → Int) (i : Nat) : Nat → Int := fun j => A (726 + 49 * i + j)
def gOf (A : Nat → Int) (i : Nat) : Nat → Int := fun j => A (873 + 181 * i + j)
def eOf (A : Nat → Int) (i : Nat) : Nat → Int := fun j => A (1235 + 41 * i + j)
def AO (A : Nat → Int) : Prop := (0 ≤ A 0 ∧ A 0 ≤ 2) ∧ (0 ≤ A 1 ∧ A 1 ≤ 3) ∧ (0 ≤ A 2 ∧ A 2 ≤ 2) ∧ (0 ≤ A 3 ∧ A 3 ≤ 2) ∧ (0 ≤ A 6 ∧ A 6 ≤ 600) ∧ (∀ k : Nat, (k : Int) < A 6 → 0 ≤ A (10 + k) ∧ A (10 + k) ≤ 255) ∧
  (∀ i : Nat, (i : Int) < A 0 → VO (vOf A i)) ∧ (∀ i : Nat, (i : Int) < A 1 → RO (rOf A i)) ∧ (∀ i : Nat, (i : Int) < A 2 → LO (gOf A i)) ∧ (∀ i : Nat, (i : Int) < A 3 → EO (eOf A i))
def TR (A : Nat → Int) (F : Mem) (o : Nat) : Prop := isK o 4 ∧ (F o 1 = A 6 ∧ F o 2 = A 7 ∧ F o 3 = A 8) ∧ (∀ k : Nat, k < 600 → -128 ≤ F (o + 1) k ∧ F (o + 1) k < 128) ∧ (∀ k : Nat, (k : Int) < A 6 → F (o + 1) k = sb (A (10 + k))) ∧ (∀ i, i < 4 → F (o + 2) i = A i) ∧
  (∀ i : Nat, (i : Int) < A 0 → VR (vOf A i) F (o + 7 + 9 * i)) ∧ (∀ i : Nat, (i : Int) < A 1 → SR 3 16 (rOf A i) F (o + 25 + 2 * i)) ∧ (∀ i : Nat, (i : Int) < A 2 → SR 6 30 (gOf A i) F (o + 12 + 9 * i)) ∧ (∀ i : Nat, (i : Int) < A 3 → SR 2 20 (eOf A i) F (o + 14 + 9 * i))
def imgA (A : Nat → Int) (j : Nat) : Nat → Int := fun k => A (1317 * (j + 1) + k)
/-- between calls -/
def RR (F : Mem) : Prop := AO (F 174) ∧ TR (F 174) F 2 ∧ (∀ j, j < 3 → F 175 j = F 34 j ∧ (F 34 j = 0 ∨ (F 34 j = 1 ∧ AO (imgA (F 174) j) ∧ TR (imgA (F 174) j) F (80 + 31 * j)))) ∧ F 173 11 = -1 ∧ F 173 12 = 0 ∧ F 173 13 = -1
theorem SR.mono {w n : Nat} {a : Nat → Int} {F F' : Mem} {s : Nat} (h : SR w n a F s) (hF : ∀ o k, s ≤ o → o ≤ s + 1 → F' o k = F o k) : SR w n a F' s := by
  obtain ⟨h0, h1, h1b, h1c, h2, h2b, h3⟩ := h
  exact ⟨h0, h1, h1b, h1c, (hF _ _ (by omega) (by omega)).trans h2, h2b, fun k i hk hi => (hF _ _ (by omega) (by omega)).trans (h3 k i hk hi)⟩
theorem AO.congr {A B : Nat → Int} (h : AO A) (e : ∀ k, k < 1317 → B k = A k) : AO B := by
  have e2 : ∀ k, k < 1317 → B k = A k := e
  obtain ⟨h0, h1, h2, h3, h4, h5, h6, h7, h8, h9⟩ := h
  have f0 := e 0 (by omega)
  have f1 := e 1 (by omega)
  have f2 := e 2 (by omega)
  have f3 := e 3 (by omega)
  have f6 := e 6 (by omega)
  refine ⟨by omega, by omega, by omega, by omega, by omega, fun k hk => ?_, fun i hi => ?_, fun i hi => ?_, fun i hi => ?_, fun i hi => ?_⟩
  · rw [e (10 + k) (by omega)]; exact h5 k (by omega)
  · have := h6 i (by omega)
    dsimp only [VO, vOf] at this ⊢
    have q : ∀ j, j < 58 → B (610 + 58 * i + j) = A (610 + 58 * i + j) := fun j hj => e _ (by omega)
    obtain ⟨a1, a2, a3, a4, a5, a6, a7⟩ := this
    rw [q 0 (by omega), q 1 (by omega), q 2 (by omega), q 3 (by omega), q 4 (by omega), q 5 (by omega), q 6 (by omega)]
    refine ⟨a1, a2, a3, a4, a5, fun h hh => ?_, fun k hk => ?_⟩
    · rw [q (8 + 4 * h) (by omega), q (8 + 4 * h + 1) (by omega), q (8 + 4 * h + 2) (by omega), q (8 + 4 * h + 3) (by omega)]
      exact a6 h hh
    · rw [q (40 + 3 * k) (by omega), q (40 + 3 * k + 1) (by omega), q (40 + 3 * k + 2) (by omega)]
      exact a7 k hk
  · have := h7 i (by omega)
    dsimp only [RO, rOf] at this ⊢
    have q : ∀ j, j < 49 → B (726 + 49 * i + j) = A (726 + 49 * i + j) := fun j hj => e _ (by omega)
    obtain ⟨a1, a2⟩ := this
    rw [q 0 (by omega)]
    refine ⟨a1, fun k hk => ?_⟩
    rw [q (1 + 3 * k) (by omega), q (1 + 3 * k + 1) (by omega), q (1 + 3 * k + 2) (by omega)]
    exact a2 k hk
  · have := h8 i (by omega)
    dsimp only [LO, gOf] at this ⊢
    have q : ∀ j, j < 181 → B (873 + 181 * i + j) = A (873 + 181 * i + j) := fun j hj => e _ (by omega)
    obtain ⟨a1, a2⟩ := this
    rw [q 0 (by omega)]
    refine ⟨a1, fun k hk => ?_⟩
    have a3 := a2 k hk
    dsimp only [DO] at a3 ⊢
    rw [q (1 + 6 * k + 0) (by omega), q (1 + 6 * k + 1) (by omega), q (1 + 6 * k + 2) (by omega), q (1 + 6 * k + 3) (by omega), q (1 + 6 * k + 4) (by omega), q (1 + 6 * k + 5) (by omega)]
    refine ⟨fun j hj => ?_, a3.2⟩
    rw [q (1 + 6 * k + j) (by omega)]
    exact a3.1 j hj
  · have := h9 i (by omega)
    dsimp only [EO, eOf] at this ⊢
    have q : ∀ j, j < 41 → B (1235 + 41 * i + j) = A (1235 + 41 * i + j) := fun j hj => e _ (by omega)
    obtain ⟨a1, a2⟩ := this
    rw [q 0 (by omega)]
    refine ⟨a1, fun k hk => ?_⟩
    rw [q (1 + 2 * k) (by omega), q (1 + 2 * k + 1) (by omega)]
    exact a2 k hk
theorem VR.congr {v u : Nat → Int} {F : Mem} {V : Nat} (hO : VO v) (h : VR v F V) (q : ∀ j, j < 58 → u j = v j) : VR u F V := by
  obtain ⟨h0, ⟨h1, h2, h3, h4, h5⟩, h6, h7, h8, h9⟩ := h
  have b5 := hO.2.2.2.1
  have b6 := hO.2.2.2.2.1
  unfold VR
  rw [q 0 (by omega), q 1 (by omega), q 2 (by omega), q 3 (by omega), q 4 (by omega), q 5 (by omega), q 6 (by omega)]
  refine ⟨h0, ⟨h1, h2, h3, h4, h5⟩, h6, h7, fun a i ha hi => ?_, fun a i ha hi => ?_⟩
  · rw [q _ (by omega)]; exact h8 a i ha hi
  · rw [q _ (by omega)]; exact h9 a i ha hi
theorem SR.congr {w n : Nat} {a b : Nat → Int} {F : Mem} {s : Nat} (h : SR w n a F s) (q : ∀ j, j < 1 + w * n → b j = a j) : SR w n b F s := by
  obtain ⟨h0, h1, h1b, h1c, h2, h2b, h3⟩ := h
  have e0 := q 0 (by omega)
  refine ⟨h0, h1, h1b, h1c, by rw [e0]; exact h2, by rw [e0]; exact h2b, fun k i hk hi => ?_⟩
  rw [e0] at hk
  rw [h3 k i hk hi, q]
  have h4 : w * k + w ≤ w * n := by rw [← Nat.mul_succ]; exact Nat.mul_le_mul_left _ (by omega)
  omega
theorem TR.congr {A B : Nat → Int} {F : Mem} {o : Nat} (hA : AO A) (h : TR A F o) (e : ∀ k, k < 1317 → B k = A k) : TR B F o := by
  obtain ⟨h0, h1, h2, h3, h4, h5, h6, h7, h8⟩ := h
  obtain ⟨a0, a1, a2, a3, a4, a5, a6, a7, a8, a9⟩ := hA
  have f0 := e 0 (by omega)
  have f1 := e 1 (by omega)
  have f2 := e 2 (by omega)
  have f3 := e 3 (by omega)
  refine ⟨h0, ?_, h2, fun k hk => ?_, fun i hi => ?_, fun i hi => ?_, fun i hi => ?_, fun i hi => ?_, fun i hi => ?_⟩
  · rw [e 6 (by omega), e 7 (by omega), e 8 (by omega)]; exact h1
  · rw [e 6 (by omega)] at hk
    rw [e (10 + k) (by omega)]; exact h3 k hk
  · rw [e i (by omega)]; exact h4 i hi
  · exact (h5 i (by omega)).congr (a6 i (by omega)) (fun j hj => e _ (by omega))
  · exact (h6 i (by omega)).congr (fun j hj => e _ (by omega))
  · exact (h7 i (by omega)).congr (fun j hj => e _ (by omega))
  · exact (h8 i (by omega)).congr (fun j hj => e _ (by omega))
theorem TR.mono {A : Nat → Int} {F F' : Mem} {o : Nat} (hA : AO A) (h : TR A F o) (hF : ∀ q k, o ≤ q → q ≤ o + 30 → F' q k = F q k) : TR A F' o := by
  obtain ⟨h0, ⟨h1, h1b, h1c⟩, h2, h3, h4, h5, h6, h7, h8⟩ := h
  obtain ⟨a0, a1, a2, a3, -⟩ := hA
  refine ⟨h0, ⟨?_, ?_, ?_⟩, fun k hk => ?_, fun k hk => ?_, fun i hi => ?_, fun i hi => ?_, fun i hi => ?_, fun i hi => ?_, fun i hi => ?_⟩
  · rw [hF _ _ (by omega) (by omega)]; exact h1
  · rw [hF _ _ (by omega) (by omega)]; exact h1b
  · rw [hF _ _ (by omega) (by omega)]; exact h1c
  · rw [hF _ _ (by omega) (by omega)]; exact h2 k hk
  · rw [hF _ _ (by omega) (by omega)]; exact h3 k hk
  · rw [hF _ _ (by omega) (by omega)]; exact h4 i hi
  · exact (h5 i hi).mono (fun q k q1 q2 => hF _ _ (by omega) (by omega))
  · exact (h6 i hi).mono (fun q k q1 q2 => hF _ _ (by omega) (by omega))
  · exact (h7 i hi).mono (fun q k q1 q2 => hF _ _ (by omega) (by omega))
  · exact (h8 i hi).mono (fun q k q1 q2 => hF _ _ (by omega) (by omega))
/-- what a call that tells nothing leaves as it was -/
theorem RR.keep {F F' : Mem} (h : RR F) (h1 : ∀ o k, o ≤ 34 ∨ (80 ≤ o ∧ o ≤ 172) ∨ o = 174 ∨ o = 175 → F' o k = F o k) (h2 : F' 173 11 = -1) (h3 : F' 173 12 = 0) (h4 : F' 173 13 = -1) : RR F' := by
  obtain ⟨a, b, c, -, -, -⟩ := h
  have e : F' 174 = F 174 := funext fun k => h1 174 k (by omega)
  unfold RR
  rw [e]
  refine ⟨a, b.mono a (fun q k q1 q2 => h1 _ _ (by omega)), fun j hj => ?_, h2, h3, h4⟩
  obtain ⟨c1, c2⟩ := c j hj
  rw [h1 175 j (by omega), h1 34 j (by omega)]
  refine ⟨c1, c2.elim Or.inl (fun ⟨x, y, z⟩ => Or.inr ⟨x, y, z.mono y (fun q k q1 q2 => h1 _ _ (by omega))⟩)⟩
/-- the class's step touches nothing of the reference, nor what is told -/
def kX (F F' : Mem) : Prop := ∀ o k, o ≤ 34 ∨ 80 ≤ o → F' o k = F o k
def kM (F F' : Mem) : Prop := (∀ o k, o ≤ 172 ∨ o = 174 ∨ o = 175 → F' o k = F o k) ∧ F' 173 11 = F 173 11 ∧ F' 173 12 = F 173 12 ∧ F' 173 13 = F 173 13
theorem kX.rf (F : Mem) : kX F F := fun _ _ _ => rfl
theorem kX.tr {F G H : Mem} (h1 : kX F G) (h2 : kX G H) : kX F H := fun o k h => (h2 o k h).trans (h1 o k h)
theorem kM.rf (F : Mem) : kM F F := ⟨fun _ _ _ => rfl, rfl, rfl, rfl⟩
theorem kM.tr {F G H : Mem} (h1 : kM F G) (h2 : kM G H) : kM F H := ⟨fun o k h => (h2.1 o k h).trans (h1.1 o k h), h2.2.1.trans h1.2.1, h2.2.2.1.trans h1.2.2.1, h2.2.2.2.trans h1.2.2.2⟩
theorem RR.step {F F1 F2 : Mem} (h : RR F) (h1 : kX F F1) (h2 : kM F1 F2) : RR F2 := by
  refine h.keep (fun o k ho => ?_) ?_ ?_ ?_
  · rw [h2.1 o k (by omega), h1 o k (by omega)]
  · rw [h2.2.1, h1 _ _ (by omega)]; exact h.2.2.2.1
  · rw [h2.2.2.1, h1 _ _ (by omega)]; exact h.2.2.2.2.1
  · rw [h2.2.2.2, h1 _ _ (by omega)]; exact h.2.2.2.2.2
theorem RR.x {F F1 : Mem} (h : RR F) (h1 : kX F F1) : RR F1 := h.step h1 (kM.rf F1)
theorem tlay {o : Nat} (h : isK o 4) : o ≠ 0 ∧ alen (o + 1) = 600 ∧ alen (o + 2) = 4 ∧ alen (o + 3) = 2 ∧ alen (o + 4) = 3 ∧ alen (o + 5) = 2 ∧ alen (o + 6) = 2 ∧ (∀ i, i < 2 → aref (o + 3) i = o + 7 + 9 * i) ∧ (∀ i, i < 3 → aref (o + 4) i = o + 25 + 2 * i) ∧ (∀ i, i < 2 → aref (o + 5) i = o + 12 + 9 * i) ∧ (∀ i, i < 2 → aref (o + 6) i = o + 14 + 9 * i) := by
  have h1 := layq (P := fun o => decide (o ≠ 0) && (decide (alen (o + 1) = 600) && (decide (alen (o + 2) = 4) && (decide (alen (o + 3) = 2) && (decide (alen (o + 4) = 3) && (decide (alen (o + 5) = 2) && decide (alen (o + 6) = 2))))))) (by decide +kernel) h
  have h2 := layq (P := fun o => (List.range 2).all fun i => decide (aref (o + 3) i = o + 7 + 9 * i)) (by decide +kernel) h
  have h3 := layq (P := fun o => (List.range 3).all fun i => decide (aref (o + 4) i = o + 25 + 2 * i)) (by decide +kernel) h
  have h4 := layq (P := fun o => (List.range 2).all fun i => decide (aref (o + 5) i = o + 12 + 9 * i)) (by decide +kernel) h
  have h5 := layq (P := fun o => (List.range 2).all fun i => decide (aref (o + 6) i = o + 14 + 9 * i)) (by decide +kernel) h
  simp only [Bool.and_eq_true, decide_eq_true_eq] at h1
  obtain ⟨a, b, c, d, e, f, g⟩ := h1
  exact ⟨a, b, c, d, e, f, g, fun i hi => of_decide_eq_true (List.all_eq_true.mp h2 i (List.mem_range.mpr hi)), fun i hi => of_decide_eq_true (List.all_eq_true.mp h3 i (List.mem_range.mpr hi)), fun i hi => of_decide_eq_true (List.all_eq_true.mp h4 i (List.mem_range.mpr hi)), fun i hi => of_decide_eq_true (List.all_eq_true.mp h5 i (List.mem_range.mpr hi))⟩
/-! finding things -/
section FND
variable {A : Nat → Int} {F : Mem} {o : Nat}
theorem t_there (hT : TR A F o) {s : Nat} {x : Int} (hs : s < 4) (i : Int) (hx : x = (s : Int)) : fX4_isThere o x i F = some (if 0 ≤ i ∧ i < A s then 1 else 0) := by
  subst hx
  obtain ⟨-, -, l2, -⟩ := tlay hT.1
  have h1 := hT.2.2.2.2.1 s hs
  unfold fX4_isThere
  rw [l2]
  by_cases h : i < 0
  · rw [if_pos h, if_neg (by omega)]
  · rw [if_neg h, if_pos (by omega), Int.toNat_natCast, h1]
    by_cases h2 : A s ≤ i
    · rw [if_pos h2, if_neg (by omega)]
    · rw [if_neg h2, if_pos (by omega)]
theorem t_valley (hA : AO A) (hT : TR A F o) (i : Int) : fX4_valleyAt o i F = some (if 0 ≤ i ∧ i < A 0 then o + 7 + 9 * i.toNat else 0) := by
  obtain ⟨-, -, -, l3, -, -, -, r3, -⟩ := tlay hT.1
  have h1 := hA.1
  unfold fX4_valleyAt
  rw [t_there hT (s := 0) (x := 0) (by omega) i rfl, Option.bind_some]
  by_cases h : 0 ≤ i ∧ i < A 0
  · rw [if_pos h, if_pos h, if_neg (by omega), l3, if_pos (by omega), r3 _ (by omega)]
  · rw [if_neg h, if_neg h, if_pos rfl]
def shO (o s i : Nat) : Nat := if s = 1 then o + 25 + 2 * i else if s = 2 then o + 12 + 9 * i else o + 14 + 9 * i
theorem t_sheet (hA : AO A) (hT : TR A F o) {s : Nat} {x : Int} (hs : s < 4) (hs0 : 1 ≤ s) (i : Int) (hx : x = (s : Int)) : fX4_sheetAt o x i F = some (if 0 ≤ i ∧ i < A s then shO o s i.toNat else 0) := by
  obtain ⟨-, -, -, -, l4, l5, l6, -, r4, r5, r6⟩ := tlay hT.1
  obtain ⟨h0, h1, h2, h3, -⟩ := hA
  unfold fX4_sheetAt
  rw [t_there hT (s := s) hs i hx, Option.bind_some]
  have e1 : fX4_sheetsOf o 1 = o + 4 := rfl
  have e2 : fX4_sheetsOf o 2 = o + 5 := rfl
  have e3 : fX4_sheetsOf o 3 = o + 6 := rfl
  by_cases h : 0 ≤ i ∧ i < A s
  · rw [if_pos h, if_pos h, if_neg (by omega)]
    unfold shO
    obtain rfl | rfl | rfl : s = 1 ∨ s = 2 ∨ s = 3 := by omega
    · obtain rfl : x = 1 := hx
      rw [e1, l4, if_pos (by omega), r4 _ (by omega), if_pos rfl]
    · obtain rfl : x = 2 := hx
      rw [e2, l5, if_pos (by omega), r5 _ (by omega), if_neg (by omega), if_pos rfl]
    · obtain rfl : x = 3 := hx
      rw [e3, l6, if_pos (by omega), r6 _ (by omega), if_neg (by omega), if_neg (by omega)]
  · rw [if_neg h, if_neg h, if_pos rfl]
theorem m_isOf (hA : AO (F 174)) {s : Nat} {x : Int} (hs : s < 4) (i : Int) (hx : x = (s : Int)) : fX10_isOf 173 x i F = some (if 0 ≤ i ∧ i < F 174 s then 1 else 0) := by
  subst hx
  obtain ⟨h0, h1, h2, h3, -⟩ := hA
  have hb : 0 ≤ F 174 s ∧ F 174 s ≤ 3 := by
    obtain rfl | rfl | rfl | rfl : s = 0 ∨ s = 1 ∨ s = 2 ∨ s = 3 := by omega
    all_goals omega
  unfold fX10_isOf
  rw [al174, if_pos (by omega), m_isIn, if_pos b01, Int.toNat_natCast, show (173 + 1 : Nat) = 174 from rfl]
  rw [xwn (by omega) (by omega)]
  congr 1
  by_cases h : 0 ≤ i ∧ i < F 174 s
  · rw [if_pos h, if_pos (by omega)]
  · rw [if_neg h, if_neg (by omega)]
end FND
