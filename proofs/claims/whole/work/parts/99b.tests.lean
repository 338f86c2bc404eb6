/-! ===== text: the tests of a byte ===== -/
theorem ltr_eq (x : Int) : fX10_isLetter x = if 97 ≤ x ∧ x ≤ 122 then 1 else 0 := by
  unfold fX10_isLetter
  split
  · rw [if_neg (by omega)]
  · split
    · rw [if_neg (by omega)]
    · rw [if_pos (by omega)]
theorem dgt_eq (x : Int) : fX10_isDigit x = if 48 ≤ x ∧ x ≤ 57 then 1 else 0 := by
  unfold fX10_isDigit
  split
  · rw [if_neg (by omega)]
  · split
    · rw [if_neg (by omega)]
    · rw [if_pos (by omega)]
theorem x_ltr {x : Int} (hx : 0 ≤ x ∧ x ≤ 255) : fX2_isLetter (sb x) = if 97 ≤ x ∧ x ≤ 122 then 1 else 0 := by
  have h := sb_in (a := 97) (b := 122) hx (by decide) (by decide)
  have e : fX2_isLetter (sb x) = if 97 ≤ sb x ∧ sb x ≤ 122 then 1 else 0 := ltr_eq (sb x)
  rw [e]
  by_cases y : 97 ≤ x ∧ x ≤ 122
  · rw [if_pos y, if_pos (h.mpr y)]
  · rw [if_neg y, if_neg (fun z => y (h.mp z))]
theorem x_dgt {x : Int} (hx : 0 ≤ x ∧ x ≤ 255) : fX2_isDigit (sb x) = if 48 ≤ x ∧ x ≤ 57 then 1 else 0 := by
  have h := sb_in (a := 48) (b := 57) hx (by decide) (by decide)
  have e : fX2_isDigit (sb x) = if 48 ≤ sb x ∧ sb x ≤ 57 then 1 else 0 := dgt_eq (sb x)
  rw [e]
  by_cases y : 48 ≤ x ∧ x ≤ 57
  · rw [if_pos y, if_pos (h.mpr y)]
  · rw [if_neg y, if_neg (fun z => y (h.mp z))]
theorem x_blk {x : Int} (hx : 0 ≤ x ∧ x ≤ 255) : fX2_isBlank (sb x) = if x = 10 ∨ x = 32 then 1 else 0 := by
  have h1 := sb_eq (y := 10) hx (by decide)
  have h2 := sb_eq (y := 32) hx (by decide)
  unfold fX2_isBlank
  by_cases y1 : x = 10
  · rw [if_pos (h1.mpr y1), if_pos (Or.inl y1)]
  · rw [if_neg (fun z => y1 (h1.mp z))]
    by_cases y2 : x = 32
    · rw [if_neg (dnn (h2.mpr y2)), if_pos (Or.inr y2)]
    · rw [if_pos (fun z => y2 (h2.mp z)), if_neg (fun z => z.elim y1 y2)]
