/-! ===== text: words ===== -/
def wkL : List Int := [20332179, 525413, 12885268, 20579924, 21484648, 5925, 21231, 116801202, 448116, 52, 16110, 628108, 526062, 66667, 763276, 140467, 5851634]
def wk (l : Nat) : Int := wkL.getD l 0
def pick : List Int → Int → Int → Int
  | [], _, _ => 99
  | k :: ks, n, v => if v ≠ k then pick ks (n + 1) v else n
theorem pick_ge : ∀ (ks : List Int) (n v : Int), n ≤ 99 → n + ks.length ≤ 99 → n ≤ pick ks n v := by
  intro ks
  induction ks with
  | nil => intro n v h _; exact h
  | cons k ks ih =>
    intro n v h1 h2
    rw [List.length_cons] at h2
    have h3 := ih (n + 1) v (by omega) (by omega)
    show n ≤ if v ≠ k then pick ks (n + 1) v else n
    split <;> omega
theorem pick_iff : ∀ (ks : List Int) (n v : Int) (l : Nat), l < ks.length → (∀ j, j < l → ks.getD j 0 ≠ ks.getD l 0) → n + ks.length ≤ 99 → (pick ks n v = n + (l : Int) ↔ v = ks.getD l 0) := by
  intro ks
  induction ks with
  | nil => intro n v l h; exact absurd h (Nat.not_lt_zero _)
  | cons k ks ih =>
    intro n v l h1 h2 h3
    rw [List.length_cons] at h1 h3
    have hd : pick (k :: ks) n v = if v ≠ k then pick ks (n + 1) v else n := rfl
    rw [hd]
    cases l with
    | zero =>
      show _ ↔ v = k
      by_cases y : v = k
      · rw [if_neg (dnn y)]; exact ⟨fun _ => y, fun _ => by omega⟩
      · rw [if_pos y]
        have := pick_ge ks (n + 1) v (by omega) (by omega)
        exact ⟨fun z => by omega, fun z => absurd z y⟩
    | succ l =>
      have e : (k :: ks).getD (l + 1) 0 = ks.getD l 0 := rfl
      rw [e]
      by_cases y : v = k
      · rw [if_neg (dnn y)]
        have h0 := h2 0 (by omega)
        rw [e] at h0
        exact ⟨fun z => by omega, fun z => absurd (y.symm.trans z) h0⟩
      · rw [if_pos y]
        have := ih (n + 1) v l (by omega) (fun j hj => by have := h2 (j + 1) (by omega); rw [e] at this; exact this) (by omega)
        rw [show n + ((l + 1 : Nat) : Int) = n + 1 + (l : Int) by omega]
        exact this
theorem pick_in : ∀ (ks : List Int) (n v : Int), pick ks n v = 99 ∨ (n ≤ pick ks n v ∧ pick ks n v < n + ks.length) := by
  intro ks
  induction ks with
  | nil => intro n v; exact Or.inl rfl
  | cons k ks ih =>
    intro n v
    rw [List.length_cons]
    have hd : pick (k :: ks) n v = if v ≠ k then pick ks (n + 1) v else n := rfl
    rw [hd]
    have h3 := ih (n + 1) v
    split
    · rcases h3 with h3 | h3
      · exact Or.inl h3
      · right; omega
    · right; omega
theorem wordOf_p (v : Int) : fX10_wordOf v = pick wkL 1 v := by
  have c0 : fX10_six 0 19 12 15 20 19 = 20332179 := by decide +kernel
  have c1 : fX10_six 0 0 16 1 3 5 = 525413 := by decide +kernel
  have c2 : fX10_six 0 12 9 7 8 20 = 12885268 := by decide +kernel
  have c3 : fX10_six 0 19 20 1 18 20 = 20579924 := by decide +kernel
  have c4 : fX10_six 0 20 15 21 3 8 = 21484648 := by decide +kernel
  have c5 : fX10_three 5 25 5 = 5925 := by decide +kernel
  have c6 : fX10_three 20 23 15 = 21231 := by decide +kernel
  have c7 : fX10_six 3 15 12 15 21 18 = 116801202 := by decide +kernel
  have c8 : fX10_six 0 0 13 21 19 20 = 448116 := by decide +kernel
  have c10 : fX10_three 15 23 14 = 16110 := by decide +kernel
  have c11 : fX10_six 0 0 19 5 12 12 = 628108 := by decide +kernel
  have c12 : fX10_six 0 0 16 1 23 14 = 526062 := by decide +kernel
  have c13 : fX10_six 0 0 2 1 3 11 = 66667 := by decide +kernel
  have c14 : fX10_six 0 0 23 9 12 12 = 763276 := by decide +kernel
  have c15 : fX10_six 0 0 4 9 5 19 = 140467 := by decide +kernel
  have c16 : fX10_six 0 5 18 18 15 18 = 5851634 := by decide +kernel
  unfold fX10_wordOf
  rw [c0, c1, c2, c3, c4, c5, c6, c7, c8, c10, c11, c12, c13, c14, c15, c16]
  rfl
theorem wordOf_iff (v : Int) {l : Nat} (hl : l < 17) : fX10_wordOf v = (l : Int) + 1 ↔ v = wk l := by
  have hn : ((List.range 17).all fun l => (List.range l).all fun j => decide (wkL.getD j 0 ≠ wkL.getD l 0)) = true := by decide +kernel
  have h1 := List.all_eq_true.mp hn l (List.mem_range.mpr hl)
  have h2 := pick_iff wkL 1 v l hl (fun j hj => of_decide_eq_true (List.all_eq_true.mp h1 j (List.mem_range.mpr hj))) (by decide)
  rw [wordOf_p, Int.add_comm]
  exact h2
theorem wordOf_in (v : Int) : fX10_wordOf v = 99 ∨ (1 ≤ fX10_wordOf v ∧ fX10_wordOf v ≤ 17) := by
  rw [wordOf_p]
  rcases pick_in wkL 1 v with h | h
  · exact Or.inl h
  · right
    have e : ((wkL.length : Nat) : Int) = 17 := rfl
    omega
/-- the class's words -/
theorem wd_sp {l : Nat} (hl : l < 17) : (0 ≤ slen (1000 + l) ∧ (slen (1000 + l)).toNat ≤ 6) ∧ wv (fun i => sch (1000 + l) (i : Nat) - 96) (slen (1000 + l)).toNat = wk l ∧ ∀ i, i < (slen (1000 + l)).toNat → 97 ≤ sch (1000 + l) (i : Nat) ∧ sch (1000 + l) (i : Nat) ≤ 122 := by
  have h : ((List.range 17).all fun l => decide (0 ≤ slen (1000 + l)) && (decide ((slen (1000 + l)).toNat ≤ 6) && (decide (wv (fun i => sch (1000 + l) (i : Nat) - 96) (slen (1000 + l)).toNat = wk l) && (List.range (slen (1000 + l)).toNat).all fun i => decide (97 ≤ sch (1000 + l) (i : Nat)) && decide (sch (1000 + l) (i : Nat) ≤ 122)))) = true := by decide +kernel
  have h1 := List.all_eq_true.mp h l (List.mem_range.mpr hl)
  simp only [Bool.and_eq_true, decide_eq_true_eq] at h1
  obtain ⟨a, b, c, d⟩ := h1
  refine ⟨⟨a, b⟩, c, fun i hi => ?_⟩
  have := List.all_eq_true.mp d i (List.mem_range.mpr hi)
  simp only [Bool.and_eq_true, decide_eq_true_eq] at this
  exact this
theorem wordOf_l {l : Nat} (hl : l < 17) : fX2_wordOf (l : Int) = 1000 + l := by
  have h : ((List.range 17).all fun l => decide (fX2_wordOf ((l : Nat) : Int) = 1000 + l)) = true := by decide +kernel
  exact of_decide_eq_true (List.all_eq_true.mp h l (List.mem_range.mpr hl))
section TW
variable {A : Nat → Int} {G : Mem} {p s : Nat}
theorem tKd1 (h : tKd A s = 1) : bLt (byA A s) = true := by
  unfold tKd at h
  by_cases h0 : byA A s < 0
  · rw [if_pos h0] at h; omega
  · rw [if_neg h0] at h
    by_cases h1 : bLt (byA A s) = true
    · exact h1
    · rw [if_neg h1] at h
      by_cases h2 : bDg (byA A s) = true
      · rw [if_pos h2] at h; split at h <;> omega
      · rw [if_neg h2] at h; split at h <;> omega
theorem tW_in : tW A s = 99 ∨ (1 ≤ tW A s ∧ tW A s ≤ 17) := by
  unfold tW
  split
  · exact wordOf_in _
  · exact Or.inl rfl
theorem tW_iff (hA : TA A) (hs : s ≤ tN A) (hk : tKd A s = 1) {l : Nat} (hl : l < 17) : tW A s = (l : Int) + 1 ↔ (tE A s - s = (slen (1000 + l)).toNat ∧ ∀ i, i < (slen (1000 + l)).toNat → byA A (s + i) = sch (1000 + l) (i : Nat)) := by
  obtain ⟨a, b, c, d⟩ := tE_lt hA hs (tKd1 hk)
  obtain ⟨⟨w1, w2⟩, w3, w4⟩ := wd_sp hl
  have hc : ∀ i, i < tE A s - s → 1 ≤ byA A (s + i) - 96 ∧ byA A (s + i) - 96 ≤ 26 := fun i hi => by
    have := bLt_i.mp (c (s + i) (by omega) (by omega))
    omega
  unfold tW
  by_cases y : tE A s ≤ s + 6
  · rw [if_pos y, wordOf_iff _ hl, ← w3]
    refine ⟨fun z => ?_, fun ⟨z1, z2⟩ => ?_⟩
    · obtain ⟨e1, e2⟩ := wv_uniq _ _ hc (fun i hi => by have := w4 i hi; omega) z
      refine ⟨e1, fun i hi => ?_⟩
      have := e2 i (by omega)
      omega
    · rw [z1]
      have cg : ∀ n, (∀ i, i < n → byA A (s + i) = sch (1000 + l) (i : Nat)) → wv (fun i => byA A (s + i) - 96) n = wv (fun i => sch (1000 + l) (i : Nat) - 96) n := by
        intro n
        induction n with
        | zero => intro _; rfl
        | succ n ih =>
          intro h
          show 32 * wv _ n + (byA A (s + n) - 96) = 32 * wv _ n + (sch (1000 + l) (n : Nat) - 96)
          rw [ih (fun i hi => h i (by omega)), h n (by omega)]
      exact cg _ z2
  · rw [if_neg y]
    refine ⟨fun z => by omega, fun ⟨z1, _⟩ => by omega⟩
theorem x_b28 (hA : TA A) (hX : XM A G) (t3 : G 35 3 = (s : Int)) {X L : Nat} (hX0 : X ≠ 0) (sl : slen X = (L : Int)) (hL : s + L ≤ tN A) (hlt : ∀ k, k < L → 97 ≤ byA A (s + k) ∧ byA A (s + k) ≤ 122) : (fX2_isAtHand_b28 G FU 35 X 0 = some 1 ∧ ∀ i, i < L → byA A (s + i) = sch X (i : Nat)) ∨ (fX2_isAtHand_b28 G FU 35 X 0 = some 0 ∧ ∃ i, i < L ∧ byA A (s + i) ≠ sch X (i : Nat)) := by
  have l6 := tN_le hA
  refine lp (fun n k (_ : Unit) => fX2_isAtHand_b28 G n 35 X (k : Int)) L (fun k _ => ∀ i, i < k → byA A (s + i) = sch X (i : Nat)) (fun r => (r = some 1 ∧ ∀ i, i < L → byA A (s + i) = sch X (i : Nat)) ∨ (r = some 0 ∧ ∃ i, i < L ∧ byA A (s + i) ≠ sch X (i : Nat))) ?_ ?_ FU 0 () (by omega) (fun i hi => absurd hi (by omega)) (FUa (by omega))
  · intro n k _ hkL hi
    have h1 := hlt k hkL
    have hk2 : s + k < tN A := by omega
    have sbk : sb (byA A (s + k)) = byA A (s + k) := by unfold sb; rw [if_pos (by omega)]
    have ex : xw ((s : Int) + (k : Int)) = ((s + k : Nat) : Int) := by rw [xwn (by omega) (by omega)]; rfl
    have bt : (0 : Int) ≤ ((s + k : Nat) : Int) ∧ ((s + k : Nat) : Int) < ((600 : Nat) : Int) := by omega
    have bk : (0 : Int) ≤ (k : Int) ∧ (k : Int) < (L : Int) := by omega
    have bk2 : ¬ (L : Int) ≤ (k : Int) := by omega
    have xk : xw ((k : Int) + 1) = ((k + 1 : Nat) : Int) := xwS (by omega)
    have E : fX2_isAtHand_b28 G (n + 1) 35 X (k : Int) = if byA A (s + k) = sch X (k : Nat) then fX2_isAtHand_b28 G n 35 X ((k + 1 : Nat) : Int) else some 0 := by
      rw [fX2_isAtHand_b28, if_neg hX0, sl, if_neg bk2, hX.1, n3, if_neg n30, t3, ex, al3, if_pos bt, if_neg hX0, if_pos bk, Int.toNat_natCast, x_byte hA hX hk2, sbk, xk]
    by_cases q : byA A (s + k) = sch X (k : Nat)
    · left
      refine ⟨(), fun i h2 => ?_, ?_⟩
      · by_cases w : i = k
        · rw [w]; exact q
        · exact hi i (by omega)
      · show fX2_isAtHand_b28 G (n + 1) 35 X (k : Int) = _
        rw [E, if_pos q]
    · right
      right
      refine ⟨?_, k, hkL, q⟩
      show fX2_isAtHand_b28 G (n + 1) 35 X (k : Int) = _
      rw [E, if_neg q]
  · intro n _ hi
    left
    refine ⟨?_, hi⟩
    show fX2_isAtHand_b28 G (n + 1) 35 X (L : Int) = _
    rw [fX2_isAtHand_b28, if_neg hX0, sl, if_pos (Int.le_refl _)]
theorem x_atHandX (hA : TA A) (hX : XM A G) (hT : XT A s G) (hs : s ≤ tN A) (hk : tKd A s = 1) {X L : Nat} (hX0 : X ≠ 0) (sl : slen X = (L : Int)) : (fX2_isAtHand 35 X G = some 1 ∧ (tE A s - s = L ∧ ∀ i, i < L → byA A (s + i) = sch X (i : Nat))) ∨ (fX2_isAtHand 35 X G = some 0 ∧ ¬ (tE A s - s = L ∧ ∀ i, i < L → byA A (s + i) = sch X (i : Nat))) := by
  obtain ⟨t3, t4, t2, -⟩ := hT
  have l6 := tN_le hA
  obtain ⟨a, b, c, d⟩ := tE_lt hA hs (tKd1 hk)
  unfold fX2_isAtHand
  rw [t2, if_neg (dnn hk), if_neg hX0, t3, t4, xwn (x := ((tE A s : Nat) : Int) - (s : Int)) (by omega) (by omega), sl]
  by_cases y : tE A s - s = L
  · rw [if_pos (by omega)]
    rcases x_b28 hA hX t3 hX0 sl (by omega) (fun k hk => bLt_i.mp (c (s + k) (by omega) (by omega))) with ⟨r1, r2⟩ | ⟨r1, i, r2, r3⟩
    · exact Or.inl ⟨r1, y, r2⟩
    · exact Or.inr ⟨r1, fun z => r3 (z.2 i r2)⟩
  · rw [if_neg (by omega)]
    exact Or.inr ⟨rfl, fun z => y z.1⟩
theorem x_atHand (hA : TA A) (hX : XM A G) (hT : XT A s G) (hs : s ≤ tN A) {l : Nat} (hl : l < 17) : (fX2_isAtHand 35 (1000 + l) G = some 1 ∧ tKd A s = 1 ∧ tW A s = (l : Int) + 1) ∨ (fX2_isAtHand 35 (1000 + l) G = some 0 ∧ ¬ (tKd A s = 1 ∧ tW A s = (l : Int) + 1)) := by
  by_cases hk : tKd A s = 1
  · have ti := tW_iff hA hs hk hl
    have hX0 : 1000 + l ≠ 0 := by omega
    have sl : slen (1000 + l) = (((slen (1000 + l)).toNat : Nat) : Int) := (Int.toNat_of_nonneg (wd_sp hl).1.1).symm
    rcases x_atHandX hA hX hT hs hk hX0 sl with ⟨r1, r2⟩ | ⟨r1, r2⟩
    · exact Or.inl ⟨r1, hk, ti.mpr r2⟩
    · exact Or.inr ⟨r1, fun z => r2 (ti.mp z.2)⟩
  · right
    refine ⟨?_, fun z => hk z.1⟩
    unfold fX2_isAtHand
    rw [hT.2.2.1, if_pos hk]
/-- which line a word begins -/
theorem x_lineAt (hA : TA A) (hX : XM A G) (hT : XT A s G) (hs : s ≤ tN A) (st : Int) : fX2_lineAtHand 35 st G = some (if tKd A s = 1 ∧ tW A s ≤ 17 ∧ fX2_sortOf (tW A s - 1) = st then tW A s - 1 else -1) := by
  unfold fX2_lineAtHand
  refine lp (fun n k (_ : Unit) => fX2_lineAtHand_b2 G n 35 st (k : Int)) 17 (fun k _ => ∀ l : Nat, l < k → fX2_sortOf (l : Int) = st → ¬ (tKd A s = 1 ∧ tW A s = (l : Int) + 1)) (fun r => r = some (if tKd A s = 1 ∧ tW A s ≤ 17 ∧ fX2_sortOf (tW A s - 1) = st then tW A s - 1 else -1)) ?_ ?_ FU 0 () (by omega) (fun i hi => absurd hi (by omega)) (FUa (by omega))
  · intro n k _ hk hi
    by_cases y : fX2_sortOf (k : Int) = st
    · have E : fX2_lineAtHand_b2 G (n + 1) 35 st (k : Int) = (fX2_isAtHand 35 (1000 + k) G).bind fun r3 => if r3 = 0 then fX2_lineAtHand_b2 G n 35 st ((k + 1 : Nat) : Int) else some (k : Int) := by
        rw [fX2_lineAtHand_b2, if_neg (by omega), if_neg (dnn y), wordOf_l hk, xwS (by omega)]
      rcases x_atHand hA hX hT hs hk with ⟨r1, r2, r3⟩ | ⟨r1, r2⟩
      · right
        show fX2_lineAtHand_b2 G (n + 1) 35 st (k : Int) = _
        have e1 : tW A s - 1 = (k : Int) := by omega
        rw [E, r1, Option.bind_some, e10, if_pos ⟨r2, by omega, by rw [e1]; exact y⟩, e1]
      · left
        refine ⟨(), fun l h1 h2 => ?_, ?_⟩
        · by_cases w : l = k
          · rw [w]; exact r2
          · exact hi l (by omega) h2
        · show fX2_lineAtHand_b2 G (n + 1) 35 st (k : Int) = _
          rw [E, r1, Option.bind_some, e00]
    · left
      refine ⟨(), fun l h1 h2 => ?_, ?_⟩
      · by_cases w : l = k
        · rw [w] at h2; exact absurd h2 y
        · exact hi l (by omega) h2
      · show fX2_lineAtHand_b2 G (n + 1) 35 st (k : Int) = fX2_lineAtHand_b2 G n 35 st ((k + 1 : Nat) : Int)
        rw [fX2_lineAtHand_b2, if_neg (by omega), if_pos y, xwS (by omega)]
  · intro n _ hi
    show fX2_lineAtHand_b2 G (n + 1) 35 st ((17 : Nat) : Int) = _
    rw [fX2_lineAtHand_b2, if_pos (by omega), if_neg]
    rintro ⟨z1, z2, z3⟩
    have := tW_in (A := A) (s := s)
    have e : (((tW A s - 1).toNat : Nat) : Int) = tW A s - 1 := by omega
    exact hi (tW A s - 1).toNat (by omega) (by rw [e]; exact z3) ⟨z1, by omega⟩
end TW
