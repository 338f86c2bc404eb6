/-! ===== text: line after line ===== -/
noncomputable def mLine (st : Nat) (H : Mem) : Option Mem := if st = 0 then fX10_valleyLine 173 H else if st = 1 then fX10_roundLine 173 H else if st = 2 then fX10_ledgerLine 173 H else fX10_listLine 173 H
def KP (st : Nat) (f : Int) (G H : Mem) : Prop := (st = 0 → VB (H 176) ∧ (f = 0 → VR (H 176) G 37) ∧ G 40 3 ≤ 6) ∧ (st = 1 → RO (H 176) ∧ (f = 0 → SR 3 16 (H 176) G 42)) ∧ (st = 2 → LO (H 176) ∧ (f = 0 → SR 6 30 (H 176) G 44)) ∧ (st = 3 → EO (H 176) ∧ (f = 0 → SR 2 20 (H 176) G 46))
section TP
variable {A : Nat → Int} {R : RST} {G H : Mem} {st : Nat}
theorem j_line (hA : TA A) (hst : st < 4) (hJ : JX A R G H) (hK : KP st R.2.2.1 G H) (w : R.2.1 = 0) (k0 : tKd A R.1 ≠ 0) : ∃ R' G' H', fX2_readLine 35 (st : Int) G = some G' ∧ mLine st H = some H' ∧ JX A R' G' H' ∧ KP st R'.2.2.1 G' H' ∧ kXt G G' ∧ kM6 H H' ∧ (R'.2.1 = 0 → R.1 < R'.1) := by
  obtain ⟨h0, h1, h2, h3⟩ := hK
  obtain rfl | rfl | rfl | rfl : st = 0 ∨ st = 1 ∨ st = 2 ∨ st = 3 := by omega
  · obtain ⟨a, b, c⟩ := h0 rfl
    obtain ⟨R', G', H', r1, r2, r3, r4, r5, r6, r7, r8, r9⟩ := j_valley hA hJ a b c w
    exact ⟨R', G', H', r1, r2, r3, ⟨fun _ => ⟨r4, r5, r6⟩, fun z => absurd z (by decide), fun z => absurd z (by decide), fun z => absurd z (by decide)⟩, r7, r8, r9⟩
  · obtain ⟨a, b⟩ := h1 rfl
    obtain ⟨R', G', H', r1, r2, r3, r4, r5, r7, r8, r9⟩ := j_round hA hJ a b w k0
    exact ⟨R', G', H', r1, r2, r3, ⟨fun z => absurd z (by decide), fun _ => ⟨r4, r5⟩, fun z => absurd z (by decide), fun z => absurd z (by decide)⟩, r7, r8, r9⟩
  · obtain ⟨a, b⟩ := h2 rfl
    obtain ⟨R', G', H', r1, r2, r3, r4, r5, r7, r8, r9⟩ := j_ledger hA hJ a b w k0
    exact ⟨R', G', H', r1, r2, r3, ⟨fun z => absurd z (by decide), fun z => absurd z (by decide), fun _ => ⟨r4, r5⟩, fun z => absurd z (by decide)⟩, r7, r8, r9⟩
  · obtain ⟨a, b⟩ := h3 rfl
    obtain ⟨R', G', H', r1, r2, r3, r4, r5, r7, r8, r9⟩ := j_list hA hJ a b w k0
    exact ⟨R', G', H', r1, r2, r3, ⟨fun z => absurd z (by decide), fun z => absurd z (by decide), fun z => absurd z (by decide), fun _ => ⟨r4, r5⟩⟩, r7, r8, r9⟩
theorem x_b61_end (hJ : JX A R G H) {x : Int} {n : Nat} (h : R.2.1 ≠ 0 ∨ tKd A R.1 = 0) : fX2_read_b61 (n + 1) 35 (st : Int) x G = fX2_read_b95 35 (st : Int) G := by
  obtain ⟨hX, -, hI⟩ := hJ
  rw [fX2_read_b61, hX.2.1.2.2.1, hX.2.2.1]
  by_cases q : 600 < x
  · rw [if_pos q]
  · rw [if_neg q]
    by_cases k : tKd A R.1 = 0
    · rw [if_pos k]
    · rw [if_neg k, if_pos (hI.2.2 (h.resolve_right k))]
theorem m_b147_end (hJ : JX A R G H) {y : Int} {n : Nat} (h : R.2.1 ≠ 0 ∨ tKd A R.1 = 0) : fX10_text_b147 (n + 1) 173 (st : Int) y H = fX10_text_b203 173 (st : Int) y H := by
  obtain ⟨-, hM, hI⟩ := hJ
  rw [fX10_text_b147, hM.2.2.1, hM.2.1.2.2.1]
  by_cases q : R.2.1 ≠ 0
  · rw [if_pos q]
  · rw [if_neg q, if_pos (rk0.mpr (h.resolve_left q))]
theorem m_b147_step (hst : st < 4) (hJ : JX A R G H) {y : Int} {n : Nat} (w : R.2.1 = 0) (k0 : tKd A R.1 ≠ 0) : fX10_text_b147 (n + 1) 173 (st : Int) y H = (mLine st H).bind fun q => fX10_text_b147 n 173 (st : Int) y q := by
  obtain ⟨-, hM, hI⟩ := hJ
  rw [fX10_text_b147, hM.2.2.1, hM.2.1.2.2.1, if_neg (dnn w), if_neg (fun z => k0 (rk0.mp z))]
  unfold mLine
  obtain rfl | rfl | rfl | rfl : st = 0 ∨ st = 1 ∨ st = 2 ∨ st = 3 := by omega
  all_goals rfl
theorem j_loop (hA : TA A) (hst : st < 4) {y : Int} : ∀ (d : Nat) (R : RST) (G H : Mem) (x : Nat) (n1 n2 : Nat), JX A R G H → KP st R.2.2.1 G H → (R.2.1 = 0 → x ≤ R.1) → tN A ≤ R.1 + d → d + 2 ≤ n1 → d + 2 ≤ n2 →
    ∃ R' G' H', fX2_read_b61 n1 35 (st : Int) (x : Int) G = fX2_read_b95 35 (st : Int) G' ∧ fX10_text_b147 n2 173 (st : Int) y H = fX10_text_b203 173 (st : Int) y H' ∧ JX A R' G' H' ∧ KP st R'.2.2.1 G' H' ∧ kXt G G' ∧ kM6 H H' := by
  intro d
  have l6 := tN_le hA
  induction d with
  | zero =>
    intro R G H x n1 n2 hJ hK hx hd h1 h2
    obtain ⟨n1, rfl⟩ : ∃ n, n1 = n + 1 := ⟨n1 - 1, by omega⟩
    obtain ⟨n2, rfl⟩ : ∃ n, n2 = n + 1 := ⟨n2 - 1, by omega⟩
    have he : R.2.1 ≠ 0 ∨ tKd A R.1 = 0 := Or.inr ((tKd0 hA hJ.2.2.1).mpr (by have := hJ.2.2.1; omega))
    exact ⟨R, G, H, x_b61_end hJ he, m_b147_end hJ he, hJ, hK, fun _ _ _ => rfl, fun _ _ _ _ _ => rfl⟩
  | succ d ih =>
    intro R G H x n1 n2 hJ hK hx hd h1 h2
    obtain ⟨n1, rfl⟩ : ∃ n, n1 = n + 1 := ⟨n1 - 1, by omega⟩
    obtain ⟨n2, rfl⟩ : ∃ n, n2 = n + 1 := ⟨n2 - 1, by omega⟩
    by_cases he : R.2.1 ≠ 0 ∨ tKd A R.1 = 0
    · exact ⟨R, G, H, x_b61_end hJ he, m_b147_end hJ he, hJ, hK, fun _ _ _ => rfl, fun _ _ _ _ _ => rfl⟩
    · have w : R.2.1 = 0 := by
        by_cases y : R.2.1 = 0
        · exact y
        · exact absurd (Or.inl y) he
      have k0 : tKd A R.1 ≠ 0 := fun z => he (Or.inr z)
      obtain ⟨R', G', H', r1, r2, r3, r4, r5, r6, r7⟩ := j_line hA hst hJ hK w k0
      have hx1 := hx w
      have hs := hJ.2.2.1
      have e1 : fX2_read_b61 (n1 + 1) 35 (st : Int) (x : Int) G = fX2_read_b61 n1 35 (st : Int) ((x + 1 : Nat) : Int) G' := by
        rw [fX2_read_b61, if_neg (by omega), hJ.1.2.1.2.2.1, if_neg k0, hJ.1.2.2.1, if_neg (hJ.2.2.2.1 w).1, r1, Option.bind_some, xwS (by omega)]
      have e2 : fX10_text_b147 (n2 + 1) 173 (st : Int) y H = fX10_text_b147 n2 173 (st : Int) y H' := by
        rw [m_b147_step hst hJ w k0, r2, Option.bind_some]
      rw [e1, e2]
      by_cases w' : R'.2.1 = 0
      · have h7 := r7 w'
        obtain ⟨R2, G2, H2, s1, s2, s3, s4, s5, s6⟩ := ih R' G' H' (x + 1) n1 n2 r3 r4 (fun _ => by omega) (by omega) (by omega) (by omega)
        exact ⟨R2, G2, H2, s1, s2, s3, s4, r5.tr s5, r6.tr s6⟩
      · obtain ⟨n1, rfl⟩ : ∃ n, n1 = n + 1 := ⟨n1 - 1, by omega⟩
        obtain ⟨n2, rfl⟩ : ∃ n, n2 = n + 1 := ⟨n2 - 1, by omega⟩
        exact ⟨R', G', H', x_b61_end r3 (Or.inl w'), m_b147_end r3 (Or.inl w'), r3, r4, r5, r6⟩
/-! a valley's end -/
def STN (v : Nat → Int) : Prop := v 4 < v 5 ∧ ∀ k : Nat, (k : Int) < v 6 → v (40 + 3 * k) < v 5 ∧ v (40 + 3 * k + 2) ≤ v 0
theorem x_stands0 (hG : G 40 3 ≤ 6) : ∃ r, fX7_stands 37 G = some r := by
  unfold fX7_stands
  have hh : ∀ x, fX7_hasHouse 37 x G = 0 ∨ fX7_hasHouse 37 x G = 1 := fun x => by
    unfold fX7_hasHouse
    split
    · exact Or.inl rfl
    · split
      · exact Or.inl rfl
      · exact Or.inr rfl
  refine lp (fun n k (_ : Unit) => fX7_stands_b2 G n 37 (k : Int)) 6 (fun k _ => True) (fun r => ∃ z, r = some z) ?_ ?_ FU 0 () (by omega) trivial (FUa (by omega))
  · intro n k _ hk _
    by_cases y : G (37 + 3) 3 ≤ (k : Int)
    · right
      show ∃ z, fX7_stands_b2 G (n + 1) 37 (k : Int) = some z
      rw [fX7_stands_b2, if_pos y, if_pos (hh _)]
      exact ⟨_, rfl⟩
    · have y2 : ¬ G 40 3 ≤ (k : Int) := y
      have c0 : fX3_cell (37 + 3) (k : Int) 0 G = some (G 41 (3 * k + 0)) := cell_eq (o := 40) (k := k) (i := 0) (w := 3) (n := 18) rfl rfl rfl rfl (by omega) (by omega) (by omega) (by omega)
      have c2 : fX3_cell (37 + 3) (k : Int) 2 G = some (G 41 (3 * k + 2)) := cell_eq (o := 40) (k := k) (i := 2) (w := 3) (n := 18) rfl rfl rfl rfl (by omega) (by omega) (by omega) (by omega)
      have E : fX7_stands_b2 G (n + 1) 37 (k : Int) = if fX7_hasHouse 37 (G 41 (3 * k + 0)) G = 0 then some 0 else if G 41 (3 * k + 2) ≤ G 37 0 then fX7_stands_b2 G n 37 ((k + 1 : Nat) : Int) else some 0 := by
        rw [fX7_stands_b2, if_neg y, c0, Option.bind_some, c2, Option.bind_some, xwS (by omega)]
      by_cases q : fX7_hasHouse 37 (G 41 (3 * k + 0)) G = 0
      · right
        show ∃ z, fX7_stands_b2 G (n + 1) 37 (k : Int) = some z
        rw [E, if_pos q]
        exact ⟨_, rfl⟩
      · by_cases q2 : G 41 (3 * k + 2) ≤ G 37 0
        · left
          refine ⟨(), trivial, ?_⟩
          show fX7_stands_b2 G (n + 1) 37 (k : Int) = _
          rw [E, if_neg q, if_pos q2]
        · right
          show ∃ z, fX7_stands_b2 G (n + 1) 37 (k : Int) = some z
          rw [E, if_neg q, if_neg q2]
          exact ⟨_, rfl⟩
  · intro n _ _
    show ∃ z, fX7_stands_b2 G (n + 1) 37 ((6 : Nat) : Int) = some z
    rw [fX7_stands_b2, if_pos (show G (37 + 3) 3 ≤ ((6 : Nat) : Int) from hG), if_pos (hh _)]
    exact ⟨_, rfl⟩
theorem x_stands1 {v : Nat → Int} (hV : VR v G 37) (hB : VB v) : (fX7_stands 37 G = some 1 ∧ STN v) ∨ (fX7_stands 37 G = some 0 ∧ ¬ STN v) := by
  obtain ⟨-, -, -, b4, b5, b6, -, b8⟩ := hB
  obtain ⟨N, hN⟩ := nat_of b6.1
  have g3 : G (37 + 3) 3 = (N : Int) := hV.2.2.2.1.trans hN
  have g0 : G 37 0 = v 0 := hV.2.1.1
  have g4 : G 37 4 = v 4 := hV.2.1.2.2.2.2
  have c0 : ∀ k, k < N → fX3_cell (37 + 3) (k : Int) 0 G = some (v (40 + 3 * k)) := fun k hk => by
    have := cell_eq (o := 40) (F := G) (x := (k : Int)) (y := 0) (k := k) (i := 0) (w := 3) (n := 18) rfl rfl rfl rfl (by rw [show G 40 3 = (N : Int) from g3]; omega) (by omega) (by omega) (by omega)
    rw [show G (40 + 1) (3 * k + 0) = v (40 + 3 * k + 0) from hV.2.2.2.2.2 k 0 (by omega) (by omega)] at this
    exact this
  have c2 : ∀ k, k < N → fX3_cell (37 + 3) (k : Int) 2 G = some (v (40 + 3 * k + 2)) := fun k hk => by
    have := cell_eq (o := 40) (F := G) (x := (k : Int)) (y := 2) (k := k) (i := 2) (w := 3) (n := 18) rfl rfl rfl rfl (by rw [show G 40 3 = (N : Int) from g3]; omega) (by omega) (by omega) (by omega)
    rw [show G (40 + 1) (3 * k + 2) = v (40 + 3 * k + 2) from hV.2.2.2.2.2 k 2 (by omega) (by omega)] at this
    exact this
  unfold fX7_stands
  refine lp (fun n k (_ : Unit) => fX7_stands_b2 G n 37 (k : Int)) N (fun k _ => ∀ j : Nat, j < k → v (40 + 3 * j) < v 5 ∧ v (40 + 3 * j + 2) ≤ v 0) (fun r => (r = some 1 ∧ STN v) ∨ (r = some 0 ∧ ¬ STN v)) ?_ ?_ FU 0 () (by omega) (fun j hj => absurd hj (by omega)) (FUa (by omega))
  · intro n k _ hk hi
    have hb := (b8 k (by omega)).1
    have E : fX7_stands_b2 G (n + 1) 37 (k : Int) = if v (40 + 3 * k) < v 5 then (if v (40 + 3 * k + 2) ≤ v 0 then fX7_stands_b2 G n 37 ((k + 1 : Nat) : Int) else some 0) else some 0 := by
      rw [fX7_stands_b2, g3, if_neg (by omega), c0 k hk, Option.bind_some, v_has hV, c2 k hk, Option.bind_some, g0, xwS (by omega), i10]
      by_cases q : v (40 + 3 * k) < v 5
      · rw [if_pos (by omega), if_pos q]
      · rw [if_neg (by omega), if_neg q]
    by_cases q : v (40 + 3 * k) < v 5
    · by_cases q2 : v (40 + 3 * k + 2) ≤ v 0
      · left
        refine ⟨(), fun j hj => ?_, ?_⟩
        · by_cases y : j = k
          · rw [y]; exact ⟨q, q2⟩
          · exact hi j (by omega)
        · show fX7_stands_b2 G (n + 1) 37 (k : Int) = _
          rw [E, if_pos q, if_pos q2]
      · right
        right
        refine ⟨?_, fun z => q2 (z.2 k (by omega)).2⟩
        show fX7_stands_b2 G (n + 1) 37 (k : Int) = _
        rw [E, if_pos q, if_neg q2]
    · right
      right
      refine ⟨?_, fun z => q (z.2 k (by omega)).1⟩
      show fX7_stands_b2 G (n + 1) 37 (k : Int) = _
      rw [E, if_neg q]
  · intro n _ hi
    have E : fX7_stands_b2 G (n + 1) 37 (N : Int) = some (if 0 ≤ v 4 ∧ v 4 < v 5 then 1 else 0) := by
      rw [fX7_stands_b2, g3, if_pos (Int.le_refl _), g4, v_has hV, if_pos b01]
    show (fX7_stands_b2 G (n + 1) 37 (N : Int) = some 1 ∧ STN v) ∨ (fX7_stands_b2 G (n + 1) 37 (N : Int) = some 0 ∧ ¬ STN v)
    rw [E]
    by_cases q : v 4 < v 5
    · rw [if_pos ⟨b4.1, q⟩]
      exact Or.inl ⟨rfl, q, fun k hk => hi k (by omega)⟩
    · rw [if_neg (fun z => q z.2)]
      exact Or.inr ⟨rfl, fun z => q z.1⟩
theorem m_isV (hB : VB (H 176)) : (fX10_isValley 173 H = some 1 ∧ STN (H 176)) ∨ (fX10_isValley 173 H = some 0 ∧ ¬ STN (H 176)) := by
  obtain ⟨-, -, -, b4, b5, b6, -, b8⟩ := hB
  obtain ⟨N, hN⟩ := nat_of b6.1
  have e176 : (173 + 3 : Nat) = 176 := rfl
  have b0 : (0 : Int) ≤ 0 ∧ (0 : Int) < ((200 : Nat) : Int) := by decide
  have bb5 : (0 : Int) ≤ 5 ∧ (5 : Int) < ((200 : Nat) : Int) := by decide
  have bb6 : (0 : Int) ≤ 6 ∧ (6 : Int) < ((200 : Nat) : Int) := by decide
  have loop : ∀ z : Int, ((z = 1 ∧ H 176 4 < H 176 5) ∨ (z = 0 ∧ ¬ H 176 4 < H 176 5)) → (fX10_isValley_b23 H FU 173 z 0 = some 1 ∧ STN (H 176)) ∨ (fX10_isValley_b23 H FU 173 z 0 = some 0 ∧ ¬ STN (H 176)) := by
    intro z hz
    refine lp (fun n k (x : Int) => fX10_isValley_b23 H n 173 x (k : Int)) N (fun k x => (x = 1 ∧ H 176 4 < H 176 5 ∧ ∀ j : Nat, j < k → H 176 (40 + 3 * j) < H 176 5 ∧ H 176 (40 + 3 * j + 2) ≤ H 176 0) ∨ (x = 0 ∧ ¬ STN (H 176))) (fun r => (r = some 1 ∧ STN (H 176)) ∨ (r = some 0 ∧ ¬ STN (H 176))) ?_ ?_ FU 0 z (by omega) ?_ (FUa (by omega))
    · intro n k x hk hi
      left
      have ex : xw (40 + xw (3 * (k : Int))) = ((40 + 3 * k : Nat) : Int) := by rw [xwn (x := 3 * (k : Int)) (by omega) (by omega), xwn (by omega) (by omega)]; omega
      have ex2 : xw (((40 + 3 * k : Nat) : Int) + 2) = ((40 + 3 * k + 2 : Nat) : Int) := by rw [xwn (by omega) (by omega)]; rfl
      have bk1 : (0 : Int) ≤ ((40 + 3 * k : Nat) : Int) ∧ ((40 + 3 * k : Nat) : Int) < ((200 : Nat) : Int) := by omega
      have bk2 : (0 : Int) ≤ ((40 + 3 * k + 2 : Nat) : Int) ∧ ((40 + 3 * k + 2 : Nat) : Int) < ((200 : Nat) : Int) := by omega
      have E0 : fX10_isValley_b23 H (n + 1) 173 0 (k : Int) = fX10_isValley_b23 H n 173 0 ((k + 1 : Nat) : Int) := by
        rw [fX10_isValley_b23, al176, if_pos bb6, e176, hN, if_neg (by omega), if_pos rfl, xwS (by omega)]
      have E1 : fX10_isValley_b23 H (n + 1) 173 1 (k : Int) = if H 176 5 ≤ H 176 (40 + 3 * k) then fX10_isValley_b23 H n 173 0 ((k + 1 : Nat) : Int) else if H 176 0 < H 176 (40 + 3 * k + 2) then fX10_isValley_b23 H n 173 0 ((k + 1 : Nat) : Int) else fX10_isValley_b23 H n 173 1 ((k + 1 : Nat) : Int) := by
        rw [fX10_isValley_b23, al176, if_pos bb6, e176, hN, if_neg (by omega), if_neg (by decide), ex, if_pos bk1, if_pos bb5, ex2, if_pos bk2, if_pos b0, Int.toNat_natCast, Int.toNat_natCast, xwS (by omega)]
      rcases hi with ⟨h1, h2, h3⟩ | ⟨h1, h2⟩
      · subst h1
        by_cases q : H 176 5 ≤ H 176 (40 + 3 * k)
        · refine ⟨0, Or.inr ⟨rfl, fun z => ?_⟩, ?_⟩
          · have := (z.2 k (by omega)).1; omega
          · show fX10_isValley_b23 H (n + 1) 173 1 (k : Int) = _
            rw [E1, if_pos q]
        · by_cases q2 : H 176 0 < H 176 (40 + 3 * k + 2)
          · refine ⟨0, Or.inr ⟨rfl, fun z => ?_⟩, ?_⟩
            · have := (z.2 k (by omega)).2; omega
            · show fX10_isValley_b23 H (n + 1) 173 1 (k : Int) = _
              rw [E1, if_neg q, if_pos q2]
          · refine ⟨1, Or.inl ⟨rfl, h2, fun j hj => ?_⟩, ?_⟩
            · by_cases y : j = k
              · rw [y]; omega
              · exact h3 j (by omega)
            · show fX10_isValley_b23 H (n + 1) 173 1 (k : Int) = _
              rw [E1, if_neg q, if_neg q2]
      · subst h1
        exact ⟨0, Or.inr ⟨rfl, h2⟩, E0⟩
    · intro n x hi
      have hx : x = 0 ∨ x = 1 := hi.elim (fun z => Or.inr z.1) (fun z => Or.inl z.1)
      have E : fX10_isValley_b23 H (n + 1) 173 x (N : Int) = some x := by
        rw [fX10_isValley_b23, al176, if_pos bb6, e176, hN, if_pos (Int.le_refl _), if_pos hx]
      show (fX10_isValley_b23 H (n + 1) 173 x (N : Int) = some 1 ∧ STN (H 176)) ∨ (fX10_isValley_b23 H (n + 1) 173 x (N : Int) = some 0 ∧ ¬ STN (H 176))
      rw [E]
      rcases hi with ⟨h1, h2, h3⟩ | ⟨h1, h2⟩
      · exact Or.inl ⟨by rw [h1], h2, fun k hk => h3 k (by omega)⟩
      · exact Or.inr ⟨by rw [h1], h2⟩
    · rcases hz with ⟨h1, h2⟩ | ⟨h1, h2⟩
      · exact Or.inl ⟨h1, h2, fun j hj => absurd hj (by omega)⟩
      · exact Or.inr ⟨h1, fun z => h2 z.1⟩
  have b4b : (0 : Int) ≤ 4 ∧ (4 : Int) < ((200 : Nat) : Int) := by decide
  unfold fX10_isValley
  rw [al176, if_pos b4b, if_pos bb5, e176]
  by_cases q : H 176 5 ≤ H 176 4
  · rw [if_pos q]; exact loop 0 (Or.inr ⟨rfl, by omega⟩)
  · rw [if_neg q]; exact loop 1 (Or.inl ⟨rfl, by omega⟩)
theorem VB.toVO {v : Nat → Int} (h : VB v) (s : STN v) : VO v := by
  obtain ⟨a0, a1, a2, a4, a5, a6, a7, a8⟩ := h
  obtain ⟨s1, s2⟩ := s
  refine ⟨a0, a1, a2, ⟨a4.1, s1, a5.2⟩, a6, a7, fun k hk => ?_⟩
  have h1 := a8 k hk
  have h2 := s2 k hk
  omega
/-- what is kept where no fault is -/
def K0 (st : Nat) (G H : Mem) : Prop := (st = 0 → VO (H 176) ∧ VR (H 176) G 37) ∧ (st = 1 → RO (H 176) ∧ SR 3 16 (H 176) G 42) ∧ (st = 2 → LO (H 176) ∧ SR 6 30 (H 176) G 44) ∧ (st = 3 → EO (H 176) ∧ SR 2 20 (H 176) G 46)
theorem j_end (hA : TA A) (hst : st < 4) (hJ : JX A R G H) (hK : KP st R.2.2.1 G H) (y : Int) : ∃ G' H', fX2_read_b95 35 (st : Int) G = some G' ∧ fX10_text_b203 173 (st : Int) y H = fX10_text_b233 173 (st : Int) y H' ∧ G' 35 7 = H' 174 7 ∧ G' 35 8 = H' 174 8 ∧ (H' 174 7 = 0 → K0 st G' H') ∧ kXt G G' ∧ kM6 H H' := by
  have hJ0 := id hJ
  obtain ⟨hX, hM, hI⟩ := hJ
  have x7 := hX.2.2.1
  have x8 := hX.2.2.2
  have m7 := hM.2.2.2.1
  have m8 := hM.2.2.2.2
  have bb7 : (0 : Int) ≤ 7 ∧ (7 : Int) < ((5268 : Nat) : Int) := by decide
  have m7b : H (173 + 1) 7 = R.2.2.1 := m7
  unfold fX2_read_b95 fX10_text_b203
  rw [al174, if_pos bb7, m7b]
  by_cases s0 : st = 0
  · subst s0
    obtain ⟨k1, k2, k3⟩ := hK.1 rfl
    rw [if_neg (show ¬ ((0 : Nat) : Int) ≠ 0 by decide)]
    by_cases f : R.2.2.1 = 0
    · rw [if_neg (dnn f), if_neg (show ¬ ((0 : Nat) : Int) ≠ 0 by decide)]
      have hVR := k2 f
      have hw := (fin_ok hI f).1
      rcases x_stands1 hVR k1 with ⟨r1, r2⟩ | ⟨r1, r2⟩
      · rcases m_isV k1 with ⟨q1, q2⟩ | ⟨q1, q2⟩
        · rw [show (35 + 2 : Nat) = 37 from rfl, r1, Option.bind_some, e11, q1, Option.bind_some, e11]
          refine ⟨G, H, rfl, rfl, x7.trans m7.symm, x8.trans m8.symm, fun _ => ⟨fun _ => ⟨k1.toVO r2, hVR⟩, fun z => absurd z (by decide), fun z => absurd z (by decide), fun z => absurd z (by decide)⟩, fun _ _ _ => rfl, fun _ _ _ _ _ => rfl⟩
        · exact absurd r2 q2
      · rcases m_isV k1 with ⟨q1, q2⟩ | ⟨q1, q2⟩
        · exact absurd q2 r2
        · rw [show (35 + 2 : Nat) = 37 from rfl, r1, Option.bind_some, e01, q1, Option.bind_some, e01]
          obtain ⟨a1, a2, a3⟩ := x_note hX hw 4
          obtain ⟨H', b1, b2, b3⟩ := m_also hA hM (k := 4) (y := (R.1 : Int)) (fun _ z => absurd f z)
          have h4 : H 173 4 = (R.1 : Int) := hM.2.1.1
          have ef : (aNote 4 (R.1 : Int) R).2.2.1 = 4 := by unfold aNote; rw [if_pos ⟨hw, f⟩]
          rw [h4, b1, Option.bind_some]
          refine ⟨_, H', rfl, rfl, a1.2.2.1.trans b2.2.2.2.1.symm, a1.2.2.2.trans b2.2.2.2.2.symm, fun z => ?_, a2.t, b3.six⟩
          rw [b2.2.2.2.1, ef] at z
          omega
    · rw [if_pos f]
      obtain ⟨r, hr⟩ := x_stands0 k3
      have en : fX2_note 35 4 G = G := by unfold fX2_note; rw [x7, if_pos f]
      refine ⟨G, H, ?_, rfl, x7.trans m7.symm, x8.trans m8.symm, fun z => absurd (m7.symm.trans z) f, fun _ _ _ => rfl, fun _ _ _ _ _ => rfl⟩
      rw [show (35 + 2 : Nat) = 37 from rfl, hr, Option.bind_some, en]
      split <;> rfl
  · have hs : ((st : Nat) : Int) ≠ 0 := by omega
    rw [if_pos hs, if_pos hs]
    have ee : (if R.2.2.1 ≠ 0 then fX10_text_b233 173 (st : Int) y H else fX10_text_b233 173 (st : Int) y H) = fX10_text_b233 173 (st : Int) y H := ite_self _
    rw [ee]
    refine ⟨G, H, rfl, rfl, x7.trans m7.symm, x8.trans m8.symm, fun z => ?_, fun _ _ _ => rfl, fun _ _ _ _ _ => rfl⟩
    have f : R.2.2.1 = 0 := m7.symm.trans z
    exact ⟨fun z => absurd z s0, fun z => ⟨(hK.2.1 z).1, (hK.2.1 z).2 f⟩, fun z => ⟨(hK.2.2.1 z).1, (hK.2.2.1 z).2 f⟩, fun z => ⟨(hK.2.2.2 z).1, (hK.2.2.2 z).2 f⟩⟩
end TP
