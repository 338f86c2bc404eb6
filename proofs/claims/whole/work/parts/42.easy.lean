/-! ===== calls that only look ===== -/
theorem e10 {α : Type _} {a b : α} : (if (1 : Int) = 0 then a else b) = b := if_neg (by decide)
theorem e11 {α : Type _} {a b : α} : (if (1 : Int) ≠ 0 then a else b) = a := if_pos (by decide)
theorem e00 {α : Type _} {a b : α} : (if (0 : Int) = 0 then a else b) = a := if_pos rfl
theorem e01 {α : Type _} {a b : α} : (if (0 : Int) ≠ 0 then a else b) = b := if_neg (by decide)
theorem i10 {α : Type _} {a b : α} {p : Prop} {inst : Decidable p} : (if (@ite Int p inst 1 0) = 0 then a else b) = @ite α p inst b a := by
  by_cases h : p
  · rw [if_pos h, if_pos h, e10]
  · rw [if_neg h, if_neg h, e00]
theorem i11 {α : Type _} {a b : α} {p : Prop} {inst : Decidable p} : (if (@ite Int p inst 1 0) ≠ 0 then a else b) = @ite α p inst a b := by
  by_cases h : p
  · rw [if_pos h, if_pos h, e11]
  · rw [if_neg h, if_neg h, e01]
theorem cell_any {o : Nat} {F : Mem} {x y : Int} {w n : Nat} (hw : cst o 1 = (w : Int)) (ha : alen (o + 1) = n) (hc : ∀ k : Nat, (k : Int) < F o 3 → w * k + w ≤ n) (hn : n ≤ 1000) : fX3_cell o x y F = some (if 0 ≤ x ∧ x < F o 3 ∧ 0 ≤ y ∧ y < w then F (o + 1) (w * x.toNat + y.toNat) else -1) := by
  by_cases h : 0 ≤ x ∧ x < F o 3 ∧ 0 ≤ y ∧ y < w
  · rw [if_pos h]
    have h1 := hc x.toNat (by omega)
    exact cell_eq (by omega) (by omega) hw ha (by omega) (by omega) (by omega) hn
  · rw [if_neg h]
    unfold fX3_cell
    rw [hw]
    split
    · rfl
    · split
      · rfl
      · split
        · rfl
        · split
          · rfl
          · exact absurd ⟨by omega, by omega, by omega, by omega⟩ h
theorem isCell_any {o : Nat} {F : Mem} {x y : Int} {w : Nat} (hw : cst o 1 = (w : Int)) : fX3_isCell o x y F = if 0 ≤ x ∧ x < F o 3 ∧ 0 ≤ y ∧ y < w then 1 else 0 := by
  unfold fX3_isCell
  rw [hw]
  split
  · rw [if_neg (by omega)]
  · split
    · rw [if_neg (by omega)]
    · split
      · rw [if_neg (by omega)]
      · split
        · rw [if_neg (by omega)]
        · rw [if_pos (by omega)]
section ANY
variable {v a : Nat → Int} {F : Mem} {V s w n : Nat}
theorem v_cellA (hV : VR v F V) (hO : VO v) (x y : Int) : fX3_cell (V + 1) x y F = some (if 0 ≤ x ∧ x < v 5 ∧ 0 ≤ y ∧ y < 4 then v (8 + 4 * x.toNat + y.toNat) else -1) := by
  obtain ⟨-, -, -, h1, h2, h3, -, -, -⟩ := vlay hV.1
  have h5 := hO.2.2.2.1
  have h6 := hV.2.2.1
  rw [cell_any (w := 4) (n := 32) h2 h3 (fun k hk => by omega) (by omega), h6]
  congr 1
  by_cases h : 0 ≤ x ∧ x < v 5 ∧ 0 ≤ y ∧ y < 4
  · rw [if_pos (by omega), if_pos h]; exact hV.2.2.2.2.1 _ _ (by omega) (by omega)
  · rw [if_neg (by omega), if_neg h]
theorem v_mustA (hV : VR v F V) (hO : VO v) (x y : Int) : fX3_cell (V + 3) x y F = some (if 0 ≤ x ∧ x < v 6 ∧ 0 ≤ y ∧ y < 3 then v (40 + 3 * x.toNat + y.toNat) else -1) := by
  obtain ⟨-, -, -, -, -, -, h1, h2, h3⟩ := vlay hV.1
  have h5 := hO.2.2.2.2.1
  have h6 := hV.2.2.2.1
  rw [cell_any (w := 3) (n := 18) h2 h3 (fun k hk => by omega) (by omega), h6]
  congr 1
  by_cases h : 0 ≤ x ∧ x < v 6 ∧ 0 ≤ y ∧ y < 3
  · rw [if_pos (by omega), if_pos h]; exact hV.2.2.2.2.2 _ _ (by omega) (by omega)
  · rw [if_neg (by omega), if_neg h]
theorem s_cellA (hS : SR w n a F s) (hwn : w * n ≤ 1000) (x y : Int) : fX3_cell s x y F = some (if 0 ≤ x ∧ x < a 0 ∧ 0 ≤ y ∧ y < w then a (1 + w * x.toNat + y.toNat) else -1) := by
  obtain ⟨-, h1, -, h2, h3, h4, h5⟩ := hS
  rw [cell_any h1 h2 (fun k hk => by
    have h6 : w * k + w ≤ w * n := by rw [← Nat.mul_succ]; exact Nat.mul_le_mul_left _ (by omega)
    omega) hwn, h3]
  congr 1
  by_cases h : 0 ≤ x ∧ x < a 0 ∧ 0 ≤ y ∧ y < w
  · rw [if_pos h, if_pos h, h5 _ _ (by omega) (by omega)]
  · rw [if_neg h, if_neg h]
theorem s_isCell (hS : SR w n a F s) (x y : Int) : fX3_isCell s x y F = if 0 ≤ x ∧ x < a 0 ∧ 0 ≤ y ∧ y < w then 1 else 0 := by
  rw [isCell_any hS.2.1, hS.2.2.2.2.1]
theorem s_cell (hS : SR w n a F s) (hwn : w * n ≤ 1000) {k i : Nat} {x y : Int} (hx : x = (k : Int)) (hy : y = (i : Int)) (hk : (k : Int) < a 0) (hi : i < w) : fX3_cell s x y F = some (a (1 + w * k + i)) := by
  subst hx
  subst hy
  rw [s_cellA hS hwn, if_pos (by omega), Int.toNat_natCast, Int.toNat_natCast]
end ANY
theorem pc_fault (a : Int) : pcase RR gX9_fault gX10_fault [vI a] := by
  intro F hR hm
  refine ⟨fX9_fault 1 a F, F, F, ⟨1, a, _, rfl, k9, rfl, rfl, rfl⟩, ⟨173, a, _, rfl, k10, ?_, rfl, rfl⟩, hR⟩
  obtain ⟨-, ⟨-, ⟨-, h1, h2⟩, -⟩, -⟩ := hR
  unfold fX10_fault fX9_fault
  rw [al174]
  simp (disch := omega) only [if_pos, Nat.reduceAdd, h1, h2]
  split
  · split <;> rfl
  · rfl
theorem pc_count (a : Int) : pcase RR gX9_count gX10_count [vI a] := by
  intro F hR hm
  obtain ⟨z, h1, h2⟩ : ∃ z, fX9_count 1 a F = some z ∧ fX10_count 173 a F = some z := by
    obtain ⟨-, ⟨-, -, -, -, h1, -⟩, -⟩ := hR
    unfold fX9_count fX10_count
    rw [al174, m_isIn, show alen (1 + 1 + 2) = 4 from rfl]
    by_cases q : 0 ≤ a ∧ a < 4
    · refine ⟨F 174 a.toNat, ?_, ?_⟩
      · rw [if_neg (by omega), if_pos (by omega), if_pos (by omega), ← h1 _ (by omega)]
      · rw [if_neg (by rw [if_pos (by omega)]; decide), if_pos (by omega)]
    · refine ⟨-2, ?_, ?_⟩
      · by_cases q2 : a < 0
        · rw [if_pos q2]
        · rw [if_neg q2, if_neg (by omega)]
      · rw [if_neg (c := 0 ≤ a ∧ a ≤ 3) (by omega), if_pos rfl]
  exact ⟨z, F, F, ⟨1, a, _, rfl, k9, h1, rfl, rfl⟩, ⟨173, a, _, rfl, k10, h2, rfl, rfl⟩, hR⟩
/-- the reference finds a valley -/
theorem m_valley {F : Mem} (hA : AO (F 174)) (i : Int) : fX10_isValley_ 173 i F = some (if 0 ≤ i ∧ i < F 174 0 then (1, mset F 173 10 (610 + 58 * i)) else (0, F)) := by
  have h1 := hA.1
  unfold fX10_isValley_
  rw [m_isOf hA (s := 0) (x := 0) (by omega) i rfl, Option.bind_some]
  by_cases h : 0 ≤ i ∧ i < F 174 0
  · rw [if_pos h, if_pos h, if_pos (by decide)]
    unfold fX10_placeOf
    rw [if_neg (by decide), xwn (x := 58 * i) (by omega) (by omega), xwn (by omega) (by omega)]
  · rw [if_neg h, if_neg h, if_neg (by decide)]
theorem m_valleyMV {F : Mem} (hA : AO (F 174)) {i : Int} (h : 0 ≤ i ∧ i < F 174 0) : MV (vOf (F 174) i.toNat) (mset F 173 10 (610 + 58 * i)) ∧ VO (vOf (F 174) i.toNat) := by
  have h1 := hA.1
  refine ⟨⟨610 + 58 * i.toNat, ?_, by omega, fun j hj => ?_⟩, hA.2.2.2.2.2.2.1 _ (by omega)⟩
  · rw [mset_eq]; omega
  · rw [mset_ne _ _ (by omega)]
    rfl
theorem kM_v0 (F : Mem) (x : Int) : kM F (mset F 173 10 x) := ⟨fun o k h => mset_ne _ _ (by omega), mset_ne _ _ (by omega), mset_ne _ _ (by omega), mset_ne _ _ (by omega)⟩
theorem pc_house (a b c : Int) : pcase RR gX9_house gX10_house [vI a, vI b, vI c] := by
  intro F hR hm
  obtain ⟨hA, hT, -⟩ := id hR
  obtain ⟨z, F2, h1, h2, h3⟩ : ∃ z F2, fX9_house 1 a b c F = some z ∧ fX10_house 173 a b c F = some (z, F2) ∧ kM F F2 := by
    unfold fX9_house fX10_house
    simp only [t_valley hA hT, m_valley hA, Option.bind_some]
    by_cases h : 0 ≤ a ∧ a < F 174 0
    · have h0 := hA.1
      obtain ⟨hM, hO⟩ := m_valleyMV hA h
      have hV := hT.2.2.2.2.2.1 a.toNat (by omega)
      have n0 : ¬ 2 + 7 + 9 * a.toNat = 0 := by omega
      have h5 := hO.2.2.2.1
      simp only [if_pos h, if_neg n0, e10, v_cellA hV hO, Option.bind_some, m_isHouse hM hO, i10, m_isIn]
      refine ⟨_, mset F 173 10 (610 + 58 * a), rfl, ?_, kM_v0 _ _⟩
      by_cases q : 0 ≤ b ∧ b < vOf (F 174) a.toNat 5
      · by_cases r : 0 ≤ c ∧ c ≤ 3
        · obtain ⟨kb, rfl⟩ := nat_of q.1
          obtain ⟨kc, rfl⟩ := nat_of r.1
          rw [if_pos q, if_pos r, m_house hM (i := kc) (by omega) (by omega) rfl, Option.bind_some, if_pos (by omega), Int.toNat_natCast, Int.toNat_natCast]
        · rw [if_pos q, if_neg r, if_neg (by omega)]
      · rw [if_neg q, if_neg (by omega)]
    · simp only [if_neg h, e00, if_true]
      exact ⟨_, _, rfl, rfl, kM.rf _⟩
  exact ⟨z, F, F2, ⟨1, a, b, c, _, rfl, k9, h1, rfl, rfl⟩, ⟨173, a, b, c, _, rfl, k10, h2, rfl, rfl⟩, hR.step (kX.rf F) h3⟩
theorem pc_way (a b c d : Int) : pcase RR gX9_way gX10_way [vI a, vI b, vI c, vI d] := by
  intro F hR hm
  obtain ⟨hA, hT, -, -, hp, -⟩ := id hR
  obtain ⟨z, F2, h1, h2, h3⟩ : ∃ z F2, fX9_way 1 a b c d F = some z ∧ fX10_way 173 a b c d F = some (z, F2) ∧ kM F F2 := by
    unfold fX9_way fX10_way
    simp only [t_valley hA hT, m_valley hA, Option.bind_some]
    by_cases h : 0 ≤ a ∧ a < F 174 0
    · have h0 := hA.1
      obtain ⟨hM, hO⟩ := m_valleyMV hA h
      have hV := hT.2.2.2.2.2.1 a.toNat (by omega)
      have n0 : ¬ 2 + 7 + 9 * a.toNat = 0 := by omega
      simp only [if_pos h, if_neg n0, e10, v_has hV, m_isHouse hM hO, Option.bind_some, i10, i11]
      by_cases q : 0 ≤ b ∧ b < vOf (F 174) a.toNat 5
      · by_cases r : 0 ≤ c ∧ c < vOf (F 174) a.toNat 5
        · obtain ⟨kb, rfl⟩ := nat_of q.1
          obtain ⟨kc, rfl⟩ := nat_of r.1
          have hp1 := hO.2.1
          have e1 : F (2 + 7 + 9 * a.toNat) 1 = vOf (F 174) a.toNat 1 := hV.2.1.2.1
          have e2 : mpc (vOf (F 174) a.toNat) (mset F 173 10 (610 + 58 * a)) = vOf (F 174) a.toNat 1 := by
            unfold mpc
            rw [mset_ne _ _ (by omega), hp, if_pos (by decide)]
          simp only [if_pos q, if_pos r, v_steps hV hO q.2 r.2, m_steps hM hO q.2 r.2, e1, v_slots hV hO hp1.1 hp1.2 q.2 r.2, m_slots hM hO e2 hp1.1 hp1.2 q.2 r.2, Option.bind_some]
          by_cases e : d = 0
          · simp only [if_pos e]
            exact ⟨_, _, rfl, rfl, kM_v0 _ _⟩
          · simp only [if_neg e]
            exact ⟨_, _, rfl, rfl, kM_v0 _ _⟩
        · simp only [if_pos q, if_neg r]
          exact ⟨_, _, rfl, rfl, kM_v0 _ _⟩
      · simp only [if_neg q]
        exact ⟨_, _, rfl, rfl, kM_v0 _ _⟩
    · simp only [if_neg h, e00, if_true]
      exact ⟨_, _, rfl, rfl, kM.rf _⟩
  exact ⟨z, F, F2, ⟨1, a, b, c, d, _, rfl, k9, h1, rfl, rfl⟩, ⟨173, a, b, c, d, _, rfl, k10, h2, rfl, rfl⟩, hR.step (kX.rf F) h3⟩
