/-! ===== the pure part: loops, numbers ===== -/
theorem lp {S R : Type} (f : Nat → Nat → S → Option R) (N : Nat) (inv : Nat → S → Prop) (post : Option R → Prop)
    (step : ∀ n k s, k < N → inv k s → (∃ s', inv (k + 1) s' ∧ f (n + 1) k s = f n (k + 1) s') ∨ post (f (n + 1) k s))
    (done : ∀ n s, inv N s → post (f (n + 1) N s)) : ∀ n k s, k ≤ N → inv k s → N < n + k → post (f n k s) := by
  intro n
  induction n with
  | zero => intro k s h1 _ h2; omega
  | succ n ih =>
    intro k s h1 h2 h3
    by_cases hk : k < N
    · rcases step n k s hk h2 with ⟨s', h4, h5⟩ | h4
      · rw [h5]; exact ih (k + 1) s' hk h4 (by omega)
      · exact h4
    · have h5 : k = N := by omega
      subst h5
      exact done n s h2
theorem xwn {x : Int} (h1 : -2147483648 ≤ x) (h2 : x < 2147483648) : xw x = x := xw_id ⟨h1, h2⟩
theorem xwS {k : Nat} (h : k < 2147483647) : xw ((k : Int) + 1) = ((k + 1 : Nat) : Int) := by
  rw [xwn (by omega) (by omega)]; rfl
theorem FU_gt {k : Nat} (h : k < 100000) : k < FU := h
theorem nat_of {x : Int} (h : 0 ≤ x) : ∃ k : Nat, x = (k : Int) := ⟨x.toNat, by omega⟩
theorem xmax_l {a b : Int} (h : ¬ a < b) : xmax a b = a := if_neg h
theorem xmax_r {a b : Int} (h : a < b) : xmax a b = b := if_pos h
theorem xmin_l {a b : Int} (h : ¬ b < a) : xmin a b = a := if_neg h
theorem xmin_r {a b : Int} (h : b < a) : xmin a b = b := if_pos h
theorem xabs_n {a : Int} (h1 : -2147483647 ≤ a) (h2 : a < 2147483648) : xabs a = if a < 0 then -a else a := by
  unfold xabs
  by_cases h : a < 0
  · rw [if_pos h, if_pos h, xwn (by omega) (by omega)]
  · rw [if_neg h, if_neg h]
/-! ===== sums ===== -/
def sm : Nat → (Nat → Int) → Int
  | 0, _ => 0
  | n + 1, f => sm n f + f n
theorem sm_congr {f g : Nat → Int} : ∀ n, (∀ i, i < n → f i = g i) → sm n f = sm n g := by
  intro n
  induction n with
  | zero => intro _; rfl
  | succ n ih => intro h; show sm n f + f n = sm n g + g n; rw [ih (fun i hi => h i (by omega)), h n (by omega)]
theorem sm_bd {f : Nat → Int} {lo hi : Int} : ∀ n, (∀ i, i < n → lo ≤ f i ∧ f i ≤ hi) → lo * n ≤ sm n f ∧ sm n f ≤ hi * n := by
  intro n
  induction n with
  | zero => intro _; exact ⟨by simp [sm], by simp [sm]⟩
  | succ n ih =>
    intro h
    obtain ⟨h1, h2⟩ := ih (fun i hi => h i (by omega))
    obtain ⟨h3, h4⟩ := h n (by omega)
    have e1 : lo * ((n + 1 : Nat) : Int) = lo * n + lo := by rw [show ((n + 1 : Nat) : Int) = (n : Int) + 1 from rfl, Int.mul_add, Int.mul_one]
    have e2 : hi * ((n + 1 : Nat) : Int) = hi * n + hi := by rw [show ((n + 1 : Nat) : Int) = (n : Int) + 1 from rfl, Int.mul_add, Int.mul_one]
    rw [e1, e2]
    show _ ≤ sm n f + f n ∧ sm n f + f n ≤ _
    omega
theorem sm_nn {f : Nat → Int} : ∀ n, (∀ i, i < n → 0 ≤ f i) → 0 ≤ sm n f := by
  intro n
  induction n with
  | zero => intro _; exact Int.le_refl _
  | succ n ih => intro h; have h1 := ih (fun i hi => h i (by omega)); have h2 := h n (by omega); show 0 ≤ sm n f + f n; omega
/-! ===== a valley, as the reference keeps it: 58 numbers ===== -/
def VO (v : Nat → Int) : Prop := (1 ≤ v 0 ∧ v 0 ≤ 48) ∧ (1 ≤ v 1 ∧ v 1 ≤ 99) ∧ (0 ≤ v 2 ∧ v 2 ≤ 48 ∧ 0 ≤ v 3 ∧ v 3 ≤ 48) ∧ (0 ≤ v 4 ∧ v 4 < v 5 ∧ v 5 ≤ 8) ∧ (0 ≤ v 6 ∧ v 6 ≤ 6) ∧
  (∀ h : Nat, (h : Int) < v 5 → (0 ≤ v (8 + 4 * h) ∧ v (8 + 4 * h) ≤ 99) ∧ (0 ≤ v (8 + 4 * h + 1) ∧ v (8 + 4 * h + 1) ≤ 3) ∧ (0 ≤ v (8 + 4 * h + 2) ∧ v (8 + 4 * h + 2) ≤ 9) ∧ (0 ≤ v (8 + 4 * h + 3) ∧ v (8 + 4 * h + 3) ≤ 9)) ∧
  (∀ k : Nat, (k : Int) < v 6 → (0 ≤ v (40 + 3 * k) ∧ v (40 + 3 * k) < v 5) ∧ (0 ≤ v (40 + 3 * k + 1) ∧ v (40 + 3 * k + 1) < v (40 + 3 * k + 2) ∧ v (40 + 3 * k + 2) ≤ v 0))
def stp (v : Nat → Int) (a b : Nat) : Int := if v (8 + 4 * a) - v (8 + 4 * b) < 0 then -(v (8 + 4 * a) - v (8 + 4 * b)) else v (8 + 4 * a) - v (8 + 4 * b)
def slt (v : Nat → Int) (p : Int) (a b : Nat) : Int := if a = b then 0 else if (stp v a b + p - 1) / p < 1 then 1 else (stp v a b + p - 1) / p
def rt (v : Nat → Int) (c : Int) (h : Nat) : Int := if c ≠ 0 ∧ 1 < v (8 + 4 * h + 1) then v (8 + 4 * h + 2) / 2 else v (8 + 4 * h + 2)
/-- sees, being there -/
def ses (v : Nat → Int) (kd : Int) (s : Int) : Prop := kd ≠ 3 ∨ (v 2 ≤ s ∧ s < v 3)
theorem stp_bd {v : Nat → Int} (hO : VO v) {a b : Nat} (ha : (a : Int) < v 5) (hb : (b : Int) < v 5) : 0 ≤ stp v a b ∧ stp v a b ≤ 99 := by
  obtain ⟨-, -, -, -, -, h, -⟩ := hO
  have h1 := (h a ha).1
  have h2 := (h b hb).1
  unfold stp
  split <;> omega
theorem slt_bd {v : Nat → Int} (hO : VO v) {p : Int} (hp : 1 ≤ p) {a b : Nat} (ha : (a : Int) < v 5) (hb : (b : Int) < v 5) : 0 ≤ slt v p a b ∧ slt v p a b ≤ 99 ∧ (a ≠ b → 1 ≤ slt v p a b) := by
  obtain ⟨h1, h2⟩ := stp_bd hO ha hb
  unfold slt
  by_cases hab : a = b
  · rw [if_pos hab]; omega
  · rw [if_neg hab]
    have h3 : (stp v a b + p - 1) / p ≤ 99 := by
      have : (stp v a b + p - 1) / p < 100 := Int.ediv_lt_of_lt_mul (by omega) (by
        have h4 : 99 * 1 ≤ 99 * p := Int.mul_le_mul_of_nonneg_left hp (by omega)
        have h5 : (100 : Int) * p = 99 * p + p := by omega
        omega)
      omega
    split <;> omega
theorem rt_bd {v : Nat → Int} (hO : VO v) (c : Int) {h : Nat} (hh : (h : Int) < v 5) : 0 ≤ rt v c h ∧ rt v c h ≤ 9 := by
  obtain ⟨-, -, -, -, -, h1, -⟩ := hO
  have h2 := (h1 h hh).2.2.1
  unfold rt
  split <;> omega
/-! the class's valleys -/
def VR (v : Nat → Int) (F : Mem) (V : Nat) : Prop := isK V 7 ∧ (F V 0 = v 0 ∧ F V 1 = v 1 ∧ F V 2 = v 2 ∧ F V 3 = v 3 ∧ F V 4 = v 4) ∧ F (V + 1) 3 = v 5 ∧ F (V + 3) 3 = v 6 ∧
  (∀ h i : Nat, (h : Int) < v 5 → i < 4 → F (V + 2) (4 * h + i) = v (8 + 4 * h + i)) ∧ (∀ k i : Nat, (k : Int) < v 6 → i < 3 → F (V + 4) (3 * k + i) = v (40 + 3 * k + i))
theorem VR.mono {v : Nat → Int} {F F' : Mem} {V : Nat} (h : VR v F V) (hF : ∀ o k, V ≤ o → o ≤ V + 4 → F' o k = F o k) : VR v F' V := by
  obtain ⟨h0, ⟨h1, h2, h3, h4, h5⟩, h6, h7, h8, h9⟩ := h
  refine ⟨h0, ⟨?_, ?_, ?_, ?_, ?_⟩, ?_, ?_, fun a i ha hi => ?_, fun a i ha hi => ?_⟩
  all_goals rw [hF _ _ (by omega) (by omega)]
  all_goals first | assumption | exact h8 a i ha hi | exact h9 a i ha hi
theorem kb {o ci : Nat} (h : isKb o ci = true) : isK o ci := of_decide_eq_true (p := (lay o).bind kcls = some ci) h
theorem vlay {V : Nat} (h : isK V 7) : V ≠ 0 ∧ isK (V + 1) 3 ∧ isK (V + 3) 3 ∧ cst (V + 1) 0 = 8 ∧ cst (V + 1) 1 = 4 ∧ alen (V + 1 + 1) = 32 ∧ cst (V + 3) 0 = 6 ∧ cst (V + 3) 1 = 3 ∧ alen (V + 3 + 1) = 18 := by
  have h1 := layq (P := fun V => decide (V ≠ 0) && (isKb (V + 1) 3 && (isKb (V + 3) 3 && (decide (cst (V + 1) 0 = 8) && (decide (cst (V + 1) 1 = 4) && (decide (alen (V + 1 + 1) = 32) && (decide (cst (V + 3) 0 = 6) && (decide (cst (V + 3) 1 = 3) && decide (alen (V + 3 + 1) = 18))))))))) (by decide +kernel) h
  simp only [Bool.and_eq_true, decide_eq_true_eq] at h1
  obtain ⟨a, b, c, d⟩ := h1
  exact ⟨a, kb b, kb c, d⟩
theorem cell_eq {o : Nat} {F : Mem} {x y : Int} {k i w n : Nat} (hx : x = (k : Int)) (hy : y = (i : Int)) (hw : cst o 1 = (w : Int)) (ha : alen (o + 1) = n) (hc : (k : Int) < F o 3) (hi : i < w) (hb : w * k + i < n) (hn : n ≤ 1000) : fX3_cell o x y F = some (F (o + 1) (w * k + i)) := by
  subst hx
  subst hy
  have e1 : (k : Int) * (w : Int) = ((w * k : Nat) : Int) := by rw [Int.mul_comm]; rfl
  unfold fX3_cell
  rw [hw, ha, e1]
  generalize w * k = q at *
  simp (disch := omega) only [xwn, if_neg, if_pos]
  rw [show ((q : Int) + (i : Int)).toNat = q + i by omega]
section VRd
variable {v : Nat → Int} {F : Mem} {V : Nat}
theorem v_cell (hV : VR v F V) (hO : VO v) {h i : Nat} {y : Int} (hh : (h : Int) < v 5) (hi : i < 4) (hy : y = (i : Int)) : fX3_cell (V + 1) (h : Int) y F = some (v (8 + 4 * h + i)) := by
  obtain ⟨-, -, -, h1, h2, h3, -, -, -⟩ := vlay hV.1
  have h5 := hO.2.2.2.1
  rw [cell_eq (k := h) (i := i) (w := 4) (n := 32) rfl hy h2 h3 (by rw [hV.2.2.1]; exact hh) hi (by omega) (by omega), hV.2.2.2.2.1 h i hh hi]
theorem v_must (hV : VR v F V) (hO : VO v) {h i : Nat} {y : Int} (hh : (h : Int) < v 6) (hi : i < 3) (hy : y = (i : Int)) : fX3_cell (V + 3) (h : Int) y F = some (v (40 + 3 * h + i)) := by
  obtain ⟨-, -, -, -, -, -, h1, h2, h3⟩ := vlay hV.1
  have h5 := hO.2.2.2.2.1
  rw [cell_eq (k := h) (i := i) (w := 3) (n := 18) rfl hy h2 h3 (by rw [hV.2.2.2.1]; exact hh) hi (by omega) (by omega), hV.2.2.2.2.2 h i hh hi]
theorem v_cell0 (hV : VR v F V) (hO : VO v) {h : Nat} (hh : (h : Int) < v 5) : fX3_cell (V + 1) (h : Int) 0 F = some (v (8 + 4 * h)) := v_cell hV hO (i := 0) (y := 0) hh (by omega) rfl
theorem v_must0 (hV : VR v F V) (hO : VO v) {h : Nat} (hh : (h : Int) < v 6) : fX3_cell (V + 3) (h : Int) 0 F = some (v (40 + 3 * h)) := v_must hV hO (i := 0) (y := 0) hh (by omega) rfl
theorem v_touch (hV : VR v F V) (hO : VO v) {h : Nat} (hh : (h : Int) < v 5) : fX7_isTouch V (h : Int) F = some (if v (8 + 4 * h + 1) = 0 then 1 else 0) := by
  unfold fX7_isTouch
  rw [v_cell hV hO (i := 1) (y := 1) hh (by omega) rfl, Option.bind_some]
  by_cases q : v (8 + 4 * h + 1) = 0
  · rw [if_neg (by omega), if_pos q]
  · rw [if_pos q, if_neg q]
theorem v_rate (hV : VR v F V) (hO : VO v) (c : Int) {h : Nat} (hh : (h : Int) < v 5) : fX7_rateOf V (h : Int) c F = some (rt v c h) := by
  have hb := (hO.2.2.2.2.2.1 h hh).2.2.1
  unfold fX7_rateOf
  rw [v_cell hV hO (i := 2) (y := 2) hh (by omega) rfl, Option.bind_some]
  unfold rt
  by_cases q : c = 0
  · rw [if_pos q, if_neg (by omega)]
  · rw [if_neg q, v_cell hV hO (i := 1) (y := 1) hh (by omega) rfl, Option.bind_some]
    by_cases r : v (8 + 4 * h + 1) ≤ 1
    · rw [if_pos r, if_neg (by omega)]
    · rw [if_neg r, if_pos (by omega), Int.tdiv_eq_ediv_of_nonneg (by omega), xwn (by omega) (by omega)]
theorem v_steps (hV : VR v F V) (hO : VO v) {a b : Nat} (ha : (a : Int) < v 5) (hb : (b : Int) < v 5) : fX7_stepsBetween V (a : Int) (b : Int) F = some (stp v a b) := by
  have h1 := (hO.2.2.2.2.2.1 a ha).1
  have h2 := (hO.2.2.2.2.2.1 b hb).1
  unfold fX7_stepsBetween
  rw [v_cell0 hV hO ha, Option.bind_some, v_cell0 hV hO hb, Option.bind_some, xwn (by omega) (by omega), xabs_n (by omega) (by omega)]
  rfl
theorem v_slots (hV : VR v F V) (hO : VO v) {p : Int} (hp : 1 ≤ p) (hp2 : p ≤ 99) {a b : Nat} (ha : (a : Int) < v 5) (hb : (b : Int) < v 5) : fX7_slotsBetween V (a : Int) (b : Int) p F = some (slt v p a b) := by
  have h1 := (hO.2.2.2.2.2.1 a ha).1
  have h2 := (hO.2.2.2.2.2.1 b hb).1
  obtain ⟨hs1, hs2⟩ := stp_bd hO ha hb
  obtain ⟨q1, q2, q3⟩ := slt_bd hO hp ha hb
  unfold fX7_slotsBetween
  unfold slt at *
  by_cases hab : a = b
  · subst hab
    rw [if_pos rfl, if_pos rfl]
  · rw [if_neg hab] at *
    rw [if_neg (by omega), if_pos hp, v_cell0 hV hO ha, Option.bind_some, v_cell0 hV hO hb, Option.bind_some, if_neg (by omega), xwn (x := v (8 + 4 * a) - _) (by omega) (by omega), xabs_n (by omega) (by omega)]
    have e : (if v (8 + 4 * a) - v (8 + 4 * b) < 0 then -(v (8 + 4 * a) - v (8 + 4 * b)) else v (8 + 4 * a) - v (8 + 4 * b)) = stp v a b := rfl
    rw [e, xwn (x := stp v a b + p) (by omega) (by omega), xwn (x := stp v a b + p - 1) (by omega) (by omega), Int.tdiv_eq_ediv_of_nonneg (by omega)]
    have e3 : 0 ≤ (stp v a b + p - 1) / p := Int.ediv_nonneg (by omega) (by omega)
    have e4 : (stp v a b + p - 1) / p ≤ 99 := by
      split at q2 <;> omega
    rw [xwn (by omega) (by omega)]
    congr 1
    unfold xmax
    split <;> split <;> omega
theorem v_sees (hV : VR v F V) (kd s : Int) : fX7_seesBy V kd s F = if kd ≠ 3 ∨ (v 2 ≤ s ∧ s < v 3) then 1 else 0 := by
  obtain ⟨h0, ⟨h1, h2, h3, h4, h5⟩, -⟩ := hV
  unfold fX7_seesBy
  rw [h3, h4]
  split
  · rw [if_pos (Or.inl ‹_›)]
  · split
    · rw [if_neg (by omega)]
    · split
      · rw [if_neg (by omega)]
      · rw [if_pos (by omega)]
theorem v_has (hV : VR v F V) (x : Int) : fX7_hasHouse V x F = if 0 ≤ x ∧ x < v 5 then 1 else 0 := by
  unfold fX7_hasHouse
  rw [hV.2.2.1]
  split
  · rw [if_neg (by omega)]
  · split
    · rw [if_neg (by omega)]
    · rw [if_pos (by omega)]
theorem v_hasSlots (hV : VR v F V) (f t : Int) : fX7_hasSlots V f t F = if 0 ≤ f ∧ f < t ∧ t ≤ v 0 then 1 else 0 := by
  unfold fX7_hasSlots
  rw [hV.2.1.1]
  split
  · rw [if_neg (by omega)]
  · split
    · rw [if_neg (by omega)]
    · split
      · rw [if_neg (by omega)]
      · rw [if_pos (by omega)]
end VRd
/-! the reference's valley -/
def MV (v : Nat → Int) (F : Mem) : Prop := ∃ b : Nat, F 173 10 = (b : Int) ∧ b ≤ 668 ∧ ∀ j, j < 58 → F 174 (b + j) = v j
theorem MV.mono {v : Nat → Int} {F F' : Mem} (h : MV v F) (h1 : F' 173 10 = F 173 10) (h2 : ∀ k, F' 174 k = F 174 k) : MV v F' := by
  obtain ⟨b, a1, a2, a3⟩ := h
  exact ⟨b, h1.trans a1, a2, fun j hj => (h2 _).trans (a3 j hj)⟩
theorem al174 : alen (173 + 1) = 5268 := rfl
section MVd
variable {v : Nat → Int} {F : Mem}
theorem m_of (hM : MV v F) {i : Nat} {x : Int} (hx : x = (i : Int)) (hi : i < 58) : fX10_of 173 x F = some (v i) := by
  obtain ⟨b, a1, a2, a3⟩ := hM
  subst hx
  unfold fX10_of
  rw [a1, al174]
  simp (disch := omega) only [xwn, if_pos]
  rw [show ((b : Int) + (i : Int)).toNat = b + i by omega, a3 i hi]
theorem m_house (hM : MV v F) {h i : Nat} {y : Int} (hh : h < 8) (hi : i < 4) (hy : y = (i : Int)) : fX10_houseOf 173 (h : Int) y F = some (v (8 + 4 * h + i)) := by
  obtain ⟨b, a1, a2, a3⟩ := hM
  subst hy
  unfold fX10_houseOf
  rw [a1, al174]
  simp (disch := omega) only [xwn, if_pos]
  rw [show ((b : Int) + 8 + 4 * (h : Int) + (i : Int)).toNat = b + (8 + 4 * h + i) by omega, a3 _ (by omega)]
theorem m_must (hM : MV v F) {h i : Nat} {y : Int} (hh : h < 6) (hi : i < 3) (hy : y = (i : Int)) : fX10_mustOf 173 (h : Int) y F = some (v (40 + 3 * h + i)) := by
  obtain ⟨b, a1, a2, a3⟩ := hM
  subst hy
  unfold fX10_mustOf
  rw [a1, al174]
  simp (disch := omega) only [xwn, if_pos]
  rw [show ((b : Int) + 40 + 3 * (h : Int) + (i : Int)).toNat = b + (40 + 3 * h + i) by omega, a3 _ (by omega)]
theorem m_house0 (hM : MV v F) {h : Nat} (hh : h < 8) : fX10_houseOf 173 (h : Int) 0 F = some (v (8 + 4 * h)) := m_house hM (i := 0) (y := 0) hh (by omega) rfl
theorem m_must0 (hM : MV v F) {h : Nat} (hh : h < 6) : fX10_mustOf 173 (h : Int) 0 F = some (v (40 + 3 * h)) := m_must hM (i := 0) (y := 0) hh (by omega) rfl
theorem m_isIn (x a b : Int) : fX10_isIn x a b = if a ≤ x ∧ x ≤ b then 1 else 0 := by
  unfold fX10_isIn
  split
  · rw [if_neg (by omega)]
  · split
    · rw [if_neg (by omega)]
    · rw [if_pos (by omega)]
theorem b01 {p : Prop} {inst : Decidable p} : (@ite Int p inst 1 0) = 0 ∨ (@ite Int p inst 1 0) = 1 := by split <;> simp
theorem m_isHouse (hM : MV v F) (hO : VO v) (x : Int) : fX10_isHouse 173 x F = some (if 0 ≤ x ∧ x < v 5 then 1 else 0) := by
  have h1 := hO.2.2.2.1
  unfold fX10_isHouse
  rw [m_of hM (i := 5) (x := 5) rfl (by omega), Option.bind_some, m_isIn, if_pos b01, xwn (by omega) (by omega)]
  congr 1
  split
  · rw [if_pos (by omega)]
  · rw [if_neg (by omega)]
theorem m_isSlot (hM : MV v F) (hO : VO v) (x : Int) : fX10_isSlot 173 x F = some (if 0 ≤ x ∧ x < v 0 then 1 else 0) := by
  have h1 := hO.1
  unfold fX10_isSlot
  rw [m_of hM (i := 0) (x := 0) rfl (by omega), Option.bind_some, m_isIn, if_pos b01, xwn (by omega) (by omega)]
  congr 1
  split
  · rw [if_pos (by omega)]
  · rw [if_neg (by omega)]
theorem m_steps (hM : MV v F) (hO : VO v) {a b : Nat} (ha : (a : Int) < v 5) (hb : (b : Int) < v 5) : fX10_steps 173 (a : Int) (b : Int) F = some (stp v a b) := by
  have h0 := hO.2.2.2.1
  have h1 := (hO.2.2.2.2.2.1 a ha).1
  have h2 := (hO.2.2.2.2.2.1 b hb).1
  unfold fX10_steps
  rw [m_house0 hM (by omega), Option.bind_some, m_house0 hM (by omega), Option.bind_some, xwn (by omega) (by omega)]
  unfold stp
  by_cases q : v (8 + 4 * a) - v (8 + 4 * b) < 0
  · rw [if_pos q, if_neg (by exact Int.not_le.mpr q), xwn (by omega) (by omega)]
  · rw [if_neg q, if_pos (by exact Int.not_lt.mp q)]
def mpc (v : Nat → Int) (F : Mem) : Int := if F 173 12 ≤ 0 then v 1 else F 173 12
theorem m_pace (hM : MV v F) : fX10_pace 173 F = some (mpc v F) := by
  unfold fX10_pace mpc
  split
  · rw [m_of hM (i := 1) (x := 1) rfl (by omega), Option.bind_some]
  · rfl
theorem m_slots (hM : MV v F) (hO : VO v) {p : Int} (hpe : mpc v F = p) (hp : 1 ≤ p) (hp2 : p ≤ 99) {a b : Nat} (ha : (a : Int) < v 5) (hb : (b : Int) < v 5) : fX10_slotsOf 173 (a : Int) (b : Int) F = some (slt v p a b) := by
  obtain ⟨hs1, hs2⟩ := stp_bd hO ha hb
  obtain ⟨q1, q2, q3⟩ := slt_bd hO hp ha hb
  unfold fX10_slotsOf
  unfold slt at *
  by_cases hab : a = b
  · subst hab
    rw [if_neg (by omega), if_pos rfl]
  · rw [if_neg hab] at *
    rw [if_pos (by omega), m_steps hM hO ha hb, Option.bind_some, m_pace hM, Option.bind_some, Option.bind_some, hpe, if_neg (by omega), xwn (x := stp v a b + p) (by omega) (by omega), xwn (x := stp v a b + p - 1) (by omega) (by omega), Int.tdiv_eq_ediv_of_nonneg (by omega)]
    have e3 : 0 ≤ (stp v a b + p - 1) / p := Int.ediv_nonneg (by omega) (by omega)
    have e4 : (stp v a b + p - 1) / p ≤ 99 := by
      split at q2 <;> omega
    rw [xwn (by omega) (by omega)]
    split
    · rw [if_neg (by omega)]
    · rw [if_pos (by omega)]
/-- the kind, by lessons -/
def mkd (v : Nat → Int) (F : Mem) (h : Nat) : Int := if (h : Int) = F 173 11 ∨ (h : Int) = F 173 13 then 0 else v (8 + 4 * h + 1)
theorem m_kind (hM : MV v F) {h : Nat} (hh : h < 8) : fX10_kindOf 173 (h : Int) F = some (mkd v F h) := by
  unfold fX10_kindOf mkd
  by_cases q1 : (h : Int) = F 173 11
  · rw [if_pos q1, if_pos (Or.inl q1)]
  · rw [if_neg q1]
    by_cases q2 : (h : Int) = F 173 13
    · rw [if_neg (by omega), if_pos (Or.inr q2)]
    · rw [if_pos q2, if_neg (by omega), m_house hM (i := 1) (y := 1) hh (by omega) rfl, Option.bind_some]
theorem m_sees (hM : MV v F) {h : Nat} (hh : h < 8) (there s : Int) : fX10_sees 173 (h : Int) there s F = some (if mkd v F h = 0 ∨ (there ≠ 0 ∧ (mkd v F h ≠ 3 ∨ (v 2 ≤ s ∧ s < v 3))) then 1 else 0) := by
  unfold fX10_sees
  rw [m_kind hM hh, Option.bind_some]
  by_cases q1 : mkd v F h = 0
  · rw [if_pos q1, if_pos (Or.inl q1)]
  · rw [if_neg q1]
    by_cases q2 : there = 0
    · rw [if_pos q2, if_neg (by omega)]
    · rw [if_neg q2]
      by_cases q3 : mkd v F h = 3
      · rw [if_neg (by omega), m_of hM (i := 2) (x := 2) rfl (by omega), Option.bind_some, m_of hM (i := 3) (x := 3) rfl (by omega), Option.bind_some]
        split
        · rw [if_neg (by omega)]
        · split
          · rw [if_neg (by omega)]
          · rw [if_pos (by omega)]
      · rw [if_pos q3, if_pos (by omega)]
theorem m_rate (hM : MV v F) (hO : VO v) (c : Int) {h : Nat} (hh : (h : Int) < v 5) : fX10_rateOf 173 (h : Int) c F = some (rt v c h) := by
  have h0 := hO.2.2.2.1
  have hb := (hO.2.2.2.2.2.1 h hh).2.2.1
  unfold fX10_rateOf fX10_rateOf_b25
  rw [m_house hM (i := 2) (y := 2) (by omega) (by omega) rfl, Option.bind_some, Option.bind_some, m_house hM (i := 1) (y := 1) (by omega) (by omega) rfl, Option.bind_some]
  unfold rt
  by_cases q : c = 0
  · rw [if_pos q, if_neg (by omega)]
  · rw [if_neg q]
    by_cases r : v (8 + 4 * h + 1) ≤ 1
    · rw [if_pos r, if_neg (by omega)]
    · rw [if_neg r, if_pos (by omega), Int.tdiv_eq_ediv_of_nonneg (by omega), xwn (by omega) (by omega)]
end MVd
