/-! ===== text: tokens, as places of the tape ===== -/
theorem FUa {k p : Nat} (h : k < 100000) : k < FU + p := Nat.lt_of_lt_of_le (FU_gt h) (Nat.le_add_right _ _)
theorem n30 : ¬ (3 : Nat) = 0 := by decide
def bBl (x : Int) : Bool := decide (x = 10) || decide (x = 32)
def bLt (x : Int) : Bool := decide (97 ≤ x) && decide (x ≤ 122)
def bDg (x : Int) : Bool := decide (48 ≤ x) && decide (x ≤ 57)
theorem bBl_i {x : Int} : bBl x = true ↔ (x = 10 ∨ x = 32) := by unfold bBl; simp
theorem bLt_i {x : Int} : bLt x = true ↔ (97 ≤ x ∧ x ≤ 122) := by unfold bLt; simp
theorem bDg_i {x : Int} : bDg x = true ↔ (48 ≤ x ∧ x ≤ 57) := by unfold bDg; simp
theorem bF {b : Bool} : b = false ↔ ¬ b = true := by cases b <;> simp
/-- behind those with P -/
def skp (P : Int → Bool) (T : Nat → Int) : Nat → Nat → Nat
  | 0, p => p
  | f + 1, p => if P (T p) = true then skp P T f (p + 1) else p
theorem skp_sp {P : Int → Bool} {T : Nat → Int} {n : Nat} (hn : ∀ k, n ≤ k → P (T k) = false) : ∀ f p, n ≤ p + f → p ≤ n → p ≤ skp P T f p ∧ skp P T f p ≤ n ∧ (∀ k, p ≤ k → k < skp P T f p → P (T k) = true) ∧ P (T (skp P T f p)) = false := by
  intro f
  induction f with
  | zero =>
    intro p h1 h2
    have e : p = n := by omega
    subst e
    exact ⟨Nat.le_refl _, Nat.le_refl _, fun k a b => absurd b (Nat.not_lt.mpr a), hn p (Nat.le_refl _)⟩
  | succ f ih =>
    intro p h1 h2
    by_cases y : P (T p) = true
    · have e : skp P T (f + 1) p = skp P T f (p + 1) := if_pos y
      have hp : p ≠ n := fun z => by subst z; rw [hn p (Nat.le_refl _)] at y; exact absurd y (by decide)
      obtain ⟨a, b, c, d⟩ := ih (p + 1) (by omega) (by omega)
      rw [e]
      refine ⟨by omega, b, fun k x1 x2 => ?_, d⟩
      by_cases z : k = p
      · rw [z]; exact y
      · exact c k (by omega) x2
    · have e : skp P T (f + 1) p = p := if_neg y
      rw [e]
      exact ⟨Nat.le_refl _, h2, fun k a b => absurd b (Nat.not_lt.mpr a), bF.mpr y⟩
/-- the tape is a tape -/
def TA (A : Nat → Int) : Prop := (0 ≤ A 6 ∧ A 6 ≤ 600) ∧ ∀ k : Nat, (k : Int) < A 6 → 0 ≤ A (10 + k) ∧ A (10 + k) ≤ 255
def tN (A : Nat → Int) : Nat := (A 6).toNat
def tS (A : Nat → Int) (p : Nat) : Nat := skp bBl (byA A) 600 p
def tE (A : Nat → Int) (s : Nat) : Nat := if bLt (byA A s) = true then skp bLt (byA A) 600 s else if bDg (byA A s) = true then skp bDg (byA A) 600 s else if byA A s < 0 then s else s + 1
def tKd (A : Nat → Int) (s : Nat) : Int := if byA A s < 0 then 0 else if bLt (byA A s) = true then 1 else if bDg (byA A s) = true then (if tE A s ≤ s + 2 then 2 else 4) else if byA A s = 59 then 3 else 4
def tV (A : Nat → Int) (s : Nat) : Int := if tE A s = s + 1 then byA A s - 48 else 10 * (byA A s - 48) + (byA A (s + 1) - 48)
noncomputable def tW (A : Nat → Int) (s : Nat) : Int := if tE A s ≤ s + 6 then fX10_wordOf (wv (fun i => byA A (s + i) - 96) (tE A s - s)) else 99
noncomputable def rk (A : Nat → Int) (s : Nat) : Int := if tKd A s = 0 then 0 else if tKd A s = 2 then 1 else if tKd A s = 3 then 2 else if tKd A s = 1 then (if tW A s ≠ 99 then 3 else 4) else 4
def nx (A : Nat → Int) (s : Nat) : Nat := tS A (tE A s)
section TK
variable {A : Nat → Int} {G : Mem} {p s : Nat}
theorem tN_eq (hA : TA A) : (tN A : Int) = A 6 := by unfold tN; have := hA.1; omega
theorem tN_le (hA : TA A) : tN A ≤ 600 := by have := tN_eq hA; have := hA.1; omega
theorem by_ge (hA : TA A) {k : Nat} (h : tN A ≤ k) : byA A k = -1 := by
  have := tN_eq hA
  unfold byA
  rw [if_pos (by omega)]
theorem by_lt (hA : TA A) {k : Nat} (h : k < tN A) : byA A k = A (10 + k) ∧ 0 ≤ byA A k ∧ byA A k ≤ 255 := by
  have e := tN_eq hA
  have e2 : byA A k = A (10 + k) := by unfold byA; rw [if_neg (by omega)]
  have := hA.2 k (by omega)
  rw [e2]
  exact ⟨rfl, this⟩
theorem by_in (hA : TA A) {k : Nat} (h : 0 ≤ byA A k) : k < tN A := by
  by_cases y : tN A ≤ k
  · rw [by_ge hA y] at h; omega
  · omega
theorem sk_n (hA : TA A) {P : Int → Bool} (hP : P (-1) = false) : ∀ k, tN A ≤ k → P (byA A k) = false := fun k h => by rw [by_ge hA h]; exact hP
theorem tS_sp (hA : TA A) (hp : p ≤ tN A) : p ≤ tS A p ∧ tS A p ≤ tN A ∧ (∀ k, p ≤ k → k < tS A p → bBl (byA A k) = true) ∧ bBl (byA A (tS A p)) = false := by
  have := tN_le hA
  exact skp_sp (sk_n hA (P := bBl) (by decide)) 600 p (by omega) hp
theorem tE_lt (hA : TA A) (hs : s ≤ tN A) (h : bLt (byA A s) = true) : s < tE A s ∧ tE A s ≤ tN A ∧ (∀ k, s ≤ k → k < tE A s → bLt (byA A k) = true) ∧ bLt (byA A (tE A s)) = false := by
  have := tN_le hA
  have e : tE A s = skp bLt (byA A) 600 s := if_pos h
  rw [e]
  obtain ⟨a, b, c, d⟩ := skp_sp (sk_n hA (P := bLt) (by decide)) 600 s (by omega) hs
  refine ⟨?_, b, c, d⟩
  by_cases y : s = skp bLt (byA A) 600 s
  · rw [← y, h] at d; exact absurd d (by decide)
  · omega
theorem tE_dg (hA : TA A) (hs : s ≤ tN A) (h1 : ¬ bLt (byA A s) = true) (h : bDg (byA A s) = true) : s < tE A s ∧ tE A s ≤ tN A ∧ (∀ k, s ≤ k → k < tE A s → bDg (byA A k) = true) ∧ bDg (byA A (tE A s)) = false := by
  have := tN_le hA
  have e : tE A s = skp bDg (byA A) 600 s := by unfold tE; rw [if_neg h1, if_pos h]
  rw [e]
  obtain ⟨a, b, c, d⟩ := skp_sp (sk_n hA (P := bDg) (by decide)) 600 s (by omega) hs
  refine ⟨?_, b, c, d⟩
  by_cases y : s = skp bDg (byA A) 600 s
  · rw [← y, h] at d; exact absurd d (by decide)
  · omega
theorem tE_ot (h1 : ¬ bLt (byA A s) = true) (h : ¬ bDg (byA A s) = true) (h2 : ¬ byA A s < 0) : tE A s = s + 1 := by unfold tE; rw [if_neg h1, if_neg h, if_neg h2]
theorem tE_en (h2 : byA A s < 0) : tE A s = s := by
  unfold tE
  rw [if_neg (fun z => by have := bLt_i.mp z; omega), if_neg (fun z => by have := bDg_i.mp z; omega), if_pos h2]
theorem tE_sp (hA : TA A) (hs : s ≤ tN A) : s ≤ tE A s ∧ tE A s ≤ tN A ∧ (tKd A s ≠ 0 → s < tE A s) := by
  by_cases h2 : byA A s < 0
  · rw [tE_en h2]
    refine ⟨Nat.le_refl _, hs, fun z => absurd ?_ z⟩
    unfold tKd; rw [if_pos h2]
  · have h3 := by_in hA (k := s) (by omega)
    by_cases h : bLt (byA A s) = true
    · obtain ⟨a, b, -⟩ := tE_lt hA hs h; exact ⟨by omega, b, fun _ => a⟩
    · by_cases h1 : bDg (byA A s) = true
      · obtain ⟨a, b, -⟩ := tE_dg hA hs h h1; exact ⟨by omega, b, fun _ => a⟩
      · rw [tE_ot h h1 h2]; exact ⟨by omega, by omega, fun _ => by omega⟩
theorem nxq_sp (hA : TA A) (hs : s ≤ tN A) : nx A s ≤ tN A ∧ bBl (byA A (nx A s)) = false ∧ s ≤ nx A s ∧ (tKd A s ≠ 0 → s < nx A s) := by
  obtain ⟨a, b, c⟩ := tE_sp hA hs
  obtain ⟨d, e, -, g⟩ := tS_sp hA b
  exact ⟨e, g, Nat.le_trans a d, fun z => Nat.lt_of_lt_of_le (c z) d⟩
theorem tKd0 (hA : TA A) (hs : s ≤ tN A) : tKd A s = 0 ↔ s = tN A := by
  unfold tKd
  by_cases h : byA A s < 0
  · rw [if_pos h]
    refine ⟨fun _ => ?_, fun _ => rfl⟩
    by_cases y : s < tN A
    · have := by_lt hA y; omega
    · omega
  · rw [if_neg h]
    refine ⟨fun z => ?_, fun z => absurd (by rw [z, by_ge hA (Nat.le_refl _)]; decide) h⟩
    by_cases h1 : bLt (byA A s) = true
    · rw [if_pos h1] at z; omega
    · rw [if_neg h1] at z
      by_cases h2 : bDg (byA A s) = true
      · rw [if_pos h2] at z; split at z <;> omega
      · rw [if_neg h2] at z; split at z <;> omega
/-- the class's tape; its token -/
def XM (A : Nat → Int) (G : Mem) : Prop := G 35 0 = 3 ∧ G 35 1 = A 6 ∧ ∀ k : Nat, (k : Int) < A 6 → G 3 k = sb (A (10 + k))
def XT (A : Nat → Int) (s : Nat) (G : Mem) : Prop := G 35 3 = (s : Int) ∧ G 35 4 = (tE A s : Int) ∧ G 35 2 = tKd A s ∧ (tKd A s = 2 → G 35 5 = tV A s)
theorem XM.mono {F : Mem} (h : XM A G) (h0 : F 35 0 = G 35 0) (h1 : F 35 1 = G 35 1) (h3 : ∀ k, F 3 k = G 3 k) : XM A F := ⟨h0.trans h.1, h1.trans h.2.1, fun k hk => (h3 k).trans (h.2.2 k hk)⟩
theorem al3 : alen 3 = 600 := rfl
theorem n3 : (3 : Int).toNat = 3 := rfl
theorem x_byte (hA : TA A) (hX : XM A G) {k : Nat} (hk : k < tN A) : G 3 k = sb (byA A k) := by
  have := tN_eq hA
  rw [(by_lt hA hk).1]; exact hX.2.2 k (by omega)
theorem x_b5 (hA : TA A) (hX : XM A G) (hp : p ≤ tN A) : fX2_takeToken_b5 FU 35 (p : Int) G = fX2_takeToken_b31 35 (tS A p : Int) G := by
  obtain ⟨a, b, c, d⟩ := tS_sp hA hp
  have e6 := tN_eq hA
  have l6 := tN_le hA
  refine lp (fun n k (_ : Unit) => fX2_takeToken_b5 n 35 (k : Int) G) (tS A p) (fun k _ => p ≤ k) (fun r => r = fX2_takeToken_b31 35 (tS A p : Int) G) ?_ ?_ FU p () a (Nat.le_refl _) (FUa (by omega))
  · intro n k _ hk hi
    left
    refine ⟨(), by omega, ?_⟩
    have h1 := c k hi hk
    have hb := (by_lt hA (k := k) (by omega)).2
    show fX2_takeToken_b5 (n + 1) 35 (k : Int) G = fX2_takeToken_b5 n 35 ((k + 1 : Nat) : Int) G
    rw [fX2_takeToken_b5, hX.2.1, if_neg (by omega), hX.1, n3, if_neg (by decide), al3, if_pos (by omega), Int.toNat_natCast, x_byte hA hX (k := k) (by omega), x_blk hb, i10, if_pos (bBl_i.mp h1), xwS (by omega)]
  · intro n _ hi
    show fX2_takeToken_b5 (n + 1) 35 (tS A p : Int) G = _
    by_cases y : tS A p = tN A
    · rw [fX2_takeToken_b5, hX.2.1, if_pos (by omega)]
    · have hb := (by_lt hA (k := tS A p) (by omega)).2
      rw [fX2_takeToken_b5, hX.2.1, if_neg (by omega), hX.1, n3, if_neg (by decide), al3, if_pos (by omega), Int.toNat_natCast, x_byte hA hX (k := tS A p) (by omega), x_blk hb, i10, if_neg (fun z => bF.mp d (bBl_i.mpr z))]
theorem x_b64 (hA : TA A) (hX : XM A G) (hs : s ≤ tN A) (h : bLt (byA A s) = true) : fX2_takeToken_b64 FU 35 (s : Int) G = some (mset (mset G 35 2 1) 35 4 (tE A s : Int)) := by
  obtain ⟨a, b, c, d⟩ := tE_lt hA hs h
  have e6 := tN_eq hA
  have l6 := tN_le hA
  refine lp (fun n k (_ : Unit) => fX2_takeToken_b64 n 35 (k : Int) G) (tE A s) (fun k _ => s ≤ k) (fun r => r = some (mset (mset G 35 2 1) 35 4 (tE A s : Int))) ?_ ?_ FU s () (by omega) (Nat.le_refl _) (FUa (by omega))
  · intro n k _ hk hi
    left
    refine ⟨(), by omega, ?_⟩
    have h1 := c k hi hk
    have hb := (by_lt hA (k := k) (by omega)).2
    show fX2_takeToken_b64 (n + 1) 35 (k : Int) G = fX2_takeToken_b64 n 35 ((k + 1 : Nat) : Int) G
    rw [fX2_takeToken_b64, hX.2.1, if_neg (by omega), hX.1, n3, if_neg (by decide), al3, if_pos (by omega), Int.toNat_natCast, x_byte hA hX (k := k) (by omega), x_ltr hb, i10, if_pos (bLt_i.mp h1), xwS (by omega)]
  · intro n _ hi
    show fX2_takeToken_b64 (n + 1) 35 (tE A s : Int) G = _
    by_cases y : tE A s = tN A
    · rw [fX2_takeToken_b64, hX.2.1, if_pos (by omega)]
    · have hb := (by_lt hA (k := tE A s) (by omega)).2
      rw [fX2_takeToken_b64, hX.2.1, if_neg (by omega), hX.1, n3, if_neg (by decide), al3, if_pos (by omega), Int.toNat_natCast, x_byte hA hX (k := tE A s) (by omega), x_ltr hb, i10, if_neg (fun z => bF.mp d (bLt_i.mpr z))]
/-- the digits so far -/
def dvs (A : Nat → Int) (s k : Nat) (x : Int) : Prop := (k = s → x = 0) ∧ (k = s + 1 → x = byA A s - 48) ∧ (k = s + 2 → x = 10 * (byA A s - 48) + (byA A (s + 1) - 48))
theorem x_b115 (hA : TA A) (hX : XM A G) (hs : s ≤ tN A) (h0 : ¬ bLt (byA A s) = true) (h : bDg (byA A s) = true) (g3 : G 35 3 = (s : Int)) (g5 : G 35 5 = 0) : ∃ G', fX2_takeToken_b115 FU 35 (s : Int) G = some G' ∧ G' 35 2 = (if tE A s ≤ s + 2 then 2 else 4) ∧ G' 35 4 = (tE A s : Int) ∧ (tE A s ≤ s + 2 → G' 35 5 = tV A s) ∧ ∀ o k, ¬ (o = 35 ∧ (k = 2 ∨ k = 4 ∨ k = 5)) → G' o k = G o k := by
  obtain ⟨a, b, c, d⟩ := tE_dg hA hs h0 h
  have e6 := tN_eq hA
  have l6 := tN_le hA
  have fin : ∀ G1 : Mem, dvs A s (tE A s) (G1 35 5) → (∀ o k, ¬ (o = 35 ∧ k = 5) → G1 o k = G o k) → ∃ G', fX2_takeToken_b162 35 (tE A s : Int) G1 = some G' ∧ G' 35 2 = (if tE A s ≤ s + 2 then 2 else 4) ∧ G' 35 4 = (tE A s : Int) ∧ (tE A s ≤ s + 2 → G' 35 5 = tV A s) ∧ ∀ o k, ¬ (o = 35 ∧ (k = 2 ∨ k = 4 ∨ k = 5)) → G' o k = G o k := by
    intro G1 h5 hf
    have g1 : G1 35 3 = (s : Int) := (hf 35 3 (by omega)).trans g3
    refine ⟨mset (mset G1 35 2 (if tE A s ≤ s + 2 then 2 else 4)) 35 4 (tE A s : Int), ?_, ?_, mset_eq _ _ _ _, fun z => ?_, fun o k z => ?_⟩
    · unfold fX2_takeToken_b162
      rw [g1, xwn (by omega) (by omega)]
      by_cases y : tE A s ≤ s + 2
      · rw [if_pos (by omega), if_pos y]
      · rw [if_neg (by omega), if_neg y]
    · rw [mset_ne _ _ (by omega), mset_eq]
    · rw [mset_ne _ _ (by omega), mset_ne _ _ (by omega)]
      unfold tV
      by_cases y : tE A s = s + 1
      · rw [if_pos y]; exact h5.2.1 y
      · rw [if_neg y]; exact h5.2.2 (by omega)
    · rw [mset_ne _ _ (by omega), mset_ne _ _ (by omega)]; exact hf o k (by omega)
  refine lp (fun n k (G1 : Mem) => fX2_takeToken_b115 n 35 (k : Int) G1) (tE A s) (fun k G1 => s ≤ k ∧ dvs A s k (G1 35 5) ∧ ∀ o i, ¬ (o = 35 ∧ i = 5) → G1 o i = G o i) (fun r => ∃ G', r = some G' ∧ G' 35 2 = (if tE A s ≤ s + 2 then 2 else 4) ∧ G' 35 4 = (tE A s : Int) ∧ (tE A s ≤ s + 2 → G' 35 5 = tV A s) ∧ ∀ o k, ¬ (o = 35 ∧ (k = 2 ∨ k = 4 ∨ k = 5)) → G' o k = G o k) ?_ ?_ FU s G (by omega) ⟨Nat.le_refl _, ⟨fun _ => g5, fun z => absurd z (by omega), fun z => absurd z (by omega)⟩, fun _ _ _ => rfl⟩ (FUa (by omega))
  · rintro n k G1 hk ⟨hi, hv, hf⟩
    left
    have h1 := bDg_i.mp (c k hi hk)
    have hb := (by_lt hA (k := k) (by omega)).2
    have hX1 : XM A G1 := hX.mono (hf _ _ (by omega)) (hf _ _ (by omega)) (fun i => hf _ _ (by omega))
    have sbk : sb (byA A k) = byA A k := by unfold sb; rw [if_pos (by omega)]
    refine ⟨mset G1 35 5 (xw (xw (xw (G1 35 5 * 10) + byA A k) - 48)), ⟨by omega, ?_, fun o i z => by rw [mset_ne _ _ z]; exact hf o i z⟩, ?_⟩
    · rw [mset_eq]
      refine ⟨fun z => absurd z (by omega), fun z => ?_, fun z => ?_⟩
      · obtain rfl : k = s := by omega
        rw [hv.1 rfl, xwn (x := 0 * 10) (by omega) (by omega), xwn (x := 0 * 10 + _) (by omega) (by omega), xwn (by omega) (by omega)]
        omega
      · obtain rfl : k = s + 1 := by omega
        have h2 := bDg_i.mp (c s (Nat.le_refl _) (by omega))
        rw [hv.2.1 rfl, xwn (x := (byA A s - 48) * 10) (by omega) (by omega), xwn (x := (byA A s - 48) * 10 + _) (by omega) (by omega), xwn (by omega) (by omega)]
        omega
    · show fX2_takeToken_b115 (n + 1) 35 (k : Int) G1 = fX2_takeToken_b115 n 35 ((k + 1 : Nat) : Int) _
      rw [fX2_takeToken_b115, hX1.2.1, if_neg (by omega), hX1.1, n3, if_neg (by decide), al3, if_pos (by omega), Int.toNat_natCast, x_byte hA hX1 (k := k) (by omega), x_dgt hb, i10, if_pos h1, if_neg (by decide), if_pos (by omega), sbk, xwS (by omega)]
  · rintro n G1 ⟨hi, hv, hf⟩
    have hX1 : XM A G1 := hX.mono (hf _ _ (by omega)) (hf _ _ (by omega)) (fun i => hf _ _ (by omega))
    have := fin G1 hv hf
    show ∃ G', fX2_takeToken_b115 (n + 1) 35 (tE A s : Int) G1 = some G' ∧ _
    by_cases y : tE A s = tN A
    · rw [fX2_takeToken_b115, hX1.2.1, if_pos (by omega)]; exact this
    · have hb := (by_lt hA (k := tE A s) (by omega)).2
      rw [fX2_takeToken_b115, hX1.2.1, if_neg (by omega), hX1.1, n3, if_neg (by decide), al3, if_pos (by omega), Int.toNat_natCast, x_byte hA hX1 (k := tE A s) (by omega), x_dgt hb, i10, if_neg (fun z => bF.mp d (bDg_i.mpr z))]
      exact this
/-- the class takes a token -/
theorem x_token (hA : TA A) (hX : XM A G) (hp : p ≤ tN A) (g4 : G 35 4 = (p : Int)) : ∃ G', fX2_takeToken 35 G = some G' ∧ XT A (tS A p) G' ∧ ∀ o k, ¬ (o = 35 ∧ 2 ≤ k ∧ k ≤ 5) → G' o k = G o k := by
  obtain ⟨-, hs, -, hbl⟩ := tS_sp hA hp
  have e6 := tN_eq hA
  have l6 := tN_le hA
  unfold fX2_takeToken
  rw [g4, x_b5 hA hX hp]
  generalize tS A p = s at hs hbl
  unfold fX2_takeToken_b31
  generalize eG : mset G 35 3 (s : Int) = G1
  have hf : ∀ o k, ¬ (o = 35 ∧ k = 3) → G1 o k = G o k := fun o k z => by rw [← eG, mset_ne _ _ z]
  have g3 : G1 35 3 = (s : Int) := by rw [← eG, mset_eq]
  have hX1 : XM A G1 := hX.mono (hf _ _ (by omega)) (hf _ _ (by omega)) (fun i => hf _ _ (by omega))
  rw [hX1.2.1, hX1.1, n3, al3]
  by_cases y : (s : Int) < A 6
  · have hk : s < tN A := by omega
    have hb := (by_lt hA hk).2
    have bt : (0 : Int) ≤ (s : Int) ∧ (s : Int) < ((600 : Nat) : Int) := by omega
    have ny : ¬ byA A s < 0 := by omega
    rw [if_pos y, if_neg n30, if_neg n30, if_neg n30, if_pos bt, if_pos bt, if_pos bt, Int.toNat_natCast, x_byte hA hX1 hk, x_ltr hb, x_dgt hb, i10, i10]
    by_cases h1 : bLt (byA A s) = true
    · rw [if_pos (bLt_i.mp h1), x_b64 hA hX1 hs h1]
      have ek : tKd A s = 1 := by unfold tKd; rw [if_neg ny, if_pos h1]
      refine ⟨_, rfl, ⟨?_, mset_eq _ _ _ _, ?_, fun z => by omega⟩, fun o k z => ?_⟩
      · rw [mset_ne _ _ (by omega), mset_ne _ _ (by omega)]; exact g3
      · rw [mset_ne _ _ (by omega), mset_eq, ek]
      · rw [mset_ne _ _ (by omega), mset_ne _ _ (by omega)]; exact hf o k (by omega)
    · rw [if_neg (fun z => h1 (bLt_i.mpr z))]
      by_cases h2 : bDg (byA A s) = true
      · rw [if_pos (bDg_i.mp h2)]
        have hX2 : XM A (mset G1 35 5 0) := hX1.mono (mset_ne _ _ (by omega)) (mset_ne _ _ (by omega)) (fun i => mset_ne _ _ (by omega))
        obtain ⟨G', r1, r2, r3, r4, r5⟩ := x_b115 hA hX2 hs h1 h2 (by rw [mset_ne _ _ (by omega)]; exact g3) (mset_eq _ _ _ _)
        have ek : tKd A s = if tE A s ≤ s + 2 then 2 else 4 := by unfold tKd; rw [if_neg ny, if_neg h1, if_pos h2]
        refine ⟨G', r1, ⟨?_, r3, r2.trans ek.symm, fun z => r4 ?_⟩, fun o k z => ?_⟩
        · rw [r5 _ _ (by omega), mset_ne _ _ (by omega)]; exact g3
        · rw [ek] at z
          by_cases w : tE A s ≤ s + 2
          · exact w
          · rw [if_neg w] at z; omega
        · rw [r5 _ _ (by omega), mset_ne _ _ (by omega)]; exact hf o k (by omega)
      · rw [if_neg (fun z => h2 (bDg_i.mpr z))]
        have ee := tE_ot h1 h2 ny
        have e59 : sb (byA A s) = 59 ↔ byA A s = 59 := sb_eq hb (by decide)
        rw [xwS (by omega)]
        by_cases h3 : byA A s = 59
        · rw [if_neg (dnn (e59.mpr h3))]
          have ek : tKd A s = 3 := by unfold tKd; rw [if_neg ny, if_neg h1, if_neg h2, if_pos h3]
          refine ⟨_, rfl, ⟨?_, by rw [mset_eq, ee], ?_, fun z => by omega⟩, fun o k z => ?_⟩
          · rw [mset_ne _ _ (by omega), mset_ne _ _ (by omega)]; exact g3
          · rw [mset_ne _ _ (by omega), mset_eq, ek]
          · rw [mset_ne _ _ (by omega), mset_ne _ _ (by omega)]; exact hf o k (by omega)
        · rw [if_pos (fun z => h3 (e59.mp z))]
          have ek : tKd A s = 4 := by unfold tKd; rw [if_neg ny, if_neg h1, if_neg h2, if_neg h3]
          refine ⟨_, rfl, ⟨?_, by rw [mset_eq, ee], ?_, fun z => by omega⟩, fun o k z => ?_⟩
          · rw [mset_ne _ _ (by omega), mset_ne _ _ (by omega)]; exact g3
          · rw [mset_ne _ _ (by omega), mset_eq, ek]
          · rw [mset_ne _ _ (by omega), mset_ne _ _ (by omega)]; exact hf o k (by omega)
  · rw [if_neg y]
    have ny : byA A s < 0 := by rw [by_ge hA (by omega)]; decide
    have ek : tKd A s = 0 := by unfold tKd; rw [if_pos ny]
    refine ⟨_, rfl, ⟨?_, by rw [mset_eq, tE_en ny], ?_, fun z => by omega⟩, fun o k z => ?_⟩
    · rw [mset_ne _ _ (by omega), mset_ne _ _ (by omega)]; exact g3
    · rw [mset_ne _ _ (by omega), mset_eq, ek]
    · rw [mset_ne _ _ (by omega), mset_ne _ _ (by omega)]; exact hf o k (by omega)
end TK
