/-! ===== a round gone on a valley ===== -/
def atk (v r : Nat → Int) : Nat → Int
  | 0 => v 4
  | k + 1 => r (1 + 3 * k)
def frk (r : Nat → Int) : Nat → Int
  | 0 => 0
  | k + 1 => r (1 + 3 * k + 2)
def flk (r : Nat → Int) : Nat → Int
  | 0 => 0
  | k + 1 => r (1 + 3 * k + 1)
def lvk (v r : Nat → Int) (k : Nat) : Int := r (1 + 3 * k + 1) - slt v (v 1) (atk v r k).toNat (r (1 + 3 * k)).toNat
def canL (v r : Nat → Int) (k : Nat) : Prop := r (1 + 3 * k) < v 5 ∧ r (1 + 3 * k + 2) ≤ v 0 ∧ frk r k ≤ lvk v r k
def sta (v r : Nat → Int) : Nat → Nat → Int
  | 0, _ => v 4
  | k + 1, s => if (s : Int) < lvk v r k then sta v r k s else if (s : Int) < r (1 + 3 * k + 1) then -1 else r (1 + 3 * k)
def clm (v r : Nat → Int) (k : Nat) : Int := sm k (fun j => stp v (atk v r j).toNat (r (1 + 3 * j)).toNat)
def isStop (v r : Nat → Int) (k : Nat) : Prop := (k : Int) ≤ r 0 ∧ (∀ j, j < k → canL v r j) ∧ ((k : Int) = r 0 ∨ ¬ canL v r k)
theorem stop_uniq {v r : Nat → Int} {a b : Nat} (ha : isStop v r a) (hb : isStop v r b) : a = b := by
  obtain ⟨a1, a2, a3⟩ := ha
  obtain ⟨b1, b2, b3⟩ := hb
  rcases Nat.lt_trichotomy a b with h | h | h
  · rcases a3 with q | q
    · omega
    · exact absurd (b2 a h) q
  · exact h
  · rcases b3 with q | q
    · omega
    · exact absurd (a2 b h) q
section WLK
variable {v r : Nat → Int}
theorem at_bd (hO : VO v) (hR : RO r) {k : Nat} (hk : (k : Int) ≤ r 0) (hc : ∀ j, j < k → canL v r j) : 0 ≤ atk v r k ∧ atk v r k < v 5 := by
  cases k with
  | zero => exact ⟨hO.2.2.2.1.1, hO.2.2.2.1.2.1⟩
  | succ k => exact ⟨(hR.2 k (by omega)).1.1, (hc k (by omega)).1⟩
theorem fl_bd (hR : RO r) {k : Nat} (hk : (k : Int) ≤ r 0) : 0 ≤ flk r k ∧ flk r k ≤ frk r k ∧ frk r k ≤ 48 := by
  cases k with
  | zero => exact ⟨Int.le_refl _, Int.le_refl _, by show (0 : Int) ≤ 48; omega⟩
  | succ k =>
    have h := (hR.2 k (by omega)).2
    show 0 ≤ r (1 + 3 * k + 1) ∧ r (1 + 3 * k + 1) ≤ r (1 + 3 * k + 2) ∧ r (1 + 3 * k + 2) ≤ 48
    omega
theorem lv_bd (hO : VO v) (hR : RO r) {k : Nat} (hk : (k : Int) < r 0) (hc : ∀ j, j < k → canL v r j) (hh : r (1 + 3 * k) < v 5) : lvk v r k ≤ r (1 + 3 * k + 1) ∧ -99 ≤ lvk v r k := by
  have h1 := at_bd hO hR (Int.le_of_lt hk) hc
  have h2 := (hR.2 k hk).1
  have h4 := (hR.2 k hk).2
  have h3 := slt_bd hO hO.2.1.1 (a := (atk v r k).toNat) (b := (r (1 + 3 * k)).toNat) (by omega) (by omega)
  unfold lvk
  omega
theorem sta_fl (hO : VO v) (hR : RO r) {k s : Nat} (hk : (k : Int) ≤ r 0) (hc : ∀ j, j < k → canL v r j) (hs : flk r k ≤ (s : Int)) : sta v r k s = atk v r k := by
  cases k with
  | zero => rfl
  | succ k =>
    have h1 := lv_bd hO hR (k := k) (by omega) (fun j hj => hc j (by omega)) (hc k (by omega)).1
    have hs : r (1 + 3 * k + 1) ≤ (s : Int) := hs
    show (if (s : Int) < lvk v r k then _ else if (s : Int) < r (1 + 3 * k + 1) then -1 else r (1 + 3 * k)) = r (1 + 3 * k)
    rw [if_neg (by omega), if_neg (by omega)]
theorem clm_bd (hO : VO v) (hR : RO r) {k : Nat} (hk : (k : Int) ≤ r 0) (hc : ∀ j, j < k → canL v r j) : 0 ≤ clm v r k ∧ clm v r k ≤ 99 * k := by
  have h := sm_bd (f := fun j => stp v (atk v r j).toNat (r (1 + 3 * j)).toNat) (lo := 0) (hi := 99) k (fun j hj => by
    have h1 := at_bd hO hR (k := j) (by omega) (fun i hi => hc i (by omega))
    have h2 := (hR.2 j (by omega)).1
    have h3 := (hc j hj).1
    exact stp_bd hO (by omega) (by omega))
  rw [Int.zero_mul] at h
  exact h
theorem x_mark {F : Mem} (f t h : Int) (hf : 0 ≤ f) (hf2 : f ≤ 1000) : ∃ F', fX8_mark 60 f t h F = some F' ∧ (∀ i : Nat, F' 61 i = if f ≤ (i : Int) ∧ (i : Int) < t ∧ i < 48 then h else F 61 i) ∧ (∀ o k, o ≠ 61 → F' o k = F o k) := by
  obtain ⟨a, rfl⟩ := nat_of hf
  unfold fX8_mark
  have e : xmax 0 (a : Int) = (a : Int) := by unfold xmax; split <;> omega
  rw [e]
  refine lp (fun n k (G : Mem) => fX8_mark_b7 n 60 t h (k : Int) G) (if t < 48 then (if t < a then a else t.toNat) else if a < 48 then 48 else a)
    (fun k G => a ≤ k ∧ (∀ i : Nat, G 61 i = if (a : Int) ≤ (i : Int) ∧ (i : Int) < t ∧ i < 48 ∧ i < k then h else F 61 i) ∧ ∀ o k, o ≠ 61 → G o k = F o k)
    (fun r => ∃ F', r = some F' ∧ (∀ i : Nat, F' 61 i = if (a : Int) ≤ (i : Int) ∧ (i : Int) < t ∧ i < 48 then h else F 61 i) ∧ (∀ o k, o ≠ 61 → F' o k = F o k)) ?_ ?_ FU a F ?_ ?_ ?_
  · intro n k G hk ⟨hak, h1, h2⟩
    left
    refine ⟨mset G 61 k h, ⟨by omega, fun i => ?_, fun o j ho => ?_⟩, ?_⟩
    · by_cases q : i = k
      · subst q
        rw [mset_eq, if_pos]
        split at hk <;> (split at hk <;> omega)
      · rw [mset_ne _ _ (by omega), h1]
        by_cases z : (a : Int) ≤ (i : Int) ∧ (i : Int) < t ∧ i < 48 ∧ i < k
        · rw [if_pos z, if_pos (by omega)]
        · rw [if_neg z, if_neg (by omega)]
    · rw [mset_ne _ _ (by omega)]; exact h2 o j ho
    · have b1 : (k : Int) < t ∧ k < 48 := by split at hk <;> (split at hk <;> omega)
      show fX8_mark_b7 (n + 1) 60 t h (k : Int) G = fX8_mark_b7 n 60 t h ((k + 1 : Nat) : Int) _
      rw [fX8_mark_b7, if_neg (by omega), if_neg (by omega), show alen (60 + 1) = 48 from rfl, if_pos (by omega), xwS (by omega), Int.toNat_natCast]
  · intro n G ⟨hak, h1, h2⟩
    generalize hN : (if t < 48 then (if t < a then a else t.toNat) else if a < 48 then 48 else a) = N at h1 hak
    refine ⟨G, ?_, fun i => ?_, h2⟩
    · show fX8_mark_b7 (n + 1) 60 t h (N : Int) G = some G
      rw [fX8_mark_b7]
      by_cases q : t ≤ (N : Int)
      · rw [if_pos q]
      · rw [if_neg q, if_pos]
        split at hN <;> (split at hN <;> omega)
    · rw [h1 i]
      by_cases z : (a : Int) ≤ (i : Int) ∧ (i : Int) < t ∧ i < 48
      · rw [if_pos z, if_pos]
        split at hN <;> (split at hN <;> omega)
      · rw [if_neg z, if_neg (by omega)]
  · split <;> split <;> omega
  · refine ⟨Nat.le_refl _, fun i => ?_, fun _ _ _ => rfl⟩
    rw [if_neg (by omega)]
  · show _ < 100000 + a
    split <;> split <;> omega
end WLK
