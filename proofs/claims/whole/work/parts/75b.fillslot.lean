section PLG
variable {v : Nat → Int} {V : Nat} {F : Mem}
theorem xwA {a k : Nat} (h : a + k < 2147483648) : xw ((a : Int) + (k : Int)) = ((a + k : Nat) : Int) := by rw [xwn (by omega) (by omega)]; omega
theorem bk8 {a k : Nat} (h1 : a < 336) (h2 : k < 8) : (0 : Int) ≤ ((8 * a + k : Nat) : Int) ∧ ((8 * a + k : Nat) : Int) < ((2688 : Nat) : Int) := by omega
theorem x_fillSlot {hd : Nat → Int} {day days : Nat} (hP : PO v hd V day days F) {c m : Int} (hr : ∀ h : Nat, (h : Int) < v 5 → F 64 h = rtM v c m h) {i x : Nat} (hi : i < days) (hx : (x : Int) < v 0) : ∃ F', fX1_fillSlot 63 (i : Int) (x : Int) F = some F' ∧ (∀ h : Nat, (h : Int) < v 5 → F' 65 (8 * (i * (v 0).toNat + x) + h) = gnD v hd day c m (i * (v 0).toNat + x) h) ∧ (∀ o k, ¬ (o = 65 ∧ 8 * (i * (v 0).toNat + x) ≤ k ∧ k < 8 * (i * (v 0).toNat + x) + 8) → F' o k = F o k) := by
  obtain ⟨h1, h2, h3, h4, h5, h6, h7⟩ := id hP
  have hO := h1.2.2.2.2
  have b0 := hO.1
  have b5 := hO.2.2.2.1
  have hN := po_N hP
  have hix : i * (v 0).toNat + x < 336 := by
    have : (i + 1) * (v 0).toNat ≤ days * (v 0).toNat := Nat.mul_le_mul_right _ (by omega)
    rw [Nat.add_mul, Nat.one_mul] at this
    omega
  have ev : ((i : Int) * v 0) = ((i * (v 0).toNat : Nat) : Int) := by
    rw [Int.natCast_mul, show (((v 0).toNat : Nat) : Int) = v 0 by omega]
  have em : (i * (v 0).toNat + x) % (v 0).toNat = x := by rw [Nat.mul_comm, Nat.mul_add_mod]; exact Nat.mod_eq_of_lt (by omega)
  have edv : (i * (v 0).toNat + x) / (v 0).toNat = i := by
    rw [Nat.mul_comm, Nat.mul_add_div (by omega), Nat.div_eq_of_lt (by omega), Nat.add_zero]
  have hgn : ∀ h : Nat, gnD v hd day c m (i * (v 0).toNat + x) h = if hd (48 * ((day + i) % 7) + x) = -1 ∨ hd (48 * ((day + i) % 7) + x) = (h : Int) then ghD v c m x h else 0 := fun h => by unfold gnD; rw [em, edv]
  have e7 : Int.tmod ((day : Int) + (i : Int)) 7 = (((day + i) % 7 : Nat) : Int) := by rw [Int.tmod_eq_emod_of_nonneg (by omega)]; omega
  have h7d : (day + i) % 7 < 7 := Nat.mod_lt _ (by decide)
  generalize hb : i * (v 0).toNat = b at *
  generalize hq : (day + i) % 7 = d7 at *
  clear hb em edv hq hN
  unfold fX1_fillSlot
  rw [pv_n h1, if_neg h1.2.1, pv_0 h1, h3, xwn (x := (day : Int) + i) (by omega) (by omega), ev, xwn (x := ((b : Nat) : Int)) (by omega) (by omega), xwn (x := (b : Int) + x) (by omega) (by omega), xwn (x := ((b : Int) + x) * 8) (by omega) (by omega), e7, show ((b : Int) + (x : Int)) * 8 = ((8 * (b + x) : Nat) : Int) by omega]
  clear ev e7
  refine lp (fun n k (X : Mem) => fX1_fillSlot_b29 n 63 (x : Int) ((d7 : Nat) : Int) ((8 * (b + x) : Nat) : Int) (k : Int) X) (v 5).toNat
    (fun k X => (∀ h : Nat, h < k → X 65 (8 * (b + x) + h) = gnD v hd day c m (b + x) h) ∧ (∀ o j, ¬ (o = 65 ∧ 8 * (b + x) ≤ j ∧ j < 8 * (b + x) + 8) → X o j = F o j))
    (fun r => ∃ F', r = some F' ∧ (∀ h : Nat, (h : Int) < v 5 → F' 65 (8 * (b + x) + h) = gnD v hd day c m (b + x) h) ∧ (∀ o k, ¬ (o = 65 ∧ 8 * (b + x) ≤ k ∧ k < 8 * (b + x) + 8) → F' o k = F o k)) ?_ ?_ FU 0 F (by omega) ⟨fun h hh => absurd hh (by omega), fun _ _ _ => rfl⟩ (FU_gt (by omega))
  · rintro n k X hk ⟨g1, g2⟩
    left
    have hk5 : (k : Int) < v 5 := by omega
    have hPX : PO v hd V day days X := hP.mono (fun o j ho => g2 o j (by omega))
    have hrX : ∀ h : Nat, (h : Int) < v 5 → X 64 h = rtM v c m h := fun h hh => (g2 64 h (by omega)).trans (hr h hh)
    refine ⟨mset X 65 (8 * (b + x) + k) (gnD v hd day c m (b + x) k), ⟨fun h hh => ?_, fun o j ho => ?_⟩, ?_⟩
    · by_cases y : h = k
      · subst y; rw [mset_eq]
      · rw [mset_ne _ _ (by omega)]; exact g1 h (by omega)
    · rw [mset_ne _ _ (by omega)]; exact g2 o j ho
    · have e48 : (X 63 1).toNat = 48 := by rw [hPX.2.1]; rfl
      show fX1_fillSlot_b29 (n + 1) 63 (x : Int) ((d7 : Nat) : Int) ((8 * (b + x) : Nat) : Int) (k : Int) X = _
      have bk : (0 : Int) ≤ ((8 * (b + x) + k : Nat) : Int) ∧ ((8 * (b + x) + k : Nat) : Int) < ((2688 : Nat) : Int) := bk8 hix (by omega)
      have hm := x_mayW (F := X) (hd := hd) hPX.2.2.2.2.2.2 h7d (show x < 48 by omega) (k : Int)
      have hg := x_gainIfHeld (F := X) (c := c) (m := m) (x := x) hPX.1 hrX hk5
      have n5 : ¬ v 5 ≤ (k : Int) := by omega
      have hk1 : k < 2147483647 := by omega
      have hk2 : 8 * (b + x) + k < 2147483648 := by omega
      rw [fX1_fillSlot_b29, pv_n hPX.1, if_neg h1.2.1, pv_5 hPX.1, if_neg n5, e48, if_neg (show ¬ (48 : Nat) = 0 by decide), hm, Option.bind_some, hg, Option.bind_some, xwA hk2, a65, xwS hk1]
      simp only [if_pos bk, Int.toNat_natCast]
      rw [i10, hgn k]
      by_cases q : hd (48 * d7 + x) = -1 ∨ hd (48 * d7 + x) = (k : Int)
      · rw [if_pos q, if_pos q]
      · rw [if_neg q, if_neg q]
  · rintro n X ⟨g1, g2⟩
    have hPX : PO v hd V day days X := hP.mono (fun o j ho => g2 o j (by omega))
    refine ⟨X, ?_, fun h hh => g1 h (by omega), g2⟩
    show fX1_fillSlot_b29 (n + 1) 63 (x : Int) ((d7 : Nat) : Int) ((8 * (b + x) : Nat) : Int) (((v 5).toNat : Nat) : Int) X = _
    rw [fX1_fillSlot_b29, pv_n hPX.1, if_neg h1.2.1, pv_5 hPX.1, if_pos (by omega)]
end PLG
