/-! ===== lawful, valley ===== -/
def okLeg (r H : Nat → Int) (day k : Nat) : Prop := ∀ s : Nat, r (1 + 3 * k + 1) ≤ (s : Int) → (s : Int) < r (1 + 3 * k + 2) → H (48 * day + s) = -1 ∨ H (48 * day + s) = r (1 + 3 * k)
theorem x_mayWork {F : Mem} {H : Nat → Int} (hH : ∀ s, s < 336 → F 50 s = H s) {day s : Nat} (hd : day ≤ 6) (hs : s < 48) (h : Int) : fX0_mayWork 48 (day : Int) (s : Int) h F = some (if H (48 * day + s) = -1 ∨ H (48 * day + s) = h then 1 else 0) := by
  have l1 : alen (48 + 2) = 336 := rfl
  have b1 : xw (xw ((day : Int) * 48) + (s : Int)) = ((48 * day + s : Nat) : Int) := by rw [xwn (x := (day : Int) * 48) (by omega) (by omega), xwn (by omega) (by omega)]; omega
  have q : F (48 + 2) (48 * day + s) = H (48 * day + s) := hH _ (by omega)
  unfold fX0_mayWork
  rw [b1, l1, if_pos (by omega), Int.toNat_natCast, q]
  by_cases c : H (48 * day + s) = -1
  · rw [if_pos c, if_pos (Or.inl c)]
  · rw [if_neg c]
    by_cases c2 : H (48 * day + s) = h
    · rw [if_neg (by omega), if_pos (Or.inr c2)]
    · rw [if_pos c2, if_neg (by omega)]
theorem m_may {F : Mem} {H : Nat → Int} (hH : ∀ s, s < 336 → F 179 s = H s) {day s : Nat} (hd : day ≤ 6) (hs : s < 48) (h : Int) : fX10_may 173 h (day : Int) (s : Int) F = some (if H (48 * day + s) = -1 ∨ H (48 * day + s) = h then 1 else 0) := by
  have b1 : xw (xw (48 * (day : Int)) + (s : Int)) = ((48 * day + s : Nat) : Int) := by rw [xwn (x := 48 * (day : Int)) (by omega) (by omega), xwn (by omega) (by omega)]; omega
  have q : F (173 + 6) (48 * day + s) = H (48 * day + s) := hH _ (by omega)
  have bt : (0 : Int) ≤ ((48 * day + s : Nat) : Int) ∧ ((48 * day + s : Nat) : Int) < ((336 : Nat) : Int) := by omega
  unfold fX10_may
  simp only [b1, al6, if_pos bt, Int.toNat_natCast, q]
  by_cases c : H (48 * day + s) = -1
  · rw [if_pos c, if_pos (Or.inl c)]
  · rw [if_neg c]
    by_cases c2 : H (48 * day + s) = h
    · rw [if_neg (by omega), if_pos (Or.inr c2)]
    · rw [if_pos c2, if_neg (by omega)]
theorem x_leg {F : Mem} {H r : Nat → Int} {s : Nat} (hH : ∀ s, s < 336 → F 50 s = H s) (hS : SR 3 16 r F s) (hR : RO r) (hs : s ≠ 0) {day k : Nat} (hd : day ≤ 6) (hk : (k : Int) < r 0) : ∃ z, fX9_mayWorkLeg 1 s (k : Int) (day : Int) F = some z ∧ (z = 0 ∨ z = 1) ∧ (z = 1 ↔ okLeg r H day k) := by
  have r2 := hR.2 k hk
  have r0 := hR.1
  have c0 := s_cell hS (by decide) (k := k) (i := 0) (x := (k : Int)) (y := 0) rfl rfl hk (by omega)
  have c1 := s_cell hS (by decide) (k := k) (i := 1) (x := (k : Int)) (y := 1) rfl rfl hk (by omega)
  have c2 := s_cell hS (by decide) (k := k) (i := 2) (x := (k : Int)) (y := 2) rfl rfl hk (by omega)
  rw [Nat.add_zero] at c0
  obtain ⟨a, ea⟩ := nat_of r2.2.1
  obtain ⟨b, eb⟩ := nat_of (show 0 ≤ r (1 + 3 * k + 2) by omega)
  have m1 : xmin (b : Int) 48 = (b : Int) := by unfold xmin; split <;> omega
  have m2 : xmax (a : Int) 0 = (a : Int) := by unfold xmax; split <;> omega
  unfold fX9_mayWorkLeg okLeg
  rw [if_neg hs, c2, Option.bind_some, if_neg hs, c1, Option.bind_some, ea, eb, m1, m2]
  refine lp (fun n j (_ : Unit) => fX9_mayWorkLeg_b25 F n 1 s (k : Int) (day : Int) (b : Int) (j : Int)) b (fun j _ => a ≤ j ∧ ∀ i : Nat, a ≤ i → i < j → H (48 * day + i) = -1 ∨ H (48 * day + i) = r (1 + 3 * k)) (fun w => ∃ z, w = some z ∧ (z = 0 ∨ z = 1) ∧ (z = 1 ↔ ∀ s : Nat, (a : Int) ≤ (s : Int) → (s : Int) < (b : Int) → H (48 * day + s) = -1 ∨ H (48 * day + s) = r (1 + 3 * k))) ?_ ?_ FU a () (by omega) ⟨Nat.le_refl _, fun i h1 h2 => absurd h2 (by omega)⟩ (show b < 100000 + a by omega)
  · rintro n j - hj ⟨h1, h2⟩
    have E : fX9_mayWorkLeg_b25 F (n + 1) 1 s (k : Int) (day : Int) (b : Int) (j : Int) = if H (48 * day + j) = -1 ∨ H (48 * day + j) = r (1 + 3 * k) then fX9_mayWorkLeg_b25 F n 1 s (k : Int) (day : Int) (b : Int) ((j + 1 : Nat) : Int) else some 0 := by
      have mw := x_mayWork hH hd (s := j) (by omega) (r (1 + 3 * k))
      rw [fX9_mayWorkLeg_b25, if_neg (by omega), if_neg hs, c0, Option.bind_some]
      simp only [Nat.reduceAdd]
      rw [mw, Option.bind_some, i11, xwS (by omega)]
    by_cases c : H (48 * day + j) = -1 ∨ H (48 * day + j) = r (1 + 3 * k)
    · left
      refine ⟨(), ⟨by omega, fun i y1 y2 => ?_⟩, ?_⟩
      · by_cases y : i = j
        · subst y; exact c
        · exact h2 i y1 (by omega)
      · show fX9_mayWorkLeg_b25 F (n + 1) 1 s (k : Int) (day : Int) (b : Int) (j : Int) = _
        rw [E, if_pos c]
    · right
      show ∃ z, fX9_mayWorkLeg_b25 F (n + 1) 1 s (k : Int) (day : Int) (b : Int) (j : Int) = some z ∧ _
      rw [E, if_neg c]
      exact ⟨0, rfl, Or.inl rfl, fun z => absurd z (by decide), fun z => absurd (z j (by omega) (by omega)) c⟩
  · rintro n - ⟨h1, h2⟩
    show ∃ z, fX9_mayWorkLeg_b25 F (n + 1) 1 s (k : Int) (day : Int) (b : Int) (b : Int) = some z ∧ _
    rw [fX9_mayWorkLeg_b25, if_pos (by omega)]
    exact ⟨1, rfl, Or.inr rfl, fun _ i y1 y2 => h2 i (by omega) (by omega), fun _ => rfl⟩
theorem x_lawful {F : Mem} {H r : Nat → Int} {s q : Nat} (hH : ∀ s, s < 336 → F 50 s = H s) (hS : SR 3 16 r F s) (hR : RO r) (hs : s ≠ 0) {day : Nat} (hd : day ≤ 6) (hq : (q : Int) ≤ r 0) (h1 : F 60 1 = (q : Int)) : ∃ z, fX9_lawful_b44 FU 1 (day : Int) s 0 F = some (z, F) ∧ FF q (fun k => ¬ okLeg r H day k) (fun k => (k : Int)) (-1) z := by
  have r0 := hR.1
  refine lp (fun n k (_ : Unit) => fX9_lawful_b44 n 1 (day : Int) s (k : Int) F) q (fun k _ => ∀ j, j < k → ¬ ¬ okLeg r H day j) (fun w => ∃ z, w = some (z, F) ∧ FF q (fun k => ¬ okLeg r H day k) (fun k => (k : Int)) (-1) z) ?_ ?_ FU 0 () (by omega) (fun j hj => absurd hj (by omega)) (FU_gt (by omega))
  · rintro n k - hk hi
    obtain ⟨z, z1, z2, z3⟩ := x_leg hH hS hR hs hd (k := k) (by omega)
    have e1 : F (1 + 59) 1 = (q : Int) := h1
    have E : fX9_lawful_b44 (n + 1) 1 (day : Int) s (k : Int) F = if z ≠ 0 then fX9_lawful_b44 n 1 (day : Int) s ((k + 1 : Nat) : Int) F else some ((k : Int), F) := by
      rw [fX9_lawful_b44, if_neg hs, e1, if_neg (by omega), z1, Option.bind_some, xwS (by omega)]
    rcases z2 with rfl | rfl
    · right
      show ∃ z, fX9_lawful_b44 (n + 1) 1 (day : Int) s (k : Int) F = some (z, F) ∧ _
      rw [E, if_neg (by decide)]
      exact ⟨_, rfl, Or.inl ⟨k, hk, fun c => absurd (z3.mpr c) (by decide), hi, rfl⟩⟩
    · left
      refine ⟨(), fun j hj => ?_, ?_⟩
      · by_cases y : j = k
        · subst y; exact fun c => c (z3.mp rfl)
        · exact hi j (by omega)
      · show fX9_lawful_b44 (n + 1) 1 (day : Int) s (k : Int) F = _
        rw [E, if_pos (by decide)]
  · rintro n - hi
    have e1 : F (1 + 59) 1 = (q : Int) := h1
    show ∃ z, fX9_lawful_b44 (n + 1) 1 (day : Int) s (q : Int) F = some (z, F) ∧ _
    rw [fX9_lawful_b44, if_neg hs, e1, if_pos (by omega)]
    exact ⟨_, rfl, Or.inr ⟨hi, rfl⟩⟩
theorem m_lawful {F : Mem} {H r : Nat → Int} {i q : Nat} (hH : ∀ s, s < 336 → F 179 s = H s) (hi3 : i < 3) (hr : r = rOf (F 174) i) (hR : RO r) {day : Nat} (hd : day ≤ 6) (hq : (q : Int) ≤ r 0) (h1 : F 173 15 = (q : Int)) : ∃ z, fX10_lawful_b43 FU 173 (day : Int) (726 + 49 * (i : Int)) 0 F = some (z, F) ∧ FF q (fun k => ¬ okLeg r H day k) (fun k => (k : Int)) (-1) z := by
  have r0 := hR.1
  have hA : ∀ j, F (173 + 1) (726 + 49 * i + j) = r j := fun j => by rw [hr]; rfl
  refine lp (fun n k (_ : Unit) => fX10_lawful_b43 n 173 (day : Int) (726 + 49 * (i : Int)) (k : Int) F) q (fun k _ => ∀ j, j < k → ¬ ¬ okLeg r H day j) (fun w => ∃ z, w = some (z, F) ∧ FF q (fun k => ¬ okLeg r H day k) (fun k => (k : Int)) (-1) z) ?_ ?_ FU 0 () (by omega) (fun j hj => absurd hj (by omega)) (FU_gt (by omega))
  · rintro n k - hk hi
    have r2 := hR.2 k (by omega)
    have i0 : F (173 + 1) ((726 : Int) + 49 * (i : Int) + 1 + 3 * (k : Int)).toNat = r (1 + 3 * k) := by
      rw [show ((726 : Int) + 49 * (i : Int) + 1 + 3 * (k : Int)).toNat = 726 + 49 * i + (1 + 3 * k) by omega]; exact hA _
    have i1 : F (173 + 1) ((726 : Int) + 49 * (i : Int) + 1 + 3 * (k : Int) + 1).toNat = r (1 + 3 * k + 1) := by
      rw [show ((726 : Int) + 49 * (i : Int) + 1 + 3 * (k : Int) + 1).toNat = 726 + 49 * i + (1 + 3 * k + 1) by omega]; exact hA _
    have i2 : F (173 + 1) ((726 : Int) + 49 * (i : Int) + 1 + 3 * (k : Int) + 2).toNat = r (1 + 3 * k + 2) := by
      rw [show ((726 : Int) + 49 * (i : Int) + 1 + 3 * (k : Int) + 2).toNat = 726 + 49 * i + (1 + 3 * k + 2) by omega]; exact hA _
    obtain ⟨a, ea⟩ := nat_of r2.2.1
    obtain ⟨b, eb⟩ := nat_of (show 0 ≤ r (1 + 3 * k + 2) by omega)
    have E : fX10_lawful_b43 (n + 1) 173 (day : Int) (726 + 49 * (i : Int)) (k : Int) F = fX10_lawful_b74 (fX10_lawful_b43 n) FU 173 (day : Int) (726 + 49 * (i : Int)) (k : Int) (726 + 49 * (i : Int) + 1 + 3 * (k : Int)) (a : Int) F := by
      rw [fX10_lawful_b43, h1, if_neg (by omega), al174]
      simp (disch := omega) only [xwn, if_pos, i1, ea]
    have inner := lp (fun m j (_ : Unit) => fX10_lawful_b74 (fX10_lawful_b43 n) m 173 (day : Int) (726 + 49 * (i : Int)) (k : Int) (726 + 49 * (i : Int) + 1 + 3 * (k : Int)) (j : Int) F) b (fun j _ => a ≤ j ∧ ∀ s : Nat, a ≤ s → s < j → H (48 * day + s) = -1 ∨ H (48 * day + s) = r (1 + 3 * k)) (fun w => (w = fX10_lawful_b43 n 173 (day : Int) (726 + 49 * (i : Int)) ((k + 1 : Nat) : Int) F ∧ okLeg r H day k) ∨ (w = some ((k : Int), F) ∧ ¬ okLeg r H day k)) ?_ ?_ FU a () (by omega) ⟨Nat.le_refl _, fun s y1 y2 => absurd y2 (by omega)⟩ (show b < 100000 + a by omega)
    · rcases inner with ⟨w1, w2⟩ | ⟨w1, w2⟩
      · left
        refine ⟨(), fun j hj => ?_, ?_⟩
        · by_cases y : j = k
          · subst y; exact fun c => c w2
          · exact hi j (by omega)
        · show fX10_lawful_b43 (n + 1) 173 (day : Int) (726 + 49 * (i : Int)) (k : Int) F = _
          rw [E]; exact w1
      · right
        show ∃ z, fX10_lawful_b43 (n + 1) 173 (day : Int) (726 + 49 * (i : Int)) (k : Int) F = some (z, F) ∧ _
        rw [E]
        exact ⟨_, w1, Or.inl ⟨k, hk, w2, hi, rfl⟩⟩
    · rintro m j - hj ⟨g1, g2⟩
      have mw := m_may hH hd (s := j) (by omega) (r (1 + 3 * k))
      have E2 : fX10_lawful_b74 (fX10_lawful_b43 n) (m + 1) 173 (day : Int) (726 + 49 * (i : Int)) (k : Int) (726 + 49 * (i : Int) + 1 + 3 * (k : Int)) (j : Int) F = if H (48 * day + j) = -1 ∨ H (48 * day + j) = r (1 + 3 * k) then fX10_lawful_b74 (fX10_lawful_b43 n) m 173 (day : Int) (726 + 49 * (i : Int)) (k : Int) (726 + 49 * (i : Int) + 1 + 3 * (k : Int)) ((j + 1 : Nat) : Int) F else some ((k : Int), F) := by
        rw [fX10_lawful_b74, al174, xwn (x := 726 + 49 * (i : Int) + 1 + 3 * (k : Int) + 2) (by omega) (by omega), if_pos (by omega), i2, eb, if_neg (by omega), if_pos (by omega), i0, mw, Option.bind_some, i11, xwS (by omega)]
      by_cases c : H (48 * day + j) = -1 ∨ H (48 * day + j) = r (1 + 3 * k)
      · left
        refine ⟨(), ⟨by omega, fun s y1 y2 => ?_⟩, ?_⟩
        · by_cases y : s = j
          · subst y; exact c
          · exact g2 s y1 (by omega)
        · show fX10_lawful_b74 (fX10_lawful_b43 n) (m + 1) 173 (day : Int) (726 + 49 * (i : Int)) (k : Int) (726 + 49 * (i : Int) + 1 + 3 * (k : Int)) (j : Int) F = _
          rw [E2, if_pos c]
      · right
        right
        refine ⟨?_, fun z => ?_⟩
        · show fX10_lawful_b74 (fX10_lawful_b43 n) (m + 1) 173 (day : Int) (726 + 49 * (i : Int)) (k : Int) (726 + 49 * (i : Int) + 1 + 3 * (k : Int)) (j : Int) F = _
          rw [E2, if_neg c]
        · exact c (z j (by omega) (by omega))
    · rintro m - ⟨g1, g2⟩
      left
      refine ⟨?_, fun s y1 y2 => g2 s (by omega) (by omega)⟩
      show fX10_lawful_b74 (fX10_lawful_b43 n) (m + 1) 173 (day : Int) (726 + 49 * (i : Int)) (k : Int) (726 + 49 * (i : Int) + 1 + 3 * (k : Int)) (b : Int) F = _
      rw [fX10_lawful_b74, al174, xwn (x := 726 + 49 * (i : Int) + 1 + 3 * (k : Int) + 2) (by omega) (by omega), if_pos (by omega), i2, eb, if_pos (by omega), xwS (by omega)]
  · rintro n - hi
    show ∃ z, fX10_lawful_b43 (n + 1) 173 (day : Int) (726 + 49 * (i : Int)) (q : Int) F = some (z, F) ∧ _
    rw [fX10_lawful_b43, h1, if_pos (by omega)]
    exact ⟨_, rfl, Or.inr ⟨hi, rfl⟩⟩
/-- what a walk leaves as it was -/
theorem x_walkedF {F F' : Mem} (hR : RR F) {a b : Int} (h : fX9_isWalked 1 a b F = some (1, F')) : ∀ o j, o ≠ 60 → o ≠ 61 → F' o j = F o j := by
  by_cases hv : (0 ≤ a ∧ a < F 174 0) ∧ (0 ≤ b ∧ b < F 174 1)
  · obtain ⟨hA, hT, -⟩ := hR
    have h0 := hA.1
    have h1 := hA.2.1
    have hV := hT.2.2.2.2.2.1 a.toNat (by omega)
    have hO := hA.2.2.2.2.2.2.1 a.toNat (by omega)
    have hS := hT.2.2.2.2.2.2.1 b.toNat (by omega)
    have hRO := hA.2.2.2.2.2.2.2.1 b.toNat (by omega)
    obtain ⟨G, k, f1, f2, f3, f4, f5, f6, f7⟩ := x_follow hV hO hS hRO (by omega) (by omega)
    have n0 : ¬ 2 + 7 + 9 * a.toNat = 0 := by omega
    have n1 : ¬ 2 + 25 + 2 * b.toNat = 0 := by omega
    have e : shO 2 1 b.toNat = 2 + 25 + 2 * b.toNat := rfl
    unfold fX9_isWalked at h
    simp only [t_valley hA hT, t_sheet hA hT (s := 1) (x := 1) (by omega) (by omega) b rfl, Option.bind_some, if_pos hv.1, if_pos hv.2, e, if_neg n0, if_neg n1, Nat.reduceAdd] at h f1
    rw [f1, Option.bind_some] at h
    have eG : G = F' := congrArg Prod.snd (Option.some.inj h)
    rw [← eG]
    exact f7
  · rw [x_walkedN hR hv] at h
    have e := congrArg Prod.fst (Option.some.inj h)
    dsimp only at e
    exact absurd e (by decide)
theorem m_roundF {F : Mem} (hA : AO (F 174)) (h11 : F 173 11 = -1) (h12 : F 173 12 = 0) (h13 : F 173 13 = -1) {a b : Int} (ha : 0 ≤ a ∧ a < F 174 0) (hb : 0 ≤ b ∧ b < F 174 1) : ∃ F' k, fX10_isRound 173 a b F = some (1, F') ∧ kM F F' ∧ isStop (vOf (F 174) a.toNat) (rOf (F 174) b.toNat) k ∧ MX (vOf (F 174) a.toNat) (sta (vOf (F 174) a.toNat) (rOf (F 174) b.toNat) k) F' ∧ F' 173 15 = (k : Int) ∧ F' 173 16 = clm (vOf (F 174) a.toNat) (rOf (F 174) b.toNat) k ∧ (∀ o j, o ≠ 173 → o ≠ 177 → F' o j = F o j) := by
  have h1 := hA.2.1
  obtain ⟨hM, hO⟩ := m_valleyMV hA ha
  obtain ⟨F', k, z1, z2, z3, z4, z5, z6⟩ := m_round hA h11 h12 h13 ha hb
  generalize hG : mset F 173 10 (610 + 58 * a) = G at hM
  have g1 : ∀ o j, o ≠ 173 → G o j = F o j := fun o j h => by rw [← hG, mset_ne _ _ (by omega)]
  have eA : G 174 = F 174 := funext fun k => g1 174 k (by omega)
  have hRO := hA.2.2.2.2.2.2.2.1 b.toNat (by omega)
  obtain ⟨F2, k2, f1, f2, f3, f4, f5, f6, f7⟩ := m_goes (F := G) (i := b.toNat) (r := rOf (F 174) b.toNat) hM hO (by omega) (by rw [eA]) hRO (by rw [← hG, mset_ne _ _ (by omega)]; exact h12)
  rw [show ((b.toNat : Nat) : Int) = b by omega] at f1
  refine ⟨F', k, z1, z2, z3, z4, z5, z6, ?_⟩
  have e : fX10_isRound 173 a b F = some (1, F2) := by
    unfold fX10_isRound
    rw [m_valley hA, if_pos ha, Option.bind_some]
    dsimp only
    rw [hG, e10, m_isOf (F := G) (by rw [eA]; exact hA) (s := 1) (x := 1) (by omega) b rfl, Option.bind_some, i11, eA, if_pos hb, f1, Option.bind_some]
  rw [e] at z1
  have eG : F2 = F' := congrArg Prod.snd (Option.some.inj z1)
  rw [← eG]
  exact fun o j q1 q2 => (f6 o j q1 q2).trans (g1 o j q1)
theorem pc_lawful (a b c d e : Int) : pcase RR gX9_lawful gX10_lawful [vI a, vI b, vI c, vI d, vI e] := by
  intro F hR hm
  obtain ⟨F1, z, s1, s2, s3, s4, s5⟩ := x_state hR.1 hR.2.1 c d
  have hR1 := hR.x s2.x
  have eA1 := RR.A s2.x
  obtain ⟨z2, G1, G2, h1, h2, h3, h4⟩ : ∃ z2 G1 G2, fX9_lawful 1 a b c d e F = some (z2, G1) ∧ fX10_lawful 173 a b c d e G1 = some (z2, G2) ∧ kX F G1 ∧ kM G1 G2 := by
    unfold fX9_lawful
    rw [s1, Option.bind_some]
    dsimp only
    by_cases hd : 0 ≤ e ∧ e ≤ 6
    · -- the reference, from any memory that is told the same
      have hM : ∀ G : Mem, kX F G → ∃ M1 y, fX10_isState 173 c d G = some (y, M1) ∧ kS G M1 ∧ y = z ∧ (z = 1 → ∃ t, stOK (F 174) c d t ∧ XS 177 M1 t) := by
        intro G hG
        obtain ⟨M1, y, b1, b2, b3, b4, b5⟩ := m_state (hR.x hG).1 c d
        rw [RR.A hG] at b4 b5
        have ezy : y = z := by
          rcases s3 with rfl | rfl
          · rcases b3 with rfl | rfl
            · rfl
            · obtain ⟨t, h, -⟩ := b4 rfl
              exact absurd ⟨t, h⟩ (s5 rfl)
          · rcases b3 with rfl | rfl
            · obtain ⟨t, h, -⟩ := s4 rfl
              exact absurd ⟨t, h⟩ (b5 rfl)
            · rfl
        exact ⟨M1, y, b1, b2, ezy, fun hz => b4 (ezy.trans hz)⟩
      rcases s3 with rfl | rfl
      · obtain ⟨M1, y, b1, b2, rfl, -⟩ := hM F1 s2.x
        refine ⟨-2, F1, M1, by rw [if_pos rfl], ?_, s2.x, b2.m⟩
        unfold fX10_lawful
        rw [m_isIn, i10, if_pos hd, b1, Option.bind_some]
        dsimp only
        rw [if_pos rfl]
      · obtain ⟨t, t1, t2⟩ := s4 rfl
        rw [if_neg (by decide), x_isDay, i10, if_pos hd]
        obtain ⟨day, rfl⟩ := nat_of hd.1
        by_cases h : (0 ≤ a ∧ a < F 174 0) ∧ (0 ≤ b ∧ b < F 174 1)
        · obtain ⟨F2, k, x1, x2, x3, x4, x5, x6⟩ := x_walked hR1 (a := a) (b := b) (by rw [eA1]; exact h.1) (by rw [eA1]; exact h.2)
          rw [eA1] at x3
          have kk : kX F F2 := s2.x.tr x2
          have hR2 := hR.x kk
          have eA2 := RR.A kk
          obtain ⟨M1, y, b1, b2, rfl, b4⟩ := hM F2 kk
          obtain ⟨u, u1, u2⟩ := b4 rfl
          have etu := stOK_uniq t1 u1
          subst etu
          have hRM : RR M1 := hR2.step (kX.rf F2) b2.m
          have eM : M1 174 = F 174 := funext fun j => (b2 174 j (by omega) (by omega)).trans (congrFun eA2 j)
          obtain ⟨M2, k2, y1, y2, y3, y4, y5, y6, y7⟩ := m_roundF (F := M1) hRM.1 hRM.2.2.2.1 hRM.2.2.2.2.1 hRM.2.2.2.2.2 (a := a) (b := b) (by rw [eM]; exact h.1) (by rw [eM]; exact h.2)
          rw [eM] at y3
          have ek := stop_uniq x3 y3
          subst ek
          have hb1 := hR.1.2.1
          obtain ⟨ib, rfl⟩ := nat_of h.2.1
          rw [Int.toNat_natCast] at *
          have hRO := hR.1.2.2.2.2.2.2.2.1 ib h.2.2
          have hS2 := hR2.2.1.2.2.2.2.2.2.1 ib (by rw [eA2]; exact h.2.2)
          rw [eA2] at hS2
          have n1 : ¬ 2 + 25 + 2 * ib = 0 := by omega
          -- holders behind the walks
          have hH1 : ∀ s, s < 336 → F2 50 s = t.2.1 s := fun s hs => by
            have w := x_walkedF hR1 x1 50 s (by omega) (by omega)
            exact w.trans (t2.1 s hs).2
          have hH2 : ∀ s, s < 336 → M2 179 s = t.2.1 s := fun s hs => (y7 179 s (by omega) (by omega)).trans (u2.1 s hs).2
          obtain ⟨z, z1, z2⟩ := x_lawful hH1 hS2 hRO n1 (day := day) (by omega) x3.1 x5
          have eM2 : M2 174 = F 174 := funext fun j => (y2.1 174 j (by omega)).trans (congrFun eM j)
          obtain ⟨w, w1, w2⟩ := m_lawful (i := ib) hH2 (by omega) (by rw [eM2]) hRO (day := day) (by omega) y3.1 y5
          have ezw := FF_uniq z2 w2
          subst ezw
          refine ⟨z, F2, M2, ?_, ?_, kk, b2.m.tr y2⟩
          · rw [x1, Option.bind_some]
            dsimp only
            rw [if_pos (by decide)]
            simp only [Nat.reduceAdd]
            rw [t_sheet hR2.1 hR2.2.1 (s := 1) (x := 1) (by omega) (by omega) (ib : Int) rfl, Option.bind_some, eA2, if_pos h.2, Int.toNat_natCast]
            exact z1
          · unfold fX10_lawful
            rw [m_isIn, i10, if_pos hd, b1, Option.bind_some]
            dsimp only
            rw [if_neg (by decide), y1, Option.bind_some]
            dsimp only
            rw [if_pos (by decide), m_place1 (by omega)]
            exact w1
        · obtain ⟨M1, y, b1, b2, rfl, -⟩ := hM F1 s2.x
          have eM : M1 174 = F 174 := funext fun j => (b2 174 j (by omega) (by omega)).trans (congrFun eA1 j)
          obtain ⟨M2, y1, y2⟩ := m_roundN (F := M1) (a := a) (b := b) (by rw [eM]; exact hR.1) (by rw [eM]; exact h)
          refine ⟨-2, F1, M2, ?_, ?_, s2.x, b2.m.tr y2⟩
          · rw [x_walkedN hR1 (by rw [eA1]; exact h), Option.bind_some]
            dsimp only
            rw [if_neg (by decide)]
          · unfold fX10_lawful
            rw [m_isIn, i10, if_pos hd, b1, Option.bind_some]
            dsimp only
            rw [if_neg (by decide), y1, Option.bind_some]
            dsimp only
            rw [if_neg (by decide)]
    · refine ⟨-2, F1, F1, ?_, ?_, s2.x, kM.rf F1⟩
      · rw [x_isDay, i10, if_neg hd]
        split <;> rfl
      · unfold fX10_lawful
        rw [m_isIn, i10, if_neg hd]
  exact ⟨z2, G1, G2, ⟨1, a, b, c, d, e, _, rfl, k9, h1, rfl, rfl⟩, ⟨173, a, b, c, d, e, _, rfl, k10, h2, rfl, rfl⟩, hR.step h3 h4⟩
