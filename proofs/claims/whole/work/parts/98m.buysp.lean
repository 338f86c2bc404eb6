/-! ===== buys, pure ===== -/
theorem lsF_at (y : Nat → Int) (a : Int) : ∀ n, ((lsF y a n).2 = -1 ∧ (lsF y a n).1 = a) ∨ ∃ s : Nat, s < n ∧ (lsF y a n).2 = (s : Int) ∧ (lsF y a n).1 = y s ∧ a < y s := by
  intro n
  induction n with
  | zero => exact Or.inl ⟨rfl, rfl⟩
  | succ n ih =>
    have e : lsF y a (n + 1) = if (lsF y a n).1 < y n then (y n, (n : Int)) else lsF y a n := rfl
    rw [e]
    by_cases q : (lsF y a n).1 < y n
    · rw [if_pos q]
      refine Or.inr ⟨n, by omega, rfl, rfl, ?_⟩
      rcases ih with ⟨i1, i2⟩ | ⟨s, s1, s2, s3, s4⟩
      · rw [i2] at q; exact q
      · rw [s3] at q; exact Int.lt_trans s4 q
    · rw [if_neg q]
      rcases ih with h | ⟨s, s1, s2, s3, s4⟩
      · exact Or.inl h
      · exact Or.inr ⟨s, by omega, s2, s3, s4⟩
theorem lsF_eq {y w : Nat → Int} {a : Int} : ∀ n, (∀ i, i < n → y i = w i ∨ (y i ≤ a ∧ w i ≤ a)) → lsF y a n = lsF w a n := by
  intro n
  induction n with
  | zero => intro _; rfl
  | succ n ih =>
    intro h
    have e := ih (fun i hi => h i (by omega))
    have h1 := h n (by omega)
    have ha : a ≤ (lsF w a n).1 := by
      rcases lsF_at w a n with ⟨i1, i2⟩ | ⟨s, s1, s2, s3, s4⟩ <;> omega
    show (if (lsF y a n).1 < y n then (y n, (n : Int)) else lsF y a n) = (if (lsF w a n).1 < w n then (w n, (n : Int)) else lsF w a n)
    rw [e]
    rcases h1 with z | z
    · rw [z]
    · rw [if_neg (by omega), if_neg (by omega)]
section BUP
variable {v hd : Nat → Int} {day : Nat}
noncomputable def bY (v hd : Nat → Int) (day : Nat) (k : Nat) (s : Nat) : Int := if hd (48 * day + s) = -1 ∨ hd (48 * day + s) = (k : Int) then -1 else gof (yD v (dlH hd day (k : Int) s (s + 1)) day)
noncomputable def bL (v : Nat → Int) (day k : Nat) (hd : Nat → Int) : Int × Int := lsF (bY v hd day k) (gof (yD v hd day)) (v 0).toNat
noncomputable def bH (v : Nat → Int) (day k : Nat) (hd : Nat → Int) : Nat → Nat → Int
  | 0 => hd
  | n + 1 => dlH (bH v day k hd n) day (k : Int) (bL v day k (bH v day k hd n)).2.toNat ((bL v day k (bH v day k hd n)).2.toNat + 1)
noncomputable def bS (v : Nat → Int) (day k : Nat) (hd : Nat → Int) (i : Nat) : Int := (bL v day k (bH v day k hd i)).2
/-- what a turn finds -/
theorem bL_at (hO : VO v) (hne : yD v hd day ≠ BD) (k : Nat) : ((bL v day k hd).2 = -1 ∧ (bL v day k hd).1 = gof (yD v hd day)) ∨ ∃ s : Nat, s < (v 0).toNat ∧ (bL v day k hd).2 = (s : Int) ∧ hd (48 * day + s) ≠ -1 ∧ hd (48 * day + s) ≠ (k : Int) ∧ (bL v day k hd).1 = gof (yD v (dlH hd day (k : Int) s (s + 1)) day) := by
  have g := yD_bd hO hne
  rcases lsF_at (bY v hd day k) (gof (yD v hd day)) (v 0).toNat with h | ⟨s, s1, s2, s3, s4⟩
  · exact Or.inl h
  · right
    have z : ¬ (hd (48 * day + s) = -1 ∨ hd (48 * day + s) = (k : Int)) := fun z => by
      have e : bY v hd day k s = -1 := if_pos z
      rw [e] at s4
      omega
    have e : bY v hd day k s = gof (yD v (dlH hd day (k : Int) s (s + 1)) day) := if_neg z
    exact ⟨s, s1, s2, fun y => z (Or.inl y), fun y => z (Or.inr y), by rw [← e]; exact s3⟩
theorem bH_ne (hO : VO v) (hne : yD v hd day ≠ BD) (k i : Nat) : yD v (bH v day k hd i) day ≠ BD := dl_ne hO hne
def ctH (day k N : Nat) (hd : Nat → Int) : Int := sm N (fun s => if hd (48 * day + s) = (k : Int) then 1 else 0)
theorem ct_up {k : Nat} : ∀ N s, s < N → hd (48 * day + s) ≠ (k : Int) → ctH day k N (dlH hd day (k : Int) s (s + 1)) = ctH day k N hd + 1 := by
  intro N
  induction N with
  | zero => intro s hs; exact absurd hs (Nat.not_lt_zero s)
  | succ N ih =>
    intro s hs hk
    have e1 : ∀ g : Nat → Int, ctH day k (N + 1) g = ctH day k N g + (if g (48 * day + N) = (k : Int) then 1 else 0) := fun g => rfl
    rw [e1, e1]
    by_cases y : s = N
    · subst y
      have e2 : ctH day k s (dlH hd day (k : Int) s (s + 1)) = ctH day k s hd := sm_congr s (fun i hi => by
        have : dlH hd day (k : Int) s (s + 1) (48 * day + i) = hd (48 * day + i) := if_neg (by omega)
        rw [this])
      have e3 : dlH hd day (k : Int) s (s + 1) (48 * day + s) = (k : Int) := if_pos (by omega)
      rw [e2, e3, if_pos rfl, if_neg hk, Int.add_zero]
    · have e3 : dlH hd day (k : Int) s (s + 1) (48 * day + N) = hd (48 * day + N) := if_neg (by omega)
      rw [ih s (by omega) hk, e3]
      generalize (if hd (48 * day + N) = (k : Int) then (1 : Int) else 0) = w
      generalize ctH day k N hd = u
      omega
theorem ct_le {k : Nat} (N : Nat) : 0 ≤ ctH day k N hd ∧ ctH day k N hd ≤ (N : Int) := by
  have := sm_bd (f := fun s => if hd (48 * day + s) = (k : Int) then 1 else 0) (lo := 0) (hi := 1) N (fun i _ => by split <;> omega)
  unfold ctH
  omega
/-- no more turns than slots -/
theorem b_turns (hO : VO v) (hne : yD v hd day ≠ BD) {k : Nat} : ∀ i, (∀ j, j < i → bS v day k hd j ≠ -1) → (i : Int) ≤ ctH day k (v 0).toNat (bH v day k hd i) := by
  intro i
  induction i with
  | zero => intro _; exact (ct_le _).1
  | succ i ih =>
    intro h
    have h1 := ih (fun j hj => h j (by omega))
    have h2 := h i (by omega)
    rcases bL_at hO (bH_ne hO hne k i) k with ⟨z, -⟩ | ⟨s, s1, s2, s3, s4, s5⟩
    · exact absurd z h2
    · have e : bH v day k hd (i + 1) = dlH (bH v day k hd i) day (k : Int) s (s + 1) := by
        show dlH (bH v day k hd i) day (k : Int) (bL v day k (bH v day k hd i)).2.toNat ((bL v day k (bH v day k hd i)).2.toNat + 1) = _
        rw [s2, Int.toNat_natCast]
      rw [e, ct_up _ s s1 s4]
      omega
theorem b_N (hO : VO v) (hne : yD v hd day ≠ BD) {k i : Nat} (h : ∀ j, j < i → bS v day k hd j ≠ -1) : i ≤ (v 0).toNat := by
  have h1 := b_turns hO hne i h
  have h2 := (ct_le (hd := bH v day k hd i) (day := day) (k := k) (v 0).toNat).2
  omega
/-- GAIN of staying at k in slot s, bought -/
noncomputable def gsT (v : Nat → Int) (R X : Nat → Nat → Int) (k s : Nat) : Int := if R s k ≠ BD ∧ X (s + 1) k ≠ BD ∧ (muD v s = -1 ∨ muD v s = (k : Int)) then gof (R s k + X (s + 1) k + ghD v 0 0 s k * 65536) else -1
theorem buy_eq (hO : VO v) (hd7 : day < 7) (hne : yD v hd day ≠ BD) {k : Nat} (hk : (k : Int) < v 5) {X R : Nat → Nat → Int} (hX : IsX (insD v hd day 1 0 0) tv0 X) (hR : IsR (insD v hd day 1 0 0) (v 4).toNat R (1 * (v 0).toNat)) {s : Nat} (hs : s < (v 0).toNat) (helig : ¬ (hd (48 * day + s) = -1 ∨ hd (48 * day + s) = (k : Int))) : gsT v R X k s = bY v hd day k s ∨ (gsT v R X k s ≤ gof (yD v hd day) ∧ bY v hd day k s ≤ gof (yD v hd day)) := by
  have b0 := hO.1
  have hst := st_lt hO
  have hW := insD_WF (hd := hd) (day := day) hO (show 1 ≤ 7 by decide) 0 0
  have hV := insD_WF (hd := dlH hd day (k : Int) s (s + 1)) (day := day) hO (show 1 ≤ 7 by decide) 0 0
  have hsm := insD_same v hd (dlH hd day (k : Int) s (s + 1)) day 1 0 0 0 0
  have hkH : k < (v 5).toNat := by omega
  have gD := yD_bd hO hne
  obtain ⟨Y, hY⟩ := X_ex hV tv0
  have eY : Y 0 (v 4).toNat = yD v (dlH hd day (k : Int) s (s + 1)) day := best0_eq hV hst hY
  have eX : X 0 (v 4).toNat = yD v hd day := best0_eq hW hst hX
  have nY := dl_ne (hd' := dlH hd day (k : Int) s (s + 1)) hO hne
  have eat : dlH hd day (k : Int) s (s + 1) (48 * day + s) = (k : Int) := if_pos (by omega)
  have ek : iG (insD v (dlH hd day (k : Int) s (s + 1)) day 1 0 0) s k = ghD v 0 0 s k := by
    show gnD v _ day 0 0 s k = _
    rw [gnD_at hd7 hs, eat, if_pos (Or.inr rfl)]
  obtain ⟨d1, d2⟩ := buy_thm hW hV hsm (k := k) (z := (v 4).toNat) (q := s) (show s < 1 * (v 0).toNat by omega) hkH hst (fun r h hr _ hrq => gnD_eq hd7 (by have : r < 1 * (v 0).toNat := hr; omega) (by unfold dlH; rw [if_neg (by omega)])) (fun h hh hhk => by
    show gnD v _ day 0 0 s h ≤ gnD v hd day 0 0 s h
    have h0 : gnD v (dlH hd day (k : Int) s (s + 1)) day 0 0 s h = 0 := by
      rw [gnD_at hd7 hs, eat, if_neg (by omega)]
    rw [h0]
    exact (gnD_bd hO hd day 0 0 s (insH hh)).1) hX hY hR
  rw [ek] at d1 d2
  have eb : bY v hd day k s = gof (Y 0 (v 4).toNat) := by rw [eY]; exact if_neg helig
  rw [eY] at d1 d2
  rw [eX] at d2
  rw [eb, eY]
  have gk := ghD_bd hO 0 0 s hk
  have sR := R_bd hW (Nat.le_refl _) hR (s := s) (h := k) (show s ≤ 1 * (v 0).toNat by omega) hkH
  have sX := X_bd hW tv0_01 hX (s := s + 1) (h := k) (show s + 1 ≤ 1 * (v 0).toNat by omega) hkH
  rw [show iN (insD v hd day 1 0 0) = (v 0).toNat from Nat.one_mul _] at sX
  by_cases c : R s k ≠ BD ∧ X (s + 1) k ≠ BD ∧ (muD v s = -1 ∨ muD v s = (k : Int))
  · have eg : gsT v R X k s = gof (R s k + X (s + 1) k + ghD v 0 0 s k * 65536) := if_pos c
    rw [eg]
    obtain ⟨c1, c2⟩ := d1 c
    have nb : R s k + X (s + 1) k + ghD v 0 0 s k * 65536 ≠ BD := by
      unfold sbd at sR sX
      rcases sR with z | z
      · exact absurd z c.1
      · rcases sX with w | w
        · exact absurd w c.2.1
        · show ¬ _ = (-1000000000 : Int)
          generalize R s k = x at *
          generalize X (s + 1) k = y at *
          generalize ghD v 0 0 s k = g at *
          omega
    have le1 := gof_mono c2 nb nY
    rcases d2 with z | ⟨z1, z2⟩ | ⟨z1, z2⟩
    · exact absurd z nY
    · right
      have le2 := gof_mono z2 nY hne
      exact ⟨Int.le_trans le1 le2, le2⟩
    · left
      exact Int.le_antisymm le1 (gof_mono z2 nY nb)
  · have eg : gsT v R X k s = -1 := if_neg c
    rw [eg]
    right
    rcases d2 with z | ⟨z1, z2⟩ | ⟨z1, z2⟩
    · exact absurd z nY
    · exact ⟨by omega, gof_mono z2 nY hne⟩
    · exact absurd z1 c
end BUP
