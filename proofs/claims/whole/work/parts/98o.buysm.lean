/-! ===== buys, the reference ===== -/
section BUM
variable {v hd : Nat → Int} {day : Nat} {G K : Mem}
theorem mas_179 (h : MAS v hd day 1 K) {L : Mem} {hd' : Nat → Int} (e : ∀ o j, o ≠ 179 → o ≠ 187 → L o j = K o j) (e2 : ∀ x, x < 336 → L 179 x = hd' x) : MAS v hd' day 1 L ∧ kM K L := by
  obtain ⟨⟨hM, hO⟩, h1, hH, ⟨h11, h12, h13⟩, h2, ⟨h28, h29, h30, h31⟩, h3, h4, h5⟩ := h
  have e3 : ∀ j, L 173 j = K 173 j := fun j => e _ _ (by decide) (by decide)
  exact ⟨⟨⟨hM.mono (e3 10) (fun j => e _ _ (by decide) (by decide)), hO⟩, h1, e2, ⟨(e3 _).trans h11, (e3 _).trans h12, (e3 _).trans h13⟩, (e3 _).trans h2, ⟨(e3 _).trans h28, (e3 _).trans h29, (e3 _).trans h30, (e3 _).trans h31⟩, (e3 _).trans h3, (e3 _).trans h4, (e3 _).trans h5⟩, fun o j ho => e o j (by omega) (by omega), e3 _, e3 _, e3 _⟩
theorem m_buyAsk (h : MAS v hd day 1 K) (hne : yD v hd day ≠ BD) {s k : Nat} (hs : s < (v 0).toNat) : ∃ G2, fX10_solves 173 1 (mset K 179 (48 * day + s) (k : Int)) = some G2 ∧ G2 173 26 = (day : Int) ∧ fX10_gain 173 (mset G2 179 (48 * day + s) (K 179 (48 * day + s))) = some (gof (yD v (dlH hd day (k : Int) s (s + 1)) day)) ∧ MAS v hd day 1 (mset G2 179 (48 * day + s) (K 179 (48 * day + s))) ∧ kM K (mset G2 179 (48 * day + s) (K 179 (48 * day + s))) ∧ (∀ j, mset G2 179 (48 * day + s) (K 179 (48 * day + s)) 187 j = K 187 j) := by
  have hO := h.1.2
  have b0 := hO.1
  have b5 := hO.2.2.2.1
  have hd7 : day < 7 := by have := h.2.1.1; omega
  have hst := st_lt hO
  have hM1 := (mas_179 (L := mset K 179 (48 * day + s) (k : Int)) (hd' := dlH hd day (k : Int) s (s + 1)) h (fun o j o1 _ => mset_ne _ _ (by omega)) (fun x hx => by
    unfold dlH
    by_cases y : x = 48 * day + s
    · subst y
      rw [mset_eq, if_pos (by omega)]
    · rw [mset_ne _ _ (by omega), if_neg (by omega)]
      exact h.2.2.1 x hx)).1
  obtain ⟨G2, s1, s2, s3, s4⟩ := ask_solve (p := 0) (N := 0) (mu := fun _ => 0) (gn := fun _ _ => 0) (mas_pim hM1) rfl hM1.2.2.2.2.2.1.2.2.2
  have nY := dl_ne (hd' := dlH hd day (k : Int) s (s + 1)) hO hne
  have eY : dcd G2 0 (v 4).toNat = yD v (dlH hd day (k : Int) s (s + 1)) day := best0_eq (insD_WF hO (show 1 ≤ 7 by decide) 0 0) hst s2
  rw [eY, grw_of nY] at s3
  generalize hL : mset G2 179 (48 * day + s) (K 179 (48 * day + s)) = L
  have fr : ∀ o j, o ≠ 183 → o ≠ 184 → ¬ (o = 173 ∧ j = 27) → L o j = K o j := by
    intro o j o1 o2 o3
    rw [← hL]
    by_cases y : o = 179 ∧ j = 48 * day + s
    · rw [y.1, y.2, mset_eq]
    · rw [mset_ne _ _ y, s4 o j o1 o2 o3, mset_ne _ _ y]
  have mr := mas_ref (L := L) h (fun o j o1 o2 o3 => fr o j o1 o2 (fun z => o3 ⟨z.1, Or.inl z.2⟩))
  refine ⟨G2, s1, (s4 173 26 (by decide) (by decide) (by omega)).trans hM1.2.2.2.2.1, ?_⟩
  rw [hL]
  refine ⟨?_, mr.1, mr.2, fun j => fr 187 j (by decide) (by decide) (by omega)⟩
  rw [← s3]
  have hM2 : MV v G2 := hM1.1.1.mono (s4 _ _ (by decide) (by decide) (by omega)) (fun j => s4 _ _ (by decide) (by decide) (by omega))
  have e183 : L 183 (v 4).toNat = G2 183 (v 4).toNat := by rw [← hL, mset_ne _ _ (by omega)]
  unfold fX10_gain
  rw [m_of mr.1.1.1 (i := 4) (x := 4) rfl (by omega), m_of hM2 (i := 4) (x := 4) rfl (by omega), Option.bind_some, Option.bind_some, show (173 + 10 : Nat) = 183 from rfl, e183]
/-- a turn: the slot of the greatest GAIN -/
theorem m_turnN {k44 : Nat → Int → Int → Int → Int → Int → Mem → Option (Int × Mem)} (h : MAS v hd day 1 K) (hne : yD v hd day ≠ BD) {k : Nat} (what : Int) {n : Nat} (hn : n < 48 ∨ (bL v day k hd).2 = -1) : ∃ L, MAS v hd day 1 L ∧ kM K L ∧ (∀ j, L 187 j = K 187 j) ∧ fX10_buys_b60 k44 FU 173 (k : Int) what (n : Int) (gof (yD v hd day)) (-1) (gof (yD v hd day)) 0 K = if (bL v day k hd).2 ≠ -1 then k44 173 (k : Int) what ((n + 1 : Nat) : Int) (bL v day k hd).1 (bL v day k hd).2 (mset (mset L 179 (48 * day + (bL v day k hd).2.toNat) (k : Int)) 187 n (bL v day k hd).2) else k44 173 (k : Int) what (n : Int) (gof (yD v hd day)) (bL v day k hd).2 L := by
  have hO := h.1.2
  have b0 := hO.1
  have hd7 : day < 7 := by have := h.2.1.1; omega
  have h48 : (v 0).toNat ≤ 48 := by omega
  have gD := yD_bd hO hne
  generalize hy : bY v hd day k = y
  have ey : ∀ s, y s = if hd (48 * day + s) = -1 ∨ hd (48 * day + s) = (k : Int) then -1 else gof (yD v (dlH hd day (k : Int) s (s + 1)) day) := fun s => (congrFun hy s).symm
  have at2 := bL_at hO hne k
  have eL : bL v day k hd = lsF y (gof (yD v hd day)) (v 0).toNat := by rw [← hy]; rfl
  rw [eL] at at2 hn ⊢
  refine lp (fun m s (st : (Int × Int) × Mem) => fX10_buys_b60 k44 m 173 (k : Int) what (n : Int) (gof (yD v hd day)) st.1.2 st.1.1 (s : Int) st.2) (v 0).toNat (fun s st => st.1 = lsF y (gof (yD v hd day)) s ∧ MAS v hd day 1 st.2 ∧ kM K st.2 ∧ (∀ j, st.2 187 j = K 187 j)) (fun r => ∃ L, MAS v hd day 1 L ∧ kM K L ∧ (∀ j, L 187 j = K 187 j) ∧ r = if (lsF y (gof (yD v hd day)) (v 0).toNat).2 ≠ -1 then k44 173 (k : Int) what ((n + 1 : Nat) : Int) (lsF y (gof (yD v hd day)) (v 0).toNat).1 (lsF y (gof (yD v hd day)) (v 0).toNat).2 (mset (mset L 179 (48 * day + (lsF y (gof (yD v hd day)) (v 0).toNat).2.toNat) (k : Int)) 187 n (lsF y (gof (yD v hd day)) (v 0).toNat).2) else k44 173 (k : Int) what (n : Int) (gof (yD v hd day)) (lsF y (gof (yD v hd day)) (v 0).toNat).2 L) ?_ ?_ FU 0 ((gof (yD v hd day), -1), K) (Nat.zero_le _) ⟨rfl, h, kM.rf K, fun _ => rfl⟩ (FU_gt (by omega))
  · rintro m s ⟨st, L⟩ hs ⟨e0, hL, kL, l187⟩
    dsimp only at e0 hL kL l187 ⊢
    left
    have nN : ¬ v 0 ≤ (s : Int) := by omega
    have sm1 : s < 48 ∧ s < 2147483647 := by omega
    have bi := b336 (show 48 * day + s < 336 by omega)
    have h26 : L 173 26 = (day : Int) := hL.2.2.2.2.1
    have hold := hL.2.2.1 (48 * day + s) (by omega)
    have sa : 0 ≤ st.1 := by
      rcases lsF_at y (gof (yD v hd day)) s with ⟨i1, i2⟩ | ⟨q, q1, q2, q3, q4⟩
      · rw [e0, i2]; exact gD.1
      · rw [e0, q3]; omega
    obtain ⟨G2, u1, u2, u3, u4, u5, u6⟩ := m_buyAsk (k := k) hL hne hs
    have e : lsF y (gof (yD v hd day)) (s + 1) = if st.1 < y s then (y s, (s : Int)) else st := by rw [e0]; rfl
    generalize hL2 : mset G2 179 (48 * day + s) (L 179 (48 * day + s)) = L2 at *
    have E : fX10_buys_b60 k44 (m + 1) 173 (k : Int) what (n : Int) (gof (yD v hd day)) st.2 st.1 (s : Int) L = if hd (48 * day + s) = -1 then fX10_buys_b60 k44 m 173 (k : Int) what (n : Int) (gof (yD v hd day)) st.2 st.1 ((s + 1 : Nat) : Int) L else if hd (48 * day + s) ≠ (k : Int) then (if st.1 < gof (yD v (dlH hd day (k : Int) s (s + 1)) day) then fX10_buys_b60 k44 m 173 (k : Int) what (n : Int) (gof (yD v hd day)) (s : Int) (gof (yD v (dlH hd day (k : Int) s (s + 1)) day)) ((s + 1 : Nat) : Int) L2 else fX10_buys_b60 k44 m 173 (k : Int) what (n : Int) (gof (yD v hd day)) st.2 st.1 ((s + 1 : Nat) : Int) L2) else fX10_buys_b60 k44 m 173 (k : Int) what (n : Int) (gof (yD v hd day)) st.2 st.1 ((s + 1 : Nat) : Int) L := by
      have w1 := xwH hd7 sm1.1
      have w2 := xwS sm1.2
      have a6 : alen (173 + 6) = 336 := rfl
      have n6 : (173 + 6 : Nat) = 179 := rfl
      rw [fX10_buys_b60, m_of hL.1.1 (i := 0) (x := 0) rfl (by decide), Option.bind_some, if_neg nN]
      simp only [h26, w1, a6, if_pos bi, Int.toNat_natCast, n6, w2, u1, Option.bind_some, u2, hL2, u3]
      rw [hold]
    by_cases q1 : hd (48 * day + s) = -1
    · have ys : y s = -1 := by rw [ey, if_pos (Or.inl q1)]
      rw [if_pos q1] at E
      exact ⟨(st, L), ⟨by rw [e, if_neg (by omega)], hL, kL, l187⟩, E⟩
    · rw [if_neg q1] at E
      by_cases q2 : hd (48 * day + s) = (k : Int)
      · have ys : y s = -1 := by rw [ey, if_pos (Or.inr q2)]
        rw [if_neg (dnn q2)] at E
        exact ⟨(st, L), ⟨by rw [e, if_neg (by omega)], hL, kL, l187⟩, E⟩
      · have ys : y s = gof (yD v (dlH hd day (k : Int) s (s + 1)) day) := by rw [ey, if_neg (fun z => z.elim q1 q2)]
        rw [if_pos q2, ← ys] at E
        by_cases q3 : st.1 < y s
        · rw [if_pos q3] at E
          exact ⟨((y s, (s : Int)), L2), ⟨by rw [e, if_pos q3], u4, kL.tr u5, fun j => (u6 j).trans (l187 j)⟩, E⟩
        · rw [if_neg q3] at E
          exact ⟨(st, L2), ⟨by rw [e, if_neg q3], u4, kL.tr u5, fun j => (u6 j).trans (l187 j)⟩, E⟩
  · rintro m ⟨st, L⟩ ⟨e0, hL, kL, l187⟩
    dsimp only at e0 hL kL l187 ⊢
    have nN : v 0 ≤ (((v 0).toNat : Nat) : Int) := by omega
    refine ⟨L, hL, kL, l187, ?_⟩
    rw [← e0] at at2 hn ⊢
    rw [fX10_buys_b60, m_of hL.1.1 (i := 0) (x := 0) rfl (by omega), Option.bind_some, if_pos nN]
    rcases at2 with ⟨z, -⟩ | ⟨s, s1, s2, -⟩
    · rw [if_neg (dnn z), if_neg (dnn z)]
    · have nz : st.2 ≠ -1 := by omega
      have hn : n < 48 := by omega
      have s48 : s < 48 := by omega
      have bi := b336 (show 48 * day + s < 336 by omega)
      have h26 : L 173 26 = (day : Int) := hL.2.2.2.2.1
      have bn : (0 : Int) ≤ (n : Int) ∧ (n : Int) < ((48 : Nat) : Int) := by omega
      have sn : n < 2147483647 := by omega
      have w1 := xwH hd7 s48
      have w2 := xwS sn
      rw [if_pos nz, if_pos nz, h26, s2, w1, show alen (173 + 6) = 336 from rfl, if_pos bi, show alen (173 + 14) = 48 from rfl, if_pos bn, w2, Int.toNat_natCast, Int.toNat_natCast, Int.toNat_natCast]
end BUM
