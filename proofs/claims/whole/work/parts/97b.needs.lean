/-! ===== needs by a seed ===== -/
theorem drw (x : Int) {n : Int} (h1 : 1 ≤ n) (h2 : n ≤ 100) : ∃ k : Nat, Int.tmod (xushr x 16) n = (k : Int) ∧ (k : Int) < n := by
  have hb := ushr16_bd x
  generalize xushr x 16 = y at *
  obtain ⟨y0, rfl⟩ := nat_of hb.1
  obtain ⟨n0, rfl⟩ := nat_of (show 0 ≤ n by omega)
  refine ⟨y0 % n0, tmod_nat y0 n0, ?_⟩
  have := Nat.mod_lt y0 (show 0 < n0 by omega)
  omega
noncomputable def nxS (x : Int) : Int := fX9_nextOf x
/-- all needs so far: the seed, what they harm, how many can't be, the greatest -/
noncomputable def ndF (H : Int → Int → Int → Int) (n5 n0 seed : Int) : Nat → Int × Int × Int × Int
  | 0 => (seed, 0, 0, 0)
  | n + 1 =>
    if H (Int.tmod (xushr (nxS (ndF H n5 n0 seed n).1) 16) n5) (Int.tmod (xushr (nxS (nxS (ndF H n5 n0 seed n).1)) 16) n0) (xmin (Int.tmod (xushr (nxS (nxS (ndF H n5 n0 seed n).1)) 16) n0 + Int.tmod (xushr (nxS (nxS (nxS (ndF H n5 n0 seed n).1))) 16) 3 + 1) n0) = -1
    then (nxS (nxS (nxS (ndF H n5 n0 seed n).1)), (ndF H n5 n0 seed n).2.1, (ndF H n5 n0 seed n).2.2.1 + 1, (ndF H n5 n0 seed n).2.2.2)
    else (nxS (nxS (nxS (ndF H n5 n0 seed n).1)), (ndF H n5 n0 seed n).2.1 + H (Int.tmod (xushr (nxS (ndF H n5 n0 seed n).1) 16) n5) (Int.tmod (xushr (nxS (nxS (ndF H n5 n0 seed n).1)) 16) n0) (xmin (Int.tmod (xushr (nxS (nxS (ndF H n5 n0 seed n).1)) 16) n0 + Int.tmod (xushr (nxS (nxS (nxS (ndF H n5 n0 seed n).1))) 16) 3 + 1) n0), (ndF H n5 n0 seed n).2.2.1, xmax (ndF H n5 n0 seed n).2.2.2 (H (Int.tmod (xushr (nxS (ndF H n5 n0 seed n).1) 16) n5) (Int.tmod (xushr (nxS (nxS (ndF H n5 n0 seed n).1)) 16) n0) (xmin (Int.tmod (xushr (nxS (nxS (ndF H n5 n0 seed n).1)) 16) n0 + Int.tmod (xushr (nxS (nxS (nxS (ndF H n5 n0 seed n).1))) 16) 3 + 1) n0)))
/-- one more need, told by its draws -/
theorem ndF_step {H : Int → Int → Int → Int} {n5 n0 seed : Int} {n : Nat} {x all fl gr h a b d t : Int} (e : ndF H n5 n0 seed n = (x, all, fl, gr)) (ea : Int.tmod (xushr (nxS x) 16) n5 = a) (eb : Int.tmod (xushr (nxS (nxS x)) 16) n0 = b) (ed : Int.tmod (xushr (nxS (nxS (nxS x))) 16) 3 = d) (et : xmin (b + d + 1) n0 = t) (eh : H a b t = h) : ndF H n5 n0 seed (n + 1) = if h = -1 then (nxS (nxS (nxS x)), all, fl + 1, gr) else (nxS (nxS (nxS x)), all + h, fl, xmax gr h) := by
  show (if H _ _ _ = -1 then _ else _) = _
  rw [e]
  dsimp only
  rw [ea, eb, ed, et, eh]
/-- a need drawn -/
theorem nd_draw (x : Int) {n5 n0 : Int} (h5 : 1 ≤ n5 ∧ n5 ≤ 8) (h0 : 1 ≤ n0 ∧ n0 ≤ 48) : ∃ ka kb kd kt : Nat, Int.tmod (xushr (nxS x) 16) n5 = (ka : Int) ∧ Int.tmod (xushr (nxS (nxS x)) 16) n0 = (kb : Int) ∧ Int.tmod (xushr (nxS (nxS (nxS x))) 16) 3 = (kd : Int) ∧ (ka : Int) < n5 ∧ (kb : Int) < n0 ∧ (kd : Int) < 3 ∧ xmin ((kb : Int) + (kd : Int) + 1) n0 = (kt : Int) ∧ kb < kt ∧ (kt : Int) ≤ n0 := by
  obtain ⟨ka, a1, a2⟩ := drw (nxS x) h5.1 (by omega)
  obtain ⟨kb, b1, b2⟩ := drw (nxS (nxS x)) h0.1 (by omega)
  obtain ⟨kd, d1, d2⟩ := drw (nxS (nxS (nxS x))) (n := 3) (by decide) (by decide)
  refine ⟨ka, kb, kd, (xmin ((kb : Int) + (kd : Int) + 1) n0).toNat, a1, b1, d1, a2, b2, d2, ?_⟩
  clear a1 b1 d1
  unfold xmin
  split <;> omega
section NDS
variable {v hd : Nat → Int} {V day : Nat} {F G : Mem}
noncomputable def hN (v hd : Nat → Int) (day : Nat) (a b t : Int) : Int := hq (yD v hd day) (yJ v hd day a b.toNat t.toNat)
def ndPick (what : Int) (s : Int × Int × Int × Int) : Int := if what ≠ 0 then (if what ≠ 1 then s.2.2.2 else s.2.2.1) else s.2.1
theorem c_needs (hC : CSV v hd V day 1 0 0 F) (hR : IsR (insD v hd day 1 0 0) (v 4).toNat (rch F) (1 * (v 0).toNat)) (hne : yD v hd day ≠ BD) (seed what : Int) {k : Nat} (hk : k ≤ 9) : fX9_needs_b70 FU 1 (k : Int) what (gof (yD v hd day)) seed 0 0 0 0 F = some (ndPick what (ndF (hN v hd day) (v 5) (v 0) seed k), F) := by
  have hPV := hC.1.1.1
  have hO := hPV.2.2.2.2
  have b0 := hO.1
  have b5 := hO.2.2.2.1
  have eD := csv_D hC
  have hh : ∀ a b t : Nat, (a : Int) < v 5 → b < t → (t : Int) ≤ v 0 → fX1_harmOf 63 (gof (yD v hd day)) (a : Int) (b : Int) (t : Int) F = some (hN v hd day (a : Int) (b : Int) (t : Int)) ∧ (hN v hd day (a : Int) (b : Int) (t : Int) = -1 ∨ (0 ≤ hN v hd day (a : Int) (b : Int) (t : Int) ∧ hN v hd day (a : Int) (b : Int) (t : Int) ≤ 3024)) := by
    intro a b t h1 h2 h3
    have c1 := c_harm hC hR (by rw [eD]; exact hne) h1 h2 h3
    rw [eD] at c1
    unfold hN
    rw [Int.toNat_natCast, Int.toNat_natCast]
    refine ⟨c1.1, ?_⟩
    by_cases y : yJ v hd day (a : Int) b t = BD
    · left; unfold hq; rw [if_pos y]
    · exact Or.inr (c1.2 y)
  refine lp (fun n i (st : Int × Int × Int × Int) => fX9_needs_b70 n 1 (k : Int) what (gof (yD v hd day)) st.1 st.2.1 st.2.2.1 st.2.2.2 (i : Int) F) k (fun i st => st = ndF (hN v hd day) (v 5) (v 0) seed i ∧ (0 ≤ st.2.1 ∧ st.2.1 ≤ 3024 * (i : Int)) ∧ (0 ≤ st.2.2.1 ∧ st.2.2.1 ≤ (i : Int)) ∧ (0 ≤ st.2.2.2 ∧ st.2.2.2 ≤ 3024)) (fun r => r = some (ndPick what (ndF (hN v hd day) (v 5) (v 0) seed k), F)) ?_ ?_ FU 0 (seed, 0, 0, 0) (Nat.zero_le _) ⟨rfl, by dsimp only; omega, by dsimp only; omega, by dsimp only; omega⟩ (FU_gt (by omega))
  · rintro n i ⟨x, all, fl, gr⟩ hi ⟨e, g1, g2, g3⟩
    dsimp only at e g1 g2 g3 ⊢
    left
    obtain ⟨ka, kb, kd, kt, d1, d2, d3, d4, d5, d6, d7, d8, d9⟩ := nd_draw x (n5 := v 5) (n0 := v 0) (by omega) (by omega)
    obtain ⟨h1, h2⟩ := hh ka kb kt d4 d8 d9
    have st := ndF_step e.symm d1 d2 d3 d7 rfl
    have ni : ¬ (k : Int) ≤ (i : Int) := by clear d1 d2 d3 d7; omega
    have hi1 : i < 2147483647 := by clear d1 d2 d3 d7; omega
    have c5 : (1 : Int) ≤ v 5 := by clear d1 d2 d3 d7; omega
    have c0 : (1 : Int) ≤ v 0 := b0.1
    have z5 : ¬ v 5 = 0 := by clear d1 d2 d3 d7; omega
    have z0 : ¬ v 0 = 0 := by clear d1 d2 d3 d7; omega
    have q1 : (kb : Int) + (kd : Int) < 2147483648 ∧ -2147483648 ≤ (kb : Int) + (kd : Int) ∧ (kb : Int) + (kd : Int) + 1 < 2147483648 := by clear d1 d2 d3 d7; omega
    have w1 : xw (xw ((kb : Int) + (kd : Int)) + 1) = (kb : Int) + (kd : Int) + 1 := by
      rw [xwn (x := (kb : Int) + (kd : Int)) q1.2.1 q1.1, xwn (by omega) q1.2.2]
    have nf1 : fX9_nextOf x = nxS x := rfl
    have nf2 : fX9_nextOf (nxS x) = nxS (nxS x) := rfl
    have nf3 : fX9_nextOf (nxS (nxS x)) = nxS (nxS (nxS x)) := rfl
    have dr1 : fX9_drawnBelow (nxS x) (v 5) = some (ka : Int) := by
      unfold fX9_drawnBelow
      rw [if_pos c5, if_neg z5, d1]
    have dr2 : fX9_drawnBelow (nxS (nxS x)) (v 0) = some (kb : Int) := by
      unfold fX9_drawnBelow
      rw [if_pos c0, if_neg z0, d2]
    have dr3 : fX9_drawnBelow (nxS (nxS (nxS x))) 3 = some (kd : Int) := by
      unfold fX9_drawnBelow
      rw [if_pos (by decide), if_neg (by decide), d3]
    have E : fX9_needs_b70 (n + 1) 1 (k : Int) what (gof (yD v hd day)) x all fl gr (i : Int) F = if hN v hd day (ka : Int) (kb : Int) (kt : Int) ≠ -1 then fX9_needs_b70 n 1 (k : Int) what (gof (yD v hd day)) (nxS (nxS (nxS x))) (xw (all + hN v hd day (ka : Int) (kb : Int) (kt : Int))) fl (xmax gr (hN v hd day (ka : Int) (kb : Int) (kt : Int))) ((i + 1 : Nat) : Int) F else fX9_needs_b70 n 1 (k : Int) what (gof (yD v hd day)) (nxS (nxS (nxS x))) all (xw (fl + 1)) gr ((i + 1 : Nat) : Int) F := by
      rw [fX9_needs_b70]
      simp only [Nat.reduceAdd]
      rw [if_neg ni, pv_n hPV, if_neg hPV.2.1, pv_5 hPV, nf1, dr1, Option.bind_some, if_neg hPV.2.1, pv_0 hPV, nf2, dr2, Option.bind_some, nf3, dr3, Option.bind_some, if_neg hPV.2.1, w1, d7, h1, Option.bind_some, xwS hi1]
    clear d1 d2 d3 d7 dr1 dr2 dr3 w1 nf1 nf2 nf3
    generalize hN v hd day (ka : Int) (kb : Int) (kt : Int) = h at *
    show ∃ s' : Int × Int × Int × Int, _ ∧ fX9_needs_b70 (n + 1) 1 (k : Int) what (gof (yD v hd day)) x all fl gr (i : Int) F = fX9_needs_b70 n 1 (k : Int) what (gof (yD v hd day)) s'.1 s'.2.1 s'.2.2.1 s'.2.2.2 ((i + 1 : Nat) : Int) F
    rw [E]
    clear E e
    generalize nxS (nxS (nxS x)) = x3 at *
    by_cases y : h = -1
    · rw [if_pos y] at st
      rw [if_neg (dnn y), xwn (x := fl + 1) (by omega) (by omega)]
      exact ⟨(x3, all, fl + 1, gr), ⟨st.symm, by dsimp only; omega, by dsimp only; omega, by dsimp only; omega⟩, rfl⟩
    · rw [if_neg y] at st
      rw [if_pos y, xwn (x := all + h) (by omega) (by omega)]
      refine ⟨(x3, all + h, fl, xmax gr h), ⟨st.symm, by dsimp only; omega, by dsimp only; omega, ?_⟩, rfl⟩
      dsimp only
      unfold xmax
      split <;> omega
  · rintro n ⟨x, all, fl, gr⟩ ⟨e, g1, g2, g3⟩
    dsimp only at e ⊢
    rw [fX9_needs_b70, if_pos (Int.le_refl _), ← e]
    unfold ndPick
    by_cases q : what = 0
    · rw [if_neg (dnn q), if_neg (dnn q)]
    · rw [if_pos q, if_pos q]
      by_cases q2 : what = 1
      · rw [if_neg (dnn q2), if_neg (dnn q2)]
      · rw [if_pos q2, if_pos q2]
theorem m_needs (h : MAS v hd day 1 G) (hne : yD v hd day ≠ BD) (seed what : Int) {k : Nat} (hk : k ≤ 9) (h44 : G 173 44 = seed) (h01 : ∀ a b t : Nat, (a : Int) < v 5 → b < t → (t : Int) ≤ v 0 → (yJ v hd day (a : Int) b t = BD ∧ hN v hd day (a : Int) (b : Int) (t : Int) = -1) ∨ (yJ v hd day (a : Int) b t ≠ BD ∧ hN v hd day (a : Int) (b : Int) (t : Int) = gof (yD v hd day) - gof (yJ v hd day (a : Int) b t) ∧ 0 ≤ hN v hd day (a : Int) (b : Int) (t : Int) ∧ hN v hd day (a : Int) (b : Int) (t : Int) ≤ 3024)) :
    ∃ G', fX10_needs_b55 FU 173 (k : Int) what 0 0 0 0 G = some (ndPick what (ndF (hN v hd day) (v 5) (v 0) seed k), G') ∧ kM G G' := by
  have hO := h.1.2
  have b0 := hO.1
  have b5 := hO.2.2.2.1
  refine lp (fun n i (st : (Int × Int × Int) × Mem) => fX10_needs_b55 n 173 (k : Int) what st.1.1 st.1.2.1 st.1.2.2 (i : Int) st.2) k (fun i st => (st.2 173 44, st.1) = ndF (hN v hd day) (v 5) (v 0) seed i ∧ ((0 ≤ st.1.1 ∧ st.1.1 ≤ 3024 * (i : Int)) ∧ (0 ≤ st.1.2.1 ∧ st.1.2.1 ≤ (i : Int)) ∧ (0 ≤ st.1.2.2 ∧ st.1.2.2 ≤ 3024)) ∧ MAS v hd day 1 st.2 ∧ kM G st.2) (fun r => ∃ G', r = some (ndPick what (ndF (hN v hd day) (v 5) (v 0) seed k), G') ∧ kM G G') ?_ ?_ FU 0 ((0, 0, 0), G) (Nat.zero_le _) ⟨by dsimp only; rw [h44]; rfl, ⟨by dsimp only; omega, by dsimp only; omega, by dsimp only; omega⟩, h, kM.rf G⟩ (FU_gt (by omega))
  · rintro n i ⟨⟨all, fl, gr⟩, K⟩ hi ⟨e, ⟨g1, g2, g3⟩, hK, kK⟩
    dsimp only at e g1 g2 g3 hK kK ⊢
    left
    generalize hx : K 173 44 = x at e
    obtain ⟨ka, kb, kd, kt, d1, d2, d3, d4, d5, d6, d7, d8, d9⟩ := nd_draw x (n5 := v 5) (n0 := v 0) (by omega) (by omega)
    have st := ndF_step e.symm d1 d2 d3 d7 rfl
    have ni : ¬ (k : Int) ≤ (i : Int) := by clear d1 d2 d3 d7; omega
    have hi1 : i < 2147483647 := by clear d1 d2 d3 d7; omega
    have z5 : ¬ v 5 = 0 := by clear d1 d2 d3 d7; omega
    have z0 : ¬ v 0 = 0 := by clear d1 d2 d3 d7; omega
    have q1 : (kb : Int) + (kd : Int) < 2147483648 ∧ -2147483648 ≤ (kb : Int) + (kd : Int) ∧ (kb : Int) + (kd : Int) + 1 < 2147483648 := by clear d1 d2 d3 d7; omega
    have w1 : xw (xw ((kb : Int) + (kd : Int)) + 1) = (kb : Int) + (kd : Int) + 1 := by
      rw [xwn (x := (kb : Int) + (kd : Int)) q1.2.1 q1.1, xwn (by omega) q1.2.2]
    generalize hK1 : mset K 173 44 (nxS x) = K1
    generalize hK2 : mset K1 173 44 (nxS (nxS x)) = K2
    generalize hK3 : mset K2 173 44 (nxS (nxS (nxS x))) = K3
    have e1 : K1 173 44 = nxS x := by rw [← hK1, mset_eq]
    have e2 : K2 173 44 = nxS (nxS x) := by rw [← hK2, mset_eq]
    have e3 : K3 173 44 = nxS (nxS (nxS x)) := by rw [← hK3, mset_eq]
    have o1 : ∀ o j, ¬ (o = 173 ∧ j = 44) → K1 o j = K o j := fun o j ho => by rw [← hK1, mset_ne _ _ ho]
    have o2 : ∀ o j, ¬ (o = 173 ∧ j = 44) → K2 o j = K o j := fun o j ho => by rw [← hK2, mset_ne _ _ ho]; exact o1 o j ho
    have o3 : ∀ o j, ¬ (o = 173 ∧ j = 44) → K3 o j = K o j := fun o j ho => by rw [← hK3, mset_ne _ _ ho]; exact o2 o j ho
    have M1 : MV v K1 := hK.1.1.mono (o1 _ _ (by decide)) (fun j => o1 _ _ (by omega))
    have M2 : MV v K2 := hK.1.1.mono (o2 _ _ (by decide)) (fun j => o2 _ _ (by omega))
    have M3 : MV v K3 := hK.1.1.mono (o3 _ _ (by decide)) (fun j => o3 _ _ (by omega))
    have hK3M : MAS v hd day 1 K3 := by
      obtain ⟨⟨hM, hO'⟩, h1, hH, ⟨h11, h12, h13⟩, h2, ⟨h28, h29, h30, h31⟩, h3, h4, h5⟩ := hK
      exact ⟨⟨M3, hO'⟩, h1, fun y hy => (o3 _ _ (by omega)).trans (hH y hy), ⟨(o3 _ _ (by decide)).trans h11, (o3 _ _ (by decide)).trans h12, (o3 _ _ (by decide)).trans h13⟩, (o3 _ _ (by decide)).trans h2, ⟨(o3 _ _ (by decide)).trans h28, (o3 _ _ (by decide)).trans h29, (o3 _ _ (by decide)).trans h30, (o3 _ _ (by decide)).trans h31⟩, (o3 _ _ (by decide)).trans h3, (o3 _ _ (by decide)).trans h4, (o3 _ _ (by decide)).trans h5⟩
    have kK3 : kM K K3 := ⟨fun o j ho => o3 o j (by omega), o3 _ _ (by decide), o3 _ _ (by decide), o3 _ _ (by decide)⟩
    have dr1 : fX10_drawn 173 (v 5) K = some ((ka : Int), K1) := by
      unfold fX10_drawn
      have : xw (xw (K 173 44 * 1103515245) + 12345) = nxS x := by rw [hx]; rfl
      rw [if_neg z5, this, hK1, e1, d1]
    have dr2 : fX10_drawn 173 (v 0) K1 = some ((kb : Int), K2) := by
      unfold fX10_drawn
      have : xw (xw (K1 173 44 * 1103515245) + 12345) = nxS (nxS x) := by rw [e1]; rfl
      rw [if_neg z0, this, hK2, e2, d2]
    have dr3 : fX10_drawn 173 3 K2 = some ((kd : Int), K3) := by
      unfold fX10_drawn
      have : xw (xw (K2 173 44 * 1103515245) + 12345) = nxS (nxS (nxS x)) := by rw [e2]; rfl
      rw [if_neg (by decide), this, hK3, e3, d3]
    obtain ⟨K4, t1, t2, t3, t4⟩ := m_harmOf4 hK3M hne d4 d8 d9
    have t44 : K4 173 44 = nxS (nxS (nxS x)) := t4.trans e3
    have E : fX10_needs_b55 (n + 1) 173 (k : Int) what all fl gr (i : Int) K = fX10_needs_b121 (fX10_needs_b55 n) 173 (k : Int) what all fl gr (i : Int) 173 (ka : Int) (kb : Int) (kt : Int) K3 := by
      rw [fX10_needs_b55, if_neg ni, m_of hK.1.1 (i := 5) (x := 5) rfl (by omega), Option.bind_some, dr1, Option.bind_some]
      dsimp only
      rw [m_of M1 (i := 0) (x := 0) rfl (by omega), Option.bind_some, dr2, Option.bind_some]
      dsimp only
      rw [dr3, Option.bind_some]
      dsimp only
      rw [m_of M3 (i := 0) (x := 0) rfl (by omega), Option.bind_some, Option.bind_some, w1, ← d7]
      unfold xmin
      by_cases y : v 0 < (kb : Int) + (kd : Int) + 1
      · rw [if_pos y, if_neg (Int.not_le.mpr y)]
      · rw [if_neg y, if_pos (Int.not_lt.mp y)]
    have hh := h01 ka kb kt d4 d8 d9
    clear d1 d2 d3 d7 dr1 dr2 dr3 w1 e1 e2 e3 hK1 hK2 hK3
    generalize hN v hd day (ka : Int) (kb : Int) (kt : Int) = h at *
    generalize nxS (nxS (nxS x)) = x3 at *
    show ∃ s' : (Int × Int × Int) × Mem, _ ∧ fX10_needs_b55 (n + 1) 173 (k : Int) what all fl gr (i : Int) K = fX10_needs_b55 n 173 (k : Int) what s'.1.1 s'.1.2.1 s'.1.2.2 ((i + 1 : Nat) : Int) s'.2
    rw [E]
    clear E e
    unfold fX10_needs_b121
    rw [t1, Option.bind_some]
    dsimp only
    rcases hh with ⟨y, y2⟩ | ⟨y, y2, y3, y4⟩
    · rw [if_pos y2] at st
      rw [if_pos y, if_neg (show ¬ (0 : Int) ≤ -2 by decide)]
      unfold fX10_needs_b138 fX10_needs_b154
      rw [if_neg (show ¬ (0 : Int) ≤ -2 by decide), if_pos (show (-2 : Int) ≤ gr by omega), xwn (x := fl + 1) (by omega) (by omega), xwn (x := all + 0) (by omega) (by omega), xwS hi1, Int.add_zero]
      exact ⟨((all, fl + 1, gr), K4), ⟨by dsimp only; rw [t44]; exact st.symm, ⟨by dsimp only; omega, by dsimp only; omega, by dsimp only; omega⟩, t2, (kK.tr kK3).tr t3⟩, rfl⟩
    · rw [if_neg (show ¬ h = -1 by omega)] at st
      rw [if_neg y, ← y2, if_pos y3]
      unfold fX10_needs_b138 fX10_needs_b154
      rw [if_pos y3, xwn (x := fl + 0) (by omega) (by omega), xwn (x := all + h) (by omega) (by omega), xwS hi1, Int.add_zero]
      unfold xmax at st
      by_cases y5 : h ≤ gr
      · rw [if_neg (Int.not_lt.mpr y5)] at st
        rw [if_pos y5]
        exact ⟨((all + h, fl, gr), K4), ⟨by dsimp only; rw [t44]; exact st.symm, ⟨by dsimp only; omega, by dsimp only; omega, by dsimp only; omega⟩, t2, (kK.tr kK3).tr t3⟩, rfl⟩
      · rw [if_pos (Int.not_le.mp y5)] at st
        rw [if_neg y5]
        exact ⟨((all + h, fl, h), K4), ⟨by dsimp only; rw [t44]; exact st.symm, ⟨by dsimp only; omega, by dsimp only; omega, by dsimp only; omega⟩, t2, (kK.tr kK3).tr t3⟩, rfl⟩
  · rintro n ⟨⟨all, fl, gr⟩, K⟩ ⟨e, -, hK, kK⟩
    dsimp only at e hK kK ⊢
    refine ⟨K, ?_, kK⟩
    rw [fX10_needs_b55, if_pos (Int.le_refl _), ← e]
    unfold ndPick
    by_cases q : what = 0
    · rw [if_neg (dnn q), if_neg (dnn q)]
    · rw [if_pos q, if_pos q]
      by_cases q2 : what = 1
      · rw [if_neg (dnn q2), if_neg (dnn q2)]
      · rw [if_pos q2, if_pos q2]
end NDS
theorem pc_needs (a b c d seed k w : Int) : pcase RR gX9_needs gX10_needs [vI a, vI b, vI c, vI d, vI seed, vI k, vI w] := by
  intro F hR hmk
  by_cases hk : 1 ≤ k ∧ k ≤ 9
  · by_cases hw : 0 ≤ w ∧ w ≤ 2
    · have n1 : ¬ k < 1 := by omega
      have n2 : ¬ 9 < k := by omega
      have n3 : ¬ w < 0 := by omega
      rcases gain2 hR a b c d with ⟨F1, V, day, v, hd, s1, s2, s3, s4, s5, s6⟩ | ⟨F1, s1, s2, s3⟩
      · have hPV := s3.1.1.1
        have hO := hPV.2.2.2.2
        have eD := csv_D s3
        have yne : yD v hd day ≠ BD := by rw [← eD]; exact s4
        obtain ⟨F2, p1, p2, p3, p4, p5⟩ := csv_reach s3
        have k2 : kX F F2 := s2.tr (fun o k ho => p5 o k (by omega))
        obtain ⟨kk, rfl⟩ := nat_of (show 0 ≤ k by omega)
        have hx : fX9_needs 1 a b c d seed (kk : Int) w F = some (ndPick w (ndF (hN v hd day) (v 5) (v 0) seed kk), F2) := by
          unfold fX9_needs
          rw [if_neg n1, if_neg n2, if_neg n3, if_pos hw.2, s1, Option.bind_some]
          dsimp only
          simp only [Nat.reduceAdd]
          rw [if_pos (csv_1 s3 s4), p1, Option.bind_some, eD]
          exact c_needs p2 p4 yne seed w (by omega)
        obtain ⟨G', r1, r2, r3, r4⟩ := s6 F2 k2
        generalize hK : mset G' 173 44 seed = K
        have o1 : ∀ o j, ¬ (o = 173 ∧ j = 44) → K o j = G' o j := fun o j ho => by rw [← hK, mset_ne _ _ ho]
        have e44 : K 173 44 = seed := by rw [← hK, mset_eq]
        have hKM : MAS v hd day 1 K := by
          obtain ⟨⟨hM, hO'⟩, h1, hH, ⟨h11, h12, h13⟩, h2, ⟨h28, h29, h30, h31⟩, h3, h4, h5⟩ := r3.1
          exact ⟨⟨hM.mono (o1 _ _ (by decide)) (fun j => o1 _ _ (by omega)), hO'⟩, h1, fun y hy => (o1 _ _ (by omega)).trans (hH y hy), ⟨(o1 _ _ (by decide)).trans h11, (o1 _ _ (by decide)).trans h12, (o1 _ _ (by decide)).trans h13⟩, (o1 _ _ (by decide)).trans h2, ⟨(o1 _ _ (by decide)).trans h28, (o1 _ _ (by decide)).trans h29, (o1 _ _ (by decide)).trans h30, (o1 _ _ (by decide)).trans h31⟩, (o1 _ _ (by decide)).trans h3, (o1 _ _ (by decide)).trans h4, (o1 _ _ (by decide)).trans h5⟩
        have kK : kM G' K := ⟨fun o j ho => o1 o j (by omega), o1 _ _ (by decide), o1 _ _ (by decide), o1 _ _ (by decide)⟩
        obtain ⟨G2, t1, t2⟩ := m_needs hKM yne seed w (k := kk) (by omega) e44 (fun x y t h1 h2 h3 => by
          have c1 := c_harm p2 p4 (by rw [p3]; exact s4) h1 h2 h3
          rw [p3, eD] at c1
          unfold hN
          rw [Int.toNat_natCast, Int.toNat_natCast]
          by_cases q : yJ v hd day (x : Int) y t = BD
          · exact Or.inl ⟨q, if_pos q⟩
          · exact Or.inr ⟨q, if_neg q, (c1.2 q).1, (c1.2 q).2⟩)
        refine no_best hR (F1 := F2) (G' := G2) ⟨1, a, b, c, d, seed, (kk : Int), w, _, rfl, k9, hx, rfl, rfl⟩ ⟨173, a, b, c, d, seed, (kk : Int), w, (_, G2), rfl, k10, ?_, rfl, rfl⟩ k2 ((r2.tr kK).tr t2)
        unfold fX10_needs
        rw [m_isIn, i10, if_pos hk, m_isIn, i10, if_pos hw, r1, Option.bind_some]
        dsimp only
        rw [if_pos (show (1 : Int) ≠ 0 by decide), hK]
        exact t1
      · obtain ⟨G', r1, r2⟩ := s3 F1 s2
        refine no_best hR (z := -2) (F1 := F1) (G' := G') ⟨1, a, b, c, d, seed, k, w, (-2, F1), rfl, k9, ?_, rfl, rfl⟩ ⟨173, a, b, c, d, seed, k, w, (-2, G'), rfl, k10, ?_, rfl, rfl⟩ s2 r2
        · unfold fX9_needs
          rw [if_neg n1, if_neg n2, if_neg n3, if_pos hw.2, s1, Option.bind_some]
          dsimp only
          rw [if_neg (dnn rfl)]
        · unfold fX10_needs
          rw [m_isIn, i10, if_pos hk, m_isIn, i10, if_pos hw, r1, Option.bind_some]
          dsimp only
          rw [if_neg (dnn rfl)]
    · refine no_best hR (z := -2) (F1 := F) (G' := F) ⟨1, a, b, c, d, seed, k, w, (-2, F), rfl, k9, ?_, rfl, rfl⟩ ⟨173, a, b, c, d, seed, k, w, (-2, F), rfl, k10, ?_, rfl, rfl⟩ (kX.rf F) (kM.rf F)
      · unfold fX9_needs
        rw [if_neg (show ¬ k < 1 by omega), if_neg (show ¬ 9 < k by omega)]
        by_cases q : w < 0
        · rw [if_pos q]
        · rw [if_neg q, if_neg (by omega)]
      · unfold fX10_needs
        rw [m_isIn, i10, if_pos hk, m_isIn, i10, if_neg hw]
  · refine no_best hR (z := -2) (F1 := F) (G' := F) ⟨1, a, b, c, d, seed, k, w, (-2, F), rfl, k9, ?_, rfl, rfl⟩ ⟨173, a, b, c, d, seed, k, w, (-2, F), rfl, k10, ?_, rfl, rfl⟩ (kX.rf F) (kM.rf F)
    · unfold fX9_needs
      by_cases q : k < 1
      · rw [if_pos q]
      · rw [if_neg q, if_pos (by omega)]
    · unfold fX10_needs
      rw [m_isIn, i10, if_neg hk]
