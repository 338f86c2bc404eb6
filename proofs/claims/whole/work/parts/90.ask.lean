/-! ===== a plan asked for, on both sides ===== -/
def PLN (d : Int) (G : Mem) : Prop := (G 173 11 = -1 ∧ G 173 12 = 0 ∧ G 173 13 = -1) ∧ G 173 26 = d ∧ (G 173 28 = 0 ∧ G 173 29 = 1 ∧ G 173 30 = 0 ∧ G 173 31 = 0) ∧ G 173 32 = -1 ∧ (G 173 36 = 0 ∧ G 173 37 = 0)
/-- the houses that are taken as of touch -/
def tmk (v : Nat → Int) (F : Mem) (m : Int) : Prop := ∀ h : Nat, h < 8 → mkd v F h = if xand (xshr m (h : Int)) 1 = 1 then 0 else v (8 + 4 * h + 1)
theorem no_bits : ∀ h : Nat, h < 8 → ¬ xand (xshr 0 (h : Int)) 1 = 1 := by decide +kernel
theorem tmk0 {v : Nat → Int} {F : Mem} (h1 : F 173 11 = -1) (h2 : F 173 13 = -1) : tmk v F 0 := fun h hh => by
  rw [if_neg (no_bits h hh)]
  unfold mkd
  rw [h1, h2, if_neg (by omega)]
/-- the reference's gain is the plan's -/
theorem mGn_eq {v hd : Nat → Int} {F : Mem} {day : Nat} {m : Int} (hH : ∀ x, x < 336 → F 179 x = hd x) (hv0 : 1 ≤ v 0 ∧ v 0 ≤ 48) (h26 : F 173 26 = (day : Int)) (ht : tmk v F m) {s h : Nat} (hh : h < 8) :
    mGn v F s h = if (F 173 30 ≠ 0 ∧ mkd v F h ≠ 1) ∨ ((F 173 36 ≤ (s : Int) ∧ (s : Int) < F 173 37) ∧ (F 173 35 = -1 ∨ F 173 35 = (h : Int))) then 0 else gnD v hd day (F 173 28) m s h := by
  have e26 : (F 173 26).toNat = day := by rw [h26]; exact Int.toNat_natCast day
  obtain ⟨n, en⟩ := nat_of (show 0 ≤ v 0 by omega)
  have hn : (v 0).toNat = n := by omega
  have hs48 : s % n < 48 := by have := Nat.mod_lt s (show 0 < n by omega); omega
  have hm7 : (day + s / n) % 7 < 7 := Nat.mod_lt _ (by decide)
  have eH := hH (48 * ((day + s / n) % 7) + s % n) (by omega)
  have hk := ht h hh
  unfold mGn gnD ghD rtM
  rw [e26, hn, eH]
  generalize hd (48 * ((day + s / n) % 7) + s % n) = w at *
  generalize ((s % n : Nat) : Int) = x at *
  generalize mkd v F h = k at *
  generalize xand (xshr m (h : Int)) 1 = b at *
  clear hm7 hs48 eH
  by_cases c1 : k = 0
  · rw [if_pos (Or.inl c1)]
    have z : (if v (8 + 4 * h + 1) ≠ 3 ∨ v 2 ≤ x ∧ x < v 3 then if v (8 + 4 * h + 1) = 0 ∨ b = 1 then 0 else rt v (F 173 28) h else 0) = 0 := by
      by_cases y : b = 1
      · rw [if_pos (Or.inr y), ite_self]
      · rw [if_neg y] at hk
        rw [if_pos (Or.inl (hk.symm.trans c1)), ite_self]
    rw [z, ite_self, ite_self]
  · have hb : ¬ b = 1 := fun y => c1 (by rw [hk, if_pos y])
    rw [if_neg hb] at hk
    have hk0 : ¬ (v (8 + 4 * h + 1) = 0 ∨ b = 1) := fun y => y.elim (fun u => c1 (hk.trans u)) hb
    rw [if_neg hk0, ← hk]
    by_cases c2 : F 173 30 ≠ 0 ∧ k ≠ 1
    · rw [if_pos (Or.inr c2), if_pos (Or.inl c2)]
    · rw [if_neg (fun y => y.elim c1 c2)]
      by_cases c3 : k ≠ 3 ∨ (v 2 ≤ x ∧ x < v 3)
      · rw [if_neg (fun y => y c3), if_pos c3]
        by_cases c4 : w = -1 ∨ w = (h : Int)
        · rw [if_neg (fun y => y c4), if_pos c4]
          by_cases c5 : (F 173 36 ≤ (s : Int) ∧ (s : Int) < F 173 37) ∧ (F 173 35 = -1 ∨ F 173 35 = (h : Int))
          · rw [if_pos c5, if_pos (Or.inr c5)]
          · rw [if_neg c5, if_neg (fun y => y.elim c2 c5)]
        · rw [if_pos c4, if_neg c4, ite_self]
      · rw [if_pos c3, if_neg c3, ite_self, ite_self]
/-- the reference's must is the plan's -/
theorem mMu_plain {v : Nat → Int} {F : Mem} (h : F 173 32 = -1) (h2 : F 173 29 = 1) (s : Nat) : mMu v F s = muD v s := by
  unfold mMu mMb
  rw [if_pos (Or.inl h), h2, if_neg (by decide)]
section ASQ
variable {v hd : Nat → Int} {day days : Nat} {G : Mem}
/-- the reference stands at a plan of some days, its questions plain -/
def MAS (v hd : Nat → Int) (day days : Nat) (G : Mem) : Prop := (MV v G ∧ VO v) ∧ (day ≤ 6 ∧ 1 ≤ days ∧ days ≤ 7) ∧ (∀ x, x < 336 → G 179 x = hd x) ∧ PLN (day : Int) G
theorem insD_N (v hd : Nat → Int) (day days : Nat) (c m : Int) : iN (insD v hd day days c m) = days * (v 0).toNat := rfl
theorem nd_le (hO : VO v) (hd7 : days ≤ 7) : days * (v 0).toNat ≤ 336 := by
  have b0 := hO.1
  have h1 : days * (v 0).toNat ≤ days * 48 := Nat.mul_le_mul_left _ (by omega)
  omega
theorem insD_WF (hO : VO v) (hd7 : days ≤ 7) (c m : Int) : WF (insD v hd day days c m) := insP_WF hO hO.2.1.1 (nd_le hO hd7) (fun s h _ hh => gnD_bd hO hd day c m s hh)
/-- any plan of the valley that the reference's questions spell -/
theorem PIm_of {I : Ins} {p : Int} {N : Nat} {mu : Nat → Int} {gn : Nat → Nat → Int} (hM : MV v G) (hO : VO v) (hQ : QO G) (hI : I = insP v p N mu gn) (hp : 1 ≤ p ∧ p ≤ 99) (hN : N ≤ 336) (hg : ∀ s h : Nat, s < N → (h : Int) < v 5 → 0 ≤ gn s h ∧ gn s h ≤ 9) (h12 : mpc v G = p) (hmu : ∀ s, s < N → mMu v G s = mu s) (hgn : ∀ s h : Nat, s < N → (h : Int) < v 5 → mGn v G s h = gn s h) : PIm I v G := by
  subst hI
  have b5 : 0 ≤ v 5 := Int.le_trans hO.2.2.2.1.1 (Int.le_of_lt hO.2.2.2.1.2.1)
  refine ⟨hM, hO, hQ, (toN b5).symm, insP_WF hO hp.1 hN hg, insP_T hO hp.1, by rw [h12]; exact hp, hmu, fun s h hs hh => hgn s h hs (insH hh), fun a b ha hb => ⟨rfl, ?_⟩⟩
  rw [h12]
  exact (toN (slt_bd hO hp.1 (insH ha) (insH hb)).1).symm
theorem mas_Q (h : MAS v hd day days G) : QO G := by
  obtain ⟨-, ⟨h1, -⟩, -, -, h2, -, h3, h4, h5⟩ := h
  refine ⟨by rw [h2]; omega, Or.inl h3, ?_⟩
  rw [h4, h5]; omega
theorem mas_pim (h : MAS v hd day days G) : PIm (insD v hd day days 0 0) v G := by
  have hQ := mas_Q h
  obtain ⟨⟨hM, hO⟩, ⟨h1, h1b, h1c⟩, hH, ⟨h11, h12, h13⟩, h2, ⟨h28, h29, h30, h31⟩, h3, h4, h5⟩ := h
  refine PIm_of hM hO hQ rfl hO.2.1 (nd_le hO h1c) (fun s k _ hk => gnD_bd hO hd day 0 0 s hk) ?_ (fun s _ => mMu_plain h3 h29 s) (fun s k _ hk => ?_)
  · unfold mpc
    rw [h12, if_pos (Int.le_refl _)]
  · rw [mGn_eq hH hO.1 h2 (tmk0 h11 h13) (by have := hO.2.2.2.1; omega), h28, h30, h4, h5, if_neg (by omega)]
theorem mas_SL {I : Ins} {goal : Int} {G' : Mem} (h : MAS v hd day days G) (hS : SLm I goal G G') : MAS v hd day days G' := by
  obtain ⟨⟨hM, hO⟩, h1, hH, ⟨h11, h12, h13⟩, h2, ⟨h28, h29, h30, h31⟩, h3, h4, h5⟩ := h
  obtain ⟨-, -, -, s4⟩ := hS
  have e : ∀ k, k ≠ 27 → G' 173 k = G 173 k := fun k hk => s4 _ _ (by decide) (by decide) (by omega)
  refine ⟨⟨hM.mono (e 10 (by decide)) (fun k => s4 _ _ (by decide) (by decide) (by omega)), hO⟩, h1, fun x hx => (s4 _ _ (by decide) (by decide) (by omega)).trans (hH x hx), ⟨(e _ (by decide)).trans h11, (e _ (by decide)).trans h12, (e _ (by decide)).trans h13⟩, (e _ (by decide)).trans h2, ⟨(e _ (by decide)).trans h28, (e _ (by decide)).trans h29, (e _ (by decide)).trans h30, (e _ (by decide)).trans h31⟩, (e _ (by decide)).trans h3, (e _ (by decide)).trans h4, (e _ (by decide)).trans h5⟩
theorem goal0 {F : Mem} (h : F 173 31 = 0) : mgoal v F = -1 := if_pos h
/-- it stands solved -/
def MSV (v hd : Nat → Int) (day days : Nat) (G : Mem) : Prop := MAS v hd day days G ∧ TBm (insD v hd day days 0 0) G ∧ IsX (insD v hd day days 0 0) tv0 (dcd G)
theorem SL_kM {I : Ins} {goal : Int} {G' : Mem} (hS : SLm I goal G G') : kM G G' := ⟨fun o k h => hS.2.2.2 o k (by omega) (by omega) (by omega), hS.2.2.2 _ _ (by decide) (by decide) (by omega), hS.2.2.2 _ _ (by decide) (by decide) (by omega), hS.2.2.2 _ _ (by decide) (by decide) (by omega)⟩
theorem mas_solve (h : MAS v hd day days G) : ∃ G', fX10_solves 173 (days : Int) G = some G' ∧ MSV v hd day days G' ∧ fX10_gain 173 G' = some (grw (dcd G' 0 (v 4).toNat)) ∧ kM G G' := by
  have hP := mas_pim h
  obtain ⟨G', s1, s2⟩ := m_solves hP h.2.1.2.2 (insD_N v hd day days 0 0).symm
  have e31 : mgoal v G = -1 := goal0 h.2.2.2.2.2.1.2.2.2
  rw [e31] at s2
  have h2 := s2
  obtain ⟨q1, q2, q3, q4⟩ := s2
  rw [tvG_m1] at q1
  exact ⟨G', s1, ⟨mas_SL h h2, ⟨q2, q3⟩, q1⟩, (sl_gain hP h2).2, SL_kM h2⟩
end ASQ
/-- laid out, and asked, or neither -/
theorem ask2 {F : Mem} (hR : RR F) (a l n d e : Int) :
    (∃ (F1 : Mem) (V day days : Nat) (v hd : Nat → Int), fX9_isLaidOut 1 a l n d e F = some (1, F1) ∧ kX F F1 ∧ PLd v hd V day days 0 0 F1 ∧ d = (day : Int) ∧ e = (days : Int) ∧ ∀ G, kX F G → ∃ G', fX10_isAsked 173 a l n d e G = some (if dcd G' 0 (v 4).toNat = BD then 0 else 1, G') ∧ kM G G' ∧ MSV v hd day days G') ∨
    (∃ F1, fX9_isLaidOut 1 a l n d e F = some (0, F1) ∧ kX F F1 ∧ ∀ G, kX F G → ∃ G', fX10_isAsked 173 a l n d e G = some (0, G') ∧ kM G G') := by
  obtain ⟨hA, hT, -, h11, h12, h13⟩ := id hR
  have bad : ¬ ((0 ≤ a ∧ a < F 174 0) ∧ (0 ≤ d ∧ d ≤ 6) ∧ (1 ≤ e ∧ e ≤ 7)) → ∀ G, kX F G → ∃ G', fX10_isAsked 173 a l n d e G = some (0, G') ∧ kM G G' := by
    intro h G hG
    have hAG := (hR.x hG).1
    have eA := RR.A hG
    unfold fX10_isAsked
    rw [m_isIn, m_isIn, i10, i10]
    by_cases q1 : 0 ≤ d ∧ d ≤ 6
    · by_cases q2 : 1 ≤ e ∧ e ≤ 7
      · rw [if_pos q1, if_pos q2, m_valley hAG, eA, if_neg (fun z => h ⟨z, q1, q2⟩), Option.bind_some]
        dsimp only
        rw [if_pos rfl]
        exact ⟨G, rfl, kM.rf G⟩
      · rw [if_pos q1, if_neg q2]
        exact ⟨G, rfl, kM.rf G⟩
    · rw [if_neg q1]
      exact ⟨G, rfl, kM.rf G⟩
  unfold fX9_isLaidOut
  simp only [Nat.reduceAdd]
  rw [t_valley hA hT, Option.bind_some]
  by_cases hv : 0 ≤ a ∧ a < F 174 0
  · have hA0 := hA.1
    have n0 : ¬ 2 + 7 + 9 * a.toNat = 0 := by omega
    rw [if_pos hv, if_neg n0, x_isDay, i10]
    by_cases hd : 0 ≤ d ∧ d ≤ 6
    · rw [if_pos hd]
      by_cases he : 1 ≤ e ∧ e ≤ 7
      · rw [if_neg (show ¬ e < 1 by omega), if_neg (show ¬ 7 < e by omega)]
        obtain ⟨F1, z, s1, s2, s3, s4, s5⟩ := x_state hA hT l n
        rw [s1, Option.bind_some]
        dsimp only
        -- the reference's state, from any such memory
        have hM : ∀ G : Mem, kX F G → ∃ M1, fX10_isState 173 l n (mset G 173 10 (610 + 58 * a)) = some (z, M1) ∧ kS (mset G 173 10 (610 + 58 * a)) M1 ∧ (z = 1 → ∃ t, stOK (F 174) l n t ∧ XS 177 M1 t) := by
          intro G hG
          have e174 : (mset G 173 10 (610 + 58 * a)) 174 = F 174 := funext fun k => (mset_ne _ _ (by omega)).trans (hG 174 k (by omega))
          obtain ⟨M1, y, b1, b2, b3, b4, b5⟩ := m_state (F := mset G 173 10 (610 + 58 * a)) (by rw [e174]; exact hA) l n
          rw [e174] at b4 b5
          have ezy : y = z := by
            rcases s3 with rfl | rfl
            · rcases b3 with rfl | rfl
              · rfl
              · obtain ⟨t, h, -⟩ := b4 rfl
                exact absurd ⟨t, h⟩ (s5 rfl)
            · rcases b3 with rfl | rfl
              · obtain ⟨t, h, -⟩ := s4 rfl
                exact absurd ⟨t, h⟩ (b5 rfl)
              · rfl
          subst ezy
          exact ⟨M1, b1, b2, b4⟩
        have askS : ∀ G : Mem, kX F G → fX10_isAsked 173 a l n d e G = (fX10_isState 173 l n (mset G 173 10 (610 + 58 * a))).bind fun q6 => if q6.1 ≠ 0 then (fX10_solves 173 e (mset (fX10_plain 173 q6.2) 173 26 d)).bind fun q9 => (fX10_gain 173 q9).bind fun r11 => if r11 < 0 then some (0, q9) else some (1, q9) else some (0, q6.2) := by
          intro G hG
          have hAG := (hR.x hG).1
          have eA := RR.A hG
          unfold fX10_isAsked
          rw [m_isIn, m_isIn, i10, i10, if_pos hd, if_pos he, m_valley hAG, eA, if_pos hv, Option.bind_some]
          dsimp only
          rw [if_neg (show ¬ (1 : Int) = 0 by decide)]
        rcases s3 with rfl | rfl
        · right
          rw [if_neg (by decide)]
          refine ⟨F1, rfl, s2.x, fun G hG => ?_⟩
          obtain ⟨M1, b1, b2, -⟩ := hM G hG
          rw [askS G hG, b1, Option.bind_some]
          dsimp only
          rw [if_neg (by decide)]
          exact ⟨M1, rfl, (kM_v0 _ _).tr b2.m⟩
        · left
          obtain ⟨t, t1, t2⟩ := s4 rfl
          obtain ⟨day, rfl⟩ := nat_of hd.1
          obtain ⟨days, rfl⟩ := nat_of (show 0 ≤ e by omega)
          have hV := hT.2.2.2.2.2.1 a.toNat (by omega)
          have hO := hA.2.2.2.2.2.2.1 a.toNat (by omega)
          have hV1 : VR (vOf (F 174) a.toNat) F1 (2 + 7 + 9 * a.toNat) := hV.mono (fun o k q1 q2 => s2.x o k (by omega))
          generalize hvv : vOf (F 174) a.toNat = v at *
          have b0 := hO.1
          have hnd := nd_le (days := days) hO (by omega)
          obtain ⟨Vn, hVn⟩ : ∃ Vn, Vn = 2 + 7 + 9 * a.toNat := ⟨_, rfl⟩
          have hVb : Vn ≠ 0 ∧ Vn < 58 := by omega
          rw [← hVn] at hV1 n0 ⊢
          generalize hG2 : mset (mset (mset (mset F1 63 0 (Vn : Int)) 63 1 ((48 : Nat) : Int)) 63 2 (day : Int)) 63 3 (days : Int) = G2
          have g2 : ∀ o k, o ≠ 63 → G2 o k = F1 o k := fun o k ho => by rw [← hG2, mset_ne _ _ (by omega), mset_ne _ _ (by omega), mset_ne _ _ (by omega), mset_ne _ _ (by omega)]
          have e0 : G2 Vn 0 = v 0 := (g2 Vn 0 (by omega)).trans hV1.2.1.1
          have w4 : xw (v 0 * (days : Int)) = ((days * (v 0).toNat : Nat) : Int) := by
            rw [Int.mul_comm, cast_mul (show 0 ≤ v 0 by omega)]; exact xwN (by omega)
          have hop : fX1_open 63 Vn 48 (day : Int) (days : Int) F1 = some (mset G2 63 4 ((days * (v 0).toNat : Nat) : Int)) := by
            unfold fX1_open
            rw [if_neg n0, hG2, e0, w4]
          generalize hF2 : mset G2 63 4 ((days * (v 0).toNat : Nat) : Int) = F2 at hop
          have f2 : ∀ o k, o ≠ 63 → F2 o k = F1 o k := fun o k ho => by rw [← hF2, mset_ne _ _ (by omega)]; exact g2 o k ho
          have hPO : PO v t.2.1 Vn day days F2 := by
            refine ⟨⟨?_, hVb.1, hVb.2, hV1.mono (fun o k q1 q2 => f2 o k (by omega)), hO⟩, ?_, ?_, ?_, ?_, ⟨by omega, by omega, by omega⟩, fun x hx => (f2 50 x (by omega)).trans (t2.1 x hx).2⟩
            · rw [← hF2, mset_ne _ _ (by omega), ← hG2, mset_ne _ _ (by omega), mset_ne _ _ (by omega), mset_ne _ _ (by omega), mset_eq]
            · rw [← hF2, mset_ne _ _ (by omega), ← hG2, mset_ne _ _ (by omega), mset_ne _ _ (by omega), mset_eq]; rfl
            · rw [← hF2, mset_ne _ _ (by omega), ← hG2, mset_ne _ _ (by omega), mset_eq]
            · rw [← hF2, mset_ne _ _ (by omega), ← hG2, mset_eq]
            · rw [← hF2, mset_eq]
          obtain ⟨F3, p1, p2, p3⟩ := x_fill hPO 0 0
          refine ⟨F3, Vn, day, days, v, t.2.1, ?_, ?_, p2, rfl, rfl, fun G hG => ?_⟩
          · rw [if_pos (by decide), hop, Option.bind_some, p1, Option.bind_some]
          · intro o k ho
            rw [p3 o k (by unfold isPL; omega), f2 o k (by omega)]
            exact s2.x o k ho
          · obtain ⟨M1, b1, b2, b4⟩ := hM G hG
            obtain ⟨u, u1, u2⟩ := b4 rfl
            have etu := stOK_uniq t1 u1
            subst etu
            rw [askS G hG, b1, Option.bind_some]
            dsimp only
            rw [if_pos (by decide)]
            have c0 := kM_v0 G (610 + 58 * a)
            have cM := c0.tr b2.m
            generalize hQ : mset (fX10_plain 173 M1) 173 26 (day : Int) = Q
            have q1 : ∀ o k, o ≠ 173 → Q o k = M1 o k := fun o k ho => by
              rw [← hQ]
              unfold fX10_plain
              simp only [mset_ne _ _ (show ¬ (o = 173 ∧ k = 26) by omega), mset_ne _ _ (show ¬ (o = 173 ∧ k = 28) by omega), mset_ne _ _ (show ¬ (o = 173 ∧ k = 29) by omega), mset_ne _ _ (show ¬ (o = 173 ∧ k = 30) by omega), mset_ne _ _ (show ¬ (o = 173 ∧ k = 31) by omega), mset_ne _ _ (show ¬ (o = 173 ∧ k = 32) by omega), mset_ne _ _ (show ¬ (o = 173 ∧ k = 36) by omega), mset_ne _ _ (show ¬ (o = 173 ∧ k = 37) by omega), mset_ne _ _ (show ¬ (o = 173 ∧ k = 11) by omega), mset_ne _ _ (show ¬ (o = 173 ∧ k = 12) by omega), mset_ne _ _ (show ¬ (o = 173 ∧ k = 13) by omega)]
            have qk : Q 173 10 = M1 173 10 := by rw [← hQ]; rfl
            have qP : PLN (day : Int) Q := by rw [← hQ]; exact ⟨⟨rfl, rfl, rfl⟩, rfl, ⟨rfl, rfl, rfl, rfl⟩, rfl, rfl, rfl⟩
            have hGA := (hR.x hG).1
            have eGA := RR.A hG
            have mv := (m_valleyMV (F := G) hGA (i := a) (by rw [eGA]; exact hv)).1
            rw [eGA, hvv] at mv
            have mvQ : MV v Q := mv.mono (qk.trans (b2 173 10 (by omega) (by omega))) (fun k => (q1 174 k (by omega)).trans (b2 174 k (by omega) (by omega)))
            have hMAS : MAS v t.2.1 day days Q := ⟨⟨mvQ, hO⟩, ⟨by omega, by omega, by omega⟩, fun x hx => (q1 179 x (by omega)).trans (u2.1 x hx).2, qP⟩
            obtain ⟨G', r1, r2, r3, r4⟩ := mas_solve hMAS
            have kQ : kM G Q := by
              have hRG := hR.x hG
              refine ⟨fun o k ho => (q1 o k (by omega)).trans (cM.1 o k ho), ?_, ?_, ?_⟩
              · rw [qP.1.1]; exact hRG.2.2.2.1.symm
              · rw [qP.1.2.1]; exact hRG.2.2.2.2.1.symm
              · rw [qP.1.2.2]; exact hRG.2.2.2.2.2.symm
            refine ⟨G', ?_, kQ.tr r4, r2⟩
            rw [r1, Option.bind_some, r3, Option.bind_some]
            have hX := r2.2.2
            have hN336 : iN (insD v t.2.1 day days 0 0) ≤ 336 := hnd
            have b4v := hO.2.2.2.1
            have hst : (v 4).toNat < iH (insD v t.2.1 day days 0 0) := by show (v 4).toNat < (v 5).toNat; omega
            have bd := X_bd (insD_WF hO (by omega) 0 0) tv0_01 hX (s := 0) (h := (v 4).toNat) (Nat.zero_le _) hst
            unfold grw
            by_cases y : dcd G' 0 (v 4).toNat = BD
            · rw [if_pos y, if_pos (by decide), if_pos y]
            · have := gof_nn y (by
                rcases bd with w | w
                · exact absurd w y
                · have h9 := w.1
                  omega)
              rw [if_neg y, if_neg (Int.not_lt.mpr this), if_neg y]
      · right
        refine ⟨F, ?_, kX.rf F, bad (fun z => he z.2.2)⟩
        by_cases q : e < 1
        · rw [if_pos q]
        · rw [if_neg q, if_pos (by omega)]
    · right
      rw [if_neg hd]
      exact ⟨F, rfl, kX.rf F, bad (fun z => hd z.2.1)⟩
  · right
    rw [if_neg hv, if_pos rfl]
    exact ⟨F, rfl, kX.rf F, bad (fun z => hv z.1)⟩
