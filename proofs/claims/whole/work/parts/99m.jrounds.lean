/-! ===== text: a line of both, rounds and lists ===== -/
def JX (A : Nat → Int) (R : RST) (G H : Mem) : Prop := XRd A R G ∧ MS A R H ∧ IV A R
def kXt (G G' : Mem) : Prop := ∀ o k, o ≤ 34 ∨ 48 ≤ o → G' o k = G o k
theorem kXt.tr {F G H : Mem} (h1 : kXt F G) (h2 : kXt G H) : kXt F H := fun o k a => (h2 o k a).trans (h1 o k a)
theorem kXn.t {F G : Mem} (h : kXn F G) : kXt F G := fun o k a => h o k (by omega) (by omega)
section TMR
variable {A : Nat → Int} {R : RST} {G H : Mem}
theorem x_none (hA : TA A) (hX : XRd A R G) (hI : IV A R) (w : R.2.1 = 0) {st : Int} (hn : ¬ (tKd A R.1 = 1 ∧ tW A R.1 ≤ 17 ∧ fX2_sortOf (tW A R.1 - 1) = st)) : ∃ G', fX2_readLine 35 st G = some G' ∧ XRd A (aEnds R) G' ∧ kXn G G' := by
  obtain ⟨a, b, -⟩ := x_refuse hX w
  refine ⟨_, ?_, a, b⟩
  unfold fX2_readLine
  rw [x_lineAt hA hX.1 hX.2.1 hI.1, if_neg hn, Option.bind_some, if_neg (by decide)]
theorem m_noEnd (hA : TA A) (h : MS A (aEnds R) H) (hI : IV A R) : ∃ H', fX10_endsLine 173 H = some H' ∧ MS A (aEnds R) H' ∧ kMr H H' := by
  obtain ⟨H', r1, r2, r3⟩ := m_endsLine hA h hI.ends.1
  have e : aE A (aEnds R) = aEnds R := by
    refine aE_w ?_
    unfold aEnds
    by_cases y : R.2.1 = 0
    · rw [if_pos y]; exact (show ¬ (1 : Int) = 0 by decide)
    · rw [if_neg y]; exact y
  rw [e] at r2
  exact ⟨H', r1, r2, r3⟩
theorem m_rndNo (hA : TA A) (h : MS A R H) (hI : IV A R) (hn : ¬ (tKd A R.1 = 1 ∧ tW A R.1 = 10)) : ∃ H', fX10_roundLine 173 H = some H' ∧ MS A (aEnds R) H' ∧ kMr H H' := by
  obtain ⟨H1, r1, r2, r3⟩ := m_takes_no hA h (lo := 10) (hi := 10) (by decide) (fun z => hn ⟨z.2.1, by omega⟩)
  obtain ⟨H2, s1, s2, s3⟩ := m_noEnd hA r2 hI
  have e : ∀ y z : Int, fX10_roundLine_b21 173 y z H = some H2 := fun y z => by
    unfold fX10_roundLine_b21 fX10_roundLine_b111
    rw [r1, Option.bind_some]
    dsimp only
    rw [if_pos (by decide), s1, Option.bind_some]
  refine ⟨H2, ?_, s2, r3.tr s3⟩
  unfold fX10_roundLine
  rw [al176, if_pos (by decide), e, e]
  split <;> rfl
theorem m_listNo (hA : TA A) (h : MS A R H) (hI : IV A R) (hn : ¬ (tKd A R.1 = 1 ∧ tW A R.1 = 17)) : ∃ H', fX10_listLine 173 H = some H' ∧ MS A (aEnds R) H' ∧ kMr H H' := by
  obtain ⟨H1, r1, r2, r3⟩ := m_takes_no hA h (lo := 17) (hi := 17) (by decide) (fun z => hn ⟨z.2.1, by omega⟩)
  obtain ⟨H2, s1, s2, s3⟩ := m_noEnd hA r2 hI
  refine ⟨H2, ?_, s2, r3.tr s3⟩
  unfold fX10_listLine fX10_listLine_b109
  rw [r1, Option.bind_some]
  dsimp only
  rw [if_pos (by decide), s1, Option.bind_some]
theorem m_same {m : Int} {c n w s : Nat} (h : SL w n s) (hm : (m = 1 ∧ c < n) ∨ (m = 0 ∧ c = n)) (hS : R.2.2.1 = 0 → G s 3 = (c : Int)) : ∃ mx, ((mx = 1 ∧ (s = 0 ∨ fX3_isFull s G = 0)) ∨ (mx = 0 ∧ s ≠ 0 ∧ fX3_isFull s G ≠ 0)) ∧ hdR A mx R = hdR A m R := by
  by_cases f : R.2.2.1 = 0
  · have e := x_full h (hS f)
    refine ⟨m, ?_, rfl⟩
    rcases hm with ⟨a, b⟩ | ⟨a, b⟩
    · exact Or.inl ⟨a, Or.inr (by rw [e, if_pos b])⟩
    · exact Or.inr ⟨a, h.2.2.2.1, by rw [e, if_neg (by omega)]; decide⟩
  · by_cases y : fX3_isFull s G = 0
    · exact ⟨1, Or.inl ⟨rfl, Or.inr y⟩, by rw [hdR_f f, hdR_f f]⟩
    · exact ⟨0, Or.inr ⟨rfl, h.2.2.2.1, y⟩, by rw [hdR_f f, hdR_f f]⟩
theorem fin_ok (hI : IV A R) (f : R.2.2.1 = 0) : OK R := by
  refine ⟨?_, f⟩
  by_cases y : R.2.1 = 0
  · exact y
  · have := hI.2.2 y; omega
theorem RO.more {u v : Nat → Int} {c : Nat} (h : RO u) (hu : u 0 = (c : Int)) (hc2 : c < 16) (hv : v 0 = ((c + 1 : Nat) : Int)) (hvu : ∀ k, k ≠ 0 → k < 1 + 3 * c → v k = u k) (r0 : 0 ≤ v (1 + 3 * c) ∧ v (1 + 3 * c) ≤ 7) (r1 : 0 ≤ v (1 + 3 * c + 1) ∧ v (1 + 3 * c + 1) < v (1 + 3 * c + 2) ∧ v (1 + 3 * c + 2) ≤ 48) : RO v := by
  obtain ⟨h1, h2⟩ := h
  refine ⟨by omega, fun k hk => ?_⟩
  by_cases y : k = c
  · subst y; exact ⟨r0, r1⟩
  · have := h2 k (by omega)
    rw [hvu (1 + 3 * k) (by omega) (by omega), hvu (1 + 3 * k + 1) (by omega) (by omega), hvu (1 + 3 * k + 2) (by omega) (by omega)]
    exact this
theorem EO.more {u v : Nat → Int} {c : Nat} (h : EO u) (hu : u 0 = (c : Int)) (hc2 : c < 20) (hv : v 0 = ((c + 1 : Nat) : Int)) (hvu : ∀ k, k ≠ 0 → k < 1 + 2 * c → v k = u k) (r0 : 0 ≤ v (1 + 2 * c) ∧ v (1 + 2 * c) ≤ 7) (r1 : 0 ≤ v (1 + 2 * c + 1) ∧ v (1 + 2 * c + 1) ≤ 99) : EO v := by
  obtain ⟨h1, h2⟩ := h
  refine ⟨by omega, fun k hk => ?_⟩
  by_cases y : k = c
  · subst y; exact ⟨r0, r1⟩
  · have := h2 k (by omega)
    rw [hvu (1 + 2 * k) (by omega) (by omega), hvu (1 + 2 * k + 1) (by omega) (by omega)]
    exact this
theorem nT_in : (n2 A R).1 < (nT A R).1 ∧ (nT A R).1 ≤ 48 ∧ 0 ≤ (n2 A R).1 ∧ (n2 A R).1 ≤ 47 := by
  have b : 0 ≤ (n2 A R).1 ∧ (n2 A R).1 ≤ 47 := aN_in (lo := 0) (hi := 47) (by decide)
  have d : (n2 A R).1 + 1 ≤ (nT A R).1 ∧ (nT A R).1 ≤ 48 := aN_in (by omega)
  omega
theorem n1_in : 0 ≤ (n1 A R).1 ∧ (n1 A R).1 ≤ 7 := aN_in (lo := 0) (hi := 7) (by decide)
theorem n99_in : 0 ≤ (n99 A R).1 ∧ (n99 A R).1 ≤ 99 := aN_in (lo := 0) (hi := 99) (by decide)
theorem j_round (hA : TA A) (hJ : JX A R G H) (hR : RO (H 176)) (hS : R.2.2.1 = 0 → SR 3 16 (H 176) G 42) (w : R.2.1 = 0) (k0 : tKd A R.1 ≠ 0) : ∃ R' G' H', fX2_readLine 35 1 G = some G' ∧ fX10_roundLine 173 H = some H' ∧ JX A R' G' H' ∧ RO (H' 176) ∧ (R'.2.2.1 = 0 → SR 3 16 (H' 176) G' 42) ∧ kXt G G' ∧ kM6 H H' ∧ (R'.2.1 = 0 → R.1 < R'.1) := by
  obtain ⟨hX, hM, hI⟩ := hJ
  obtain ⟨-, -, -, hnx⟩ := nxq_sp hA hI.1
  by_cases hw : tKd A R.1 = 1 ∧ tW A R.1 = 10
  · obtain ⟨k, hw⟩ := hw
    obtain ⟨c, hc⟩ := nat_of hR.1.1
    have hcl := hR.1.2
    obtain ⟨H', m, r1, r2, r3, r4⟩ := m_rndL hA hM hI w k hw hc (by omega)
    have hmm : (m = 1 ∧ c < 16) ∨ (m = 0 ∧ c = 16) := r4.elim (fun z => Or.inl ⟨z.1, z.2.1⟩) (fun z => Or.inr ⟨z.1, z.2.1⟩)
    obtain ⟨mx, x1, x2⟩ := m_same (G := G) (R := R) (A := A) sl42 hmm (fun f => (hS f).2.2.2.2.1.trans hc)
    have es : fX2_sheetOf 35 ((9 : Nat) : Int) = 42 := rfl
    obtain ⟨G1, u1, u2, u3, u4⟩ := x_line hA hX hI w k (st := 1) (l := 9) (by decide) (by omega) rfl (m := mx) (by rw [es]; exact x1)
    have hI2 := hdR_iv hA hI k m
    rw [x2] at u1 u3 u4
    rw [es] at u4
    have eL := l_hft hA hI2 (l := 9) rfl
    rw [eL] at u1 u3 u4
    have mono := cF_mono hA (rgL 9) (-1) _ hI2
    rw [eL, hdR_1] at mono
    have hRO : RO (H' 176) := by
      rcases r4 with ⟨-, a2, a3, a4, a5, a6, a7⟩ | ⟨-, -, a3⟩
      · refine hR.more hc a2 a3 (fun k k1 k2 => a7 k k1 (Or.inl k2)) (by rw [a4]; exact n1_in) ?_
        rw [a5, a6]
        have := nT_in (A := A) (R := (n1 A (hdR A m R)).2)
        omega
      · have e : H' 176 = H 176 := funext a3
        rw [e]; exact hR
    by_cases f : (aE A (nT A (n1 A (hdR A m R)).2).2).2.2.1 = 0
    · have hok := fin_ok mono.2 f
      obtain ⟨o1, o2, o3, o4⟩ := v_hft hok
      obtain ⟨o5, o6⟩ := hdR_ok o1
      obtain ⟨-, a2, a3, a4, a5, a6, a7⟩ := r4.resolve_right (fun z => o5 z.1)
      have hS0 := hS o6.2
      have g3 : G1 42 3 = (c : Int) := (u2 _ _ (by omega) (by decide)).trans (hS0.2.2.2.2.1.trans hc)
      obtain ⟨G2, y1, y2, y3, y4, y5⟩ := x_keepN sl42 g3 a2 (x1 := ((9 : Nat) : Int)) (Or.inr (Or.inl rfl)) (many := 3) (by decide) (by decide)
      have hv := u3 hok.1
      refine ⟨_, G2, H', ?_, r1, ⟨u1.mono (fun k _ => y5 _ _ (by decide) (by decide)) (fun k => y5 _ _ (by decide) (by decide)), r2, mono.2⟩, hRO, fun _ => ?_, ?_, r3, fun _ => ?_⟩
      · rw [u4, if_neg (dnn f)]; exact y1
      · refine SR.more (hS0.mono (F' := G1) (fun o k z1 z2 => u2 o k (by omega) (by omega))) hc a2 a3 (fun k k1 k2 => a7 k k1 (Or.inl k2)) y2 (fun i hi => ?_) y4
        have e3 : ∀ i, i < 3 → G2 43 (3 * c + i) = tV A (itn A i (nx A R.1)) := fun i hi => (y3 i hi).trans (hv i hi)
        rw [hdR_1] at o2 o3 o4
        obtain rfl | rfl | rfl : i = 0 ∨ i = 1 ∨ i = 2 := by omega
        · exact (e3 0 (by decide)).trans (o2.symm.trans a4.symm)
        · exact (e3 1 (by decide)).trans (o3.symm.trans a5.symm)
        · exact (e3 2 (by decide)).trans (o4.symm.trans a6.symm)
      · intro o k z
        rw [y5 _ _ (by omega) (by omega)]; exact u2.t o k z
      · have := hnx k0; omega
    · refine ⟨_, G1, H', ?_, r1, ⟨u1, r2, mono.2⟩, hRO, fun z => absurd z f, u2.t, r3, fun _ => ?_⟩
      · rw [u4, if_pos f]
      · have := hnx k0; omega
  · obtain ⟨G', g1, g2, g3⟩ := x_none hA hX hI w (st := 1) (fun z => hw ⟨z.1, by
      have h3 := z.2.2
      unfold fX2_sortOf at h3
      by_cases q : 9 ≤ tW A R.1 - 1
      · rw [if_pos q] at h3
        by_cases q2 : tW A R.1 - 1 ≠ 9
        · rw [if_pos q2] at h3; split at h3 <;> omega
        · omega
      · rw [if_neg q] at h3; omega⟩)
    obtain ⟨H', r1, r2, r3⟩ := m_rndNo hA hM hI hw
    have e : H' 176 = H 176 := funext fun k => r3.at6 k
    have e2 : (aEnds R).2.1 = 1 ∧ (aEnds R).2.2.1 = 1 := by unfold aEnds; rw [if_pos w]; exact ⟨rfl, rfl⟩
    exact ⟨_, G', H', g1, r1, ⟨g2, r2, hI.ends⟩, by rw [e]; exact hR, fun z => by omega, g3.t, r3.six, fun z => by omega⟩
theorem v_ha (h : OK (aE A (n99 A (n1 A R).2).2)) : OK R ∧ (n1 A R).1 = tV A R.1 ∧ (n99 A (n1 A R).2).1 = tV A (nx A R.1) := by
  obtain ⟨h1, -⟩ := aE_ok h
  obtain ⟨h2, -, -, a1, b1⟩ := aN_ok h1
  obtain ⟨h3, -, -, a2, b2⟩ := aN_ok h2
  exact ⟨h3, a2, a1.trans (congrArg (tV A) b2)⟩
theorem j_list (hA : TA A) (hJ : JX A R G H) (hR : EO (H 176)) (hS : R.2.2.1 = 0 → SR 2 20 (H 176) G 46) (w : R.2.1 = 0) (k0 : tKd A R.1 ≠ 0) : ∃ R' G' H', fX2_readLine 35 3 G = some G' ∧ fX10_listLine 173 H = some H' ∧ JX A R' G' H' ∧ EO (H' 176) ∧ (R'.2.2.1 = 0 → SR 2 20 (H' 176) G' 46) ∧ kXt G G' ∧ kM6 H H' ∧ (R'.2.1 = 0 → R.1 < R'.1) := by
  obtain ⟨hX, hM, hI⟩ := hJ
  obtain ⟨-, -, -, hnx⟩ := nxq_sp hA hI.1
  by_cases hw : tKd A R.1 = 1 ∧ tW A R.1 = 17
  · obtain ⟨k, hw⟩ := hw
    obtain ⟨c, hc⟩ := nat_of hR.1.1
    have hcl := hR.1.2
    obtain ⟨H', m, r1, r2, r3, r4⟩ := m_list hA hM hI w k hw hc (by omega)
    have hmm : (m = 1 ∧ c < 20) ∨ (m = 0 ∧ c = 20) := r4.elim (fun z => Or.inl ⟨z.1, z.2.1⟩) (fun z => Or.inr ⟨z.1, z.2.1⟩)
    obtain ⟨mx, x1, x2⟩ := m_same (G := G) (R := R) (A := A) sl46 hmm (fun f => (hS f).2.2.2.2.1.trans hc)
    have es : fX2_sheetOf 35 ((16 : Nat) : Int) = 46 := rfl
    obtain ⟨G1, u1, u2, u3, u4⟩ := x_line hA hX hI w k (st := 3) (l := 16) (by decide) (by omega) rfl (m := mx) (by rw [es]; exact x1)
    have hI2 := hdR_iv hA hI k m
    rw [x2] at u1 u3 u4
    rw [es] at u4
    have eL := l_list hA hI2
    rw [eL] at u1 u3 u4
    have mono := cF_mono hA (rgL 16) (-1) _ hI2
    rw [eL, hdR_1] at mono
    have hRO : EO (H' 176) := by
      rcases r4 with ⟨-, a2, a3, a4, a5, a7⟩ | ⟨-, -, a3⟩
      · exact hR.more hc a2 a3 (fun k k1 k2 => a7 k k1 (Or.inl k2)) (by rw [a4]; exact n1_in) (by rw [a5]; exact n99_in)
      · have e : H' 176 = H 176 := funext a3
        rw [e]; exact hR
    by_cases f : (aE A (n99 A (n1 A (hdR A m R)).2).2).2.2.1 = 0
    · have hok := fin_ok mono.2 f
      obtain ⟨o1, o2, o3⟩ := v_ha hok
      obtain ⟨o5, o6⟩ := hdR_ok o1
      obtain ⟨-, a2, a3, a4, a5, a7⟩ := r4.resolve_right (fun z => o5 z.1)
      have hS0 := hS o6.2
      have g3 : G1 46 3 = (c : Int) := (u2 _ _ (by omega) (by decide)).trans (hS0.2.2.2.2.1.trans hc)
      obtain ⟨G2, y1, y2, y3, y4, y5⟩ := x_keepN sl46 g3 a2 (x1 := ((16 : Nat) : Int)) (Or.inr (Or.inr rfl)) (many := 2) (by decide) (by decide)
      have hv := u3 hok.1
      refine ⟨_, G2, H', ?_, r1, ⟨u1.mono (fun k _ => y5 _ _ (by decide) (by decide)) (fun k => y5 _ _ (by decide) (by decide)), r2, mono.2⟩, hRO, fun _ => ?_, ?_, r3, fun _ => ?_⟩
      · rw [u4, if_neg (dnn f)]; exact y1
      · refine SR.more (hS0.mono (F' := G1) (fun o k z1 z2 => u2 o k (by omega) (by omega))) hc a2 a3 (fun k k1 k2 => a7 k k1 (Or.inl k2)) y2 (fun i hi => ?_) y4
        have e3 : ∀ i, i < 2 → G2 47 (2 * c + i) = tV A (itn A i (nx A R.1)) := fun i hi => (y3 i hi).trans (hv i hi)
        rw [hdR_1] at o2 o3
        obtain rfl | rfl : i = 0 ∨ i = 1 := by omega
        · exact (e3 0 (by decide)).trans (o2.symm.trans a4.symm)
        · exact (e3 1 (by decide)).trans (o3.symm.trans a5.symm)
      · intro o k z
        rw [y5 _ _ (by omega) (by omega)]; exact u2.t o k z
      · have := hnx k0; omega
    · refine ⟨_, G1, H', ?_, r1, ⟨u1, r2, mono.2⟩, hRO, fun z => absurd z f, u2.t, r3, fun _ => ?_⟩
      · rw [u4, if_pos f]
      · have := hnx k0; omega
  · obtain ⟨G', g1, g2, g3⟩ := x_none hA hX hI w (st := 3) (fun z => hw ⟨z.1, by
      have h3 := z.2.2
      have h2 := z.2.1
      unfold fX2_sortOf at h3
      by_cases q : 9 ≤ tW A R.1 - 1
      · rw [if_pos q] at h3
        by_cases q2 : tW A R.1 - 1 ≠ 9
        · rw [if_pos q2] at h3; split at h3 <;> omega
        · rw [if_neg q2] at h3; omega
      · rw [if_neg q] at h3; omega⟩)
    obtain ⟨H', r1, r2, r3⟩ := m_listNo hA hM hI hw
    have e : H' 176 = H 176 := funext fun k => r3.at6 k
    have e2 : (aEnds R).2.1 = 1 ∧ (aEnds R).2.2.1 = 1 := by unfold aEnds; rw [if_pos w]; exact ⟨rfl, rfl⟩
    exact ⟨_, G', H', g1, r1, ⟨g2, r2, hI.ends⟩, by rw [e]; exact hR, fun z => by omega, g3.t, r3.six, fun z => by omega⟩
end TMR
