/-! ===== text: a line of both, valleys ===== -/
/-- a valley while it is read -/
def VB (v : Nat → Int) : Prop := (1 ≤ v 0 ∧ v 0 ≤ 48) ∧ (1 ≤ v 1 ∧ v 1 ≤ 99) ∧ (0 ≤ v 2 ∧ v 2 ≤ 48 ∧ 0 ≤ v 3 ∧ v 3 ≤ 48) ∧ (0 ≤ v 4 ∧ v 4 ≤ 7) ∧ (0 ≤ v 5 ∧ v 5 ≤ 8) ∧ (0 ≤ v 6 ∧ v 6 ≤ 6) ∧
  (∀ h : Nat, (h : Int) < v 5 → (0 ≤ v (8 + 4 * h) ∧ v (8 + 4 * h) ≤ 99) ∧ (0 ≤ v (8 + 4 * h + 1) ∧ v (8 + 4 * h + 1) ≤ 3) ∧ (0 ≤ v (8 + 4 * h + 2) ∧ v (8 + 4 * h + 2) ≤ 9) ∧ (0 ≤ v (8 + 4 * h + 3) ∧ v (8 + 4 * h + 3) ≤ 9)) ∧
  (∀ k : Nat, (k : Int) < v 6 → (0 ≤ v (40 + 3 * k) ∧ v (40 + 3 * k) ≤ 7) ∧ (0 ≤ v (40 + 3 * k + 1) ∧ v (40 + 3 * k + 1) < v (40 + 3 * k + 2) ∧ v (40 + 3 * k + 2) ≤ 48))
section TVJ
variable {A : Nat → Int} {R : RST} {G H : Mem} {u v : Nat → Int} {c : Nat}
theorem VB.str (h : VB u) (e : ∀ k, 5 ≤ k → v k = u k) (a0 : 1 ≤ v 0 ∧ v 0 ≤ 48) (a1 : 1 ≤ v 1 ∧ v 1 ≤ 99) (a2 : 0 ≤ v 2 ∧ v 2 ≤ 48 ∧ 0 ≤ v 3 ∧ v 3 ≤ 48) (a3 : 0 ≤ v 4 ∧ v 4 ≤ 7) : VB v := by
  obtain ⟨-, -, -, -, a5, a6, a7, a8⟩ := h
  refine ⟨a0, a1, a2, a3, by rw [e 5 (by omega)]; exact a5, by rw [e 6 (by omega)]; exact a6, fun j hj => ?_, fun j hj => ?_⟩
  · rw [e 5 (by omega)] at hj
    rw [e (8 + 4 * j) (by omega), e (8 + 4 * j + 1) (by omega), e (8 + 4 * j + 2) (by omega), e (8 + 4 * j + 3) (by omega)]
    exact a7 j hj
  · rw [e 6 (by omega)] at hj
    rw [e (40 + 3 * j) (by omega), e (40 + 3 * j + 1) (by omega), e (40 + 3 * j + 2) (by omega)]
    exact a8 j hj
theorem VB.moreH (h : VB u) (hu : u 5 = (c : Int)) (hc : c < 8) (hv : v 5 = ((c + 1 : Nat) : Int)) (e : ∀ k, k ≠ 5 → (k < 8 + 4 * c ∨ 8 + 4 * c + 4 ≤ k) → v k = u k) (b0 : 0 ≤ v (8 + 4 * c) ∧ v (8 + 4 * c) ≤ 99) (b1 : 0 ≤ v (8 + 4 * c + 1) ∧ v (8 + 4 * c + 1) ≤ 3) (b2 : 0 ≤ v (8 + 4 * c + 2) ∧ v (8 + 4 * c + 2) ≤ 9) (b3 : 0 ≤ v (8 + 4 * c + 3) ∧ v (8 + 4 * c + 3) ≤ 9) : VB v := by
  obtain ⟨a0, a1, a2, a4, a5, a6, a7, a8⟩ := h
  refine ⟨by rw [e 0 (by omega) (by omega)]; exact a0, by rw [e 1 (by omega) (by omega)]; exact a1, by rw [e 2 (by omega) (by omega), e 3 (by omega) (by omega)]; exact a2, by rw [e 4 (by omega) (by omega)]; exact a4, by rw [hv]; omega, by rw [e 6 (by omega) (by omega)]; exact a6, fun j hj => ?_, fun j hj => ?_⟩
  · rw [hv] at hj
    by_cases y : j = c
    · subst y; exact ⟨b0, b1, b2, b3⟩
    · rw [e (8 + 4 * j) (by omega) (by omega), e (8 + 4 * j + 1) (by omega) (by omega), e (8 + 4 * j + 2) (by omega) (by omega), e (8 + 4 * j + 3) (by omega) (by omega)]
      exact a7 j (by rw [hu]; omega)
  · rw [e 6 (by omega) (by omega)] at hj
    rw [e (40 + 3 * j) (by omega) (by omega), e (40 + 3 * j + 1) (by omega) (by omega), e (40 + 3 * j + 2) (by omega) (by omega)]
    exact a8 j hj
theorem VB.moreM (h : VB u) (hu : u 6 = (c : Int)) (hc : c < 6) (hv : v 6 = ((c + 1 : Nat) : Int)) (e : ∀ k, k ≠ 6 → (k < 40 + 3 * c ∨ 40 + 3 * c + 3 ≤ k) → v k = u k) (b0 : 0 ≤ v (40 + 3 * c) ∧ v (40 + 3 * c) ≤ 7) (b1 : 0 ≤ v (40 + 3 * c + 1) ∧ v (40 + 3 * c + 1) < v (40 + 3 * c + 2) ∧ v (40 + 3 * c + 2) ≤ 48) : VB v := by
  obtain ⟨a0, a1, a2, a4, a5, a6, a7, a8⟩ := h
  refine ⟨by rw [e 0 (by omega) (by omega)]; exact a0, by rw [e 1 (by omega) (by omega)]; exact a1, by rw [e 2 (by omega) (by omega), e 3 (by omega) (by omega)]; exact a2, by rw [e 4 (by omega) (by omega)]; exact a4, by rw [e 5 (by omega) (by omega)]; exact a5, by rw [hv]; omega, fun j hj => ?_, fun j hj => ?_⟩
  · rw [e 5 (by omega) (by omega)] at hj
    rw [e (8 + 4 * j) (by omega) (by omega), e (8 + 4 * j + 1) (by omega) (by omega), e (8 + 4 * j + 2) (by omega) (by omega), e (8 + 4 * j + 3) (by omega) (by omega)]
    exact a7 j hj
  · rw [hv] at hj
    by_cases y : j = c
    · subst y; exact ⟨b0, b1⟩
    · rw [e (40 + 3 * j) (by omega) (by omega), e (40 + 3 * j + 1) (by omega) (by omega), e (40 + 3 * j + 2) (by omega) (by omega)]
      exact a8 j (by rw [hu]; omega)
theorem VR.str (h : VR u G 37) {i : Nat} (hi : i < 5) {x : Int} (hv : v i = x) (e : ∀ k, k ≠ i → v k = u k) : VR v (mset G 37 i x) 37 := by
  obtain ⟨h0, ⟨h1, h2, h3, h4, h5⟩, h6, h7, h8, h9⟩ := h
  have g : ∀ j, G 37 j = u j → mset G 37 i x 37 j = v j := fun j hj => by
    by_cases y : j = i
    · rw [y, mset_eq, hv]
    · rw [mset_ne _ _ (by omega), hj, e j y]
  refine ⟨h0, ⟨g 0 h1, g 1 h2, g 2 h3, g 3 h4, g 4 h5⟩, ?_, ?_, fun a j ha hj => ?_, fun a j ha hj => ?_⟩
  · rw [mset_ne _ _ (by omega), e 5 (by omega)]; exact h6
  · rw [mset_ne _ _ (by omega), e 6 (by omega)]; exact h7
  · rw [e 5 (by omega)] at ha
    rw [mset_ne _ _ (by omega), e _ (by omega)]; exact h8 a j ha hj
  · rw [e 6 (by omega)] at ha
    rw [mset_ne _ _ (by omega), e _ (by omega)]; exact h9 a j ha hj
theorem VR.moreH {G' : Mem} (h : VR u G 37) (hb : VB u) (hu : u 5 = (c : Int)) (hc : c < 8) (hv : v 5 = ((c + 1 : Nat) : Int)) (e : ∀ k, k ≠ 5 → (k < 8 + 4 * c ∨ 8 + 4 * c + 4 ≤ k) → v k = u k) (g3 : G' 38 3 = ((c + 1 : Nat) : Int)) (gr : ∀ i, i < 4 → G' 39 (4 * c + i) = v (8 + 4 * c + i)) (go : ∀ k, k < 4 * c → G' 39 k = G 39 k) (gf : ∀ o k, o ≠ 38 → o ≠ 39 → G' o k = G o k) : VR v G' 37 := by
  obtain ⟨h0, ⟨h1, h2, h3, h4, h5⟩, h6, h7, h8, h9⟩ := h
  have b6 := hb.2.2.2.2.2.1
  refine ⟨h0, ⟨?_, ?_, ?_, ?_, ?_⟩, g3.trans hv.symm, ?_, fun a j ha hj => ?_, fun a j ha hj => ?_⟩
  · rw [gf _ _ (by omega) (by omega), e 0 (by omega) (by omega)]; exact h1
  · rw [gf _ _ (by omega) (by omega), e 1 (by omega) (by omega)]; exact h2
  · rw [gf _ _ (by omega) (by omega), e 2 (by omega) (by omega)]; exact h3
  · rw [gf _ _ (by omega) (by omega), e 3 (by omega) (by omega)]; exact h4
  · rw [gf _ _ (by omega) (by omega), e 4 (by omega) (by omega)]; exact h5
  · rw [gf _ _ (by omega) (by omega), e 6 (by omega) (by omega)]; exact h7
  · rw [hv] at ha
    by_cases y : a = c
    · subst y; exact gr j hj
    · rw [e _ (by omega) (by omega)]
      exact (go _ (by omega)).trans (h8 a j (by rw [hu]; omega) hj)
  · rw [e 6 (by omega) (by omega)] at ha
    rw [gf _ _ (by omega) (by omega), e _ (by omega) (by omega)]; exact h9 a j ha hj
theorem VR.moreM {G' : Mem} (h : VR u G 37) (hb : VB u) (hu : u 6 = (c : Int)) (hc : c < 6) (hv : v 6 = ((c + 1 : Nat) : Int)) (e : ∀ k, k ≠ 6 → (k < 40 + 3 * c ∨ 40 + 3 * c + 3 ≤ k) → v k = u k) (g3 : G' 40 3 = ((c + 1 : Nat) : Int)) (gr : ∀ i, i < 3 → G' 41 (3 * c + i) = v (40 + 3 * c + i)) (go : ∀ k, k < 3 * c → G' 41 k = G 41 k) (gf : ∀ o k, o ≠ 40 → o ≠ 41 → G' o k = G o k) : VR v G' 37 := by
  obtain ⟨h0, ⟨h1, h2, h3, h4, h5⟩, h6, h7, h8, h9⟩ := h
  have b5 := hb.2.2.2.2.1
  refine ⟨h0, ⟨?_, ?_, ?_, ?_, ?_⟩, ?_, g3.trans hv.symm, fun a j ha hj => ?_, fun a j ha hj => ?_⟩
  · rw [gf _ _ (by omega) (by omega), e 0 (by omega) (by omega)]; exact h1
  · rw [gf _ _ (by omega) (by omega), e 1 (by omega) (by omega)]; exact h2
  · rw [gf _ _ (by omega) (by omega), e 2 (by omega) (by omega)]; exact h3
  · rw [gf _ _ (by omega) (by omega), e 3 (by omega) (by omega)]; exact h4
  · rw [gf _ _ (by omega) (by omega), e 4 (by omega) (by omega)]; exact h5
  · rw [gf _ _ (by omega) (by omega), e 5 (by omega) (by omega)]; exact h6
  · rw [e 5 (by omega) (by omega)] at ha
    rw [gf _ _ (by omega) (by omega), e _ (by omega) (by omega)]; exact h8 a j ha hj
  · rw [hv] at ha
    by_cases y : a = c
    · subst y; exact gr j hj
    · rw [e _ (by omega) (by omega)]
      exact (go _ (by omega)).trans (h9 a j (by rw [hu]; omega) hj)
theorem m_valNo (hA : TA A) (h : MS A R H) (hI : IV A R) (hn : ¬ (tKd A R.1 = 1 ∧ 1 ≤ tW A R.1 ∧ tW A R.1 ≤ 9)) : ∃ H', fX10_valleyLine 173 H = some H' ∧ MS A (aEnds R) H' ∧ kMr H H' := by
  obtain ⟨H1, r1, r2, r3⟩ := m_takes_no hA h (lo := 1) (hi := 9) (by decide) (fun z => hn z.2)
  obtain ⟨H2, s1, s2, s3⟩ := m_noEnd hA r2 hI
  refine ⟨H2, ?_, s2, r3.tr s3⟩
  unfold fX10_valleyLine
  rw [r1, Option.bind_some]
  dsimp only
  rw [if_pos (by decide), v31 (by decide), v49 (by decide), v60 (by decide), v78 (by decide) (by decide)]
  unfold fX10_valleyLine_b202
  rw [s1, Option.bind_some]
/-- what a line of both leaves, of a valley -/
def VL (A : Nat → Int) (R : RST) (G H : Mem) : Prop := ∃ R' G' H', fX2_readLine 35 0 G = some G' ∧ fX10_valleyLine 173 H = some H' ∧ JX A R' G' H' ∧ VB (H' 176) ∧ (R'.2.2.1 = 0 → VR (H' 176) G' 37) ∧ G' 40 3 ≤ 6 ∧ kXt G G' ∧ kM6 H H' ∧ (R'.2.1 = 0 → R.1 < R'.1)
theorem hdR1 : hdR A 1 R = aAdv A R := if_neg (by decide)
theorem j_strike (hA : TA A) (hJ : JX A R G H) (w : R.2.1 = 0) (k : tKd A R.1 = 1) {l : Nat} (hl : l < 4) (hw : tW A R.1 = (l : Int) + 1) {R' : RST} (eR : cF A (rgL l) (-1) (aAdv A R) = R') {H' : Mem} (r1 : fX10_valleyLine 173 H = some H') (r2 : MS A R' H') (r3 : kM6 H H') (hV : VB (H' 176)) (hG : G 40 3 ≤ 6) (hk : OK R' → ∀ G1, kXn G G1 → (∀ j, j < (rgL l).length → G1 36 j = tV A (itn A j (nx A R.1))) → ∃ G2, fX2_keepLine 35 (l : Int) 0 ((rgL l).length : Int) G1 = some G2 ∧ VR (H' 176) G2 37 ∧ ∀ o k, o ≠ 37 → G2 o k = G1 o k) : VL A R G H := by
  obtain ⟨hX, hM, hI⟩ := hJ
  obtain ⟨-, -, -, hnx⟩ := nxq_sp hA hI.1
  have es : fX2_sheetOf 35 (l : Int) = 0 ∧ fX2_sortOf (l : Int) = 0 := by
    obtain rfl | rfl | rfl | rfl : l = 0 ∨ l = 1 ∨ l = 2 ∨ l = 3 := by omega
    all_goals exact ⟨rfl, rfl⟩
  obtain ⟨G1, u1, u2, u3, u4⟩ := x_line hA hX hI w k (st := 0) (l := l) (by omega) hw es.2 (m := 1) (Or.inl ⟨rfl, Or.inl es.1⟩)
  rw [hdR1, eR] at u1 u3 u4
  rw [es.1] at u4
  have mono := cF_mono hA (rgL l) (-1) _ (hI.adv hA)
  rw [eR] at mono
  have m1 : nx A R.1 ≤ R'.1 := mono.1
  by_cases f : R'.2.2.1 = 0
  · have hok := fin_ok mono.2 f
    obtain ⟨G2, y1, y2, y3⟩ := hk hok G1 u2 (u3 hok.1)
    refine ⟨R', G2, H', ?_, r1, ⟨u1.mono (fun k _ => y3 _ _ (by decide)) (fun k => y3 _ _ (by decide)), r2, mono.2⟩, hV, fun _ => y2, ?_, ?_, r3, fun _ => ?_⟩
    · rw [u4, if_neg (dnn f)]; exact y1
    · rw [y3 _ _ (by decide), u2 _ _ (by omega) (by decide)]; exact hG
    · intro o k z
      rw [y3 _ _ (by omega)]; exact u2.t o k z
    · have := hnx (by omega); omega
  · refine ⟨R', G1, H', ?_, r1, ⟨u1, r2, mono.2⟩, hV, fun z => absurd z f, ?_, u2.t, r3, fun _ => ?_⟩
    · rw [u4, if_pos f]
    · rw [u2 _ _ (by omega) (by decide)]; exact hG
    · have := hnx (by omega); omega
theorem nS_in : 1 ≤ (nS A R).1 ∧ (nS A R).1 ≤ 48 := aN_in (lo := 1) (hi := 48) (by decide)
theorem nP_in : 1 ≤ (nP A R).1 ∧ (nP A R).1 ≤ 99 := aN_in (lo := 1) (hi := 99) (by decide)
theorem n9_in : 0 ≤ (n9 A R).1 ∧ (n9 A R).1 ≤ 9 := aN_in (lo := 0) (hi := 9) (by decide)
theorem VR.to {G1 : Mem} (h : VR u G 37) (hk : kXn G G1) : VR u G1 37 := h.mono (fun o k a b => hk o k (by omega) (by omega))
theorem j_vslots (hA : TA A) (hJ : JX A R G H) (hV : VB (H 176)) (hS : R.2.2.1 = 0 → VR (H 176) G 37) (hG : G 40 3 ≤ 6) (w : R.2.1 = 0) (k : tKd A R.1 = 1) (hw : tW A R.1 = 1) : VL A R G H := by
  have hI2 := hJ.2.2.adv hA
  obtain ⟨H', r1, r2, r3, r4, r5⟩ := m_vslots hA hJ.2.1 hJ.2.2 w k hw
  have b := nS_in (A := A) (R := aAdv A R)
  rw [← r4] at b
  obtain ⟨a0, a1, a2, a3, -⟩ := id hV
  have e1 := r5 1 (by decide)
  have e2 := r5 2 (by decide)
  have e3 := r5 3 (by decide)
  have e4 := r5 4 (by decide)
  refine j_strike hA hJ w k (l := 0) (by decide) hw (l_slots hA hI2) r1 r2 r3 (hV.str (fun k hk => r5 k (by omega)) b (by omega) (by omega) (by omega)) hG (fun hok G1 hk1 hn => ?_)
  obtain ⟨o1, -⟩ := aE_ok hok
  obtain ⟨o2, -, -, o3, -⟩ := aN_ok o1
  have hS0 : VR (H 176) G1 37 := (hS o2.2).to hk1
  refine ⟨mset G1 37 0 (G1 36 0), ?_, hS0.str (by decide) ?_ r5, fun o k z => mset_ne _ _ (by omega)⟩
  · rfl
  · rw [r4, hn 0 (by decide)]; exact o3
theorem j_vpace (hA : TA A) (hJ : JX A R G H) (hV : VB (H 176)) (hS : R.2.2.1 = 0 → VR (H 176) G 37) (hG : G 40 3 ≤ 6) (w : R.2.1 = 0) (k : tKd A R.1 = 1) (hw : tW A R.1 = 2) : VL A R G H := by
  have hI2 := hJ.2.2.adv hA
  obtain ⟨H', r1, r2, r3, r4, r5⟩ := m_vpace hA hJ.2.1 hJ.2.2 w k hw
  have b := nP_in (A := A) (R := aAdv A R)
  rw [← r4] at b
  obtain ⟨a0, a1, a2, a3, -⟩ := id hV
  have e0 := r5 0 (by decide)
  have e2 := r5 2 (by decide)
  have e3 := r5 3 (by decide)
  have e4 := r5 4 (by decide)
  refine j_strike hA hJ w k (l := 1) (by decide) hw (l_pace hA hI2) r1 r2 r3 (hV.str (fun k hk => r5 k (by omega)) (by omega) b (by omega) (by omega)) hG (fun hok G1 hk1 hn => ?_)
  obtain ⟨o1, -⟩ := aE_ok hok
  obtain ⟨o2, -, -, o3, -⟩ := aN_ok o1
  have hS0 : VR (H 176) G1 37 := (hS o2.2).to hk1
  refine ⟨mset G1 37 1 (G1 36 0), ?_, hS0.str (by decide) ?_ r5, fun o k z => mset_ne _ _ (by omega)⟩
  · rfl
  · rw [r4, hn 0 (by decide)]; exact o3
theorem j_vstart (hA : TA A) (hJ : JX A R G H) (hV : VB (H 176)) (hS : R.2.2.1 = 0 → VR (H 176) G 37) (hG : G 40 3 ≤ 6) (w : R.2.1 = 0) (k : tKd A R.1 = 1) (hw : tW A R.1 = 4) : VL A R G H := by
  have hI2 := hJ.2.2.adv hA
  obtain ⟨H', r1, r2, r3, r4, r5⟩ := m_vstart hA hJ.2.1 hJ.2.2 w k hw
  have b := n1_in (A := A) (R := aAdv A R)
  rw [← r4] at b
  obtain ⟨a0, a1, a2, a3, -⟩ := id hV
  have e0 := r5 0 (by decide)
  have e1 := r5 1 (by decide)
  have e2 := r5 2 (by decide)
  have e3 := r5 3 (by decide)
  refine j_strike hA hJ w k (l := 3) (by decide) hw (l_start hA hI2) r1 r2 r3 (hV.str (fun k hk => r5 k (by omega)) (by omega) (by omega) (by omega) b) hG (fun hok G1 hk1 hn => ?_)
  obtain ⟨o1, -⟩ := aE_ok hok
  obtain ⟨o2, -, -, o3, -⟩ := aN_ok o1
  have hS0 : VR (H 176) G1 37 := (hS o2.2).to hk1
  refine ⟨mset G1 37 4 (G1 36 0), ?_, hS0.str (by decide) ?_ r5, fun o k z => mset_ne _ _ (by omega)⟩
  · rfl
  · rw [r4, hn 0 (by decide)]; exact o3
theorem j_vlight (hA : TA A) (hJ : JX A R G H) (hV : VB (H 176)) (hS : R.2.2.1 = 0 → VR (H 176) G 37) (hG : G 40 3 ≤ 6) (w : R.2.1 = 0) (k : tKd A R.1 = 1) (hw : tW A R.1 = 3) : VL A R G H := by
  have hI2 := hJ.2.2.adv hA
  obtain ⟨H', r1, r2, r3, r4, r4b, r5⟩ := m_vlight hA hJ.2.1 hJ.2.2 w k hw
  have b := nT_in (A := A) (R := aAdv A R)
  rw [← r4, ← r4b] at b
  obtain ⟨a0, a1, a2, a3, -⟩ := id hV
  have e0 := r5 0 (by decide) (by decide)
  have e1 := r5 1 (by decide) (by decide)
  have e4 := r5 4 (by decide) (by decide)
  refine j_strike hA hJ w k (l := 2) (by decide) hw (l_light hA hI2) r1 r2 r3 (hV.str (fun k hk => r5 k (by omega) (by omega)) (by omega) (by omega) (by omega) (by omega)) hG (fun hok G1 hk1 hn => ?_)
  obtain ⟨o1, -⟩ := aE_ok hok
  obtain ⟨o2, o3, o4⟩ := v_ft o1
  have hS0 : VR (H 176) G1 37 := (hS o2.2).to hk1
  have v0 : G1 36 0 = H' 176 2 := (hn 0 (by decide)).trans (o3.symm.trans r4.symm)
  have v1 : G1 36 1 = H' 176 3 := (hn 1 (by decide)).trans (o4.symm.trans r4b.symm)
  have s1 : VR (fun k => if k = 2 then G1 36 0 else H 176 k) (mset G1 37 2 (G1 36 0)) 37 := hS0.str (by decide) (if_pos rfl) (fun k hk => if_neg hk)
  refine ⟨mset (mset G1 37 2 (G1 36 0)) 37 3 (G1 36 1), ?_, s1.str (by decide) v1.symm (fun k hk => ?_), fun o k z => by rw [mset_ne _ _ (by omega), mset_ne _ _ (by omega)]⟩
  · rfl
  · by_cases y : k = 2
    · rw [y, if_pos rfl, v0]
    · rw [if_neg y]; exact r5 k y hk
theorem v_arr (h : OK (aE A (n9 A (n9 A (n99 A R).2).2).2)) : OK R ∧ (n99 A R).1 = tV A R.1 ∧ (n9 A (n99 A R).2).1 = tV A (nx A R.1) ∧ (n9 A (n9 A (n99 A R).2).2).1 = tV A (nx A (nx A R.1)) := by
  obtain ⟨h1, -⟩ := aE_ok h
  obtain ⟨h2, -, -, a1, b1⟩ := aN_ok h1
  obtain ⟨h3, -, -, a2, b2⟩ := aN_ok h2
  obtain ⟨h4, -, -, a3, b3⟩ := aN_ok h3
  exact ⟨h4, a3, a2.trans (congrArg (tV A) b3), a1.trans (congrArg (tV A) (b2.trans (congrArg (nx A) b3)))⟩
theorem j_vhouse (hA : TA A) (hJ : JX A R G H) (hV : VB (H 176)) (hS : R.2.2.1 = 0 → VR (H 176) G 37) (hG : G 40 3 ≤ 6) (w : R.2.1 = 0) (k : tKd A R.1 = 1) (hw : 5 ≤ tW A R.1 ∧ tW A R.1 ≤ 8) : VL A R G H := by
  obtain ⟨hX, hM, hI⟩ := hJ
  obtain ⟨-, -, -, hnx⟩ := nxq_sp hA hI.1
  have b5 := hV.2.2.2.2.1
  obtain ⟨c, hc⟩ := nat_of b5.1
  obtain ⟨l, hl⟩ : ∃ l : Nat, tW A R.1 = (l : Int) + 1 := ⟨(tW A R.1 - 1).toNat, by omega⟩
  obtain ⟨H', m, r1, r2, r3, r4⟩ := m_vhouse hA hM hI w k (kd := (l : Int) - 4) (by omega) (by omega) hc (by omega)
  have hmm : (m = 1 ∧ c < 8) ∨ (m = 0 ∧ c = 8) := r4.elim (fun z => Or.inl ⟨z.1, z.2.1⟩) (fun z => Or.inr ⟨z.1, z.2.1⟩)
  obtain ⟨mx, x1, x2⟩ := m_same (G := G) (R := R) (A := A) sl38 hmm (fun f => (hS f).2.2.1.trans hc)
  have es : fX2_sheetOf 35 (l : Int) = 38 ∧ fX2_sortOf (l : Int) = 0 ∧ rgL l = [97, 114, 114] := by
    obtain rfl | rfl | rfl | rfl : l = 4 ∨ l = 5 ∨ l = 6 ∨ l = 7 := by omega
    all_goals exact ⟨rfl, rfl, rfl⟩
  obtain ⟨G1, u1, u2, u3, u4⟩ := x_line hA hX hI w k (st := 0) (l := l) (by omega) hl es.2.1 (m := mx) (by rw [es.1]; exact x1)
  have hI2 := hdR_iv hA hI k m
  rw [x2] at u1 u3 u4
  rw [es.1] at u4
  have eL := l_house hA hI2 es.2.2
  rw [eL] at u1 u3 u4
  have mono := cF_mono hA (rgL l) (-1) _ hI2
  rw [eL, hdR_1] at mono
  have hVB : VB (H' 176) := by
    rcases r4 with ⟨-, a2, a3, a4, a5, a6, a7, a8⟩ | ⟨-, -, a3⟩
    · exact hV.moreH hc a2 a3 a8 (by rw [a4]; exact n99_in) (by rw [a5]; omega) (by rw [a6]; exact n9_in) (by rw [a7]; exact n9_in)
    · have e : H' 176 = H 176 := funext a3
      rw [e]; exact hV
  by_cases f : (aE A (n9 A (n9 A (n99 A (hdR A m R)).2).2).2).2.2.1 = 0
  · have hok := fin_ok mono.2 f
    obtain ⟨o1, o2, o3, o4⟩ := v_arr hok
    obtain ⟨o5, o6⟩ := hdR_ok o1
    obtain ⟨-, a2, a3, a4, a5, a6, a7, a8⟩ := r4.resolve_right (fun z => o5 z.1)
    have hS0 := (hS o6.2).to u2
    have g3 : G1 38 3 = (c : Int) := hS0.2.2.1.trans hc
    obtain ⟨G2, y1, y2, y3, y4, y5, y6, y7, y8⟩ := x_keepH g3 a2 (x1 := (l : Int)) (by omega) (many := ((rgL l).length : Int))
    have hv := u3 hok.1
    rw [hdR_1] at o2 o3 o4
    have hlen : (rgL l).length = 3 := by rw [es.2.2]; rfl
    have v0 := hv 0 (by rw [hlen]; decide)
    have v1 := hv 1 (by rw [hlen]; decide)
    have v2 := hv 2 (by rw [hlen]; decide)
    refine ⟨_, G2, H', ?_, r1, ⟨u1.mono (fun k _ => y8 _ _ (by decide) (by decide)) (fun k => y8 _ _ (by decide) (by decide)), r2, mono.2⟩, hVB, fun _ => ?_, ?_, ?_, r3, fun _ => ?_⟩
    · rw [u4, if_neg (dnn f)]; exact y1
    · refine hS0.moreH hV hc a2 a3 a8 y2 (fun i hi => ?_) y7 y8
      obtain rfl | rfl | rfl | rfl : i = 0 ∨ i = 1 ∨ i = 2 ∨ i = 3 := by omega
      · exact y3.trans (v0.trans (o2.symm.trans a4.symm))
      · exact y4.trans a5.symm
      · exact y5.trans (v1.trans (o3.symm.trans a6.symm))
      · exact y6.trans (v2.trans (o4.symm.trans a7.symm))
    · rw [y8 _ _ (by decide) (by decide), u2 _ _ (by omega) (by decide)]; exact hG
    · intro o k z
      rw [y8 _ _ (by omega) (by omega)]; exact u2.t o k z
    · have := hnx (by omega); omega
  · refine ⟨_, G1, H', ?_, r1, ⟨u1, r2, mono.2⟩, hVB, fun z => absurd z f, ?_, u2.t, r3, fun _ => ?_⟩
    · rw [u4, if_pos f]
    · rw [u2 _ _ (by omega) (by decide)]; exact hG
    · have := hnx (by omega); omega
theorem j_vmust (hA : TA A) (hJ : JX A R G H) (hV : VB (H 176)) (hS : R.2.2.1 = 0 → VR (H 176) G 37) (hG : G 40 3 ≤ 6) (w : R.2.1 = 0) (k : tKd A R.1 = 1) (hw : tW A R.1 = 9) : VL A R G H := by
  obtain ⟨hX, hM, hI⟩ := hJ
  obtain ⟨-, -, -, hnx⟩ := nxq_sp hA hI.1
  have b6 := hV.2.2.2.2.2.1
  obtain ⟨c, hc⟩ := nat_of b6.1
  obtain ⟨H', m, r1, r2, r3, r4⟩ := m_vmust hA hM hI w k hw hc (by omega)
  have hmm : (m = 1 ∧ c < 6) ∨ (m = 0 ∧ c = 6) := r4.elim (fun z => Or.inl ⟨z.1, z.2.1⟩) (fun z => Or.inr ⟨z.1, z.2.1⟩)
  obtain ⟨mx, x1, x2⟩ := m_same (G := G) (R := R) (A := A) sl40 hmm (fun f => (hS f).2.2.2.1.trans hc)
  have es : fX2_sheetOf 35 ((8 : Nat) : Int) = 40 := rfl
  obtain ⟨G1, u1, u2, u3, u4⟩ := x_line hA hX hI w k (st := 0) (l := 8) (by decide) (by omega) rfl (m := mx) (by rw [es]; exact x1)
  have hI2 := hdR_iv hA hI k m
  rw [x2] at u1 u3 u4
  rw [es] at u4
  have eL := l_hft hA hI2 (l := 8) rfl
  rw [eL] at u1 u3 u4
  have mono := cF_mono hA (rgL 8) (-1) _ hI2
  rw [eL, hdR_1] at mono
  have hVB : VB (H' 176) := by
    rcases r4 with ⟨-, a2, a3, a4, a5, a6, a7⟩ | ⟨-, -, a3⟩
    · refine hV.moreM hc a2 a3 a7 (by rw [a4]; exact n1_in) ?_
      rw [a5, a6]
      have := nT_in (A := A) (R := (n1 A (hdR A m R)).2)
      omega
    · have e : H' 176 = H 176 := funext a3
      rw [e]; exact hV
  by_cases f : (aE A (nT A (n1 A (hdR A m R)).2).2).2.2.1 = 0
  · have hok := fin_ok mono.2 f
    obtain ⟨o1, o2, o3, o4⟩ := v_hft hok
    obtain ⟨o5, o6⟩ := hdR_ok o1
    obtain ⟨-, a2, a3, a4, a5, a6, a7⟩ := r4.resolve_right (fun z => o5 z.1)
    have hS0 := (hS o6.2).to u2
    have g3 : G1 40 3 = (c : Int) := hS0.2.2.2.1.trans hc
    obtain ⟨G2, y1, y2, y3, y4, y5⟩ := x_keepN sl40 g3 a2 (x1 := ((8 : Nat) : Int)) (Or.inl rfl) (many := 3) (by decide) (by decide)
    have hv := u3 hok.1
    rw [hdR_1] at o2 o3 o4
    refine ⟨_, G2, H', ?_, r1, ⟨u1.mono (fun k _ => y5 _ _ (by decide) (by decide)) (fun k => y5 _ _ (by decide) (by decide)), r2, mono.2⟩, hVB, fun _ => ?_, ?_, ?_, r3, fun _ => ?_⟩
    · rw [u4, if_neg (dnn f)]; exact y1
    · refine hS0.moreM hV hc a2 a3 a7 y2 (fun i hi => ?_) y4 y5
      have e3 : ∀ i, i < 3 → G2 41 (3 * c + i) = tV A (itn A i (nx A R.1)) := fun i hi => (y3 i hi).trans (hv i hi)
      obtain rfl | rfl | rfl : i = 0 ∨ i = 1 ∨ i = 2 := by omega
      · exact (e3 0 (by decide)).trans (o2.symm.trans a4.symm)
      · exact (e3 1 (by decide)).trans (o3.symm.trans a5.symm)
      · exact (e3 2 (by decide)).trans (o4.symm.trans a6.symm)
    · rw [y2]; omega
    · intro o k z
      rw [y5 _ _ (by omega) (by omega)]; exact u2.t o k z
    · have := hnx (by omega); omega
  · refine ⟨_, G1, H', ?_, r1, ⟨u1, r2, mono.2⟩, hVB, fun z => absurd z f, ?_, u2.t, r3, fun _ => ?_⟩
    · rw [u4, if_pos f]
    · rw [u2 _ _ (by omega) (by decide)]; exact hG
    · have := hnx (by omega); omega
theorem j_valley (hA : TA A) (hJ : JX A R G H) (hV : VB (H 176)) (hS : R.2.2.1 = 0 → VR (H 176) G 37) (hG : G 40 3 ≤ 6) (w : R.2.1 = 0) : VL A R G H := by
  by_cases hw : tKd A R.1 = 1 ∧ 1 ≤ tW A R.1 ∧ tW A R.1 ≤ 9
  · obtain ⟨k, h1, h2⟩ := hw
    by_cases q1 : tW A R.1 = 1
    · exact j_vslots hA hJ hV hS hG w k q1
    · by_cases q2 : tW A R.1 = 2
      · exact j_vpace hA hJ hV hS hG w k q2
      · by_cases q3 : tW A R.1 = 3
        · exact j_vlight hA hJ hV hS hG w k q3
        · by_cases q4 : tW A R.1 = 4
          · exact j_vstart hA hJ hV hS hG w k q4
          · by_cases q9 : tW A R.1 = 9
            · exact j_vmust hA hJ hV hS hG w k q9
            · exact j_vhouse hA hJ hV hS hG w k (by omega)
  · obtain ⟨hX, hM, hI⟩ := hJ
    have t1 := tW_in (A := A) (s := R.1)
    obtain ⟨G', g1, g2, g3⟩ := x_none hA hX hI w (st := 0) (fun z => hw ⟨z.1, by
      have h3 := z.2.2
      have h2 := z.2.1
      unfold fX2_sortOf at h3
      by_cases q : 9 ≤ tW A R.1 - 1
      · rw [if_pos q] at h3
        by_cases q2 : tW A R.1 - 1 ≠ 9
        · rw [if_pos q2] at h3; split at h3 <;> omega
        · rw [if_neg q2] at h3; omega
      · omega⟩)
    obtain ⟨H', r1, r2, r3⟩ := m_valNo hA hM hI hw
    have e : H' 176 = H 176 := funext fun k => r3.at6 k
    have e2 : (aEnds R).2.1 = 1 ∧ (aEnds R).2.2.1 = 1 := by unfold aEnds; rw [if_pos w]; exact ⟨rfl, rfl⟩
    exact ⟨_, G', H', g1, r1, ⟨g2, r2, hI.ends⟩, by rw [e]; exact hV, fun z => by omega, by rw [g3 _ _ (by omega) (by decide)]; exact hG, g3.t, r3.six, fun z => by omega⟩
end TVJ
