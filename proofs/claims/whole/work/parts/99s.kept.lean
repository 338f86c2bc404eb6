/-! ===== text: what is kept ===== -/
theorem VO.cg {v u : Nat → Int} (h : VO v) (q : ∀ j, j < 58 → u j = v j) : VO u := by
  obtain ⟨a1, a2, a3, a4, a5, a6, a7⟩ := h
  unfold VO
  rw [q 0 (by omega), q 1 (by omega), q 2 (by omega), q 3 (by omega), q 4 (by omega), q 5 (by omega), q 6 (by omega)]
  refine ⟨a1, a2, a3, a4, a5, fun h hh => ?_, fun k hk => ?_⟩
  · rw [q (8 + 4 * h) (by omega), q (8 + 4 * h + 1) (by omega), q (8 + 4 * h + 2) (by omega), q (8 + 4 * h + 3) (by omega)]
    exact a6 h hh
  · rw [q (40 + 3 * k) (by omega), q (40 + 3 * k + 1) (by omega), q (40 + 3 * k + 2) (by omega)]
    exact a7 k hk
theorem RO.cg {v u : Nat → Int} (h : RO v) (q : ∀ j, j < 49 → u j = v j) : RO u := by
  obtain ⟨a1, a2⟩ := h
  unfold RO
  rw [q 0 (by omega)]
  refine ⟨a1, fun k hk => ?_⟩
  rw [q (1 + 3 * k) (by omega), q (1 + 3 * k + 1) (by omega), q (1 + 3 * k + 2) (by omega)]
  exact a2 k hk
theorem EO.cg {v u : Nat → Int} (h : EO v) (q : ∀ j, j < 41 → u j = v j) : EO u := by
  obtain ⟨a1, a2⟩ := h
  unfold EO
  rw [q 0 (by omega)]
  refine ⟨a1, fun k hk => ?_⟩
  rw [q (1 + 2 * k) (by omega), q (1 + 2 * k + 1) (by omega)]
  exact a2 k hk
theorem LO.cg {v u : Nat → Int} (h : LO v) (q : ∀ j, j < 181 → u j = v j) : LO u := by
  obtain ⟨a1, a2⟩ := h
  unfold LO
  rw [q 0 (by omega)]
  refine ⟨a1, fun k hk => ?_⟩
  have a3 := a2 k hk
  dsimp only [DO] at a3 ⊢
  rw [q (1 + 6 * k + 0) (by omega), q (1 + 6 * k + 1) (by omega), q (1 + 6 * k + 2) (by omega), q (1 + 6 * k + 3) (by omega), q (1 + 6 * k + 4) (by omega), q (1 + 6 * k + 5) (by omega)]
  refine ⟨fun j hj => ?_, a3.2⟩
  rw [q (1 + 6 * k + j) (by omega)]
  exact a3.1 j hj
section TS1
variable {F G : Mem}
def pV (G : Mem) : Prop := ∀ i : Nat, (i : Int) < G 174 0 → VO (vOf (G 174) i) ∧ VR (vOf (G 174) i) G (2 + 7 + 9 * i)
def pR (G : Mem) : Prop := ∀ i : Nat, (i : Int) < G 174 1 → RO (rOf (G 174) i) ∧ SR 3 16 (rOf (G 174) i) G (2 + 25 + 2 * i)
def pL (G : Mem) : Prop := ∀ i : Nat, (i : Int) < G 174 2 → LO (gOf (G 174) i) ∧ SR 6 30 (gOf (G 174) i) G (2 + 12 + 9 * i)
def pE (G : Mem) : Prop := ∀ i : Nat, (i : Int) < G 174 3 → EO (eOf (G 174) i) ∧ SR 2 20 (eOf (G 174) i) G (2 + 14 + 9 * i)
theorem RR.put (hR : RR F) (h1 : ∀ o k, (o = 34 ∨ (80 ≤ o ∧ o ≤ 172) ∨ o = 175) → G o k = F o k) (hi : ∀ k, 1317 ≤ k → G 174 k = F 174 k) (hc : (0 ≤ G 174 0 ∧ G 174 0 ≤ 2) ∧ (0 ≤ G 174 1 ∧ G 174 1 ≤ 3) ∧ (0 ≤ G 174 2 ∧ G 174 2 ≤ 2) ∧ (0 ≤ G 174 3 ∧ G 174 3 ≤ 2)) (h6 : G 2 1 = G 174 6 ∧ G 2 2 = G 174 7 ∧ G 2 3 = G 174 8) (hL : G 174 6 = 0) (hb : ∀ k, k < 600 → -128 ≤ G 3 k ∧ G 3 k < 128) (h4 : ∀ i, i < 4 → G 4 i = G 174 i) (hV : pV G) (hRo : pR G) (hLe : pL G) (hE : pE G) (h11 : G 173 11 = -1) (h12 : G 173 12 = 0) (h13 : G 173 13 = -1) : RR G := by
  obtain ⟨hA, hT, hI, -⟩ := hR
  obtain ⟨c0, c1, c2, c3⟩ := hc
  have qi : ∀ j, imgA (G 174) j = imgA (F 174) j := fun j => funext fun k => hi _ (by omega)
  refine ⟨⟨c0, c1, c2, c3, by omega, fun k hk => absurd hk (by omega), fun i hi => (hV i hi).1, fun i hi => (hRo i hi).1, fun i hi => (hLe i hi).1, fun i hi => (hE i hi).1⟩, ⟨hT.1, h6, hb, fun k hk => absurd hk (by omega), h4, fun i hi => (hV i hi).2, fun i hi => (hRo i hi).2, fun i hi => (hLe i hi).2, fun i hi => (hE i hi).2⟩, fun j hj => ?_, h11, h12, h13⟩
  obtain ⟨q1, q2⟩ := hI j hj
  rw [h1 175 j (by omega), h1 34 j (by omega), qi]
  exact ⟨q1, q2.elim Or.inl (fun ⟨x, y, z⟩ => Or.inr ⟨x, y, z.mono y (fun q k x1 x2 => h1 _ _ (by omega))⟩)⟩
theorem keepV (hR : RR F) (h0 : G 174 0 = F 174 0) (hk : ∀ k, 610 ≤ k → k < 726 → G 174 k = F 174 k) (ho : ∀ o k, ((9 ≤ o ∧ o ≤ 13) ∨ (18 ≤ o ∧ o ≤ 22)) → G o k = F o k) : pV G := by
  intro i hi
  obtain ⟨hA, hT, -⟩ := hR
  rw [h0] at hi
  have hb := hA.1
  have a := hA.2.2.2.2.2.2.1 i hi
  have b := hT.2.2.2.2.2.1 i hi
  have q : ∀ j, j < 58 → vOf (G 174) i j = vOf (F 174) i j := fun j hj => hk _ (by omega) (by omega)
  exact ⟨a.cg q, ((b.mono (F' := G) (fun o k x y => ho o k (by omega)))).congr a q⟩
theorem keepR (hR : RR F) (h0 : G 174 1 = F 174 1) (hk : ∀ k, 726 ≤ k → k < 873 → G 174 k = F 174 k) (ho : ∀ o k, (27 ≤ o ∧ o ≤ 32) → G o k = F o k) : pR G := by
  intro i hi
  obtain ⟨hA, hT, -⟩ := hR
  rw [h0] at hi
  have hb := hA.2.1
  have a := hA.2.2.2.2.2.2.2.1 i hi
  have b := hT.2.2.2.2.2.2.1 i hi
  have q : ∀ j, j < 49 → rOf (G 174) i j = rOf (F 174) i j := fun j hj => hk _ (by omega) (by omega)
  exact ⟨a.cg q, ((b.mono (F' := G) (fun o k x y => ho o k (by omega)))).congr q⟩
theorem keepL (hR : RR F) (h0 : G 174 2 = F 174 2) (hk : ∀ k, 873 ≤ k → k < 1235 → G 174 k = F 174 k) (ho : ∀ o k, (o = 14 ∨ o = 15 ∨ o = 23 ∨ o = 24) → G o k = F o k) : pL G := by
  intro i hi
  obtain ⟨hA, hT, -⟩ := hR
  rw [h0] at hi
  have hb := hA.2.2.1
  have a := hA.2.2.2.2.2.2.2.2.1 i hi
  have b := hT.2.2.2.2.2.2.2.1 i hi
  have q : ∀ j, j < 181 → gOf (G 174) i j = gOf (F 174) i j := fun j hj => hk _ (by omega) (by omega)
  exact ⟨a.cg q, ((b.mono (F' := G) (fun o k x y => ho o k (by omega)))).congr q⟩
theorem keepE (hR : RR F) (h0 : G 174 3 = F 174 3) (hk : ∀ k, 1235 ≤ k → k < 1317 → G 174 k = F 174 k) (ho : ∀ o k, (o = 16 ∨ o = 17 ∨ o = 25 ∨ o = 26) → G o k = F o k) : pE G := by
  intro i hi
  obtain ⟨hA, hT, -⟩ := hR
  rw [h0] at hi
  have hb := hA.2.2.2.1
  have a := hA.2.2.2.2.2.2.2.2.2 i hi
  have b := hT.2.2.2.2.2.2.2.2 i hi
  have q : ∀ j, j < 41 → eOf (G 174) i j = eOf (F 174) i j := fun j hj => hk _ (by omega) (by omega)
  exact ⟨a.cg q, ((b.mono (F' := G) (fun o k x y => ho o k (by omega)))).congr q⟩
/-! where a text goes -/
def cp (st : Nat) : Int := if st = 1 then 3 else 2
def plc (st r : Nat) : Nat := if st = 0 then 610 + 58 * r else if st = 1 then 726 + 49 * r else if st = 2 then 873 + 181 * r else 1235 + 41 * r
def szo (st : Nat) : Nat := if st = 0 then 58 else if st = 1 then 49 else if st = 2 then 181 else 41
def dst (st r : Nat) : Nat := if st = 0 then 2 + 7 + 9 * r else if st = 1 then 2 + 25 + 2 * r else if st = 2 then 2 + 12 + 9 * r else 2 + 14 + 9 * r
theorem x_keepB {M : Mem} {st r : Nat} {c : Int} (hst : st < 4) (hr : r < 3) (hc : M 4 st = c) : fX4_keep_b63 2 (st : Int) (r : Int) M = some (mset M 4 st (xmax c ((r + 1 : Nat) : Int))) := by
  have a4 : alen (2 + 2) = 4 := rfl
  unfold fX4_keep_b63
  rw [a4, if_pos (by omega), if_pos (by omega), Int.toNat_natCast, show (2 + 2 : Nat) = 4 from rfl, hc, xwS (by omega)]
/-- the class keeps a sheet -/
theorem x_keepS {M : Mem} {st r w n s : Nat} {c : Int} (hst : 1 ≤ st ∧ st < 4) (hr : (r : Int) < cp st) (hc : M 4 st = c) (hs : fX2_sheetFor 35 (st : Int) = s) (hs2 : 42 ≤ s ∧ s ≤ 46) (hls : alen (s + 1) = w * n) (hd : isK (dst st r) 3) (d1 : cst (dst st r) 1 = (w : Int)) (d0 : cst (dst st r) 0 = (n : Int)) (dl : alen (dst st r + 1) = w * n) : ∃ F1, fX4_keep 2 (st : Int) (r : Int) 35 M = some F1 ∧ F1 4 st = xmax c ((r + 1 : Nat) : Int) ∧ (∀ a, SR w n a M s → SR w n a F1 (dst st r)) ∧ ∀ o k, ¬ (o = 4 ∧ k = st) → ¬ (dst st r ≤ o ∧ o ≤ dst st r + 1) → F1 o k = M o k := by
  have hd30 : 14 ≤ dst st r ∧ dst st r ≤ 31 := by
    unfold cp at hr
    unfold dst
    obtain rfl | rfl | rfl : st = 1 ∨ st = 2 ∨ st = 3 := by omega
    · rw [if_pos rfl] at hr; rw [if_neg (by decide), if_pos rfl]; omega
    · rw [if_neg (by decide)] at hr; rw [if_neg (by decide), if_neg (by decide), if_pos rfl]; omega
    · rw [if_neg (by decide)] at hr; rw [if_neg (by decide), if_neg (by decide), if_neg (by decide)]; omega
  have hr3 : r < 3 := by unfold cp at hr; split at hr <;> omega
  have ha : (alen (fX4_sheetsOf 2 (st : Int)) : Int) = cp st ∧ aref (fX4_sheetsOf 2 (st : Int)) r = dst st r := by
    obtain rfl | rfl | rfl : st = 1 ∨ st = 2 ∨ st = 3 := by omega
    · obtain rfl | rfl | rfl : r = 0 ∨ r = 1 ∨ r = 2 := by omega
      all_goals exact ⟨rfl, rfl⟩
    · have hr2 : (r : Int) < 2 := hr
      obtain rfl | rfl : r = 0 ∨ r = 1 := by omega
      all_goals exact ⟨rfl, rfl⟩
    · have hr2 : (r : Int) < 2 := hr
      obtain rfl | rfl : r = 0 ∨ r = 1 := by omega
      all_goals exact ⟨rfl, rfl⟩
  generalize dst st r = d at *
  obtain ⟨G, u1, u2, u3, u4⟩ := x3_copy M (d := d) (s := s) (L := w * n) (by omega) dl hls (by omega)
  have gc : G 4 st = c := (u4 _ _ (by omega)).trans hc
  unfold fX4_keep
  rw [if_pos (by omega), if_neg (by omega), ha.1, if_neg (by omega), if_pos (by omega), if_neg (by decide), Int.toNat_natCast, ha.2, hs, u1, Option.bind_some, x_keepB hst.2 hr3 gc]
  refine ⟨_, rfl, mset_eq _ _ _ _, fun a hS => ?_, fun o k z1 z2 => ?_⟩
  · exact (hS.copy hd d1 d0 dl u2 u3).mono (fun o k z1 z2 => mset_ne _ _ (by omega))
  · rw [mset_ne _ _ z1]; exact u4 o k z2
/-- the class keeps a valley -/
theorem x_keepV {M : Mem} {r : Nat} {c : Int} (hr : r < 2) (hc : M 4 0 = c) : ∃ F1, fX4_keep 2 0 (r : Int) 35 M = some F1 ∧ F1 4 0 = xmax c ((r + 1 : Nat) : Int) ∧ (∀ v, VO v → VR v M 37 → VR v F1 (2 + 7 + 9 * r)) ∧ ∀ o k, ¬ (o = 4 ∧ k = 0) → ¬ (2 + 7 + 9 * r ≤ o ∧ o ≤ 2 + 7 + 9 * r + 4) → F1 o k = M o k := by
  have ha : (alen (2 + 3) : Int) = 2 ∧ aref (2 + 3) r = 2 + 7 + 9 * r ∧ isK (2 + 7 + 9 * r) 7 := by
    obtain rfl | rfl : r = 0 ∨ r = 1 := by omega
    all_goals exact ⟨rfl, rfl, rfl⟩
  obtain ⟨G, u1, u2, u3⟩ := x7_copy M (d := 2 + 7 + 9 * r) (s := 37) ha.2.2 rfl (by omega)
  have gc : G 4 0 = c := (u3 _ _ (by omega)).trans hc
  have eb := x_keepB (M := G) (st := 0) (r := r) (c := c) (by decide) (by omega) gc
  have eb2 : fX4_keep_b63 2 0 (r : Int) G = some (mset G 4 0 (xmax c ((r + 1 : Nat) : Int))) := eb
  unfold fX4_keep
  rw [if_neg (by decide), if_neg (by omega), ha.1, if_neg (by omega), if_pos (by omega), if_neg (by decide), Int.toNat_natCast, ha.2.1, show (35 + 2 : Nat) = 37 from rfl, u1, Option.bind_some, eb2]
  refine ⟨_, rfl, mset_eq _ _ _ _, fun v hO hV => ?_, fun o k z1 z2 => ?_⟩
  · exact (u2 v hO hV).mono (fun o k z1 z2 => mset_ne _ _ (by omega))
  · rw [mset_ne _ _ z1]; exact u3 o k z2
/-- the reference keeps a text -/
theorem m_copy {H : Mem} {st r : Nat} (hst : st < 4) (hr : (r : Int) < cp st) : ∃ F2, fX10_text_b279 FU 173 (st : Int) (r : Int) 0 H = some ((r : Int), F2) ∧ (∀ i, i < szo st → F2 174 (plc st r + i) = H 176 i) ∧ ∀ o k, ¬ (o = 174 ∧ plc st r ≤ k ∧ k < plc st r + szo st) → F2 o k = H o k := by
  have hp : fX10_placeOf (st : Int) (r : Int) = ((plc st r : Nat) : Int) ∧ fX10_sizeOf (st : Int) = ((szo st : Nat) : Int) ∧ plc st r + szo st ≤ 1317 ∧ szo st ≤ 200 := by
    unfold cp at hr
    obtain rfl | rfl | rfl | rfl : st = 0 ∨ st = 1 ∨ st = 2 ∨ st = 3 := by omega
    · rw [if_neg (by decide)] at hr
      obtain rfl | rfl : r = 0 ∨ r = 1 := by omega
      all_goals decide +kernel
    · rw [if_pos rfl] at hr
      obtain rfl | rfl | rfl : r = 0 ∨ r = 1 ∨ r = 2 := by omega
      all_goals decide +kernel
    · rw [if_neg (by decide)] at hr
      obtain rfl | rfl : r = 0 ∨ r = 1 := by omega
      all_goals decide +kernel
    · rw [if_neg (by decide)] at hr
      obtain rfl | rfl : r = 0 ∨ r = 1 := by omega
      all_goals decide +kernel
  obtain ⟨p1, p2, p3, p4⟩ := hp
  generalize plc st r = P at *
  generalize szo st = Z at *
  refine lp (fun n k (G : Mem) => fX10_text_b279 n 173 (st : Int) (r : Int) (k : Int) G) Z (fun k G => (∀ i, i < k → G 174 (P + i) = H 176 i) ∧ ∀ o j, ¬ (o = 174 ∧ P ≤ j ∧ j < P + k) → G o j = H o j) (fun q => ∃ F2, q = some ((r : Int), F2) ∧ (∀ i, i < Z → F2 174 (P + i) = H 176 i) ∧ ∀ o k, ¬ (o = 174 ∧ P ≤ k ∧ k < P + Z) → F2 o k = H o k) ?_ ?_ FU 0 H (by omega) ⟨fun i hi => absurd hi (by omega), fun _ _ _ => rfl⟩ (FUa (by omega))
  · rintro n k G hk ⟨g1, g2⟩
    left
    have ex : xw ((P : Int) + (k : Int)) = ((P + k : Nat) : Int) := by rw [xwn (by omega) (by omega)]; rfl
    have gk : G 176 k = H 176 k := g2 176 k (by omega)
    refine ⟨mset G 174 (P + k) (H 176 k), ⟨fun i hi => ?_, fun o j z => ?_⟩, ?_⟩
    · by_cases q : i = k
      · rw [q, mset_eq]
      · rw [mset_ne _ _ (by omega)]; exact g1 i (by omega)
    · rw [mset_ne _ _ (by omega)]; exact g2 o j (by omega)
    · show fX10_text_b279 (n + 1) 173 (st : Int) (r : Int) (k : Int) G = fX10_text_b279 n 173 (st : Int) (r : Int) ((k + 1 : Nat) : Int) _
      rw [fX10_text_b279, p2, p1, ex, if_neg (by omega), al176, if_pos (by omega), al174, if_pos (by omega), Int.toNat_natCast, Int.toNat_natCast, show (173 + 3 : Nat) = 176 from rfl, show (173 + 1 : Nat) = 174 from rfl, gk, xwS (by omega)]
  · rintro n G ⟨g1, g2⟩
    refine ⟨G, ?_, g1, g2⟩
    show fX10_text_b279 (n + 1) 173 (st : Int) (r : Int) (Z : Int) G = _
    rw [fX10_text_b279, p2, if_pos (Int.le_refl _)]
theorem m_keep {H : Mem} {st r : Nat} {y c : Int} (hst : st < 4) (hr : (r : Int) < cp st) (h7 : H 174 7 = 0) (hc : H 174 st = c) (hy : (y = -1 ∧ c = (r : Int)) ∨ (y ≠ -1 ∧ y = (r : Int) ∧ (r : Int) < c ∧ c ≤ 3)) : ∃ F2, fX10_text_b233 173 (st : Int) y H = some ((r : Int), F2) ∧ F2 174 st = xmax c ((r + 1 : Nat) : Int) ∧ (∀ i, i < szo st → F2 174 (plc st r + i) = H 176 i) ∧ ∀ o k, ¬ (o = 174 ∧ (k = st ∨ (plc st r ≤ k ∧ k < plc st r + szo st))) → F2 o k = H o k := by
  have bb7 : (0 : Int) ≤ 7 ∧ (7 : Int) < ((5268 : Nat) : Int) := by decide
  have bs : (0 : Int) ≤ (st : Int) ∧ (st : Int) < ((5268 : Nat) : Int) := by omega
  have h7b : H (173 + 1) 7 = 0 := h7
  have hcb : H (173 + 1) st = c := hc
  have hp : st < plc st r := by unfold plc; split <;> (try split) <;> (try split) <;> omega
  have hr3 : r < 3 := by unfold cp at hr; split at hr <;> omega
  unfold fX10_text_b233 fX10_text_b260
  rw [al174, if_pos bb7, h7b, if_pos rfl]
  rcases hy with ⟨h1, h2⟩ | ⟨h1, h2, h3, h4⟩
  · rw [if_neg (dnn h1), if_pos bs, if_neg (dnn h1), if_pos bs, if_pos bs, Int.toNat_natCast, hcb, h2, xwS (by omega), show (173 + 1 : Nat) = 174 from rfl]
    obtain ⟨F2, u1, u2, u3⟩ := m_copy (H := mset H 174 st ((r + 1 : Nat) : Int)) hst hr
    refine ⟨F2, u1, ?_, fun i hi => ?_, fun o k z => ?_⟩
    · rw [u3 _ _ (by omega), mset_eq]; unfold xmax; rw [if_pos (by omega)]
    · rw [u2 i hi, mset_ne _ _ (by omega)]
    · rw [u3 _ _ (by omega), mset_ne _ _ (by omega)]
  · rw [if_pos h1, if_pos h1, h2]
    obtain ⟨F2, u1, u2, u3⟩ := m_copy (H := H) hst hr
    refine ⟨F2, u1, ?_, u2, fun o k z => u3 o k (by omega)⟩
    rw [u3 _ _ (by omega), hc]; unfold xmax; rw [if_neg (by omega)]
end TS1
