/-! ===== rows of lace, the reference ===== -/
def MX (v S : Nat → Int) (F : Mem) : Prop := MV v F ∧ F 173 11 = -1 ∧ F 173 13 = -1 ∧ ∀ s : Nat, s < 48 → F 177 s = S s
def rcI (v S : Nat → Int) (c : Int) (h s : Nat) : Int := if rgI v S h s = 0 then v (8 + 4 * h + 3) else rt v c h
def gwI (v S : Nat → Int) (rg c : Int) (h s : Nat) : Int := if rgI v S h s = rg then rcI v S c h s else 0
section MROWS
variable {v S : Nat → Int} {F : Mem}
theorem rcI0 (h s : Nat) : rcI v S 0 h s = rwI v S h s := by
  unfold rcI rwI rt
  rw [if_neg (c := (0 : Int) ≠ 0 ∧ _) (fun z => z.1 rfl)]
theorem gwI1 (c : Int) (h s : Nat) : gwI v S 1 c h s = riI v S c h s := by
  unfold gwI riI rcI
  rcases rgI01 v S h s with q | q
  · rw [q]; rfl
  · rw [q]; rfl
theorem gwI0 (c : Int) (h s : Nat) : gwI v S 0 c h s = wrI v S h s := by
  unfold gwI wrI rcI
  rcases rgI01 v S h s with q | q
  · rw [q]; rfl
  · rw [q]; rfl
theorem rcI_bd (hO : VO v) {c : Int} {h : Nat} (hh : (h : Int) < v 5) (s : Nat) : 0 ≤ rcI v S c h s ∧ rcI v S c h s ≤ ((9 : Nat) : Int) := by
  have h1 := hO.2.2.2.2.2.1 h hh
  have h2 := rt_bd hO c hh
  unfold rcI
  split <;> omega
theorem gwI_bd (hO : VO v) {rg c : Int} {h : Nat} (hh : (h : Int) < v 5) (s : Nat) : 0 ≤ gwI v S rg c h s ∧ gwI v S rg c h s ≤ ((9 : Nat) : Int) := by
  have h2 := rcI_bd (S := S) (c := c) hO hh s
  unfold gwI
  split <;> omega
theorem mx_kd (hW : MX v S F) (h : Nat) : mkd v F h = v (8 + 4 * h + 1) := by
  unfold mkd
  rw [hW.2.1, hW.2.2.1, if_neg (by omega)]
theorem m_seesT (hW : MX v S F) {h s : Nat} (hh : h < 8) (hs : s < 48) : fX10_sees 173 (h : Int) (if S s = (h : Int) then 1 else 0) (s : Int) F = some (rgI v S h s) := by
  rw [m_sees hW.1 hh, mx_kd hW]
  unfold rgI
  congr 1
  by_cases q : S s = (h : Int)
  · rw [if_pos q]
    by_cases q2 : v (8 + 4 * h + 1) = 0 ∨ (S s = (h : Int) ∧ (v (8 + 4 * h + 1) ≠ 3 ∨ (v 2 ≤ (s : Int) ∧ (s : Int) < v 3)))
    · rw [if_pos q2, if_pos (q2.elim Or.inl (fun z => Or.inr ⟨by decide, z.2⟩))]
    · rw [if_neg q2, if_neg (fun z => q2 (z.elim Or.inl (fun z => Or.inr ⟨q, z.2⟩)))]
  · rw [if_neg q]
    by_cases q2 : v (8 + 4 * h + 1) = 0
    · rw [if_pos (Or.inl q2), if_pos (Or.inl q2)]
    · rw [if_neg (fun z => z.elim q2 (fun y => y.1 rfl)), if_neg (fun z => z.elim q2 (fun y => q y.1))]
theorem m_sees1 (hW : MX v S F) {h s : Nat} (hh : h < 8) (hs : s < 48) (q : S s = (h : Int)) : fX10_sees 173 (h : Int) 1 (s : Int) F = some (rgI v S h s) := by
  have := m_seesT hW hh hs
  rw [if_pos q] at this
  exact this
theorem m_sees0 (hW : MX v S F) {h s : Nat} (hh : h < 8) (hs : s < 48) (q : ¬ S s = (h : Int)) : fX10_sees 173 (h : Int) 0 (s : Int) F = some (rgI v S h s) := by
  have := m_seesT hW hh hs
  rw [if_neg q] at this
  exact this
theorem m_rowsIn (hW : MX v S F) (hO : VO v) (c : Int) {h s : Nat} (hh : (h : Int) < v 5) (hs : (s : Int) < v 0) : fX10_rowsIn 173 (h : Int) (s : Int) c F = some (rcI v S c h s) := by
  have b0 := hO.1
  have b5 := hO.2.2.2.1
  unfold fX10_rowsIn fX10_rowsIn_b17
  rw [al177, if_pos (by omega), Int.toNat_natCast, hW.2.2.2 s (by omega), m_house hW.1 (i := 3) (y := 3) (by omega) (by omega) rfl, m_rate hW.1 hO c hh, Option.bind_some, Option.bind_some]
  unfold rcI
  by_cases q : S s = (h : Int)
  · rw [if_neg (by omega), m_sees1 hW (by omega) (by omega) q, Option.bind_some]
    split <;> rfl
  · rw [if_pos q, m_sees0 hW (by omega) (by omega) q, Option.bind_some]
    split <;> rfl
theorem m_rows (hW : MX v S F) (hO : VO v) (rg c : Int) : fX10_rows 173 rg c F = some (sm (v 5).toNat (fun h => sm (v 0).toNat (gwI v S rg c h))) := by
  have b0 := hO.1
  have b5 := hO.2.2.2.1
  have hb : ∀ i, i < (v 5).toNat → 0 ≤ sm (v 0).toNat (gwI v S rg c i) ∧ sm (v 0).toNat (gwI v S rg c i) ≤ ((9 * 48 : Nat) : Int) := fun i hi => sum_bd48 (by omega) (fun j _ => gwI_bd hO (by omega) j)
  unfold fX10_rows
  refine lpS (fun n k a => fX10_rows_b5 F n 173 rg c a (k : Int)) (v 5).toNat (fun h => sm (v 0).toNat (gwI v S rg c h)) (9 * 48) some hb (fun n k hk h1 h2 => ?_) (fun n _ _ => ?_) (by omega)
  · have hb := hb k hk
    have hk5 : (k : Int) < v 5 := by omega
    generalize ha : sm k (fun h => sm (v 0).toNat (gwI v S rg c h)) = a at h1 h2
    show fX10_rows_b5 F (n + 1) 173 rg c a (k : Int) = fX10_rows_b5 F n 173 rg c (a + sm (v 0).toNat (gwI v S rg c k)) ((k + 1 : Nat) : Int)
    rw [fX10_rows_b5, m_of hW.1 (i := 5) (x := 5) rfl (by omega), Option.bind_some, if_neg (by omega)]
    refine lp (fun m j x => fX10_rows_b18 F (fX10_rows_b5 F n) m 173 rg c x (k : Int) (j : Int)) (v 0).toNat (fun j x => x = a + sm j (gwI v S rg c k)) (fun r => r = fX10_rows_b5 F n 173 rg c (a + sm (v 0).toNat (gwI v S rg c k)) ((k + 1 : Nat) : Int)) ?_ ?_ FU 0 a (by omega) (by show a = a + 0; omega) (FU_gt (by omega))
    · rintro m j x hj rfl
      left
      have hc := gwI_bd (S := S) (rg := rg) (c := c) hO hk5 j
      have hd := sum_bd48 (N := j) (g := gwI v S rg c k) (B := 9) (by omega) (fun i _ => gwI_bd hO hk5 i)
      refine ⟨_, rfl, ?_⟩
      have e1 : xw (a + sm j (gwI v S rg c k) + gwI v S rg c k j) = a + (sm j (gwI v S rg c k) + gwI v S rg c k j) := by rw [xwn (by omega) (by omega), Int.add_assoc]
      have E : ∀ u : Int, fX10_sees 173 (k : Int) u (j : Int) F = some (rgI v S k j) → fX10_rows_b49 F (fX10_rows_b5 F n) (fX10_rows_b18 F (fX10_rows_b5 F n) m) 173 rg c (k : Int) (j : Int) (a + sm j (gwI v S rg c k)) 173 (k : Int) u = fX10_rows_b18 F (fX10_rows_b5 F n) m 173 rg c (a + (sm j (gwI v S rg c k) + gwI v S rg c k j)) (k : Int) ((j + 1 : Nat) : Int) := by
        intro u hu
        unfold fX10_rows_b49
        rw [hu, Option.bind_some, xwS (by omega), m_rowsIn hW hO c hk5 (by omega), Option.bind_some]
        by_cases q : rgI v S k j = rg
        · have e : gwI v S rg c k j = rcI v S c k j := by unfold gwI; rw [if_pos q]
          rw [if_neg (by omega), ← e, e1]
        · have e : gwI v S rg c k j = 0 := by unfold gwI; rw [if_neg q]
          rw [if_pos q, e, xwn (by omega) (by omega), Int.add_assoc]
      show fX10_rows_b18 F (fX10_rows_b5 F n) (m + 1) 173 rg c (a + sm j (gwI v S rg c k)) (k : Int) (j : Int) = fX10_rows_b18 F (fX10_rows_b5 F n) m 173 rg c (a + (sm j (gwI v S rg c k) + gwI v S rg c k j)) (k : Int) ((j + 1 : Nat) : Int)
      rw [fX10_rows_b18, m_of hW.1 (i := 0) (x := 0) rfl (by omega), Option.bind_some, if_neg (by omega), al177, if_pos (by omega), Int.toNat_natCast, hW.2.2.2 j (by omega)]
      by_cases q : S j = (k : Int)
      · rw [if_neg (by omega)]
        exact E 1 (m_sees1 hW (by omega) (by omega) q)
      · rw [if_pos q]
        exact E 0 (m_sees0 hW (by omega) (by omega) q)
    · rintro m x rfl
      show fX10_rows_b18 F (fX10_rows_b5 F n) (m + 1) 173 rg c _ (k : Int) (((v 0).toNat : Nat) : Int) = _
      rw [fX10_rows_b18, m_of hW.1 (i := 0) (x := 0) rfl (by omega), Option.bind_some, if_pos (by omega), xwS (by omega)]
  · show fX10_rows_b5 F (n + 1) 173 rg c (sm (v 5).toNat (fun h => sm (v 0).toNat (gwI v S rg c h))) (((v 5).toNat : Nat) : Int) = _
    rw [fX10_rows_b5, m_of hW.1 (i := 5) (x := 5) rfl (by omega), Option.bind_some, if_pos (by omega)]
/-- what row answers, at a slot -/
def rowG (v S : Nat → Int) (h : Nat) (what : Int) (s : Nat) : Int := if what = 0 then (s : Int) else if what = 2 then S s else if rgI v S h s = 0 then 1 else 0
theorem m_row (hW : MX v S F) (hO : VO v) {h : Nat} (hh : (h : Int) < v 5) (what : Int) {r : Int} (hr : 0 ≤ r) (hr2 : r < 2147483648) : ∃ z, fX10_row_b42 FU 173 (h : Int) what r 0 F = some (z, F) ∧ FF (v 0).toNat (fun s => r < sm (s + 1) (rwI v S h)) (rowG v S h what) (-2) z := by
  have b0 := hO.1
  have b5 := hO.2.2.2.1
  refine lp (fun n k x => fX10_row_b42 n 173 (h : Int) what x (k : Int) F) (v 0).toNat (fun k x => x = r - sm k (rwI v S h) ∧ ∀ j, j < k → ¬ r < sm (j + 1) (rwI v S h)) (fun w => ∃ z, w = some (z, F) ∧ FF (v 0).toNat (fun s => r < sm (s + 1) (rwI v S h)) (rowG v S h what) (-2) z) ?_ ?_ FU 0 r (by omega) ⟨by show r = r - 0; omega, fun j hj => absurd hj (by omega)⟩ (FU_gt (by omega))
  · rintro n k x hk ⟨rfl, hi⟩
    have hb := rwI_bd (S := S) hO hh k
    have hs := sum_bd48 (N := k) (g := rwI v S h) (B := 9) (by omega) (fun i _ => rwI_bd hO hh i)
    have e1 : sm (k + 1) (rwI v S h) = sm k (rwI v S h) + rwI v S h k := rfl
    have E : fX10_row_b42 (n + 1) 173 (h : Int) what (r - sm k (rwI v S h)) (k : Int) F = if sm (k + 1) (rwI v S h) ≤ r then fX10_row_b42 n 173 (h : Int) what (r - sm (k + 1) (rwI v S h)) ((k + 1 : Nat) : Int) F else some (rowG v S h what k, F) := by
      rw [fX10_row_b42, m_of hW.1 (i := 0) (x := 0) rfl (by omega), Option.bind_some, if_neg (by omega), m_rowsIn hW hO 0 hh (by omega), Option.bind_some, rcI0]
      by_cases q : rwI v S h k ≤ r - sm k (rwI v S h)
      · rw [if_pos q, if_pos (by omega), xwn (by omega) (by omega), xwS (by omega), e1]
        congr 1; omega
      · rw [if_neg q, if_neg (c := sm (k + 1) (rwI v S h) ≤ r) (by omega), al177]
        simp only [Int.toNat_natCast]
        have f1 : ∀ u : Int, fX10_sees 173 (h : Int) u (k : Int) F = some (rgI v S h k) → fX10_row_b113 (k : Int) 173 (h : Int) u F = some (if rgI v S h k = 0 then 1 else 0, F) := by
          intro u hu
          unfold fX10_row_b113
          rw [hu, Option.bind_some]
          split <;> rfl
        unfold rowG
        have hk48 : k < 48 := by omega
        have g48 : (0 : Int) ≤ (k : Int) ∧ (k : Int) < ((48 : Nat) : Int) := by omega
        have gS : F (173 + 4) k = S k := hW.2.2.2 k hk48
        simp only [gS, if_pos g48]
        by_cases w0 : what = 0
        · rw [if_neg (by omega), if_pos w0]
        · rw [if_pos w0, if_neg w0]
          by_cases w2 : what = 2
          · rw [if_neg (by omega), if_pos w2]
          · rw [if_pos w2, if_neg w2]
            by_cases q2 : S k = (h : Int)
            · rw [if_neg (by omega), f1 1 (m_sees1 hW (by omega) (by omega) q2)]
            · rw [if_pos q2, f1 0 (m_sees0 hW (by omega) (by omega) q2)]
    by_cases q3 : sm (k + 1) (rwI v S h) ≤ r
    · left
      refine ⟨_, ⟨rfl, fun j hj => ?_⟩, ?_⟩
      · by_cases y : j = k
        · subst y; omega
        · exact hi j (by omega)
      · show fX10_row_b42 (n + 1) 173 (h : Int) what (r - sm k (rwI v S h)) (k : Int) F = _
        rw [E, if_pos q3]
    · right
      show ∃ z, fX10_row_b42 (n + 1) 173 (h : Int) what (r - sm k (rwI v S h)) (k : Int) F = some (z, F) ∧ _
      rw [E, if_neg q3]
      exact ⟨_, rfl, Or.inl ⟨k, hk, by omega, hi, rfl⟩⟩
  · rintro n x ⟨rfl, hi⟩
    show ∃ z, fX10_row_b42 (n + 1) 173 (h : Int) what _ (((v 0).toNat : Nat) : Int) F = some (z, F) ∧ _
    rw [fX10_row_b42, m_of hW.1 (i := 0) (x := 0) rfl (by omega), Option.bind_some, if_pos (by omega)]
    exact ⟨_, rfl, Or.inr ⟨hi, rfl⟩⟩
theorem m_rowsQ (hW : MX v S F) (hO : VO v) {h : Nat} (hh : (h : Int) < v 5) (what : Int) : ∃ z, fX10_rows__b45 FU 173 (h : Int) what 0 0 (-1) 0 0 F = some (z, F) ∧ (what = 0 → z = sm (v 0).toNat (rwI v S h)) ∧ (what = 1 → z = sm (v 0).toNat (wrI v S h)) ∧ (what = 2 → FF (v 0).toNat (fun s => spI v S h s = 1) (fun s => sm s (rwI v S h)) (-1) z) ∧ (what = 3 → z = sm (v 0).toNat (spI v S h)) := by
  have b0 := hO.1
  have b5 := hO.2.2.2.1
  refine lp (fun n k (x : Int × Int × Int × Int) => fX10_rows__b45 n 173 (h : Int) what x.1 x.2.1 x.2.2.1 x.2.2.2 (k : Int) F) (v 0).toNat
    (fun k x => x.1 = sm k (rwI v S h) ∧ x.2.1 = sm k (wrI v S h) ∧ FF k (fun s => spI v S h s = 1) (fun s => sm s (rwI v S h)) (-1) x.2.2.1 ∧ x.2.2.2 = sm k (spI v S h))
    (fun w => ∃ z, w = some (z, F) ∧ (what = 0 → z = sm (v 0).toNat (rwI v S h)) ∧ (what = 1 → z = sm (v 0).toNat (wrI v S h)) ∧ (what = 2 → FF (v 0).toNat (fun s => spI v S h s = 1) (fun s => sm s (rwI v S h)) (-1) z) ∧ (what = 3 → z = sm (v 0).toNat (spI v S h))) ?_ ?_ FU 0 (0, 0, -1, 0) (by omega) ⟨rfl, rfl, Or.inr ⟨fun j hj => absurd hj (by omega), rfl⟩, rfl⟩ (FU_gt (by omega))
  · rintro n k ⟨x5, x6, x7, x8⟩ hk ⟨h1, h2, h3, h4⟩
    dsimp only at h1 h2 h3 h4 ⊢
    subst h1 h2 h4
    left
    have hb := rwI_bd (S := S) hO hh k
    have hs := sum_bd48 (N := k) (g := rwI v S h) (B := 9) (by omega) (fun i _ => rwI_bd hO hh i)
    have hs2 := sum_bd48 (N := k) (g := wrI v S h) (B := 9) (by omega) (fun i _ => wrI_bd hO hh i)
    have hs3 := sum_bd48 (N := k) (g := spI v S h) (B := 1) (by omega) (fun i _ => spI_bd h i)
    have hneg : x7 < 0 ↔ ∀ j, j < k → ¬ spI v S h j = 1 := by
      rcases h3 with ⟨s, a1, a2, a3, a4⟩ | ⟨a1, a2⟩
      · have := sum_bd48 (N := s) (g := rwI v S h) (B := 9) (by omega) (fun i _ => rwI_bd hO hh i)
        have a4 : x7 = sm s (rwI v S h) := a4
        exact ⟨fun z => by omega, fun z => absurd a2 (z s a1)⟩
      · exact ⟨fun _ => a1, fun _ => by omega⟩
    have hx5 : xw (sm k (rwI v S h) + rcI v S 0 h k) = sm (k + 1) (rwI v S h) := by
      rw [rcI0, xwn (by omega) (by omega)]; rfl
    have E : ∀ u : Int, fX10_sees 173 (h : Int) u (k : Int) F = some (rgI v S h k) → ∃ s' : Int × Int × Int × Int, (s'.1 = sm (k + 1) (rwI v S h) ∧ s'.2.1 = sm (k + 1) (wrI v S h) ∧ FF (k + 1) (fun s => spI v S h s = 1) (fun s => sm s (rwI v S h)) (-1) s'.2.2.1 ∧ s'.2.2.2 = sm (k + 1) (spI v S h)) ∧ fX10_rows__b83 (fX10_rows__b45 n) 173 (h : Int) what (sm k (rwI v S h)) (sm k (wrI v S h)) x7 (sm k (spI v S h)) (k : Int) (rcI v S 0 h k) 173 (h : Int) u F = fX10_rows__b45 n 173 (h : Int) what s'.1 s'.2.1 s'.2.2.1 s'.2.2.2 ((k + 1 : Nat) : Int) F := by
      intro u hu
      have hh3 := (hO.2.2.2.2.2.1 h hh).2.2.2
      unfold fX10_rows__b83
      rw [hu, Option.bind_some]
      unfold fX10_rows__b96
      rw [hx5, xwS (by omega)]
      have keep : ∀ q : ¬ spI v S h k = 1, FF (k + 1) (fun s => spI v S h s = 1) (fun s => sm s (rwI v S h)) (-1) x7 := by
        intro q
        rcases h3 with ⟨s, a1, a2, a3, a4⟩ | ⟨a1, a2⟩
        · exact Or.inl ⟨s, by omega, a2, a3, a4⟩
        · refine Or.inr ⟨fun j hj => ?_, a2⟩
          by_cases y : j = k
          · subst y; exact q
          · exact a1 j (by omega)
      rcases rgI01 v S h k with q | q
      · rw [q, if_neg (by decide), if_neg (by decide)]
        have e2 : rcI v S 0 h k = v (8 + 4 * h + 3) := by unfold rcI; rw [if_pos q]
        have e3 : wrI v S h k = v (8 + 4 * h + 3) := by unfold wrI; rw [if_pos q]
        rw [e2]
        by_cases q2 : v (8 + 4 * h + 3) ≤ 0
        · have e4 : spI v S h k = 0 := by unfold spI; rw [if_neg (fun z => absurd z.2 (by omega))]
          rw [if_pos q2]
          refine ⟨(_, _, _, _), ⟨rfl, ?_, keep (by omega), ?_⟩, rfl⟩
          · show sm k (wrI v S h) = sm k (wrI v S h) + wrI v S h k; omega
          · show sm k (spI v S h) = sm k (spI v S h) + spI v S h k; omega
        · have e4 : spI v S h k = 1 := by unfold spI; rw [if_pos ⟨q, by omega⟩]
          rw [if_neg q2, xwn (x := sm k (wrI v S h) + _) (by omega) (by omega), xwn (x := sm k (spI v S h) + 1) (by omega) (by omega)]
          by_cases q3 : 0 ≤ x7
          · rw [if_pos q3]
            refine ⟨(_, _, _, _), ⟨rfl, ?_, ?_, ?_⟩, rfl⟩
            · show sm k (wrI v S h) + v (8 + 4 * h + 3) = sm k (wrI v S h) + wrI v S h k; omega
            · rcases h3 with ⟨s, a1, a2, a3, a4⟩ | ⟨a1, a2⟩
              · exact Or.inl ⟨s, by omega, a2, a3, a4⟩
              · exact absurd q3 (by omega)
            · show sm k (spI v S h) + 1 = sm k (spI v S h) + spI v S h k; omega
          · rw [if_neg q3]
            refine ⟨(_, _, _, _), ⟨rfl, ?_, ?_, ?_⟩, rfl⟩
            · show sm k (wrI v S h) + v (8 + 4 * h + 3) = sm k (wrI v S h) + wrI v S h k; omega
            · exact Or.inl ⟨k, by omega, e4, hneg.mp (by omega), rfl⟩
            · show sm k (spI v S h) + 1 = sm k (spI v S h) + spI v S h k; omega
      · rw [q, if_pos (by decide), if_pos rfl]
        have e3 : wrI v S h k = 0 := by unfold wrI; rw [if_neg (by omega)]
        have e4 : spI v S h k = 0 := by unfold spI; rw [if_neg (fun z => absurd z.1 (by omega))]
        refine ⟨(_, _, _, _), ⟨rfl, ?_, keep (by omega), ?_⟩, rfl⟩
        · show sm k (wrI v S h) = sm k (wrI v S h) + wrI v S h k; omega
        · show sm k (spI v S h) = sm k (spI v S h) + spI v S h k; omega
    have E0 : fX10_rows__b45 (n + 1) 173 (h : Int) what (sm k (rwI v S h)) (sm k (wrI v S h)) x7 (sm k (spI v S h)) (k : Int) F = if S k ≠ (h : Int) then fX10_rows__b83 (fX10_rows__b45 n) 173 (h : Int) what (sm k (rwI v S h)) (sm k (wrI v S h)) x7 (sm k (spI v S h)) (k : Int) (rcI v S 0 h k) 173 (h : Int) 0 F else fX10_rows__b83 (fX10_rows__b45 n) 173 (h : Int) what (sm k (rwI v S h)) (sm k (wrI v S h)) x7 (sm k (spI v S h)) (k : Int) (rcI v S 0 h k) 173 (h : Int) 1 F := by
      rw [fX10_rows__b45, m_of hW.1 (i := 0) (x := 0) rfl (by omega), Option.bind_some, if_neg (by omega), m_rowsIn hW hO 0 hh (by omega), Option.bind_some, al177, if_pos (by omega), Int.toNat_natCast, hW.2.2.2 k (by omega)]
    rw [E0]
    by_cases q : S k = (h : Int)
    · rw [if_neg (by omega)]
      exact E 1 (m_sees1 hW (by omega) (by omega) q)
    · rw [if_pos q]
      exact E 0 (m_sees0 hW (by omega) (by omega) q)
  · rintro n ⟨x5, x6, x7, x8⟩ ⟨h1, h2, h3, h4⟩
    dsimp only at h1 h2 h3 h4 ⊢
    rw [fX10_rows__b45, m_of hW.1 (i := 0) (x := 0) rfl (by omega), Option.bind_some, if_pos (by omega)]
    by_cases w0 : what = 0
    · rw [if_neg (by omega)]
      exact ⟨_, rfl, fun _ => h1, fun z => absurd z (by omega), fun z => absurd z (by omega), fun z => absurd z (by omega)⟩
    · rw [if_pos w0]
      by_cases w1 : what = 1
      · rw [if_neg (by omega)]
        exact ⟨_, rfl, fun z => absurd z (by omega), fun _ => h2, fun z => absurd z (by omega), fun z => absurd z (by omega)⟩
      · rw [if_pos w1]
        by_cases w2 : what = 2
        · rw [if_neg (by omega)]
          exact ⟨_, rfl, fun z => absurd z (by omega), fun z => absurd z (by omega), fun _ => h3, fun z => absurd z (by omega)⟩
        · rw [if_pos w2]
          exact ⟨_, rfl, fun z => absurd z (by omega), fun z => absurd z (by omega), fun z => absurd z (by omega), fun _ => h4⟩
end MROWS
