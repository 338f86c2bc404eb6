/-! ===== errors told back: the reference ===== -/
section BLM
variable {v S a : Nat → Int} {l : Nat} {F : Mem}
theorem m_made (hW : MX v S F) (hO : VO v) (h : Int) {n : Int} (hn : 0 ≤ n) (hn2 : n < 2147483648) : fX10_madeOf 173 h n F = some (sR v S h n) := by
  have b0 := hO.1
  have b5 := hO.2.2.2.1
  unfold fX10_madeOf
  by_cases q : 0 ≤ h ∧ h < v 5
  · obtain ⟨k0, rfl⟩ := nat_of q.1
    have hs : sR v S (k0 : Int) n = slF (rwI v S k0) n (v 0).toNat := by
      unfold sR; rw [if_pos ⟨q.1, q.2, hn⟩, Int.toNat_natCast]
    rw [hs]
    have R : ∃ z, fX10_madeOf_b5 F FU 173 (k0 : Int) n 0 = some z ∧ FF (v 0).toNat (fun s => n < sm (s + 1) (rwI v S k0)) (fun s => (s : Int)) (-1) z := by
      refine lp (fun m k x => fX10_madeOf_b5 F m 173 (k0 : Int) x (k : Int)) (v 0).toNat (fun k x => x = n - sm k (rwI v S k0) ∧ ∀ j, j < k → ¬ n < sm (j + 1) (rwI v S k0)) (fun w => ∃ z, w = some z ∧ FF (v 0).toNat (fun s => n < sm (s + 1) (rwI v S k0)) (fun s => (s : Int)) (-1) z) ?_ ?_ FU 0 n (by omega) ⟨by show n = n - 0; omega, fun j hj => absurd hj (by omega)⟩ (FU_gt (by omega))
      · rintro m k x hk ⟨rfl, hi⟩
        have hb := rwI_bd (S := S) hO q.2 k
        have hs := sum_bd48 (N := k) (g := rwI v S k0) (B := 9) (by omega) (fun i _ => rwI_bd hO q.2 i)
        have e1 : sm (k + 1) (rwI v S k0) = sm k (rwI v S k0) + rwI v S k0 k := rfl
        have E : fX10_madeOf_b5 F (m + 1) 173 (k0 : Int) (n - sm k (rwI v S k0)) (k : Int) = if sm (k + 1) (rwI v S k0) ≤ n then fX10_madeOf_b5 F m 173 (k0 : Int) (n - sm (k + 1) (rwI v S k0)) ((k + 1 : Nat) : Int) else some (k : Int) := by
          rw [fX10_madeOf_b5, m_of hW.1 (i := 0) (x := 0) rfl (by omega), Option.bind_some, if_neg (by omega), m_isHouse hW.1 hO, Option.bind_some, if_pos q, if_neg (by decide), m_rowsIn hW hO 0 q.2 (by omega), Option.bind_some, rcI0, xwS (by omega)]
          by_cases y : rwI v S k0 k ≤ n - sm k (rwI v S k0)
          · rw [if_pos y, if_pos (by omega), xwn (by omega) (by omega), e1]
            congr 1; omega
          · rw [if_neg y, if_neg (by omega)]
        by_cases q3 : sm (k + 1) (rwI v S k0) ≤ n
        · left
          refine ⟨_, ⟨rfl, fun j hj => ?_⟩, ?_⟩
          · by_cases y : j = k
            · subst y; omega
            · exact hi j (by omega)
          · show fX10_madeOf_b5 F (m + 1) 173 (k0 : Int) (n - sm k (rwI v S k0)) (k : Int) = _
            rw [E, if_pos q3]
        · right
          show ∃ z, fX10_madeOf_b5 F (m + 1) 173 (k0 : Int) (n - sm k (rwI v S k0)) (k : Int) = some z ∧ _
          rw [E, if_neg q3]
          exact ⟨_, rfl, Or.inl ⟨k, hk, by omega, hi, rfl⟩⟩
      · rintro m x ⟨rfl, hi⟩
        show ∃ z, fX10_madeOf_b5 F (m + 1) 173 (k0 : Int) _ (((v 0).toNat : Nat) : Int) = some z ∧ _
        rw [fX10_madeOf_b5, m_of hW.1 (i := 0) (x := 0) rfl (by omega), Option.bind_some, if_pos (by omega)]
        exact ⟨_, rfl, Or.inr ⟨hi, rfl⟩⟩
    obtain ⟨z, z1, z2⟩ := R
    rw [z1, FF_uniq z2 (slF_FF _ _ _)]
  · have hs : sR v S h n = -1 := by unfold sR; rw [if_neg (fun z => q ⟨z.1, z.2.1⟩)]
    rw [hs]
    show fX10_madeOf_b5 F (99999 + 1) 173 h n 0 = _
    rw [fX10_madeOf_b5, m_of hW.1 (i := 0) (x := 0) rfl (by omega), Option.bind_some, if_neg (by omega), m_isHouse hW.1 hO, Option.bind_some, if_neg q, if_pos rfl]
def LA (a : Nat → Int) (l : Nat) (F : Mem) : Prop := l < 2 ∧ EO a ∧ ∀ j, j < 41 → F 174 (1235 + 41 * l + j) = a j
theorem la_at (hL : LA a l F) {x : Int} {j : Nat} (hx : x = 1235 + 41 * (l : Int) + (j : Int)) (hj : j < 41) : ((0 : Int) ≤ x ∧ x < ((5268 : Nat) : Int)) ∧ F (173 + 1) x.toNat = a j := by
  have h1 := hL.1
  refine ⟨by omega, ?_⟩
  rw [show x.toNat = 1235 + 41 * l + j by omega]
  exact hL.2.2 j hj
theorem m_exI (hW : MX v S F) (hO : VO v) (hL : LA a l F) {k : Nat} (hk : (k : Int) < a 0) : fX10_isExplained 173 (l : Int) (k : Int) F = some (exI v S a k) := by
  have b0 := hO.1
  have b5 := hO.2.2.2.1
  have hl := hL.1
  have he := hL.2.1.2 k hk
  have hc := hL.2.1.1
  unfold fX10_isExplained
  rw [m_place3 (by omega), al174]
  obtain ⟨p1, p2⟩ := la_at hL (x := 1235 + 41 * (l : Int) + 1 + 2 * (k : Int)) (j := 1 + 2 * k) (by omega) (by omega)
  obtain ⟨p3, p4⟩ := la_at hL (x := 1235 + 41 * (l : Int) + 1 + 2 * (k : Int) + 1) (j := 1 + 2 * k + 1) (by omega) (by omega)
  simp (disch := omega) only [xwn]
  simp only [if_pos p1, if_pos p3, p2, p4]
  rw [m_made hW hO _ he.2.1 (by omega), Option.bind_some]
  unfold exI
  rcases sR_bd v S (a (1 + 2 * k)) (a (1 + 2 * k + 1)) with q | ⟨q1, q2, q3, q4, q5⟩
  · rw [q, if_pos rfl, if_pos rfl]
  · rw [if_neg (by omega), al177, if_pos (by omega)]
    obtain ⟨hh, eh⟩ := nat_of q1
    obtain ⟨ss, es⟩ := nat_of q4
    rw [es, eh, Int.toNat_natCast, Int.toNat_natCast, show (173 + 4 : Nat) = 177 from rfl, hW.2.2.2 ss (by omega)]
    have fin : ∀ u : Int, fX10_sees 173 (hh : Int) u (ss : Int) F = some (rgI v S hh ss) → fX10_isExplained_b66 F (ss : Int) 173 (hh : Int) u = some (if rgI v S hh ss ≠ 0 then 0 else 1) := by
      intro u hu
      unfold fX10_isExplained_b66
      rw [hu, Option.bind_some]
      split <;> rfl
    by_cases w : S ss = (hh : Int)
    · rw [if_neg (by omega)]
      exact fin 1 (m_sees1 hW (by omega) (by omega) w)
    · rw [if_pos w]
      exact fin 0 (m_sees0 hW (by omega) (by omega) w)
theorem m_explained (hW : MX v S F) (hO : VO v) (hL : LA a l F) : fX10_explained 173 (l : Int) F = some (sm (a 0).toNat (exI v S a)) := by
  have hl := hL.1
  have hc := hL.2.1.1
  unfold fX10_explained
  refine lpS (fun n k x => fX10_explained_b4 F n 173 (l : Int) x (k : Int)) (a 0).toNat (exI v S a) 1 some (fun i _ => by have := exI01 v S a i; omega) (fun n k hk h1 h2 => ?_) (fun n _ _ => ?_) (by omega)
  · obtain ⟨p1, p2⟩ := la_at hL (x := 1235 + 41 * (l : Int)) (j := 0) (by omega) (by omega)
    show fX10_explained_b4 F (n + 1) 173 (l : Int) (sm k (exI v S a)) (k : Int) = fX10_explained_b4 F n 173 (l : Int) (sm k (exI v S a) + exI v S a k) ((k + 1 : Nat) : Int)
    rw [fX10_explained_b4, m_place3 (by omega), al174, if_pos p1, p2, if_neg (by omega), m_exI hW hO hL (by omega), Option.bind_some, xwS (by omega), xwn (by omega) (by omega), xwn (by omega) (by omega)]
    rcases exI01 v S a k with q | q
    · rw [q, if_pos rfl]
    · rw [q, if_neg (by decide)]
  · obtain ⟨p1, p2⟩ := la_at hL (x := 1235 + 41 * (l : Int)) (j := 0) (by omega) (by omega)
    show fX10_explained_b4 F (n + 1) 173 (l : Int) _ (((a 0).toNat : Nat) : Int) = _
    rw [fX10_explained_b4, m_place3 (by omega), al174, if_pos p1, p2, if_pos (by omega)]
theorem m_told (hL : LA a l F) (h n : Int) : fX10_isTold 173 (l : Int) h n F = some (tdI a (a 0).toNat h n) := by
  have hl := hL.1
  have hc := hL.2.1.1
  unfold fX10_isTold
  rw [m_place3 (by omega)]
  refine lp (fun m k x => fX10_isTold_b13 F m 173 h n (1235 + 41 * (l : Int)) x (k : Int)) (a 0).toNat (fun k x => x = tdI a k h n) (fun w => w = some (tdI a (a 0).toNat h n)) ?_ ?_ FU 0 0 (by omega) rfl (FU_gt (by omega))
  · rintro m k x hk rfl
    left
    refine ⟨_, rfl, ?_⟩
    obtain ⟨p1, p2⟩ := la_at hL (x := 1235 + 41 * (l : Int)) (j := 0) (by omega) (by omega)
    obtain ⟨p3, p4⟩ := la_at hL (x := 1235 + 41 * (l : Int) + 1 + 2 * (k : Int)) (j := 1 + 2 * k) (by omega) (by omega)
    obtain ⟨p5, p6⟩ := la_at hL (x := 1235 + 41 * (l : Int) + 2 + 2 * (k : Int)) (j := 1 + 2 * k + 1) (by omega) (by omega)
    show fX10_isTold_b13 F (m + 1) 173 h n (1235 + 41 * (l : Int)) (tdI a k h n) (k : Int) = fX10_isTold_b13 F m 173 h n (1235 + 41 * (l : Int)) (if a (1 + 2 * k) = h ∧ a (1 + 2 * k + 1) = n then 1 else tdI a k h n) ((k + 1 : Nat) : Int)
    rw [fX10_isTold_b13, al174, if_pos p1, p2, if_neg (by omega)]
    simp (disch := omega) only [xwn]
    rw [show (k : Int) + 1 = ((k + 1 : Nat) : Int) from rfl]
    rcases tdI01 a k h n with q | q
    · rw [q, if_neg (by decide), if_pos p3, p4]
      by_cases y1 : a (1 + 2 * k) = h
      · rw [if_neg (by omega), if_pos p5, p6]
        by_cases y2 : a (1 + 2 * k + 1) = n
        · rw [if_neg (by omega), if_pos ⟨y1, y2⟩]
        · rw [if_pos y2, if_neg (fun z => y2 z.2)]
      · rw [if_pos y1, if_neg (fun z => y1 z.1)]
    · rw [q, if_pos (by decide), ite_self]
  · rintro m x rfl
    obtain ⟨p1, p2⟩ := la_at hL (x := 1235 + 41 * (l : Int)) (j := 0) (by omega) (by omega)
    show fX10_isTold_b13 F (m + 1) 173 h n (1235 + 41 * (l : Int)) _ (((a 0).toNat : Nat) : Int) = _
    rw [fX10_isTold_b13, al174, if_pos p1, p2, if_pos (by omega), if_pos (tdI01 _ _ _ _)]
theorem unI01 (v S a : Nat → Int) (K h s i : Nat) : unI v S a K h s i = 0 ∨ unI v S a K h s i = 1 := by
  unfold unI
  split
  · exact Or.inr rfl
  · exact Or.inl rfl
theorem unS_bd (hO : VO v) (K s : Nat) {h : Nat} (hh : (h : Int) < v 5) : 0 ≤ unS v S a K h s ∧ unS v S a K h s ≤ ((9 : Nat) : Int) := by
  have h1 := rwI_bd (S := S) hO hh s
  have h2 := sm_bd (f := unI v S a K h s) (lo := 0) (hi := 1) (rwI v S h s).toNat (fun i _ => by have := unI01 v S a K h s i; omega)
  unfold unS
  omega
theorem m_untold (hW : MX v S F) (hO : VO v) (hL : LA a l F) : fX10_untold 173 (l : Int) F = some (unA v S a (a 0).toNat) := by
  have b0 := hO.1
  have b5 := hO.2.2.2.1
  have hb : ∀ i, i < (v 5).toNat → 0 ≤ sm (v 0).toNat (unS v S a (a 0).toNat i) ∧ sm (v 0).toNat (unS v S a (a 0).toNat i) ≤ ((9 * 48 : Nat) : Int) := fun i hi => sum_bd48 (by omega) (fun j _ => unS_bd hO _ _ (by omega))
  unfold fX10_untold unA
  refine lpS (fun n k x => fX10_untold_b4 F n 173 (l : Int) x (k : Int)) (v 5).toNat (fun h => sm (v 0).toNat (unS v S a (a 0).toNat h)) (9 * 48) some hb (fun n k hk h1 h2 => ?_) (fun n _ _ => ?_) (by omega)
  · have hk5 : (k : Int) < v 5 := by omega
    have hb := hb k hk
    generalize ha : sm k (fun h => sm (v 0).toNat (unS v S a (a 0).toNat h)) = x at h1 h2
    show fX10_untold_b4 F (n + 1) 173 (l : Int) x (k : Int) = fX10_untold_b4 F n 173 (l : Int) (x + sm (v 0).toNat (unS v S a (a 0).toNat k)) ((k + 1 : Nat) : Int)
    rw [fX10_untold_b4, m_of hW.1 (i := 5) (x := 5) rfl (by omega), Option.bind_some, if_neg (by omega)]
    refine lp (fun m j (y : Int × Int) => fX10_untold_b19 F (fX10_untold_b4 F n) m 173 (l : Int) y.1 (k : Int) y.2 (j : Int)) (v 0).toNat (fun j y => y.1 = x + sm j (unS v S a (a 0).toNat k) ∧ y.2 = sm j (rwI v S k)) (fun r => r = fX10_untold_b4 F n 173 (l : Int) (x + sm (v 0).toNat (unS v S a (a 0).toNat k)) ((k + 1 : Nat) : Int)) ?_ ?_ FU 0 (x, 0) (by omega) ⟨by show x = x + 0; omega, rfl⟩ (FU_gt (by omega))
    · rintro m j ⟨y1, y2⟩ hj ⟨e1, e2⟩
      dsimp only at e1 e2 ⊢
      subst e1 e2
      left
      have c1 := unS_bd (S := S) (a := a) hO (a 0).toNat j hk5
      have c2 := sum_bd48 (N := j) (g := unS v S a (a 0).toNat k) (B := 9) (by omega) (fun i _ => unS_bd hO _ _ hk5)
      have c3 := rwI_bd (S := S) hO hk5 j
      have c4 := sum_bd48 (N := j) (g := rwI v S k) (B := 9) (by omega) (fun i _ => rwI_bd hO hk5 i)
      refine ⟨(x + sm (j + 1) (unS v S a (a 0).toNat k), sm (j + 1) (rwI v S k)), ⟨rfl, rfl⟩, ?_⟩
      dsimp only
      have IN : fX10_untold_b75 F (fX10_untold_b4 F n) (fX10_untold_b19 F (fX10_untold_b4 F n) m) FU 173 (l : Int) (x + sm j (unS v S a (a 0).toNat k)) (k : Int) (sm j (rwI v S k)) (j : Int) (if rgI v S k j = 0 then 1 else 0) (rwI v S k j) 0 = fX10_untold_b19 F (fX10_untold_b4 F n) m 173 (l : Int) (x + sm (j + 1) (unS v S a (a 0).toNat k)) (k : Int) (sm (j + 1) (rwI v S k)) ((j + 1 : Nat) : Int) := by
        refine lp (fun q i w => fX10_untold_b75 F (fX10_untold_b4 F n) (fX10_untold_b19 F (fX10_untold_b4 F n) m) q 173 (l : Int) w (k : Int) (sm j (rwI v S k)) (j : Int) (if rgI v S k j = 0 then 1 else 0) (rwI v S k j) (i : Int)) (rwI v S k j).toNat (fun i w => w = x + sm j (unS v S a (a 0).toNat k) + sm i (unI v S a (a 0).toNat k j)) (fun r => r = fX10_untold_b19 F (fX10_untold_b4 F n) m 173 (l : Int) (x + sm (j + 1) (unS v S a (a 0).toNat k)) (k : Int) (sm (j + 1) (rwI v S k)) ((j + 1 : Nat) : Int)) ?_ ?_ FU 0 _ (by omega) (by show _ = _ + 0; omega) (FU_gt (by omega))
        · rintro q i w hi rfl
          left
          have d1 := unI01 v S a (a 0).toNat k j i
          have d2 := sum_bd (N := i) (g := unI v S a (a 0).toNat k j) (B := 1) (fun t _ => by have := unI01 v S a (a 0).toNat k j t; omega)
          refine ⟨_, rfl, ?_⟩
          show fX10_untold_b75 F (fX10_untold_b4 F n) (fX10_untold_b19 F (fX10_untold_b4 F n) m) (q + 1) 173 (l : Int) _ (k : Int) (sm j (rwI v S k)) (j : Int) (if rgI v S k j = 0 then 1 else 0) (rwI v S k j) (i : Int) = fX10_untold_b75 F (fX10_untold_b4 F n) (fX10_untold_b19 F (fX10_untold_b4 F n) m) q 173 (l : Int) (x + sm j (unS v S a (a 0).toNat k) + (sm i (unI v S a (a 0).toNat k j) + unI v S a (a 0).toNat k j i)) (k : Int) (sm j (rwI v S k)) (j : Int) (if rgI v S k j = 0 then 1 else 0) (rwI v S k j) ((i + 1 : Nat) : Int)
          rw [fX10_untold_b75, if_neg (by omega), xwS (by omega), xwn (x := sm j (rwI v S k) + (i : Int)) (by omega) (by omega), m_told hL, Option.bind_some]
          generalize sm i (unI v S a (a 0).toNat k j) = u at *
          generalize hz : unI v S a (a 0).toNat k j i = z at *
          unfold unI at hz
          rw [xwn (by omega) (by omega), xwn (by omega) (by omega)]
          by_cases r1 : rgI v S k j = 0
          · rw [if_pos r1, if_neg (by decide)]
            by_cases r2 : tdI a (a 0).toNat (k : Int) (sm j (rwI v S k) + (i : Int)) = 0
            · rw [if_pos ⟨r1, r2⟩] at hz
              rw [if_neg (by omega), ← hz, Int.add_assoc]
            · rw [if_neg (fun h => r2 h.2)] at hz
              rw [if_pos r2, ← hz, Int.add_assoc]
          · rw [if_neg (fun h => r1 h.1)] at hz
            rw [if_neg r1, if_pos rfl, ← hz, Int.add_assoc]
        · rintro q w rfl
          show fX10_untold_b75 F (fX10_untold_b4 F n) (fX10_untold_b19 F (fX10_untold_b4 F n) m) (q + 1) 173 (l : Int) _ (k : Int) (sm j (rwI v S k)) (j : Int) (if rgI v S k j = 0 then 1 else 0) (rwI v S k j) (((rwI v S k j).toNat : Nat) : Int) = _
          rw [fX10_untold_b75, if_pos (by omega), xwn (by omega) (by omega), xwS (by omega)]
          congr 1
          show x + sm j (unS v S a (a 0).toNat k) + unS v S a (a 0).toNat k j = x + (sm j (unS v S a (a 0).toNat k) + unS v S a (a 0).toNat k j)
          omega
      have E : ∀ u : Int, fX10_sees 173 (k : Int) u (j : Int) F = some (rgI v S k j) → fX10_untold_b47 F (fX10_untold_b4 F n) (fX10_untold_b19 F (fX10_untold_b4 F n) m) 173 (l : Int) (x + sm j (unS v S a (a 0).toNat k)) (k : Int) (sm j (rwI v S k)) (j : Int) 173 (k : Int) u = fX10_untold_b19 F (fX10_untold_b4 F n) m 173 (l : Int) (x + sm (j + 1) (unS v S a (a 0).toNat k)) (k : Int) (sm (j + 1) (rwI v S k)) ((j + 1 : Nat) : Int) := by
        intro u hu
        unfold fX10_untold_b47 fX10_untold_b60
        rw [hu, Option.bind_some, m_rowsIn hW hO 0 hk5 (by omega), Option.bind_some, Option.bind_some, rcI0]
        rcases rgI01 v S k j with q | q
        · rw [if_pos q] at IN
          rw [if_neg (by omega)]
          exact IN
        · rw [if_neg (by omega)] at IN
          rw [if_pos (by omega)]
          exact IN
      rw [fX10_untold_b19, m_of hW.1 (i := 0) (x := 0) rfl (by omega), Option.bind_some, if_neg (by omega), al177, if_pos (by omega), Int.toNat_natCast, show (173 + 4 : Nat) = 177 from rfl, hW.2.2.2 j (by omega)]
      by_cases q : S j = (k : Int)
      · rw [if_neg (by omega)]
        exact E 1 (m_sees1 hW (by omega) (by omega) q)
      · rw [if_pos q]
        exact E 0 (m_sees0 hW (by omega) (by omega) q)
    · rintro m ⟨y1, y2⟩ ⟨e1, e2⟩
      dsimp only at e1 e2 ⊢
      subst e1 e2
      rw [fX10_untold_b19, m_of hW.1 (i := 0) (x := 0) rfl (by omega), Option.bind_some, if_pos (by omega), xwS (by omega)]
  · show fX10_untold_b4 F (n + 1) 173 (l : Int) _ (((v 5).toNat : Nat) : Int) = _
    rw [fX10_untold_b4, m_of hW.1 (i := 5) (x := 5) rfl (by omega), Option.bind_some, if_pos (by omega)]
theorem m_culprit (hW : MX v S F) (hO : VO v) (hL : LA a l F) : fX10_culprit 173 (l : Int) F = some (amx (fun h => sm (a 0).toNat (cuI v S a (h : Int))) (v 5).toNat).1 := by
  have b0 := hO.1
  have b5 := hO.2.2.2.1
  have hl := hL.1
  have hc := hL.2.1.1
  unfold fX10_culprit
  rw [m_place3 (by omega)]
  refine lp (fun n k (x : Int × Int) => fX10_culprit_b14 F n 173 (l : Int) (1235 + 41 * (l : Int)) x.1 x.2 (k : Int)) (v 5).toNat (fun k x => x = amx (fun h => sm (a 0).toNat (cuI v S a (h : Int))) k) (fun r => r = some (amx (fun h => sm (a 0).toNat (cuI v S a (h : Int))) (v 5).toNat).1) ?_ ?_ FU 0 (-1, 0) (by omega) rfl (FU_gt (by omega))
  · rintro n k x hk rfl
    left
    refine ⟨_, rfl, ?_⟩
    generalize hX : amx (fun h => sm (a 0).toNat (cuI v S a (h : Int))) k = X
    show fX10_culprit_b14 F (n + 1) 173 (l : Int) (1235 + 41 * (l : Int)) X.1 X.2 (k : Int) = fX10_culprit_b14 F n 173 (l : Int) (1235 + 41 * (l : Int)) (if (amx _ k).2 < _ then ((k : Int), _) else amx _ k).1 (if (amx _ k).2 < _ then ((k : Int), _) else amx _ k).2 ((k + 1 : Nat) : Int)
    rw [hX, fX10_culprit_b14, m_of hW.1 (i := 5) (x := 5) rfl (by omega), Option.bind_some, if_neg (by omega)]
    refine lp (fun m j y => fX10_culprit_b30 F (fX10_culprit_b14 F n) m 173 (l : Int) (1235 + 41 * (l : Int)) X.1 X.2 (k : Int) y (j : Int)) (a 0).toNat (fun j y => y = sm j (cuI v S a (k : Int))) (fun r => r = fX10_culprit_b14 F n 173 (l : Int) (1235 + 41 * (l : Int)) (if X.2 < sm (a 0).toNat (cuI v S a (k : Int)) then ((k : Int), sm (a 0).toNat (cuI v S a (k : Int))) else X).1 (if X.2 < sm (a 0).toNat (cuI v S a (k : Int)) then ((k : Int), sm (a 0).toNat (cuI v S a (k : Int))) else X).2 ((k + 1 : Nat) : Int)) ?_ ?_ FU 0 0 (by omega) rfl (FU_gt (by omega))
    · rintro m j y hj rfl
      left
      refine ⟨_, rfl, ?_⟩
      have hj0 : (j : Int) < a 0 := by omega
      have he := hL.2.1.2 j hj0
      have d1 := cuI01 v S a (k : Int) j
      have d2 := sum_bd (N := j) (g := cuI v S a (k : Int)) (B := 1) (fun t _ => by have := cuI01 v S a (k : Int) t; omega)
      obtain ⟨p1, p2⟩ := la_at hL (x := 1235 + 41 * (l : Int)) (j := 0) (by omega) (by omega)
      obtain ⟨p3, p4⟩ := la_at hL (x := 1235 + 41 * (l : Int) + 1 + 2 * (j : Int)) (j := 1 + 2 * j) (by omega) (by omega)
      obtain ⟨p5, p6⟩ := la_at hL (x := 1235 + 41 * (l : Int) + 2 + 2 * (j : Int)) (j := 1 + 2 * j + 1) (by omega) (by omega)
      show fX10_culprit_b30 F (fX10_culprit_b14 F n) (m + 1) 173 (l : Int) (1235 + 41 * (l : Int)) X.1 X.2 (k : Int) (sm j (cuI v S a (k : Int))) (j : Int) = fX10_culprit_b30 F (fX10_culprit_b14 F n) m 173 (l : Int) (1235 + 41 * (l : Int)) X.1 X.2 (k : Int) (sm j (cuI v S a (k : Int)) + cuI v S a (k : Int) j) ((j + 1 : Nat) : Int)
      rw [fX10_culprit_b30, al174, if_pos p1, p2, if_neg (by omega), m_exI hW hO hL hj0, Option.bind_some]
      simp (disch := omega) only [xwn]
      rw [show (j : Int) + 1 = ((j + 1 : Nat) : Int) from rfl, if_pos p3, if_pos p5, p4, p6, m_made hW hO _ he.2.1 (by omega), Option.bind_some]
      generalize sm j (cuI v S a (k : Int)) = u
      unfold cuI
      rcases exI01 v S a j with q | q
      · rw [q, if_pos rfl, if_neg (fun z => absurd z.1 (by decide))]
      · rw [q, if_neg (by decide)]
        rcases sR_bd v S (a (1 + 2 * j)) (a (1 + 2 * j + 1)) with w | ⟨q1, q2, q3, q4, q5⟩
        · unfold exI at q
          rw [if_pos w] at q
          exact absurd q (by decide)
        · rw [al177, if_pos (by omega), show (173 + 4 : Nat) = 177 from rfl, hW.2.2.2 _ (by omega)]
          by_cases w : S (sR v S (a (1 + 2 * j)) (a (1 + 2 * j + 1))).toNat = (k : Int)
          · rw [if_neg (by omega), if_pos ⟨rfl, w⟩]
          · rw [if_pos w, if_neg (fun z => w z.2)]
    · rintro m y rfl
      obtain ⟨p1, p2⟩ := la_at hL (x := 1235 + 41 * (l : Int)) (j := 0) (by omega) (by omega)
      show fX10_culprit_b30 F (fX10_culprit_b14 F n) (m + 1) 173 (l : Int) (1235 + 41 * (l : Int)) X.1 X.2 (k : Int) _ (((a 0).toNat : Nat) : Int) = _
      rw [fX10_culprit_b30, al174, if_pos p1, p2, if_pos (by omega), xwS (by omega)]
      by_cases w : X.2 < sm (a 0).toNat (cuI v S a (k : Int))
      · rw [if_pos w, if_pos w]
      · rw [if_neg w, if_neg w]
  · rintro n x rfl
    show fX10_culprit_b14 F (n + 1) 173 (l : Int) (1235 + 41 * (l : Int)) _ _ (((v 5).toNat : Nat) : Int) = _
    rw [fX10_culprit_b14, m_of hW.1 (i := 5) (x := 5) rfl (by omega), Option.bind_some, if_pos (by omega)]
end BLM
