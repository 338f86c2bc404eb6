/-! ===== errors told back: the class ===== -/
section BLX
variable {v S a : Nat → Int} {V L : Nat} {F : Mem}
theorem x_sR (hW : WX v S V F) (hO : VO v) (h n : Int) : fX8_slotOfRow 60 h n F = some (sR v S h n) := by
  obtain ⟨z, h1, h2, h3⟩ := x_slotOfRow hW hO h n
  rw [h1]
  congr 1
  unfold sR
  by_cases q : 0 ≤ h ∧ h < v 5 ∧ 0 ≤ n
  · rw [if_pos q]
    exact FF_uniq (h2 q) (slF_FF _ _ _)
  · rw [if_neg q]; exact h3 q
theorem sR_bd (v S : Nat → Int) (h n : Int) : sR v S h n = -1 ∨ (0 ≤ h ∧ h < v 5 ∧ 0 ≤ n ∧ 0 ≤ sR v S h n ∧ sR v S h n < v 0) := by
  unfold sR
  by_cases q : 0 ≤ h ∧ h < v 5 ∧ 0 ≤ n
  · rw [if_pos q]
    rcases slF_FF (rwI v S h.toNat) n (v 0).toNat with ⟨s, a1, a2, a3, a4⟩ | ⟨a1, a2⟩
    · have a4 : slF (rwI v S h.toNat) n (v 0).toNat = (s : Int) := a4
      right; omega
    · exact Or.inl a2
  · rw [if_neg q]; exact Or.inl rfl
theorem x_exI (hW : WX v S V F) (hO : VO v) (hS : SR 2 20 a F L) (hL : L ≠ 0) {k : Nat} (hk : (k : Int) < a 0) : fX8_isExplained 60 L (k : Int) F = some (exI v S a k) := by
  unfold fX8_isExplained
  have c0 := s_cell (k := k) (i := 0) (x := (k : Int)) (y := 0) hS (by decide) rfl rfl hk (by decide)
  have c1 := s_cell (k := k) (i := 1) (x := (k : Int)) (y := 1) hS (by decide) rfl rfl hk (by decide)
  rw [if_neg hL, c0, Option.bind_some, if_neg hL, c1, Option.bind_some, x_sR hW hO, Option.bind_some]
  unfold exI
  rw [Nat.add_zero]
  rcases sR_bd v S (a (1 + 2 * k)) (a (1 + 2 * k + 1)) with q | ⟨q1, q2, q3, q4, q5⟩
  · rw [q, if_pos rfl, if_pos rfl]
  · rw [if_neg (by omega), if_neg hL, if_neg (by omega), Option.bind_some]
    obtain ⟨hh, eh⟩ := nat_of q1
    obtain ⟨ss, es⟩ := nat_of q4
    rw [es, eh, x_isRight hW hO (by omega) (by omega), Option.bind_some, Int.toNat_natCast, Int.toNat_natCast]
    split <;> rfl
theorem x_told (hS : SR 2 20 a F L) (hL : L ≠ 0) {k : Nat} (hk : (k : Int) < a 0) (ha : a 0 ≤ 20) : fX8_isToldAhead L (k : Int) F = some (tdI a k (a (1 + 2 * k)) (a (1 + 2 * k + 1))) := by
  have c0 := s_cell (k := k) (i := 0) (x := (k : Int)) (y := 0) hS (by decide) rfl rfl hk (by decide)
  have c1 := s_cell (k := k) (i := 1) (x := (k : Int)) (y := 1) hS (by decide) rfl rfl hk (by decide)
  rw [Nat.add_zero] at c0
  unfold fX8_isToldAhead
  have key : ∀ K : Nat, (∀ j, j < K → ¬ (a (1 + 2 * j) = a (1 + 2 * k) ∧ a (1 + 2 * j + 1) = a (1 + 2 * k + 1))) → tdI a K (a (1 + 2 * k)) (a (1 + 2 * k + 1)) = 0 := by
    intro K
    induction K with
    | zero => intro _; rfl
    | succ K ih =>
      intro h
      show (if _ ∧ _ then 1 else _) = 0
      rw [if_neg (h K (by omega)), ih (fun j hj => h j (by omega))]
  have key2 : ∀ K j : Nat, j < K → (a (1 + 2 * j) = a (1 + 2 * k) ∧ a (1 + 2 * j + 1) = a (1 + 2 * k + 1)) → tdI a K (a (1 + 2 * k)) (a (1 + 2 * k + 1)) = 1 := by
    intro K
    induction K with
    | zero => intro j hj; omega
    | succ K ih =>
      intro j hj h
      show (if _ ∧ _ then 1 else _) = 1
      by_cases y : a (1 + 2 * K) = a (1 + 2 * k) ∧ a (1 + 2 * K + 1) = a (1 + 2 * k + 1)
      · rw [if_pos y]
      · rw [if_neg y]
        by_cases w : j = K
        · subst w; exact absurd h y
        · exact ih j (by omega) h
  refine lp (fun n j (_ : Unit) => fX8_isToldAhead_b2 F n L (k : Int) (j : Int)) k (fun j _ => ∀ i, i < j → ¬ (a (1 + 2 * i) = a (1 + 2 * k) ∧ a (1 + 2 * i + 1) = a (1 + 2 * k + 1))) (fun r => r = some (tdI a k (a (1 + 2 * k)) (a (1 + 2 * k + 1)))) ?_ ?_ FU 0 () (by omega) (fun j hj => absurd hj (by omega)) (FU_gt (by omega))
  · rintro n j - hj hi
    have d0 := s_cell (k := j) (i := 0) (x := (j : Int)) (y := 0) hS (by decide) rfl rfl (by omega) (by decide)
    have d1 := s_cell (k := j) (i := 1) (x := (j : Int)) (y := 1) hS (by decide) rfl rfl (by omega) (by decide)
    rw [Nat.add_zero] at d0
    have E : fX8_isToldAhead_b2 F (n + 1) L (k : Int) (j : Int) = if a (1 + 2 * j) = a (1 + 2 * k) ∧ a (1 + 2 * j + 1) = a (1 + 2 * k + 1) then some 1 else fX8_isToldAhead_b2 F n L (k : Int) ((j + 1 : Nat) : Int) := by
      rw [fX8_isToldAhead_b2, if_neg (by omega), if_neg hL, d0, Option.bind_some, if_neg hL, c0, Option.bind_some, xwS (by omega)]
      by_cases y1 : a (1 + 2 * j) = a (1 + 2 * k)
      · rw [if_neg (by omega), if_neg hL, d1, Option.bind_some, if_neg hL, c1, Option.bind_some]
        by_cases y2 : a (1 + 2 * j + 1) = a (1 + 2 * k + 1)
        · rw [if_neg (by omega), if_pos ⟨y1, y2⟩]
        · rw [if_pos y2, if_neg (fun z => y2 z.2)]
      · rw [if_pos y1, if_neg (fun z => y1 z.1)]
    by_cases y : a (1 + 2 * j) = a (1 + 2 * k) ∧ a (1 + 2 * j + 1) = a (1 + 2 * k + 1)
    · right
      show fX8_isToldAhead_b2 F (n + 1) L (k : Int) (j : Int) = _
      rw [E, if_pos y, key2 k j hj y]
    · left
      refine ⟨(), fun i hi2 => ?_, ?_⟩
      · by_cases w : i = j
        · subst w; exact y
        · exact hi i (by omega)
      · show fX8_isToldAhead_b2 F (n + 1) L (k : Int) (j : Int) = _
        rw [E, if_neg y]
  · rintro n - hi
    show fX8_isToldAhead_b2 F (n + 1) L (k : Int) (k : Int) = _
    rw [fX8_isToldAhead_b2, if_pos (by omega), key k hi]
theorem onI01 (v S a : Nat → Int) (k : Nat) : onI v S a k = 0 ∨ onI v S a k = 1 := by
  unfold onI
  split
  · exact Or.inr rfl
  · exact Or.inl rfl
theorem x_explained (hW : WX v S V F) (hO : VO v) (hS : SR 2 20 a F L) (hL : L ≠ 0) (c : Int) : fX8_explained 60 L c F = some (sm (a 0).toNat (if c = 0 then exI v S a else onI v S a)) := by
  have ha := hS.2.2.2.2.2.1
  have e3 := hS.2.2.2.2.1
  have hb : ∀ i, 0 ≤ (if c = 0 then exI v S a else onI v S a) i ∧ (if c = 0 then exI v S a else onI v S a) i ≤ ((1 : Nat) : Int) := by
    intro i
    have h1 := exI01 v S a i
    have h2 := onI01 v S a i
    split <;> omega
  unfold fX8_explained
  refine lpS (fun n k x => fX8_explained_b5 F n 60 L c x (k : Int)) (a 0).toNat (if c = 0 then exI v S a else onI v S a) 1 some (fun i _ => hb i) (fun n k hk h1 h2 => ?_) (fun n _ _ => ?_) (by omega)
  · have hk0 : (k : Int) < a 0 := by omega
    generalize hs : sm k (if c = 0 then exI v S a else onI v S a) = x at h1 h2
    show fX8_explained_b5 F (n + 1) 60 L c x (k : Int) = fX8_explained_b5 F n 60 L c (x + (if c = 0 then exI v S a else onI v S a) k) ((k + 1 : Nat) : Int)
    rw [fX8_explained_b5, if_neg hL, e3, if_neg (by omega), x_exI hW hO hS hL hk0, Option.bind_some, xwS (by omega), x_told hS hL hk0 (by omega), Option.bind_some, xwn (x := x + 1) (by omega) (by omega)]
    by_cases c0 : c = 0
    · rw [if_pos c0, if_pos c0]
      rcases exI01 v S a k with q | q
      · rw [q, if_pos rfl, Int.add_zero]
      · rw [q, if_neg (by decide)]
    · rw [if_neg c0, if_neg c0]
      unfold onI
      rcases exI01 v S a k with q | q
      · rw [q, if_pos rfl, if_neg (fun z => absurd z.1 (by decide)), Int.add_zero]
      · rw [q, if_neg (by decide)]
        by_cases w : tdI a k (a (1 + 2 * k)) (a (1 + 2 * k + 1)) = 0
        · rw [if_neg (by omega), if_pos ⟨rfl, w⟩]
        · rw [if_pos w, if_neg (fun z => w z.2), Int.add_zero]
  · show fX8_explained_b5 F (n + 1) 60 L c _ (((a 0).toNat : Nat) : Int) = _
    rw [fX8_explained_b5, if_neg hL, e3, if_pos (by omega)]
/-- explained errors made while the pair was at h -/
def cuI (v S a : Nat → Int) (h : Int) (k : Nat) : Int := if exI v S a k = 1 ∧ S (sR v S (a (1 + 2 * k)) (a (1 + 2 * k + 1))).toNat = h then 1 else 0
theorem cuI01 (v S a : Nat → Int) (h : Int) (k : Nat) : cuI v S a h k = 0 ∨ cuI v S a h k = 1 := by
  unfold cuI
  split
  · exact Or.inr rfl
  · exact Or.inl rfl
/-- the first of the greatest -/
def amx (t : Nat → Int) : Nat → Int × Int
  | 0 => (-1, 0)
  | n + 1 => if (amx t n).2 < t n then ((n : Int), t n) else amx t n
theorem amx_bd (t : Nat → Int) (B : Int) (hB : 0 ≤ B) : ∀ n, (∀ i, i < n → t i ≤ B) → 0 ≤ (amx t n).2 ∧ (amx t n).2 ≤ B := by
  intro n
  induction n with
  | zero => intro _; exact ⟨Int.le_refl _, hB⟩
  | succ n ih =>
    intro h
    have h1 := ih (fun i hi => h i (by omega))
    have h2 := h n (by omega)
    show 0 ≤ (if (amx t n).2 < t n then ((n : Int), t n) else amx t n).2 ∧ (if (amx t n).2 < t n then ((n : Int), t n) else amx t n).2 ≤ B
    split
    · exact ⟨by show 0 ≤ t n; omega, h2⟩
    · exact h1
theorem amx_ext {t : Nat → Int} : ∀ d n, (∀ i, n ≤ i → i < n + d → t i ≤ 0) → amx t (n + d) = amx t n := by
  intro d
  induction d with
  | zero => intro n _; rfl
  | succ d ih =>
    intro n h
    have h0 : ∀ m, 0 ≤ (amx t m).2 := by
      intro m
      induction m with
      | zero => exact Int.le_refl _
      | succ m im =>
        show 0 ≤ (if (amx t m).2 < t m then ((m : Int), t m) else amx t m).2
        split
        · show 0 ≤ t m; omega
        · exact im
    have h1 := h (n + d) (by omega) (by omega)
    have h2 := h0 (n + d)
    show (if (amx t (n + d)).2 < t (n + d) then (((n + d : Nat) : Int), t (n + d)) else amx t (n + d)) = _
    rw [if_neg (by omega), ih n (fun i h3 h4 => h i h3 (by omega))]
theorem x_culprit (hW : WX v S V F) (hO : VO v) (hS : SR 2 20 a F L) (hL : L ≠ 0) (hL2 : L < 60) (hV2 : V + 4 < 60) (hSb : ∀ s : Nat, (s : Int) < v 0 → S s = -1 ∨ (0 ≤ S s ∧ S s < 8)) : ∃ F', fX8_culprit 60 L F = some ((amx (fun h => sm (a 0).toNat (cuI v S a (h : Int))) 8).1, F') ∧ ∀ o k, o ≠ 62 → F' o k = F o k := by
  have b0 := hO.1
  have ha := hS.2.2.2.2.2.1
  have tb : ∀ h : Int, ∀ K : Nat, 0 ≤ sm K (cuI v S a h) ∧ sm K (cuI v S a h) ≤ (K : Int) := by
    intro h K
    have h1 := sm_bd (f := cuI v S a h) (lo := 0) (hi := 1) K (fun i _ => by have := cuI01 v S a h i; omega)
    rw [Int.zero_mul, Int.one_mul] at h1
    exact h1
  have keep : ∀ G : Mem, (∀ o k, o ≠ 62 → G o k = F o k) → WX v S V G ∧ SR 2 20 a G L := by
    intro G hG
    refine ⟨⟨(hG 60 0 (by omega)).trans hW.1, hW.2.1, hW.2.2.1.mono (fun o k h1 h2 => hG o k (by omega)), fun s hs => (hG 61 s (by omega)).trans (hW.2.2.2 s hs)⟩, hS.mono (fun o k h1 h2 => hG o k (by omega))⟩
  -- the greatest
  have L3 : ∀ G : Mem, (∀ h : Nat, h < 8 → G 62 h = sm (a 0).toNat (cuI v S a (h : Int))) → fX8_culprit_b115 FU 60 (-1) 0 0 G = some ((amx (fun h => sm (a 0).toNat (cuI v S a (h : Int))) 8).1, G) := by
    intro G hG
    refine lp (fun n k (x : Int × Int) => fX8_culprit_b115 n 60 x.1 x.2 (k : Int) G) 8 (fun k x => x = amx (fun h => sm (a 0).toNat (cuI v S a (h : Int))) k) (fun r => r = some ((amx (fun h => sm (a 0).toNat (cuI v S a (h : Int))) 8).1, G)) ?_ ?_ FU 0 (-1, 0) (by omega) rfl (FU_gt (by omega))
    · rintro n k x hk rfl
      left
      refine ⟨_, rfl, ?_⟩
      generalize hX : amx (fun h => sm (a 0).toNat (cuI v S a (h : Int))) k = X
      have eX : amx (fun h => sm (a 0).toNat (cuI v S a (h : Int))) (k + 1) = if X.2 < sm (a 0).toNat (cuI v S a (k : Int)) then ((k : Int), sm (a 0).toNat (cuI v S a (k : Int))) else X := by rw [← hX]; rfl
      have bk : (0 : Int) ≤ (k : Int) ∧ (k : Int) < ((8 : Nat) : Int) := by omega
      have hGk : G 62 k = sm (a 0).toNat (cuI v S a (k : Int)) := hG k hk
      rw [eX, fX8_culprit_b115, if_neg (by omega), show alen (60 + 2) = 8 from rfl]
      simp only [if_pos bk, Int.toNat_natCast, Nat.reduceAdd, hGk]
      rw [xwS (by omega)]
      by_cases q : sm (a 0).toNat (cuI v S a (k : Int)) ≤ X.2
      · rw [if_pos q, if_neg (Int.not_lt.mpr q)]
      · rw [if_neg q, if_pos (Int.not_le.mp q)]
    · rintro n x rfl
      show fX8_culprit_b115 (n + 1) 60 _ _ 8 G = _
      rw [fX8_culprit_b115, if_pos (by omega)]
  -- the tally
  have L2 : ∀ G : Mem, (∀ o k, o ≠ 62 → G o k = F o k) → (∀ h : Nat, h < 8 → G 62 h = 0) → ∃ F', fX8_culprit_b23 FU 60 L 0 G = some ((amx (fun h => sm (a 0).toNat (cuI v S a (h : Int))) 8).1, F') ∧ ∀ o k, o ≠ 62 → F' o k = F o k := by
    intro G hG h0
    refine lp (fun n k (X : Mem) => fX8_culprit_b23 n 60 L (k : Int) X) (a 0).toNat (fun k X => (∀ o k, o ≠ 62 → X o k = F o k) ∧ ∀ h : Nat, h < 8 → X 62 h = sm k (cuI v S a (h : Int))) (fun r => ∃ F', r = some ((amx (fun h => sm (a 0).toNat (cuI v S a (h : Int))) 8).1, F') ∧ ∀ o k, o ≠ 62 → F' o k = F o k) ?_ ?_ FU 0 G (by omega) ⟨hG, h0⟩ (FU_gt (by omega))
    · rintro n k X hk ⟨hX, hT⟩
      left
      obtain ⟨kW, kS⟩ := keep X hX
      have hk0 : (k : Int) < a 0 := by omega
      have c0 := s_cell (k := k) (i := 0) (x := (k : Int)) (y := 0) kS (by decide) rfl rfl hk0 (by decide)
      have c1 := s_cell (k := k) (i := 1) (x := (k : Int)) (y := 1) kS (by decide) rfl rfl hk0 (by decide)
      rw [Nat.add_zero] at c0
      -- behind the choice of a place
      have B : ∀ z : Int, (z = -1 → exI v S a k = 0 ∨ S (sR v S (a (1 + 2 * k)) (a (1 + 2 * k + 1))).toNat = -1) → (z ≠ -1 → (0 ≤ z ∧ z < 8) ∧ S (sR v S (a (1 + 2 * k)) (a (1 + 2 * k + 1))).toNat = z) → ∃ s' : Mem, ((∀ o k, o ≠ 62 → s' o k = F o k) ∧ ∀ h : Nat, h < 8 → s' 62 h = sm (k + 1) (cuI v S a (h : Int))) ∧ fX8_culprit_b68 (fX8_culprit_b23 n) 60 L (k : Int) z X = fX8_culprit_b23 n 60 L ((k + 1 : Nat) : Int) s' := by
        intro z z1 z2
        have same : (∀ h : Nat, h < 8 → cuI v S a (h : Int) k = 0) → (∀ o k, o ≠ 62 → X o k = F o k) ∧ ∀ h : Nat, h < 8 → X 62 h = sm (k + 1) (cuI v S a (h : Int)) := by
          intro hz
          refine ⟨hX, fun h hh => ?_⟩
          rw [hT h hh]
          show _ = sm k (cuI v S a (h : Int)) + cuI v S a (h : Int) k
          rw [hz h hh, Int.add_zero]
        unfold fX8_culprit_b68
        rw [xwS (by omega)]
        by_cases zn : z = -1
        · rw [if_pos (by omega)]
          refine ⟨X, same (fun h hh => ?_), rfl⟩
          unfold cuI
          rw [if_neg]
          rintro ⟨w1, w2⟩
          rcases z1 zn with y | y <;> omega
        · obtain ⟨z3, z4⟩ := z2 zn
          rw [if_neg (by omega), if_neg (by omega), x_exI kW hO kS hL hk0, Option.bind_some]
          rcases exI01 v S a k with q | q
          · rw [q, if_pos rfl]
            refine ⟨X, same (fun h hh => ?_), rfl⟩
            unfold cuI
            rw [if_neg (fun w => absurd w.1 (by omega))]
          · rw [q, if_neg (by decide), show alen (60 + 2) = 8 from rfl, if_pos (by omega), if_pos (by omega)]
            obtain ⟨zk, ez⟩ := nat_of z3.1
            have t1 := tb z k
            rw [show (60 + 2 : Nat) = 62 from rfl, ez, Int.toNat_natCast, hT zk (by omega), ← ez, xwn (by omega) (by omega)]
            refine ⟨_, ⟨fun o j ho => by rw [mset_ne _ _ (by omega)]; exact hX o j ho, fun h hh => ?_⟩, rfl⟩
            show _ = sm k (cuI v S a (h : Int)) + cuI v S a (h : Int) k
            by_cases w : h = zk
            · subst w
              have e : cuI v S a (h : Int) k = 1 := by unfold cuI; rw [if_pos ⟨q, by omega⟩]
              rw [mset_eq, e, ez]
            · have e : cuI v S a (h : Int) k = 0 := by unfold cuI; rw [if_neg (fun y => absurd y.2 (by omega))]
              rw [mset_ne _ _ (by omega), hT h hh, e, Int.add_zero]
      show ∃ s' : Mem, _ ∧ fX8_culprit_b23 (n + 1) 60 L (k : Int) X = fX8_culprit_b23 n 60 L ((k + 1 : Nat) : Int) s'
      rw [fX8_culprit_b23, if_neg hL, kS.2.2.2.2.1, if_neg (by omega), if_neg hL, c0, Option.bind_some, if_neg hL, c1, Option.bind_some, x_sR kW hO, Option.bind_some]
      rcases sR_bd v S (a (1 + 2 * k)) (a (1 + 2 * k + 1)) with q | ⟨q1, q2, q3, q4, q5⟩
      · rw [if_pos (by omega)]
        refine B (-1) (fun _ => Or.inl ?_) (fun h => absurd rfl h)
        unfold exI
        rw [if_pos q]
      · rw [if_neg (by omega), if_neg (by omega), show alen (60 + 1) = 48 from rfl, if_pos (by omega)]
        have e61 : X (60 + 1) (sR v S (a (1 + 2 * k)) (a (1 + 2 * k + 1))).toNat = S (sR v S (a (1 + 2 * k)) (a (1 + 2 * k + 1))).toNat := kW.2.2.2 _ (by omega)
        rw [e61]
        refine B _ (fun h => Or.inr h) (fun h => ⟨?_, rfl⟩)
        rcases hSb (sR v S (a (1 + 2 * k)) (a (1 + 2 * k + 1))).toNat (by omega) with y | y
        · exact absurd y h
        · exact y
    · rintro n X ⟨hX, hT⟩
      obtain ⟨kW, kS⟩ := keep X hX
      refine ⟨X, ?_, hX⟩
      show fX8_culprit_b23 (n + 1) 60 L (((a 0).toNat : Nat) : Int) X = _
      rw [fX8_culprit_b23, if_neg hL, kS.2.2.2.2.1, if_pos (by omega)]
      exact L3 X hT
  unfold fX8_culprit
  refine lp (fun n k (X : Mem) => fX8_culprit_b2 n 60 L (k : Int) X) 8 (fun k X => (∀ o k, o ≠ 62 → X o k = F o k) ∧ ∀ h : Nat, h < k → X 62 h = 0) (fun r => ∃ F', r = some ((amx (fun h => sm (a 0).toNat (cuI v S a (h : Int))) 8).1, F') ∧ ∀ o k, o ≠ 62 → F' o k = F o k) ?_ ?_ FU 0 F (by omega) ⟨fun _ _ _ => rfl, fun h hh => absurd hh (by omega)⟩ (FU_gt (by omega))
  · rintro n k X hk ⟨hX, hT⟩
    left
    refine ⟨mset X 62 k 0, ⟨fun o j ho => by rw [mset_ne _ _ (by omega)]; exact hX o j ho, fun h hh => ?_⟩, ?_⟩
    · by_cases w : h = k
      · subst w; rw [mset_eq]
      · rw [mset_ne _ _ (by omega)]; exact hT h (by omega)
    · show fX8_culprit_b2 (n + 1) 60 L (k : Int) X = _
      rw [fX8_culprit_b2, if_neg (by omega), show alen (60 + 2) = 8 from rfl, if_pos (by omega), Int.toNat_natCast, xwS (by omega)]
  · rintro n X ⟨hX, hT⟩
    show ∃ F', fX8_culprit_b2 (n + 1) 60 L 8 X = _ ∧ _
    rw [fX8_culprit_b2, if_pos (by omega)]
    exact L2 X hX hT
end BLX
