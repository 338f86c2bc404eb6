/-! ===== what the way tells ===== -/
theorem sm_swap {g : Nat → Nat → Int} : ∀ H N, sm H (fun h => sm N (g h)) = sm N (fun s => sm H (fun h => g h s)) := by
  intro H
  induction H with
  | zero => intro N; exact (sm_0 N (fun i _ => rfl)).symm
  | succ H ih =>
    intro N
    show sm H (fun h => sm N (g h)) + sm N (g H) = sm N (fun s => sm H (fun h => g h s) + g H s)
    rw [sm_plus, ih N]
def atI (f : Nat → Int) (h : Int) (i : Nat) : Int := if f i = h then 1 else 0
def idI (f g : Nat → Int) (i : Nat) : Int := if f i ≠ -1 ∧ g i = 0 then 1 else 0
/-- the longest stay up to n, and the one at hand -/
def lgF (f : Nat → Int) : Nat → Int × Int
  | 0 => (0, 0)
  | n + 1 => (xmax (lgF f n).1 (if f n = -1 then 0 else if 0 < n ∧ f n = f (n - 1) then (lgF f n).2 + 1 else 1), if f n = -1 then 0 else if 0 < n ∧ f n = f (n - 1) then (lgF f n).2 + 1 else 1)
theorem lgF_bd (f : Nat → Int) : ∀ n, (0 ≤ (lgF f n).1 ∧ (lgF f n).1 ≤ n) ∧ (0 ≤ (lgF f n).2 ∧ (lgF f n).2 ≤ n) := by
  intro n
  induction n with
  | zero => exact ⟨⟨Int.le_refl _, Int.le_refl _⟩, Int.le_refl _, Int.le_refl _⟩
  | succ n ih =>
    obtain ⟨h1, h2⟩ := ih
    have h3 : 0 ≤ (if f n = -1 then 0 else if 0 < n ∧ f n = f (n - 1) then (lgF f n).2 + 1 else 1) ∧ (if f n = -1 then 0 else if 0 < n ∧ f n = f (n - 1) then (lgF f n).2 + 1 else 1) ≤ ((n + 1 : Nat) : Int) := by
      split
      · omega
      · split <;> omega
    refine ⟨?_, h3⟩
    show 0 ≤ xmax (lgF f n).1 _ ∧ xmax (lgF f n).1 _ ≤ _
    unfold xmax
    split <;> omega
def spW (v f hd : Nat → Int) (day : Nat) (h s : Nat) : Int := if v (8 + 4 * h + 1) = 0 ∨ (f s = (h : Int) ∧ (v (8 + 4 * h + 1) ≠ 3 ∨ (v 2 ≤ (s : Int) ∧ (s : Int) < v 3)) ∧ (hd (48 * day + s) = -1 ∨ hd (48 * day + s) = (h : Int))) then 0 else v (8 + 4 * h + 3)
section TEL
variable {I : Ins} {v : Nat → Int} {V : Nat} {F : Mem} {f g : Nat → Int} {N : Nat}
theorem x_slotsAt (hN : N ≤ 336) (hf : ∀ i, i < N → F 73 i = f i) (h : Int) : fX6_slotsAt 72 h (N : Int) F = some (sm N (atI f h)) := by
  unfold fX6_slotsAt
  refine lpS (fun n k a => fX6_slotsAt_b5 F n 72 h (N : Int) a (k : Int)) N (atI f h) 1 some (fun i _ => by unfold atI; split <;> omega) (fun n k hk h1 h2 => ?_) (fun n _ _ => ?_) (by omega)
  · have bk := b336 (show k < 336 by omega)
    have nN : ¬ (N : Int) ≤ (k : Int) := by omega
    have hk1 : k < 2147483647 := by omega
    have ef := hf k hk
    have e : atI f h k = if f k = h then 1 else 0 := rfl
    show fX6_slotsAt_b5 F (n + 1) 72 h (N : Int) (sm k (atI f h)) (k : Int) = fX6_slotsAt_b5 F n 72 h (N : Int) (sm k (atI f h) + atI f h k) ((k + 1 : Nat) : Int)
    rw [e]
    generalize sm k (atI f h) = a at *
    have w0 : xw (a + 0) = a + 0 := xwn (by omega) (by omega)
    have w1 : xw (a + 1) = a + 1 := xwn (by omega) (by omega)
    rw [fX6_slotsAt_b5, if_neg nN, a73, if_pos bk, Int.toNat_natCast, show (72 + 1 : Nat) = 73 from rfl, ef, w0, w1, xwS hk1]
    by_cases q : f k = h
    · rw [if_neg (fun z => z q), if_pos q]
    · rw [if_pos q, if_neg q]
  · show fX6_slotsAt_b5 F (n + 1) 72 h (N : Int) _ ((N : Nat) : Int) = _
    rw [fX6_slotsAt_b5, if_pos (Int.le_refl _)]
theorem x_idle (hN : N ≤ 336) (hf : ∀ i, i < N → F 73 i = f i ∧ F 74 i = g i) : fX6_idle 72 (N : Int) F = some (sm N (idI f g)) := by
  unfold fX6_idle
  refine lpS (fun n k a => fX6_idle_b4 F n 72 (N : Int) a (k : Int)) N (idI f g) 1 some (fun i _ => by unfold idI; split <;> omega) (fun n k hk h1 h2 => ?_) (fun n _ _ => ?_) (by omega)
  · have bk := b336 (show k < 336 by omega)
    have nN : ¬ (N : Int) ≤ (k : Int) := by omega
    have hk1 : k < 2147483647 := by omega
    obtain ⟨ef, eg⟩ := hf k hk
    have e : idI f g k = if f k ≠ -1 ∧ g k = 0 then 1 else 0 := rfl
    show fX6_idle_b4 F (n + 1) 72 (N : Int) (sm k (idI f g)) (k : Int) = fX6_idle_b4 F n 72 (N : Int) (sm k (idI f g) + idI f g k) ((k + 1 : Nat) : Int)
    rw [e]
    generalize sm k (idI f g) = a at *
    have w0 : xw (a + 0) = a + 0 := xwn (by omega) (by omega)
    have w1 : xw (a + 1) = a + 1 := xwn (by omega) (by omega)
    rw [fX6_idle_b4, if_neg nN, a73, if_pos bk, Int.toNat_natCast, show (72 + 1 : Nat) = 73 from rfl, ef, a74, if_pos bk, show (72 + 2 : Nat) = 74 from rfl, eg, w0, w1, xwS hk1]
    by_cases q : f k = -1
    · rw [if_pos q, if_neg (fun z => z.1 q)]
    · rw [if_neg q]
      by_cases q2 : g k = 0
      · rw [if_neg (fun z => z q2), if_pos ⟨q, q2⟩]
      · rw [if_pos q2, if_neg (fun z => q2 z.2)]
  · show fX6_idle_b4 F (n + 1) 72 (N : Int) _ ((N : Nat) : Int) = _
    rw [fX6_idle_b4, if_pos (Int.le_refl _)]
theorem x_longest (hN : N ≤ 336) (hf : ∀ i, i < N → F 73 i = f i) : fX6_longest 72 (N : Int) F = some (lgF f N).1 := by
  unfold fX6_longest
  refine lp (fun n k (x : Int × Int) => fX6_longest_b7 F n 72 (N : Int) x.1 x.2 (k : Int)) N (fun k x => x = lgF f k) (fun r => r = some (lgF f N).1) ?_ ?_ FU 0 (0, 0) (Nat.zero_le _) rfl (FU_gt (by omega))
  · rintro n k x hk rfl
    left
    refine ⟨_, rfl, ?_⟩
    have bk := b336 (show k < 336 by omega)
    have nN : ¬ (N : Int) ≤ (k : Int) := by omega
    have hk1 : k < 2147483647 := by omega
    have ef := hf k hk
    have bd := lgF_bd f k
    have e : lgF f (k + 1) = (xmax (lgF f k).1 (if f k = -1 then 0 else if 0 < k ∧ f k = f (k - 1) then (lgF f k).2 + 1 else 1), if f k = -1 then 0 else if 0 < k ∧ f k = f (k - 1) then (lgF f k).2 + 1 else 1) := rfl
    rw [e]
    generalize lgF f k = x at *
    dsimp only
    have w1 : xw (x.2 + 1) = x.2 + 1 := xwn (by omega) (by omega)
    have E : ∀ u : Int, (u = if 0 < k ∧ f k = f (k - 1) then 1 else 0) → fX6_longest_b42 F (fX6_longest_b7 F n) 72 (N : Int) x.1 x.2 (k : Int) u = fX6_longest_b7 F n 72 (N : Int) (xmax x.1 (if f k = -1 then 0 else if 0 < k ∧ f k = f (k - 1) then x.2 + 1 else 1)) (if f k = -1 then 0 else if 0 < k ∧ f k = f (k - 1) then x.2 + 1 else 1) ((k + 1 : Nat) : Int) := by
      intro u hu
      unfold fX6_longest_b42 fX6_longest_b71
      rw [a73, if_pos bk, Int.toNat_natCast, show (72 + 1 : Nat) = 73 from rfl, ef, w1, xwS hk1]
      by_cases q : f k = -1
      · rw [if_neg (fun z => z q), if_pos q]
      · rw [if_pos q, if_neg q, hu]
        by_cases q2 : 0 < k ∧ f k = f (k - 1)
        · rw [if_pos q2, if_neg (by decide), if_pos q2]
        · rw [if_neg q2, if_pos rfl, if_neg q2]
    rw [fX6_longest_b7, if_neg nN]
    by_cases k0 : (k : Int) ≤ 0
    · rw [if_pos k0]
      exact E 0 (by rw [if_neg (by omega)])
    · obtain ⟨j, hj⟩ : ∃ j, k = j + 1 := ⟨k - 1, by omega⟩
      have bj := b336 (show j < 336 by omega)
      have ej : xw ((k : Int) - 1) = (j : Int) := by rw [xwn (by omega) (by omega)]; omega
      have efj := hf j (by omega)
      have ekj : k - 1 = j := by omega
      rw [if_neg k0, a73, if_pos bk, ej, if_pos bj]
      simp only [Int.toNat_natCast, Nat.reduceAdd, ef, efj]
      rw [ekj] at E ⊢
      by_cases q : f k = f j
      · rw [if_neg (fun z => z q)]
        exact E 1 (by rw [if_pos ⟨by omega, q⟩])
      · rw [if_pos q]
        exact E 0 (by rw [if_neg (fun z => q z.2)])
  · rintro n x rfl
    show fX6_longest_b7 F (n + 1) 72 (N : Int) _ _ ((N : Nat) : Int) = _
    rw [fX6_longest_b7, if_pos (Int.le_refl _)]
theorem x_holderOf {hd : Nat → Int} {day days : Nat} (hP : PO v hd V day days F) {s : Nat} (hs : s < 48) : fX1_holderOf 63 (s : Int) F = some (hd (48 * day + s)) := by
  obtain ⟨h1, h2, h3, h4, h5, h6, h7⟩ := hP
  have e1 : (F 63 1).toNat = 48 := by rw [h2]; rfl
  have w : xw (xw ((day : Int) * 48) + (s : Int)) = ((48 * day + s : Nat) : Int) := by rw [xwn (x := (day : Int) * 48) (by omega) (by omega), xwn (by omega) (by omega)]; omega
  have b := b336 (show 48 * day + s < 336 by omega)
  unfold fX1_holderOf
  rw [e1, if_neg (by decide), h3, w, show alen (48 + 2) = 336 from rfl, if_pos b, Int.toNat_natCast, show (48 + 2 : Nat) = 50 from rfl, h7 _ (by omega)]
theorem x_spoiled {hd : Nat → Int} {day : Nat} (hP : PO v hd V day 1 F) (hf : ∀ s : Nat, (s : Int) < v 0 → F 73 s = f s) : fX6_spoiled 72 63 F = some (sm (v 5).toNat (fun h => sm (v 0).toNat (spW v f hd day h))) := by
  obtain ⟨h1, h2, h3, h4, h5, h6, h7⟩ := id hP
  have hO := h1.2.2.2.2
  have b0 := hO.1
  have b5 := hO.2.2.2.1
  have n63 : ¬ (63 : Nat) = 0 := by decide
  have sb : ∀ h s : Nat, (h : Int) < v 5 → 0 ≤ spW v f hd day h s ∧ spW v f hd day h s ≤ ((9 : Nat) : Int) := fun h s hh => by
    have := hO.2.2.2.2.2.1 h hh
    unfold spW
    split <;> omega
  have hb : ∀ i, i < (v 5).toNat → 0 ≤ sm (v 0).toNat (spW v f hd day i) ∧ sm (v 0).toNat (spW v f hd day i) ≤ ((9 * 48 : Nat) : Int) := fun i hi => sum_bd48 (by omega) (fun j _ => sb i j (by omega))
  have e634 : F 63 4 = v 0 := by rw [h5]; omega
  unfold fX6_spoiled
  refine lpS (fun n k a => fX6_spoiled_b4 F n 72 63 a (k : Int)) (v 5).toNat (fun h => sm (v 0).toNat (spW v f hd day h)) (9 * 48) some hb (fun n k hk q1 q2 => ?_) (fun n _ _ => ?_) (by omega)
  · have hk5 : (k : Int) < v 5 := by omega
    have hbk := hb k hk
    have n5 : ¬ v 5 ≤ (k : Int) := by omega
    have hk1 : k < 2147483647 := by omega
    have c3 := hO.2.2.2.2.2.1 k hk5
    generalize ha : sm k (fun h => sm (v 0).toNat (spW v f hd day h)) = a at q1 q2
    show fX6_spoiled_b4 F (n + 1) 72 63 a (k : Int) = fX6_spoiled_b4 F n 72 63 (a + sm (v 0).toNat (spW v f hd day k)) ((k + 1 : Nat) : Int)
    rw [fX6_spoiled_b4, if_neg n63, pv_n h1, if_neg h1.2.1, pv_5 h1, if_neg n5]
    refine lp (fun m j x => fX6_spoiled_b21 F (fX6_spoiled_b4 F n) m 72 63 x (k : Int) (j : Int)) (v 0).toNat (fun j x => x = a + sm j (spW v f hd day k)) (fun r => r = fX6_spoiled_b4 F n 72 63 (a + sm (v 0).toNat (spW v f hd day k)) ((k + 1 : Nat) : Int)) ?_ ?_ FU 0 a (by omega) (by show a = a + 0; omega) (FU_gt (by omega))
    · rintro m j x hj rfl
      left
      have hc := sb k j hk5
      have hd2 := sum_bd48 (N := j) (g := spW v f hd day k) (B := 9) (by omega) (fun i _ => sb k i hk5)
      refine ⟨_, rfl, ?_⟩
      have hj0 : (j : Int) < v 0 := by omega
      have n0 : ¬ v 0 ≤ (j : Int) := by omega
      have hj1 : j < 2147483647 := by omega
      have bj := b336 (show j < 336 by omega)
      have ef := hf j hj0
      have ho := x_holderOf hP (s := j) (by omega)
      have ck := v_cell h1.2.2.2.1 hO (h := k) (i := 1) (y := 1) hk5 (by omega) rfl
      have c3k := v_cell h1.2.2.2.1 hO (h := k) (i := 3) (y := 3) hk5 (by omega) rfl
      have w2 : xw (a + sm j (spW v f hd day k) + v (8 + 4 * k + 3)) = a + sm j (spW v f hd day k) + v (8 + 4 * k + 3) := xwn (by omega) (by omega)
      show fX6_spoiled_b21 F (fX6_spoiled_b4 F n) (m + 1) 72 63 (a + sm j (spW v f hd day k)) (k : Int) (j : Int) = fX6_spoiled_b21 F (fX6_spoiled_b4 F n) m 72 63 (a + (sm j (spW v f hd day k) + spW v f hd day k j)) (k : Int) ((j + 1 : Nat) : Int)
      have wk : fX6_works 72 63 (k : Int) (j : Int) F = some (if f j = (k : Int) ∧ (v (8 + 4 * k + 1) ≠ 3 ∨ (v 2 ≤ (j : Int) ∧ (j : Int) < v 3)) ∧ (hd (48 * day + j) = -1 ∨ hd (48 * day + j) = (k : Int)) then 1 else 0) := by
        unfold fX6_works
        rw [if_neg n63, ho, Option.bind_some, if_neg n63, if_neg n63, pv_n h1, if_neg h1.2.1, ck, Option.bind_some, if_neg h1.2.1, a73, if_pos bj, Int.toNat_natCast, show (72 + 1 : Nat) = 73 from rfl, ef, v_sees h1.2.2.2.1, i10]
        by_cases y1 : f j = (k : Int)
        · rw [if_neg (fun z => z y1)]
          by_cases y2 : v (8 + 4 * k + 1) ≠ 3 ∨ (v 2 ≤ (j : Int) ∧ (j : Int) < v 3)
          · rw [if_pos y2]
            by_cases y3 : hd (48 * day + j) = -1
            · rw [if_pos y3, if_pos ⟨y1, y2, Or.inl y3⟩]
            · rw [if_neg y3]
              by_cases y4 : hd (48 * day + j) = (k : Int)
              · rw [if_neg (fun z => z y4), if_pos ⟨y1, y2, Or.inr y4⟩]
              · rw [if_pos y4, if_neg (fun z => z.2.2.elim y3 y4)]
          · rw [if_neg y2, if_neg (fun z => y2 z.2.1)]
        · rw [if_pos y1, if_neg (fun z => y1 z.1)]
      rw [fX6_spoiled_b21, if_neg n63, e634, if_neg n0, if_neg n63, pv_n h1, if_neg h1.2.1, v_touch h1.2.2.2.1 hO hk5, Option.bind_some, i11, wk, Option.bind_some, i11, if_neg n63, if_neg h1.2.1, c3k, Option.bind_some, w2, xwS hj1]
      have e : spW v f hd day k j = if v (8 + 4 * k + 1) = 0 ∨ (f j = (k : Int) ∧ (v (8 + 4 * k + 1) ≠ 3 ∨ (v 2 ≤ (j : Int) ∧ (j : Int) < v 3)) ∧ (hd (48 * day + j) = -1 ∨ hd (48 * day + j) = (k : Int))) then 0 else v (8 + 4 * k + 3) := rfl
      rw [e]
      by_cases y1 : v (8 + 4 * k + 1) = 0
      · rw [if_pos y1, if_pos (Or.inl y1), Int.add_zero]
      · rw [if_neg y1]
        by_cases y2 : f j = (k : Int) ∧ (v (8 + 4 * k + 1) ≠ 3 ∨ (v 2 ≤ (j : Int) ∧ (j : Int) < v 3)) ∧ (hd (48 * day + j) = -1 ∨ hd (48 * day + j) = (k : Int))
        · rw [if_pos y2, if_pos (Or.inr y2), Int.add_zero]
        · rw [if_neg y2, if_neg (fun z => z.elim y1 y2), Int.add_assoc]
    · rintro m x rfl
      have n0 : v 0 ≤ (((v 0).toNat : Nat) : Int) := by omega
      show fX6_spoiled_b21 F (fX6_spoiled_b4 F n) (m + 1) 72 63 _ (k : Int) (((v 0).toNat : Nat) : Int) = _
      rw [fX6_spoiled_b21, if_neg n63, e634, if_pos n0, xwS hk1]
  · have n5 : v 5 ≤ (((v 5).toNat : Nat) : Int) := by omega
    show fX6_spoiled_b4 F (n + 1) 72 63 _ (((v 5).toNat : Nat) : Int) = _
    rw [fX6_spoiled_b4, if_neg n63, pv_n h1, if_neg h1.2.1, pv_5 h1, if_pos n5]
end TEL
