/-! ===== the class's plan, laid out ===== -/
theorem a64 : alen (63 + 1) = 8 := rfl
theorem a65 : alen (63 + 2) = 2688 := rfl
theorem a66 : alen (63 + 3) = 336 := rfl
theorem a67 : alen (63 + 4) = 337 := rfl
theorem a68 : alen (63 + 5) = 64 := rfl
theorem a69 : alen (63 + 6) = 64 := rfl
theorem a70 : alen (63 + 7) = 2696 := rfl
theorem a71 : alen (63 + 8) = 392 := rfl
theorem bds {k n : Nat} {x : Int} (hx : x = (k : Int)) (h : k < n) : (0 : Int) ≤ x ∧ x < (n : Int) := by omega
theorem xw8 {a b : Nat} (ha : a ≤ 400) (hb : b ≤ 400) : xw (xw ((a : Int) * 8) + (b : Int)) = ((8 * a + b : Nat) : Int) := by
  rw [xwn (x := (a : Int) * 8) (by omega) (by omega), xwn (by omega) (by omega)]; omega
/-- the valley that the plan is of -/
def PVa (v : Nat → Int) (V : Nat) (F : Mem) : Prop := F 63 0 = (V : Int) ∧ V ≠ 0 ∧ V < 58 ∧ VR v F V ∧ VO v
section PLF
variable {v : Nat → Int} {V : Nat} {F : Mem}
theorem pv_n (h : PVa v V F) : (F 63 0).toNat = V := by rw [h.1]; exact Int.toNat_natCast V
theorem PVa.mono {G : Mem} (h : PVa v V F) (hG : ∀ o k, (o = 63 ∧ k = 0) ∨ o < 63 → G o k = F o k) : PVa v V G := ⟨(hG 63 0 (Or.inl ⟨rfl, rfl⟩)).trans h.1, h.2.1, h.2.2.1, h.2.2.2.1.mono (fun o k _ h2 => hG o k (Or.inr (by have := h.2.2.1; omega))), h.2.2.2.2⟩
theorem pv_5 (h : PVa v V F) : F (V + 1) 3 = v 5 := h.2.2.2.1.2.2.1
theorem pv_6 (h : PVa v V F) : F (V + 3) 3 = v 6 := h.2.2.2.1.2.2.2.1
theorem pv_0 (h : PVa v V F) : F V 0 = v 0 := h.2.2.2.1.2.1.1
theorem pv_4 (h : PVa v V F) : F V 4 = v 4 := h.2.2.2.1.2.1.2.2.2.2
theorem pv_1 (h : PVa v V F) : F V 1 = v 1 := h.2.2.2.1.2.1.2.1
def oth2 (a b : Nat) (F G : Mem) : Prop := ∀ o k, o ≠ a → o ≠ b → G o k = F o k
theorem x_setPace (hP : PVa v V F) {p : Int} (hp : 1 ≤ p) (hp2 : p ≤ 99) : ∃ F', fX1_setPace 63 p F = some F' ∧ (∀ a b : Nat, (a : Int) < v 5 → (b : Int) < v 5 → F' 68 (8 * a + b) = stp v a b ∧ F' 69 (8 * a + b) = slt v p a b) ∧ oth2 68 69 F F' := by
  have hO := hP.2.2.2.2
  have b5 := hO.2.2.2.1
  unfold fX1_setPace
  refine lp (fun n k (X : Mem) => fX1_setPace_b2 n 63 p (k : Int) X) (v 5).toNat (fun k X => oth2 68 69 F X ∧ ∀ a b : Nat, a < k → (b : Int) < v 5 → X 68 (8 * a + b) = stp v a b ∧ X 69 (8 * a + b) = slt v p a b)
    (fun r => ∃ F', r = some F' ∧ (∀ a b : Nat, (a : Int) < v 5 → (b : Int) < v 5 → F' 68 (8 * a + b) = stp v a b ∧ F' 69 (8 * a + b) = slt v p a b) ∧ oth2 68 69 F F') ?_ ?_ FU 0 F (by omega) ⟨fun _ _ _ _ => rfl, fun a b h => absurd h (by omega)⟩ (FU_gt (by omega))
  · rintro n k X hk ⟨h1, h2⟩
    left
    have hk5 : (k : Int) < v 5 := by omega
    have hPX : PVa v V X := hP.mono (fun o k h => h1 o k (by omega) (by omega))
    have E : fX1_setPace_b2 (n + 1) 63 p (k : Int) X = fX1_setPace_b18 (fX1_setPace_b2 n) FU 63 p (k : Int) 0 X := by
      rw [fX1_setPace_b2, pv_n hPX, if_neg hP.2.1, pv_5 hPX, if_neg (by omega)]
    show ∃ s', _ ∧ fX1_setPace_b2 (n + 1) 63 p (k : Int) X = fX1_setPace_b2 n 63 p ((k + 1 : Nat) : Int) s'
    rw [E]
    refine lp (fun m j (Z : Mem) => fX1_setPace_b18 (fX1_setPace_b2 n) m 63 p (k : Int) (j : Int) Z) (v 5).toNat (fun j Z => oth2 68 69 F Z ∧ ∀ a b : Nat, (a < k ∧ (b : Int) < v 5) ∨ (a = k ∧ b < j) → Z 68 (8 * a + b) = stp v a b ∧ Z 69 (8 * a + b) = slt v p a b)
      (fun r => ∃ s', (oth2 68 69 F s' ∧ ∀ a b : Nat, a < k + 1 → (b : Int) < v 5 → s' 68 (8 * a + b) = stp v a b ∧ s' 69 (8 * a + b) = slt v p a b) ∧ r = fX1_setPace_b2 n 63 p ((k + 1 : Nat) : Int) s') ?_ ?_ FU 0 X (by omega) ⟨h1, fun a b h => by rcases h with ⟨z1, z2⟩ | ⟨z1, z2⟩; exact h2 a b z1 z2; omega⟩ (FU_gt (by omega))
    · rintro m j Z hj ⟨g1, g2⟩
      left
      have hj5 : (j : Int) < v 5 := by omega
      have hPZ : PVa v V Z := hP.mono (fun o k h => g1 o k (by omega) (by omega))
      generalize hG : mset Z 68 (8 * k + j) (stp v k j) = G
      have hPG : PVa v V G := hPZ.mono (fun o i h => by rw [← hG, mset_ne _ _ (by omega)])
      refine ⟨mset G 69 (8 * k + j) (slt v p k j), ⟨fun o i o1 o2 => ?_, fun a b hab => ?_⟩, ?_⟩
      · rw [mset_ne _ _ (by omega), ← hG, mset_ne _ _ (by omega)]; exact g1 o i o1 o2
      · by_cases y : a = k ∧ b = j
        · obtain ⟨rfl, rfl⟩ := y
          rw [mset_ne _ _ (by omega), mset_eq, ← hG, mset_eq]
          exact ⟨rfl, rfl⟩
        · have hq : (a < k ∧ (b : Int) < v 5) ∨ (a = k ∧ b < j) := by omega
          have hb8 : b < 8 := by omega
          rw [mset_ne _ _ (by omega), mset_ne _ _ (by omega), ← hG, mset_ne _ _ (by omega), mset_ne _ _ (by omega)]
          exact g2 a b hq
      · show fX1_setPace_b18 (fX1_setPace_b2 n) (m + 1) 63 p (k : Int) (j : Int) Z = fX1_setPace_b18 (fX1_setPace_b2 n) m 63 p (k : Int) ((j + 1 : Nat) : Int) _
        rw [fX1_setPace_b18, pv_n hPZ, if_neg hP.2.1, pv_5 hPZ, if_neg (by omega), if_neg hP.2.1, v_steps hPZ.2.2.2.1 hO hk5 hj5, Option.bind_some, xw8 (by omega) (by omega), a68, a69, if_pos (bds rfl (by omega)), Int.toNat_natCast, show (63 + 5 : Nat) = 68 from rfl, show (63 + 6 : Nat) = 69 from rfl, hG, pv_n hPG, if_neg hP.2.1, v_slots hPG.2.2.2.1 hO hp hp2 hk5 hj5, Option.bind_some, if_pos (bds rfl (by omega)), xwS (by omega)]
    · rintro m Z ⟨g1, g2⟩
      have hPZ : PVa v V Z := hP.mono (fun o k h => g1 o k (by omega) (by omega))
      refine ⟨Z, ⟨g1, fun a b h3 h4 => g2 a b (by omega)⟩, ?_⟩
      show fX1_setPace_b18 (fX1_setPace_b2 n) (m + 1) 63 p (k : Int) (((v 5).toNat : Nat) : Int) Z = _
      rw [fX1_setPace_b18, pv_n hPZ, if_neg hP.2.1, pv_5 hPZ, if_pos (by omega), xwS (by omega)]
  · rintro n X ⟨h1, h2⟩
    have hPX : PVa v V X := hP.mono (fun o k h => h1 o k (by omega) (by omega))
    refine ⟨X, ?_, fun a b h3 h4 => h2 a b (by omega) h4, h1⟩
    show fX1_setPace_b2 (n + 1) 63 p (((v 5).toNat : Nat) : Int) X = _
    rw [fX1_setPace_b2, pv_n hPX, if_neg hP.2.1, pv_5 hPX, if_pos (by omega)]
theorem x_dropMusts {N : Nat} (hN : F 63 4 = (N : Int)) (h336 : N ≤ 336) : ∃ F', fX1_dropMusts 63 F = some F' ∧ (∀ s, s < N → F' 66 s = -1) ∧ (∀ o k, o ≠ 66 → F' o k = F o k) := by
  unfold fX1_dropMusts
  refine lp (fun n k (X : Mem) => fX1_dropMusts_b2 n 63 (k : Int) X) N (fun k X => (∀ s, s < k → X 66 s = -1) ∧ ∀ o i, o ≠ 66 → X o i = F o i) (fun r => ∃ F', r = some F' ∧ (∀ s, s < N → F' 66 s = -1) ∧ (∀ o k, o ≠ 66 → F' o k = F o k)) ?_ ?_ FU 0 F (by omega) ⟨fun s h => absurd h (by omega), fun _ _ _ => rfl⟩ (FU_gt (by omega))
  · rintro n k X hk ⟨h1, h2⟩
    left
    refine ⟨mset X 66 k (-1), ⟨fun s hs => ?_, fun o i ho => ?_⟩, ?_⟩
    · by_cases y : s = k
      · subst y; rw [mset_eq]
      · rw [mset_ne _ _ (by omega)]; exact h1 s (by omega)
    · rw [mset_ne _ _ (by omega)]; exact h2 o i ho
    · show fX1_dropMusts_b2 (n + 1) 63 (k : Int) X = _
      rw [fX1_dropMusts_b2, h2 63 4 (by omega), hN, if_neg (by omega), a66, if_pos (by omega), Int.toNat_natCast, xwS (by omega)]
  · rintro n X ⟨h1, h2⟩
    refine ⟨X, ?_, h1, h2⟩
    show fX1_dropMusts_b2 (n + 1) 63 (N : Int) X = _
    rw [fX1_dropMusts_b2, h2 63 4 (by omega), hN, if_pos (by omega)]
/-- a further must on a slot -/
def mad (m h : Int) : Int := if m = -1 ∨ m = h then h else -2
theorem x_require {N : Nat} (hN : F 63 4 = (N : Int)) (h336 : N ≤ 336) {h : Int} {f t : Nat} (hf : f ≤ 1000) (ht : t ≤ 1000) : ∃ F', fX1_require 63 h (f : Int) (t : Int) F = some F' ∧ (∀ s, s < N → F' 66 s = if f ≤ s ∧ s < t then mad (F 66 s) h else F 66 s) ∧ (∀ o k, o ≠ 66 → F' o k = F o k) := by
  unfold fX1_require
  have e0 : xmax 0 (f : Int) = (f : Int) := by unfold xmax; split <;> omega
  rw [e0]
  refine lp (fun n k (X : Mem) => fX1_require_b7 n 63 h (t : Int) (k : Int) X) (if t < N then (if t < f then f else t) else if N < f then f else N) (fun k X => f ≤ k ∧ (∀ s, s < N → X 66 s = if f ≤ s ∧ s < t ∧ s < k then mad (F 66 s) h else F 66 s) ∧ ∀ o i, o ≠ 66 → X o i = F o i)
    (fun r => ∃ F', r = some F' ∧ (∀ s, s < N → F' 66 s = if f ≤ s ∧ s < t then mad (F 66 s) h else F 66 s) ∧ (∀ o k, o ≠ 66 → F' o k = F o k)) ?_ ?_ FU f F ?_ ⟨Nat.le_refl _, fun s hs => by rw [if_neg (by omega)], fun _ _ _ => rfl⟩ ?_
  · rintro n k X hk ⟨h0, h1, h2⟩
    have hk2 : k < t ∧ k < N := by split at hk <;> (split at hk <;> omega)
    left
    refine ⟨mset X 66 k (mad (F 66 k) h), ⟨by omega, fun s hs => ?_, fun o i ho => ?_⟩, ?_⟩
    · by_cases y : s = k
      · subst y; rw [mset_eq, if_pos (by omega)]
      · rw [mset_ne _ _ (by omega), h1 s hs]
        by_cases z : f ≤ s ∧ s < t ∧ s < k
        · rw [if_pos z, if_pos (by omega)]
        · rw [if_neg z, if_neg (by omega)]
    · rw [mset_ne _ _ (by omega)]; exact h2 o i ho
    · have ek : X 66 k = F 66 k := by rw [h1 k (by omega), if_neg (by omega)]
      show fX1_require_b7 (n + 1) 63 h (t : Int) (k : Int) X = _
      rw [fX1_require_b7, if_neg (by omega), h2 63 4 (by omega), hN, if_neg (by omega), a66]
      have bk : (0 : Int) ≤ (k : Int) ∧ (k : Int) < ((336 : Nat) : Int) := by omega
      simp only [if_pos bk, Int.toNat_natCast, Nat.reduceAdd, ek]
      rw [xwS (by omega)]
      unfold mad
      by_cases q1 : F 66 k = -1
      · rw [if_pos q1, if_pos (Or.inl q1)]
      · rw [if_neg q1]
        by_cases q2 : F 66 k = h
        · rw [if_neg (by omega), if_pos (Or.inr q2)]
        · rw [if_pos q2, if_neg (by omega)]
  · rintro n X ⟨h0, h1, h2⟩
    generalize hM : (if t < N then (if t < f then f else t) else if N < f then f else N) = M at *
    refine ⟨X, ?_, fun s hs => ?_, h2⟩
    · show fX1_require_b7 (n + 1) 63 h (t : Int) (M : Int) X = _
      rw [fX1_require_b7, h2 63 4 (by omega), hN]
      by_cases q : (t : Int) ≤ (M : Int)
      · rw [if_pos q]
      · rw [if_neg q, if_pos]
        split at hM <;> (split at hM <;> omega)
    · rw [h1 s hs]
      by_cases z : f ≤ s ∧ s < t
      · rw [if_pos z, if_pos]
        split at hM <;> (split at hM <;> omega)
      · rw [if_neg z, if_neg (by omega)]
  · split <;> split <;> omega
  · show _ < 100000 + f
    split <;> split <;> omega
/-! gains -/
def rtM (v : Nat → Int) (c m : Int) (h : Nat) : Int := if v (8 + 4 * h + 1) = 0 ∨ xand (xshr m (h : Int)) 1 = 1 then 0 else rt v c h
/-- what is gained at h in slot x of a day, if it held it -/
def ghD (v : Nat → Int) (c m : Int) (x h : Nat) : Int := if v (8 + 4 * h + 1) ≠ 3 ∨ (v 2 ≤ (x : Int) ∧ (x : Int) < v 3) then rtM v c m h else 0
def gnD (v hd : Nat → Int) (day : Nat) (c m : Int) (s h : Nat) : Int := if hd (48 * ((day + s / (v 0).toNat) % 7) + s % (v 0).toNat) = -1 ∨ hd (48 * ((day + s / (v 0).toNat) % 7) + s % (v 0).toNat) = (h : Int) then ghD v c m (s % (v 0).toNat) h else 0
theorem rtM_bd (hO : VO v) (c m : Int) {h : Nat} (hh : (h : Int) < v 5) : 0 ≤ rtM v c m h ∧ rtM v c m h ≤ 9 := by
  have := rt_bd hO c hh
  unfold rtM
  split <;> omega
theorem ghD_bd (hO : VO v) (c m : Int) (x : Nat) {h : Nat} (hh : (h : Int) < v 5) : 0 ≤ ghD v c m x h ∧ ghD v c m x h ≤ 9 := by
  have := rtM_bd hO c m hh
  unfold ghD
  split <;> omega
theorem gnD_bd (hO : VO v) (hd : Nat → Int) (day : Nat) (c m : Int) (s : Nat) {h : Nat} (hh : (h : Int) < v 5) : 0 ≤ gnD v hd day c m s h ∧ gnD v hd day c m s h ≤ 9 := by
  have := ghD_bd hO c m (s % (v 0).toNat) hh
  unfold gnD
  split <;> omega
theorem x_gainIfHeld (hP : PVa v V F) {c m : Int} (hr : ∀ h : Nat, (h : Int) < v 5 → F 64 h = rtM v c m h) {x h : Nat} (hh : (h : Int) < v 5) : fX1_gainIfHeld 63 (x : Int) (h : Int) F = some (ghD v c m x h) := by
  have b5 := hP.2.2.2.2.2.2.2.1
  unfold fX1_gainIfHeld
  have bh : (0 : Int) ≤ (h : Int) ∧ (h : Int) < ((8 : Nat) : Int) := by omega
  rw [pv_n hP, if_neg hP.2.1, v_cell hP.2.2.2.1 hP.2.2.2.2 (i := 1) (y := 1) hh (by omega) rfl, Option.bind_some, if_neg hP.2.1, v_sees hP.2.2.2.1, i10, a64, if_pos bh, Int.toNat_natCast, show (63 + 1 : Nat) = 64 from rfl, hr h hh]
  unfold ghD
  split <;> rfl
theorem x_mayW {hd : Nat → Int} (hH : ∀ x, x < 336 → F 50 x = hd x) {d x : Nat} (hdd : d < 7) (hx : x < 48) (h : Int) : fX0_mayWork 48 (d : Int) (x : Int) h F = some (if hd (48 * d + x) = -1 ∨ hd (48 * d + x) = h then 1 else 0) := by
  unfold fX0_mayWork
  rw [xwn (x := (d : Int) * 48) (by omega) (by omega), xwn (x := (d : Int) * 48 + x) (by omega) (by omega), show alen (48 + 2) = 336 from rfl, if_pos (by omega), show ((d : Int) * 48 + (x : Int)).toNat = 48 * d + x by omega, show (48 + 2 : Nat) = 50 from rfl, hH _ (by omega)]
  by_cases q : hd (48 * d + x) = -1
  · rw [if_pos q, if_pos (Or.inl q)]
  · rw [if_neg q]
    by_cases q2 : hd (48 * d + x) = h
    · rw [if_neg (by omega), if_pos (Or.inr q2)]
    · rw [if_pos q2, if_neg (by omega)]
/-- what a plan is asked over: valley, claims, first day, days -/
def PO (v hd : Nat → Int) (V day days : Nat) (F : Mem) : Prop := PVa v V F ∧ F 63 1 = 48 ∧ F 63 2 = (day : Int) ∧ F 63 3 = (days : Int) ∧ F 63 4 = ((days * (v 0).toNat : Nat) : Int) ∧ (day < 7 ∧ 1 ≤ days ∧ days ≤ 7) ∧ ∀ x, x < 336 → F 50 x = hd x
theorem PO.mono {hd : Nat → Int} {day days : Nat} {G : Mem} (h : PO v hd V day days F) (hG : ∀ o k, o ≤ 63 → G o k = F o k) : PO v hd V day days G := by
  obtain ⟨h1, h2, h3, h4, h5, h6, h7⟩ := h
  exact ⟨h1.mono (fun o k ho => hG o k (by omega)), (hG _ _ (by omega)).trans h2, (hG _ _ (by omega)).trans h3, (hG _ _ (by omega)).trans h4, (hG _ _ (by omega)).trans h5, h6, fun x hx => (hG _ _ (by omega)).trans (h7 x hx)⟩
theorem po_N {hd : Nat → Int} {day days : Nat} (h : PO v hd V day days F) : days * (v 0).toNat ≤ 336 := by
  have b0 := h.1.2.2.2.2.1
  have hd7 := h.2.2.2.2.2.1
  have h1 : days * (v 0).toNat ≤ days * 48 := Nat.mul_le_mul_left _ (by omega)
  omega
end PLF
