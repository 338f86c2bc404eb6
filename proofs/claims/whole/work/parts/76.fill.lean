section PLH
variable {v : Nat → Int} {V : Nat} {F : Mem}
/-- the musts of a slot of the day, the first k told -/
def muK (v : Nat → Int) (x : Int) : Nat → Int
  | 0 => -1
  | k + 1 => if v (40 + 3 * k + 1) ≤ x ∧ x < v (40 + 3 * k + 2) then mad (muK v x k) (v (40 + 3 * k)) else muK v x k
def muD (v : Nat → Int) (s : Nat) : Int := muK v ((s % (v 0).toNat : Nat) : Int) (v 6).toNat
theorem dayIn {n i s b : Nat} (hb : i * n = b) (h1 : b ≤ s) (h2 : s < b + n) : s % n = s - b ∧ s / n = i := by
  obtain ⟨x, rfl⟩ : ∃ x, s = b + x := ⟨s - b, by omega⟩
  have hx : x < n := by omega
  rw [← hb, Nat.mul_comm, Nat.mul_add_mod, Nat.mod_eq_of_lt hx, Nat.mul_add_div (by omega), Nat.div_eq_of_lt hx]
  exact ⟨by omega, rfl⟩
theorem cast_mul {i : Nat} {w : Int} (hw : 0 ≤ w) : (i : Int) * w = ((i * w.toNat : Nat) : Int) := by
  rw [Int.natCast_mul, show ((w.toNat : Nat) : Int) = w by omega]
theorem xwN {a : Nat} (h : a < 2147483648) : xw (a : Int) = (a : Int) := xwn (by omega) (by omega)
/-- the musts of one day -/
theorem x_musts {hd : Nat → Int} {day days : Nat} (hP : PO v hd V day days F) (k90 : Nat → Int → Mem → Option Mem) {i : Nat} (hi : i < days) (post : Option Mem → Prop)
    (go : ∀ G : Mem, (∀ o j, o ≠ 66 → G o j = F o j) → (∀ s, s < days * (v 0).toNat → G 66 s = if i * (v 0).toNat ≤ s ∧ s < i * (v 0).toNat + (v 0).toNat then muD v s else F 66 s) → post (fX1_fill_b185 k90 FU 63 (i : Int) 0 G))
    (h0 : ∀ s, i * (v 0).toNat ≤ s → s < i * (v 0).toNat + (v 0).toNat → F 66 s = -1) : post (fX1_fill_b101 k90 FU 63 (i : Int) 0 F) := by
  obtain ⟨h1, h2, h3, h4, h5, h6, h7⟩ := id hP
  have hO := h1.2.2.2.2
  have b0 := hO.1
  have b6 := hO.2.2.2.2.1
  have hN := po_N hP
  have hin : i * (v 0).toNat + (v 0).toNat ≤ days * (v 0).toNat := by
    have : (i + 1) * (v 0).toNat ≤ days * (v 0).toNat := Nat.mul_le_mul_right _ (by omega)
    rw [Nat.add_mul, Nat.one_mul] at this
    exact this
  have ec := cast_mul (i := i) (show 0 ≤ v 0 by omega)
  have dm : ∀ s, i * (v 0).toNat ≤ s → s < i * (v 0).toNat + (v 0).toNat → s % (v 0).toNat = s - i * (v 0).toNat := fun s q1 q2 => (dayIn rfl q1 q2).1
  generalize hb : i * (v 0).toNat = b at *
  generalize hNN : days * (v 0).toNat = N at *
  clear hb hNN
  refine lp (fun n k (X : Mem) => fX1_fill_b101 k90 n 63 (i : Int) (k : Int) X) (v 6).toNat (fun k X => (∀ o j, o ≠ 66 → X o j = F o j) ∧ ∀ s, s < N → X 66 s = if b ≤ s ∧ s < b + (v 0).toNat then muK v ((s - b : Nat) : Int) k else F 66 s) post ?_ ?_ FU 0 F (by omega) ⟨fun _ _ _ => rfl, fun s hs => ?_⟩ (FU_gt (by omega))
  · rintro n k X hk ⟨g1, g2⟩
    left
    have hk6 : (k : Int) < v 6 := by omega
    have hPX : PVa v V X := h1.mono (fun o j ho => g1 o j (by omega))
    have hm := hO.2.2.2.2.2.2 k hk6
    obtain ⟨f, ef⟩ := nat_of (show 0 ≤ v (40 + 3 * k + 1) by omega)
    obtain ⟨t, et⟩ := nat_of (show 0 ≤ v (40 + 3 * k + 2) by omega)
    obtain ⟨G, r1, r2, r3⟩ := x_require (F := X) (N := N) ((g1 63 4 (by omega)).trans h5) hN (h := v (40 + 3 * k)) (f := b + f) (t := b + t) (by omega) (by omega)
    refine ⟨G, ⟨fun o j ho => (r3 o j ho).trans (g1 o j ho), fun s hs => ?_⟩, ?_⟩
    · rw [r2 s hs, g2 s hs]
      by_cases q : b ≤ s ∧ s < b + (v 0).toNat
      · rw [if_pos q, if_pos q]
        show _ = if v (40 + 3 * k + 1) ≤ ((s - b : Nat) : Int) ∧ ((s - b : Nat) : Int) < v (40 + 3 * k + 2) then mad (muK v ((s - b : Nat) : Int) k) (v (40 + 3 * k)) else muK v ((s - b : Nat) : Int) k
        by_cases q2 : b + f ≤ s ∧ s < b + t
        · rw [if_pos q2, if_pos (by omega)]
        · rw [if_neg q2, if_neg (by omega)]
      · rw [if_neg q, if_neg q, if_neg (by omega)]
    · have n6 : ¬ v 6 ≤ (k : Int) := by omega
      have hb1 : b < 2147483648 := by omega
      have hb2 : b + f < 2147483648 := by omega
      have hb3 : b + t < 2147483648 := by omega
      have hk1 : k < 2147483647 := by omega
      have c0 := v_must0 hPX.2.2.2.1 hO hk6
      have c1 := v_must hPX.2.2.2.1 hO (i := 1) (y := 1) hk6 (by omega) rfl
      have c2 := v_must hPX.2.2.2.1 hO (i := 2) (y := 2) hk6 (by omega) rfl
      show fX1_fill_b101 k90 (n + 1) 63 (i : Int) (k : Int) X = _
      rw [fX1_fill_b101, pv_n hPX, if_neg h1.2.1, pv_6 hPX, if_neg n6, if_neg h1.2.1, if_neg h1.2.1, c0, Option.bind_some, if_neg h1.2.1, c1, Option.bind_some, if_neg h1.2.1, c2, Option.bind_some, pv_0 hPX, ec, xwN hb1, ef, et, xwA hb2, xwA hb3, r1, Option.bind_some, xwS hk1]
  · rintro n X ⟨g1, g2⟩
    have hPX : PVa v V X := h1.mono (fun o j ho => g1 o j (by omega))
    have n6 : v 6 ≤ (((v 6).toNat : Nat) : Int) := by omega
    show post (fX1_fill_b101 k90 (n + 1) 63 (i : Int) (((v 6).toNat : Nat) : Int) X)
    rw [fX1_fill_b101, pv_n hPX, if_neg h1.2.1, pv_6 hPX, if_pos n6]
    refine go X g1 (fun s hs => ?_)
    rw [g2 s hs]
    by_cases q : b ≤ s ∧ s < b + (v 0).toNat
    · rw [if_pos q, if_pos q]
      unfold muD
      rw [dm s q.1 q.2]
    · rw [if_neg q, if_neg q]
  · by_cases q : b ≤ s ∧ s < b + (v 0).toNat
    · rw [if_pos q, h0 s q.1 q.2]; rfl
    · rw [if_neg q]
/-- the gains of one day -/
theorem x_gains {hd : Nat → Int} {day days : Nat} (hP : PO v hd V day days F) {c m : Int} (hr : ∀ h : Nat, (h : Int) < v 5 → F 64 h = rtM v c m h) (k90 : Nat → Int → Mem → Option Mem) {i : Nat} (hi : i < days) :
    ∃ G : Mem, (∀ o j, o ≠ 65 → G o j = F o j) ∧ (∀ s h : Nat, (h : Int) < v 5 → (i * (v 0).toNat ≤ s ∧ s < i * (v 0).toNat + (v 0).toNat) → G 65 (8 * s + h) = gnD v hd day c m s h) ∧ (∀ s h : Nat, h < 8 → s < i * (v 0).toNat → G 65 (8 * s + h) = F 65 (8 * s + h)) ∧ fX1_fill_b185 k90 FU 63 (i : Int) 0 F = k90 63 ((i + 1 : Nat) : Int) G := by
  obtain ⟨h1, h2, h3, h4, h5, h6, h7⟩ := id hP
  have hO := h1.2.2.2.2
  have b0 := hO.1
  have b5 := hO.2.2.2.1
  have fs := fun (X : Mem) (hX : PO v hd V day days X) (hrX : ∀ h : Nat, (h : Int) < v 5 → X 64 h = rtM v c m h) (x : Nat) (hx : (x : Int) < v 0) => x_fillSlot hX hrX (i := i) hi hx
  generalize hb : i * (v 0).toNat = b at *
  clear hb
  refine lp (fun n k (X : Mem) => fX1_fill_b185 k90 n 63 (i : Int) (k : Int) X) (v 0).toNat (fun k X => (∀ o j, o ≠ 65 → X o j = F o j) ∧ (∀ s h : Nat, (h : Int) < v 5 → (b ≤ s ∧ s < b + k) → X 65 (8 * s + h) = gnD v hd day c m s h) ∧ (∀ s h : Nat, h < 8 → s < b → X 65 (8 * s + h) = F 65 (8 * s + h)))
    (fun r => ∃ G : Mem, (∀ o j, o ≠ 65 → G o j = F o j) ∧ (∀ s h : Nat, (h : Int) < v 5 → (b ≤ s ∧ s < b + (v 0).toNat) → G 65 (8 * s + h) = gnD v hd day c m s h) ∧ (∀ s h : Nat, h < 8 → s < b → G 65 (8 * s + h) = F 65 (8 * s + h)) ∧ r = k90 63 ((i + 1 : Nat) : Int) G) ?_ ?_ FU 0 F (by omega) ⟨fun _ _ _ => rfl, fun s h _ h => by omega, fun _ _ _ _ => rfl⟩ (FU_gt (by omega))
  · rintro n k X hk ⟨g1, g2, g3⟩
    left
    have hPX : PO v hd V day days X := hP.mono (fun o j ho => g1 o j (by omega))
    have hrX : ∀ h : Nat, (h : Int) < v 5 → X 64 h = rtM v c m h := fun h hh => (g1 64 h (by omega)).trans (hr h hh)
    obtain ⟨G, r1, r2, r3⟩ := fs X hPX hrX k (by omega)
    refine ⟨G, ⟨fun o j ho => (r3 o j (by omega)).trans (g1 o j ho), fun s h hh hs => ?_, fun s h hh hs => ?_⟩, ?_⟩
    · by_cases y : s = b + k
      · subst y; exact r2 h hh
      · rw [r3 _ _ (by omega)]; exact g2 s h hh (by omega)
    · rw [r3 _ _ (by omega)]; exact g3 s h hh hs
    · have n0 : ¬ v 0 ≤ (k : Int) := by omega
      have hk1 : k < 2147483647 := by omega
      show fX1_fill_b185 k90 (n + 1) 63 (i : Int) (k : Int) X = _
      rw [fX1_fill_b185, pv_n hPX.1, if_neg h1.2.1, pv_0 hPX.1, if_neg n0, r1, Option.bind_some, xwS hk1]
  · rintro n X ⟨g1, g2, g3⟩
    have hPX : PO v hd V day days X := hP.mono (fun o j ho => g1 o j (by omega))
    have n0 : v 0 ≤ (((v 0).toNat : Nat) : Int) := by omega
    have hk1 : i < 2147483647 := by omega
    refine ⟨X, g1, g2, g3, ?_⟩
    show fX1_fill_b185 k90 (n + 1) 63 (i : Int) (((v 0).toNat : Nat) : Int) X = _
    rw [fX1_fill_b185, pv_n hPX.1, if_neg h1.2.1, pv_0 hPX.1, if_pos n0, xwS hk1]
/-- a plan laid out -/
def PLd (v hd : Nat → Int) (V day days : Nat) (c m : Int) (F : Mem) : Prop := PO v hd V day days F ∧ (∀ h : Nat, (h : Int) < v 5 → F 64 h = rtM v c m h) ∧ (∀ s h : Nat, s < days * (v 0).toNat → (h : Int) < v 5 → F 65 (8 * s + h) = gnD v hd day c m s h) ∧ (∀ s, s < days * (v 0).toNat → F 66 s = muD v s) ∧
  (∀ a b : Nat, (a : Int) < v 5 → (b : Int) < v 5 → F 68 (8 * a + b) = stp v a b ∧ F 69 (8 * a + b) = slt v (v 1) a b)
/-- the cells that laying out writes -/
def isPL (o : Nat) : Prop := o = 64 ∨ o = 65 ∨ o = 66 ∨ o = 68 ∨ o = 69
theorem x_fill {hd : Nat → Int} {day days : Nat} (hP : PO v hd V day days F) (c m : Int) : ∃ F', fX1_fill 63 c m F = some F' ∧ PLd v hd V day days c m F' ∧ (∀ o k, ¬ isPL o → F' o k = F o k) := by
  obtain ⟨h1, h2, h3, h4, h5, h6, h7⟩ := id hP
  have hO := h1.2.2.2.2
  have b0 := hO.1
  have b1 := hO.2.1
  have b5 := hO.2.2.2.1
  have hN := po_N hP
  unfold fX1_fill
  obtain ⟨G1, p1, p2, p3⟩ := x_setPace h1 b1.1 b1.2
  rw [pv_n h1, if_neg h1.2.1, pv_1 h1, p1, Option.bind_some]
  have hP1 : PO v hd V day days G1 := hP.mono (fun o k ho => p3 o k (by omega) (by omega))
  obtain ⟨G2, q1, q2, q3⟩ := x_dropMusts (F := G1) hP1.2.2.2.2.1 hN
  rw [q1, Option.bind_some]
  have hP2 : PO v hd V day days G2 := hP1.mono (fun o k ho => q3 o k (by omega))
  -- the days
  have D : ∀ G : Mem, (∀ o k, o ≠ 64 → G o k = G2 o k) → (∀ h : Nat, (h : Int) < v 5 → G 64 h = rtM v c m h) → ∃ F', fX1_fill_b90 FU 63 0 G = some F' ∧ PLd v hd V day days c m F' ∧ (∀ o k, ¬ isPL o → F' o k = F o k) := by
    intro G e1 e2
    have hPG : PO v hd V day days G := hP2.mono (fun o k ho => e1 o k (by omega))
    refine lp (fun n i (X : Mem) => fX1_fill_b90 n 63 (i : Int) X) days (fun i X => (∀ o k, o ≠ 65 → o ≠ 66 → X o k = G o k) ∧ (∀ s h : Nat, s < i * (v 0).toNat → (h : Int) < v 5 → X 65 (8 * s + h) = gnD v hd day c m s h) ∧ (∀ s, s < days * (v 0).toNat → X 66 s = if s < i * (v 0).toNat then muD v s else -1))
      (fun r => ∃ F', r = some F' ∧ PLd v hd V day days c m F' ∧ (∀ o k, ¬ isPL o → F' o k = F o k)) ?_ ?_ FU 0 G (Nat.zero_le _) ⟨fun _ _ _ _ => rfl, fun s h hs => by rw [Nat.zero_mul] at hs; omega, fun s hs => ?_⟩ (FU_gt (by omega))
    · rintro n i X hi ⟨g1, g2, g3⟩
      left
      have hPX : PO v hd V day days X := hPG.mono (fun o j ho => g1 o j (by omega) (by omega))
      have n3 : ¬ ((days : Nat) : Int) ≤ (i : Int) := by omega
      have E : fX1_fill_b90 (n + 1) 63 (i : Int) X = fX1_fill_b101 (fX1_fill_b90 n) FU 63 (i : Int) 0 X := by
        rw [fX1_fill_b90, hPX.2.2.2.1, if_neg n3]
      show ∃ s', _ ∧ fX1_fill_b90 (n + 1) 63 (i : Int) X = fX1_fill_b90 n 63 ((i + 1 : Nat) : Int) s'
      rw [E]
      have hs1 : (i + 1) * (v 0).toNat = i * (v 0).toNat + (v 0).toNat := by rw [Nat.add_mul, Nat.one_mul]
      have hin : (i + 1) * (v 0).toNat ≤ days * (v 0).toNat := Nat.mul_le_mul_right _ (by omega)
      refine x_musts hPX (fX1_fill_b90 n) hi (fun r => ∃ s' : Mem, ((∀ o k, o ≠ 65 → o ≠ 66 → s' o k = G o k) ∧ (∀ s h : Nat, s < (i + 1) * (v 0).toNat → (h : Int) < v 5 → s' 65 (8 * s + h) = gnD v hd day c m s h) ∧ (∀ s, s < days * (v 0).toNat → s' 66 s = if s < (i + 1) * (v 0).toNat then muD v s else -1)) ∧ r = fX1_fill_b90 n 63 ((i + 1 : Nat) : Int) s') (fun Y y1 y2 => ?_) (fun s z1 z2 => ?_)
      · have hPY : PO v hd V day days Y := hPX.mono (fun o j ho => y1 o j (by omega))
        obtain ⟨Z, w1, w2, w3, w4⟩ := x_gains hPY (c := c) (m := m) (fun h hh => (y1 64 h (by omega)).trans ((g1 64 h (by omega) (by omega)).trans (e2 h hh))) (fX1_fill_b90 n) hi
        refine ⟨Z, ⟨fun o k o1 o2 => (w1 o k o1).trans ((y1 o k o2).trans (g1 o k o1 o2)), fun s h hs hh => ?_, fun s hs => ?_⟩, w4⟩
        · by_cases y : s < i * (v 0).toNat
          · rw [w3 s h (by omega) y, y1 _ _ (by omega)]
            exact g2 s h y hh
          · exact w2 s h hh (by omega)
        · rw [w1 _ _ (by omega), y2 s hs, g3 s hs]
          by_cases y : i * (v 0).toNat ≤ s ∧ s < i * (v 0).toNat + (v 0).toNat
          · rw [if_pos y, if_pos (by omega)]
          · rw [if_neg y]
            by_cases y2 : s < i * (v 0).toNat
            · rw [if_pos y2, if_pos (by omega)]
            · rw [if_neg y2, if_neg (by omega)]
      · rw [g3 s (by omega), if_neg (by omega)]
    · rintro n X ⟨g1, g2, g3⟩
      have hPX : PO v hd V day days X := hPG.mono (fun o j ho => g1 o j (by omega) (by omega))
      have n3 : ((days : Nat) : Int) ≤ ((days : Nat) : Int) := Int.le_refl _
      refine ⟨X, ?_, ⟨hPX, fun h hh => (g1 64 h (by omega) (by omega)).trans (e2 h hh), g2, fun s hs => by rw [g3 s hs, if_pos hs], fun a b ha hb => ?_⟩, fun o k ho => ?_⟩
      · show fX1_fill_b90 (n + 1) 63 ((days : Nat) : Int) X = _
        rw [fX1_fill_b90, hPX.2.2.2.1, if_pos n3]
      · rw [g1 _ _ (by omega) (by omega), g1 _ _ (by omega) (by omega), e1 _ _ (by omega), e1 _ _ (by omega), q3 _ _ (by omega), q3 _ _ (by omega)]
        exact p2 a b ha hb
      · unfold isPL at ho
        rw [g1 o k (by omega) (by omega), e1 o k (by omega), q3 o k (by omega), p3 o k (by omega) (by omega)]
    · rw [if_neg (by rw [Nat.zero_mul]; omega), e1 _ _ (by omega)]
      exact q2 s hs
  -- the rates
  refine lp (fun n h (X : Mem) => fX1_fill_b17 n 63 c m (h : Int) X) (v 5).toNat (fun h X => (∀ o k, o ≠ 64 → X o k = G2 o k) ∧ ∀ j : Nat, j < h → X 64 j = rtM v c m j) (fun r => ∃ F', r = some F' ∧ PLd v hd V day days c m F' ∧ (∀ o k, ¬ isPL o → F' o k = F o k)) ?_ ?_ FU 0 G2 (by omega) ⟨fun _ _ _ => rfl, fun j hj => absurd hj (by omega)⟩ (FU_gt (by omega))
  · rintro n h X hh ⟨g1, g2⟩
    left
    have hh5 : (h : Int) < v 5 := by omega
    have hPX : PVa v V X := hP2.1.mono (fun o j ho => g1 o j (by omega))
    have n5 : ¬ v 5 ≤ (h : Int) := by omega
    have bh : (0 : Int) ≤ (h : Int) ∧ (h : Int) < ((8 : Nat) : Int) := by omega
    have hk1 : h < 2147483647 := by omega
    refine ⟨mset X 64 h (rtM v c m h), ⟨fun o j ho => ?_, fun j hj => ?_⟩, ?_⟩
    · rw [mset_ne _ _ (by omega)]; exact g1 o j ho
    · by_cases y : j = h
      · subst y; rw [mset_eq]
      · rw [mset_ne _ _ (by omega)]; exact g2 j (by omega)
    · show fX1_fill_b17 (n + 1) 63 c m (h : Int) X = fX1_fill_b17 n 63 c m ((h + 1 : Nat) : Int) _
      rw [fX1_fill_b17, pv_n hPX, if_neg h1.2.1, pv_5 hPX, if_neg n5, if_neg h1.2.1, v_touch hPX.2.2.2.1 hO hh5, Option.bind_some]
      have z0 : fX1_fill_b56 (fX1_fill_b17 n) 63 c m (h : Int) 1 X = fX1_fill_b17 n 63 c m ((h + 1 : Nat) : Int) (mset X 64 h 0) := by
        unfold fX1_fill_b56
        rw [if_neg (by decide), a64, if_pos bh, Int.toNat_natCast, xwS hk1]
      have z1 : fX1_fill_b56 (fX1_fill_b17 n) 63 c m (h : Int) 0 X = fX1_fill_b17 n 63 c m ((h + 1 : Nat) : Int) (mset X 64 h (rt v c h)) := by
        unfold fX1_fill_b56
        rw [if_pos rfl, pv_n hPX, if_neg h1.2.1, v_rate hPX.2.2.2.1 hO c hh5, Option.bind_some, a64, if_pos bh, Int.toNat_natCast, xwS hk1]
      rw [z0, z1]
      unfold rtM
      by_cases y1 : v (8 + 4 * h + 1) = 0
      · rw [if_pos y1, if_pos (by decide), if_pos (Or.inl y1)]
      · rw [if_neg y1, if_neg (by decide)]
        by_cases y2 : xand (xshr m (h : Int)) 1 = 1
        · rw [if_neg (fun z => z y2), if_pos (Or.inr y2)]
        · rw [if_pos y2, if_neg (fun z => z.elim y1 y2)]
  · rintro n X ⟨g1, g2⟩
    have hPX : PVa v V X := hP2.1.mono (fun o j ho => g1 o j (by omega))
    have n5 : v 5 ≤ (((v 5).toNat : Nat) : Int) := by omega
    show ∃ F', fX1_fill_b17 (n + 1) 63 c m (((v 5).toNat : Nat) : Int) X = some F' ∧ _
    rw [fX1_fill_b17, pv_n hPX, if_neg h1.2.1, pv_5 hPX, if_pos n5]
    exact D X g1 (fun h hh => g2 h (by omega))
end PLH
