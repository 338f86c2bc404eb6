/-! ===== the reference's plan, solved ===== -/
theorem al183 : alen (173 + 10) = 2696 := rfl
theorem al184 : alen (173 + 11) = 2696 := rfl
/-- a score out of GAIN and CLIMB -/
def sco (g c : Int) : Int := if g < 0 then BD else 65536 * g - c
def dcd (F : Mem) (s h : Nat) : Int := sco (F 183 (8 * s + h)) (F 184 (8 * s + h))
/-- GAIN and CLIMB k slots ahead of the end -/
def cok (k : Nat) (g c : Int) : Prop := (g = -1000000 ∧ c = 0) ∨ ((0 ≤ g ∧ g ≤ 9 * (k : Int)) ∧ (0 ≤ c ∧ c ≤ 99 * (k : Int)))
theorem sco_bd {k : Nat} {g c : Int} (h : cok k g c) : sbd k (sco g c) := by
  unfold sco sbd
  rcases h with ⟨h1, h2⟩ | ⟨h1, h2⟩
  · left; rw [if_pos (by omega)]
  · right; rw [if_neg (by omega)]; omega
theorem sco_gof {k : Nat} {g c : Int} (hk : k ≤ 336) (h : cok k g c) : (sco g c = BD → g = -1000000) ∧ (sco g c ≠ BD → 0 ≤ g ∧ gof (sco g c) = g ∧ c = g * 65536 - sco g c) := by
  unfold sco
  rcases h with ⟨h1, h2⟩ | ⟨h1, h2⟩
  · rw [if_pos (by omega)]
    exact ⟨fun _ => h1, fun z => absurd rfl z⟩
  · rw [if_neg (by omega)]
    refine ⟨fun z => ?_, fun _ => ⟨h1.1, gof_of h2.1 (by omega) h1.1, by omega⟩⟩
    have z : 65536 * g - c = -1000000000 := z
    omega
/-- better is a greater score -/
theorem sco_lt {k j : Nat} {g c g' c' : Int} (hk : k ≤ 336) (hj : j ≤ 336) (h : cok k g c) (h0 : 0 ≤ g') (hc : 0 ≤ c' ∧ c' ≤ 99 * (j : Int)) : (g < g' ∨ (g' = g ∧ c' < c)) ↔ sco g c < 65536 * g' - c' := by
  unfold sco
  rcases h with ⟨h1, h2⟩ | ⟨h1, h2⟩
  · rw [if_pos (by omega)]
    constructor
    · intro _; show (-1000000000 : Int) < _; omega
    · intro _; left; omega
  · rw [if_neg (by omega)]
    constructor
    · rintro (z | ⟨z1, z2⟩) <;> omega
    · intro z
      by_cases q : g < g'
      · exact Or.inl q
      · right; omega
section RFS
variable {I : Ins} {v : Nat → Int} {F : Mem}
def PIm (I : Ins) (v : Nat → Int) (F : Mem) : Prop := MV v F ∧ VO v ∧ QO F ∧ v 5 = (iH I : Int) ∧ WF I ∧ (∀ a b, a < iH I → b < iH I → iT I a b ≤ 99) ∧ (1 ≤ mpc v F ∧ mpc v F ≤ 99) ∧ (∀ s, s < iN I → mMu v F s = iM I s) ∧ (∀ s h, s < iN I → h < iH I → mGn v F s h = iG I s h) ∧ (∀ a b, a < iH I → b < iH I → stp v a b = iS I a b ∧ slt v (mpc v F) a b = (iT I a b : Int))
theorem PIm.mono {G : Mem} (h : PIm I v F) (hG : sameQ F G) : PIm I v G := by
  obtain ⟨h1, h2, h3, h4, h5, h6, h7, h8, h9, h10⟩ := h
  refine ⟨sq_MV hG h1, h2, sq_QO hG h3, h4, h5, h6, by rw [sq_pc hG]; exact h7, fun s hs => (sq_mu hG s).trans (h8 s hs), fun s k hs hk => (sq_gn hG s k).trans (h9 s k hs hk), fun a b ha hb => ?_⟩
  rw [sq_pc hG]
  exact h10 a b ha hb
theorem pim_T (hP : PIm I v F) {a b : Nat} (ha : a < iH I) (hb : b < iH I) : fX10_slotsOf 173 (a : Int) (b : Int) F = some (iT I a b : Int) := by
  obtain ⟨h1, h2, h3, h4, h5, h6, h7, h8, h9, h10⟩ := hP
  rw [m_slots h1 h2 rfl h7.1 h7.2 (show (a : Int) < v 5 by omega) (show (b : Int) < v 5 by omega), (h10 a b ha hb).2]
theorem pim_S (hP : PIm I v F) {a b : Nat} (ha : a < iH I) (hb : b < iH I) : fX10_steps 173 (a : Int) (b : Int) F = some (iS I a b) := by
  obtain ⟨h1, h2, h3, h4, h5, h6, h7, h8, h9, h10⟩ := hP
  rw [m_steps h1 h2 (show (a : Int) < v 5 by omega) (show (b : Int) < v 5 by omega), (h10 a b ha hb).1]
theorem pim_M (hP : PIm I v F) {s : Nat} (hs : s < iN I) : fX10_mustIn 173 (s : Int) F = some (iM I s) := by
  obtain ⟨h1, h2, h3, h4, h5, h6, h7, h8, h9, h10⟩ := hP
  have hN := h5.1.1
  rw [m_mustIn h1 h2 h3 (show s ≤ 1000 by omega), h8 s hs]
theorem pim_G (hP : PIm I v F) {s h : Nat} (hs : s < iN I) (hh : h < iH I) : fX10_gainIn 173 (h : Int) (s : Int) F = some (iG I s h) := by
  obtain ⟨h1, h2, h3, h4, h5, h6, h7, h8, h9, h10⟩ := hP
  have hN := h5.1.1
  rw [m_gainIn h1 h2 h3 (show s ≤ 1000 by omega) (show (h : Int) < v 5 by omega), h9 s h hs hh]
theorem pim_5 (hP : PIm I v F) : fX10_of 173 5 F = some (iH I : Int) := by
  rw [m_of hP.1 (i := 5) (x := 5) rfl (by omega), hP.2.2.2.1]
theorem m_free (hP : PIm I v F) {s t : Nat} (hst : s ≤ t) (ht : t ≤ iN I) : fX10_areFreeOfMusts 173 (s : Int) (t : Int) F = some (if t ≤ s + fre I s then 1 else 0) := by
  have hN := hP.2.2.2.2.1.1.1
  have hiff := fre_iff (I := I) (s := s) (t := t) (by omega) hst
  unfold fX10_areFreeOfMusts
  refine lp (fun n k x => fX10_areFreeOfMusts_b5 F n 173 (t : Int) x (k : Int)) t (fun k x => s ≤ k ∧ ((x = 1 ∧ ∀ r, s ≤ r → r < k → iM I r = -1) ∨ (x = 0 ∧ ¬ t ≤ s + fre I s))) (fun r => r = some (if t ≤ s + fre I s then 1 else 0)) ?_ ?_ FU s 1 hst ⟨Nat.le_refl _, Or.inl ⟨rfl, fun r r1 r2 => by omega⟩⟩ (show t < 100000 + s by omega)
  · rintro n k x hk ⟨h0, hx⟩
    left
    have nt : ¬ (t : Int) ≤ (k : Int) := by omega
    have hk1 : k < 2147483647 := by omega
    have hm := pim_M hP (s := k) (by omega)
    rcases hx with ⟨rfl, hx⟩ | ⟨rfl, hx⟩
    · by_cases q : iM I k = -1
      · refine ⟨1, ⟨by omega, Or.inl ⟨rfl, fun r r1 r2 => ?_⟩⟩, ?_⟩
        · by_cases y : r = k
          · rw [y]; exact q
          · exact hx r r1 (by omega)
        · show fX10_areFreeOfMusts_b5 F (n + 1) 173 (t : Int) 1 (k : Int) = _
          rw [fX10_areFreeOfMusts_b5, if_neg nt, if_neg (by decide), hm, Option.bind_some, if_neg (fun z => z q), xwS hk1]
      · refine ⟨0, ⟨by omega, Or.inr ⟨rfl, fun z => q ((hiff.mp z).2 k h0 hk)⟩⟩, ?_⟩
        show fX10_areFreeOfMusts_b5 F (n + 1) 173 (t : Int) 1 (k : Int) = _
        rw [fX10_areFreeOfMusts_b5, if_neg nt, if_neg (by decide), hm, Option.bind_some, if_pos q, xwS hk1]
    · refine ⟨0, ⟨by omega, Or.inr ⟨rfl, hx⟩⟩, ?_⟩
      show fX10_areFreeOfMusts_b5 F (n + 1) 173 (t : Int) 0 (k : Int) = _
      rw [fX10_areFreeOfMusts_b5, if_neg nt, if_pos rfl, xwS hk1]
  · rintro n x ⟨h0, hx⟩
    show fX10_areFreeOfMusts_b5 F (n + 1) 173 (t : Int) x (t : Int) = _
    rcases hx with ⟨rfl, hx⟩ | ⟨rfl, hx⟩
    · rw [fX10_areFreeOfMusts_b5, if_pos (Int.le_refl _), if_pos (Or.inr rfl), if_pos (hiff.mpr ⟨ht, fun r r1 r2 => hx r r1 r2⟩)]
    · rw [fX10_areFreeOfMusts_b5, if_pos (Int.le_refl _), if_pos (Or.inl rfl), if_neg hx]
theorem dcd_set {s h : Nat} {g c : Int} {t b : Nat} (hh : h < 8) (hb : b < 8) : dcd (mset (mset F 183 (8 * s + h) g) 184 (8 * s + h) c) t b = if t = s ∧ b = h then sco g c else dcd F t b := by
  unfold dcd
  by_cases y : t = s ∧ b = h
  · rw [if_pos y, y.1, y.2, mset_ne _ _ (by omega), mset_eq, mset_eq]
  · rw [if_neg y, mset_ne _ _ (by omega), mset_ne _ _ (by omega), mset_ne _ _ (by omega), mset_ne _ _ (by omega)]
/-- a cell takes a better plan -/
theorem m_takesUp {s h k j : Nat} (hs : s ≤ 336) (hh : h < 8) (hk : k ≤ 336) (hj : j ≤ 336) (hc : cok k (F 183 (8 * s + h)) (F 184 (8 * s + h))) {g c : Int} (hg : 0 ≤ g) (hcc : 0 ≤ c ∧ c ≤ 99 * (j : Int)) : fX10_takesUp 173 g c ((8 * s + h : Nat) : Int) F = some (if dcd F s h < 65536 * g - c then mset (mset F 183 (8 * s + h) g) 184 (8 * s + h) c else F) := by
  have b1 := b2696 (a := s) (b := h) hs hh
  have hlt := sco_lt hk hj hc hg hcc
  unfold fX10_takesUp
  have hB : fX10_isBetter 173 g c ((8 * s + h : Nat) : Int) F = some (if dcd F s h < 65536 * g - c then 1 else 0) := by
    unfold fX10_isBetter dcd
    rw [al183, al184]
    simp only [if_pos b1, Int.toNat_natCast, Nat.reduceAdd]
    by_cases q1 : F 183 (8 * s + h) < g
    · rw [if_pos q1, if_pos (hlt.mp (Or.inl q1))]
    · rw [if_neg q1]
      by_cases q2 : g = F 183 (8 * s + h)
      · rw [if_neg (fun z => z q2)]
        by_cases q3 : F 184 (8 * s + h) ≤ c
        · rw [if_pos q3, if_neg (fun z => by rcases hlt.mpr z with w | w; exact q1 w; omega)]
        · rw [if_neg q3, if_pos (hlt.mp (Or.inr ⟨q2, by omega⟩))]
      · rw [if_pos q2, if_neg (fun z => by rcases hlt.mpr z with w | w; exact q1 w; exact q2 w.1)]
  rw [if_neg (by omega), hB, Option.bind_some, i11, al183, al184, if_pos b1, if_pos b1, Int.toNat_natCast]
  split <;> rfl
end RFS
