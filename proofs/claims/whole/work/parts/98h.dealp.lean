/-! ===== deal, pure ===== -/
def dlH (hd : Nat → Int) (day : Nat) (two : Int) (f t x : Nat) : Int := if 48 * day + f ≤ x ∧ x < 48 * day + t then two else hd x
/-- how many slots from f on are held by one -/
def dlN (hd : Nat → Int) (day : Nat) (one : Int) : Nat → Nat → Nat
  | _, 0 => 0
  | f, n + 1 => if hd (48 * day + f) = one then dlN hd day one (f + 1) n + 1 else 0
theorem dlN_sp (hd : Nat → Int) (day : Nat) (one : Int) : ∀ n f, dlN hd day one f n ≤ n ∧ (∀ i, i < dlN hd day one f n → hd (48 * day + (f + i)) = one) ∧ (dlN hd day one f n < n → hd (48 * day + (f + dlN hd day one f n)) ≠ one) := by
  intro n
  induction n with
  | zero => intro f; exact ⟨Nat.le_refl _, fun i hi => absurd hi (Nat.not_lt_zero i), fun h => absurd h (Nat.lt_irrefl 0)⟩
  | succ n ih =>
    intro f
    have e : dlN hd day one f (n + 1) = if hd (48 * day + f) = one then dlN hd day one (f + 1) n + 1 else 0 := rfl
    obtain ⟨a1, a2, a3⟩ := ih (f + 1)
    rw [e]
    by_cases q : hd (48 * day + f) = one
    · rw [if_pos q]
      refine ⟨by omega, fun i hi => ?_, fun h => ?_⟩
      · cases i with
        | zero => exact q
        | succ i =>
          have := a2 i (by omega)
          rw [show f + (i + 1) = f + 1 + i by omega]
          exact this
      · have := a3 (by omega)
        rw [show f + (dlN hd day one (f + 1) n + 1) = f + 1 + dlN hd day one (f + 1) n by omega]
        exact this
    · rw [if_neg q]
      exact ⟨Nat.zero_le _, fun i hi => absurd hi (Nat.not_lt_zero i), fun _ => q⟩
section DLP
variable {v hd : Nat → Int} {day : Nat}
theorem gnD_at {c m : Int} {s h : Nat} (hd6 : day < 7) (hs : s < (v 0).toNat) : gnD v hd day c m s h = if hd (48 * day + s) = -1 ∨ hd (48 * day + s) = (h : Int) then ghD v c m s h else 0 := by
  have e1 : s / (v 0).toNat = 0 := Nat.div_eq_of_lt hs
  have e2 : s % (v 0).toNat = s := Nat.mod_eq_of_lt hs
  have e3 : 48 * ((day + 0) % 7) = 48 * day := by omega
  unfold gnD
  rw [e1, e2, e3]
theorem gnD_eq {hd' : Nat → Int} {s h : Nat} (hd6 : day < 7) (hs : s < (v 0).toNat) (e : hd' (48 * day + s) = hd (48 * day + s)) : gnD v hd' day 0 0 s h = gnD v hd day 0 0 s h := by
  rw [gnD_at hd6 hs, gnD_at hd6 hs, e]
theorem bsf_gn {hd' : Nat → Int} {R : Nat → Nat → Int} {s h : Nat} (e : gnD v hd' day 0 0 s h = gnD v hd day 0 0 s h) : ∀ n, bsf (insD v hd' day 1 0 0) R s h n = bsf (insD v hd day 1 0 0) R s h n := by
  have hs := insD_same v hd hd' day 1 0 0 0 0
  have ea : ∀ a, arf (insD v hd' day 1 0 0) R (s + 1) a h = arf (insD v hd day 1 0 0) R (s + 1) a h := fun a => by
    unfold arf
    rw [hs.2.2.2.1, hs.2.2.2.2, same_fre hs]
  intro n
  induction n with
  | zero =>
    show stf _ R s h = stf _ R s h
    have e1 : iG (insD v hd' day 1 0 0) s h = iG (insD v hd day 1 0 0) s h := e
    unfold stf
    rw [hs.2.2.1, e1]
  | succ n ih =>
    show (if bsf _ R s h n < arf _ R (s + 1) n h then arf _ R (s + 1) n h else bsf _ R s h n) = (if bsf _ R s h n < arf _ R (s + 1) n h then arf _ R (s + 1) n h else bsf _ R s h n)
    rw [ih, ea]
theorem R_ex {I : Ins} (hW : WF I) (z : Nat) : ∀ M, ∃ R, IsR I z R M := by
  intro M
  induction M with
  | zero => exact ⟨fun _ h => if h = z then 0 else BD, fun _ _ => rfl, fun s hs => absurd hs (Nat.not_lt_zero s)⟩
  | succ M ih =>
    obtain ⟨R, r1, r2⟩ := ih
    refine ⟨fun s h => if s = M + 1 then bsf I R M h (iH I) else R s h, fun h hh => ?_, fun s hs h hh => ?_⟩
    · dsimp only
      rw [if_neg (by omega)]; exact r1 h hh
    · have eb : bsf I (fun s h => if s = M + 1 then bsf I R M h (iH I) else R s h) s h (iH I) = bsf I R s h (iH I) := bsf_rows hW hh (fun t b ht _ => if_neg (show ¬ t = M + 1 by omega)) (iH I) (Nat.le_refl _)
      rw [eb]
      dsimp only
      by_cases y : s + 1 = M + 1
      · rw [if_pos y, show s = M by omega]
      · rw [if_neg y]; exact r2 s (by omega) h hh
/-- reaches of plans that differ from slot f on only are the same up to it -/
theorem R_upto {hd' : Nat → Int} {R Q : Nat → Nat → Int} {z M M' f : Nat} (hW : WF (insD v hd day 1 0 0)) (hR : IsR (insD v hd day 1 0 0) z R M) (hQ : IsR (insD v hd' day 1 0 0) z Q M') (hM : f ≤ M) (hM' : f ≤ M') (e : ∀ s h, s < f → gnD v hd' day 0 0 s h = gnD v hd day 0 0 s h) : ∀ s, s ≤ f → ∀ t h, t ≤ s → h < iH (insD v hd day 1 0 0) → Q t h = R t h := by
  intro s
  induction s with
  | zero =>
    intro _ t h ht hh
    have : t = 0 := by omega
    subst this
    rw [hR.1 h hh]
    exact hQ.1 h hh
  | succ s ih =>
    intro hs t h ht hh
    by_cases y : t ≤ s
    · exact ih (by omega) t h y hh
    · have : t = s + 1 := by omega
      subst this
      have h1 := hR.2 s (by omega) h hh
      have h2 : Q (s + 1) h = bsf (insD v hd' day 1 0 0) Q s h (iH (insD v hd day 1 0 0)) := hQ.2 s (by omega) h hh
      rw [h2, h1, bsf_gn (e s h (by omega))]
      exact bsf_rows hW hh (fun t b ht hb => ih (by omega) t b ht hb) _ (Nat.le_refl _)
theorem gthC {R Q X : Nat → Nat → Int} {t : Nat} : ∀ n, (∀ h, h < n → Q t h = R t h) → gth Q X t n = gth R X t n := by
  intro n
  induction n with
  | zero => intro _; rfl
  | succ n ih =>
    intro h
    have e := ih (fun k hk => h k (by omega))
    show (if Q t n = BD ∨ X t n = BD then gth Q X t n else if gth Q X t n < gof (Q t n + X t n) then gof (Q t n + X t n) else gth Q X t n) = (if R t n = BD ∨ X t n = BD then gth R X t n else if gth R X t n < gof (R t n + X t n) then gof (R t n + X t n) else gth R X t n)
    rw [e, h n (by omega)]
noncomputable def dlV (v hd : Nat → Int) (day : Nat) (two : Int) (f t : Nat) : Int := gof (yD v (dlH hd day two f t) day)
theorem dl_ne (hO : VO v) {hd' : Nat → Int} (hne : yD v hd day ≠ BD) : yD v hd' day ≠ BD := best0_ne (insD_WF hO (show 1 ≤ 7 by decide) 0 0) (insD_WF hO (show 1 ≤ 7 by decide) 0 0) (insD_same v hd hd' day 1 0 0 0 0) (st_lt hO) hne
/-- a plan from behind and one from before: their sizes -/
theorem RX_bd {R X : Nat → Nat → Int} {t n h : Nat} (hn : n ≤ 48) (ht : t ≤ n) (h1 : sbd t (R t h)) (h2 : sbd (n - t) (X t h)) (n1 : R t h ≠ BD) (n2 : X t h ≠ BD) : R t h + X t h ≠ BD ∧ -1 ≤ gof (R t h + X t h) ∧ gof (R t h + X t h) ≤ 3024 := by
  unfold sbd at h1 h2
  rcases h1 with a | a
  · exact absurd a n1
  · rcases h2 with b | b
    · exact absurd b n2
    · generalize R t h = x at *
      generalize X t h = y at *
      have c : ¬ x + y = -1000000000 := by omega
      have g : gof (x + y) = (x + y + 65535) / 65536 := if_neg c
      refine ⟨c, ?_⟩
      rw [g]
      omega
theorem gth_bd {R X : Nat → Nat → Int} {t n N : Nat} (hn : n ≤ 48) (ht : t ≤ n) (h1 : ∀ h, h < N → sbd t (R t h)) (h2 : ∀ h, h < N → sbd (n - t) (X t h)) : -1 ≤ gth R X t N ∧ gth R X t N ≤ 3024 := by
  have g := gth_sp R X t N
  refine ⟨g.1.1, ?_⟩
  rcases g.2 with z | ⟨h, hh, a1, a2, z⟩
  · omega
  · rw [z]; exact (RX_bd hn ht (h1 h hh) (h2 h hh) a1 a2).2.2
/-- the running best of the class is the reference's -/
theorem deal_eq (hO : VO v) (hd6 : day < 7) (hne : yD v hd day ≠ BD) {two : Int} {X R : Nat → Nat → Int} (hX : IsX (insD v hd day 1 0 0) tv0 X) {f n : Nat} (hn : f + n ≤ (v 0).toNat) (hR : IsR (insD v (dlH hd day two f (v 0).toNat) day 1 0 0) (v 4).toNat R (1 * (v 0).toNat)) : mxt (fun t => gth R X t (v 5).toNat) (gof (yD v hd day)) f n = mxt (dlV v hd day two f) (gof (yD v hd day)) f n := by
  refine mxt_eq n (fun t t1 t2 => ?_)
  have b0 := hO.1
  have hst := st_lt hO
  have hW := insD_WF (hd := hd) (day := day) hO (show 1 ≤ 7 by decide) 0 0
  have hV := insD_WF (hd := dlH hd day two f t) (day := day) hO (show 1 ≤ 7 by decide) 0 0
  have hVN := insD_WF (hd := dlH hd day two f (v 0).toNat) (day := day) hO (show 1 ≤ 7 by decide) 0 0
  have hs := insD_same v hd (dlH hd day two f t) day 1 0 0 0 0
  have htN : t ≤ 1 * (v 0).toNat := by omega
  have h48 : (v 0).toNat ≤ 48 := by omega
  have htV : t ≤ (v 0).toNat := by omega
  have gD := yD_bd hO hne
  obtain ⟨Y, hY⟩ := X_ex hV tv0
  have eY : Y 0 (v 4).toNat = yD v (dlH hd day two f t) day := best0_eq hV hst hY
  have eX : X 0 (v 4).toNat = yD v hd day := best0_eq hW hst hX
  have nY := dl_ne (hd' := dlH hd day two f t) hO hne
  have hRt : IsR (insD v (dlH hd day two f t) day 1 0 0) (v 4).toNat R t := by
    refine ⟨hR.1, fun s hs2 h hh => ?_⟩
    have h1 : R (s + 1) h = bsf (insD v (dlH hd day two f (v 0).toNat) day 1 0 0) R s h (v 5).toNat := hR.2 s (by omega) h hh
    rw [h1]
    show _ = bsf (insD v (dlH hd day two f t) day 1 0 0) R s h (v 5).toNat
    refine bsf_gn (gnD_eq hd6 (by omega) ?_) _
    unfold dlH
    by_cases y : f ≤ s
    · rw [if_pos (by omega), if_pos (by omega)]
    · rw [if_neg (by omega), if_neg (by omega)]
  obtain ⟨d1, d2⟩ := deal_thm hW hV hs (z := (v 4).toNat) t1 htN hst (fun r h hr hh hft => gnD_eq hd6 (by have : r < 1 * (v 0).toNat := hr; omega) (by unfold dlH; rw [if_neg (by omega)])) hX hY hRt
  have sR : ∀ s h, s ≤ t → h < (v 5).toNat → sbd s (R s h) := fun s h h1 h2 => R_bd hVN (Nat.le_refl _) hR (show s ≤ 1 * (v 0).toNat by omega) h2
  have sX : ∀ s h, s ≤ t → h < (v 5).toNat → sbd ((v 0).toNat - s) (X s h) := fun s h h1 h2 => by
    have := X_bd hW tv0_01 hX (s := s) (h := h) (by show s ≤ 1 * (v 0).toNat; omega) h2
    rw [show iN (insD v hd day 1 0 0) = (v 0).toNat from Nat.one_mul _] at this
    exact this
  have g := gth_sp R X t (v 5).toNat
  constructor
  · rcases g.2 with z | ⟨h, hh, a1, a2, z⟩
    · right; omega
    · left
      obtain ⟨c1, c2⟩ := d1 h hh a1 a2
      have rb := RX_bd (n := (v 0).toNat) h48 htV (sR t h (Nat.le_refl _) hh) (sX t h (Nat.le_refl _) hh) a1 a2
      rw [z]
      unfold dlV
      rw [← eY]
      exact gof_mono c2 rb.1 c1
  · rcases d2 with z | ⟨z1, z2⟩ | ⟨s, h, s1, s2, hh, a1, a2, z⟩
    · rw [eY] at z; exact absurd z nY
    · left
      unfold dlV
      rw [← eY, ← eX]
      exact gof_mono z2 (by rw [eY]; exact nY) z1
    · right
      have rb := RX_bd (n := (v 0).toNat) h48 (Nat.le_trans s2 htV) (sR s h s2 hh) (sX s h s2 hh) a1 a2
      refine ⟨s, s1, s2, ?_⟩
      have gs := (gth_sp R X s (v 5).toNat).1.2 h hh a1 a2
      unfold dlV
      rw [← eY]
      exact Int.le_trans (gof_mono z (by rw [eY]; exact nY) rb.1) gs
noncomputable def dlM (v hd : Nat → Int) (day : Nat) (one two : Int) (f : Nat) : Int × Int := mxt (dlV v hd day two f) (gof (yD v hd day)) f (dlN hd day one f ((v 0).toNat - f))
end DLP
