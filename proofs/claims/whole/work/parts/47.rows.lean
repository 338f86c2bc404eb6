/-! ===== rows of lace ===== -/
theorem lpS {R : Type} (f : Nat → Nat → Int → Option R) (N : Nat) (g : Nat → Int) (B : Nat) (K : Int → Option R) (hb : ∀ i, i < N → 0 ≤ g i ∧ g i ≤ (B : Int))
    (step : ∀ n k, k < N → 0 ≤ sm k g → sm k g ≤ (B : Int) * k → f (n + 1) k (sm k g) = f n (k + 1) (sm k g + g k)) (done : ∀ n, 0 ≤ sm N g → sm N g ≤ (B : Int) * N → f (n + 1) N (sm N g) = K (sm N g)) (hN : N < 100000) : f FU 0 0 = K (sm N g) := by
  have bd : ∀ k, k ≤ N → 0 ≤ sm k g ∧ sm k g ≤ (B : Int) * k := fun k hk => by
    have h := sm_bd (f := g) (lo := 0) (hi := (B : Int)) k (fun i hi => hb i (by omega))
    rw [Int.zero_mul] at h
    exact h
  refine lp f N (fun k a => a = sm k g) (fun r => r = K (sm N g)) ?_ ?_ FU 0 0 (Nat.zero_le _) rfl (FU_gt (by omega))
  · rintro n k a hk rfl
    have h := bd k (by omega)
    exact Or.inl ⟨_, rfl, step n k hk h.1 h.2⟩
  · rintro n a rfl
    have h := bd N (by omega)
    exact done n h.1 h.2
/-- the first of N places with p tells g, none d -/
def FF (N : Nat) (p : Nat → Prop) (g : Nat → Int) (d z : Int) : Prop := (∃ s, s < N ∧ p s ∧ (∀ j, j < s → ¬ p j) ∧ z = g s) ∨ ((∀ j, j < N → ¬ p j) ∧ z = d)
theorem FF_uniq {N : Nat} {p : Nat → Prop} {g : Nat → Int} {d z y : Int} (h1 : FF N p g d z) (h2 : FF N p g d y) : z = y := by
  rcases h1 with ⟨s, a1, a2, a3, rfl⟩ | ⟨a1, rfl⟩
  · rcases h2 with ⟨t, b1, b2, b3, rfl⟩ | ⟨b1, rfl⟩
    · rcases Nat.lt_trichotomy s t with h | h | h
      · exact absurd a2 (b3 s h)
      · rw [h]
      · exact absurd b2 (a3 t h)
    · exact absurd a2 (b1 s a1)
  · rcases h2 with ⟨t, b1, b2, b3, rfl⟩ | ⟨b1, rfl⟩
    · exact absurd b2 (a1 t b1)
    · rfl
def rgI (v S : Nat → Int) (h s : Nat) : Int := if v (8 + 4 * h + 1) = 0 ∨ (S s = (h : Int) ∧ (v (8 + 4 * h + 1) ≠ 3 ∨ (v 2 ≤ (s : Int) ∧ (s : Int) < v 3))) then 1 else 0
def rwI (v S : Nat → Int) (h s : Nat) : Int := if rgI v S h s = 0 then v (8 + 4 * h + 3) else v (8 + 4 * h + 2)
def wrI (v S : Nat → Int) (h s : Nat) : Int := if rgI v S h s = 0 then v (8 + 4 * h + 3) else 0
def riI (v S : Nat → Int) (c : Int) (h s : Nat) : Int := if rgI v S h s = 0 then 0 else rt v c h
def spI (v S : Nat → Int) (h s : Nat) : Int := if rgI v S h s = 0 ∧ 0 < v (8 + 4 * h + 3) then 1 else 0
theorem rgI01 (v S : Nat → Int) (h s : Nat) : rgI v S h s = 0 ∨ rgI v S h s = 1 := by unfold rgI; split <;> simp
section ROWS
variable {v S : Nat → Int}
theorem rwI_bd (hO : VO v) {h : Nat} (hh : (h : Int) < v 5) (s : Nat) : 0 ≤ rwI v S h s ∧ rwI v S h s ≤ ((9 : Nat) : Int) := by
  have := hO.2.2.2.2.2.1 h hh
  unfold rwI
  split <;> omega
theorem wrI_bd (hO : VO v) {h : Nat} (hh : (h : Int) < v 5) (s : Nat) : 0 ≤ wrI v S h s ∧ wrI v S h s ≤ ((9 : Nat) : Int) := by
  have := hO.2.2.2.2.2.1 h hh
  unfold wrI
  split <;> omega
theorem riI_bd (hO : VO v) {c : Int} {h : Nat} (hh : (h : Int) < v 5) (s : Nat) : 0 ≤ riI v S c h s ∧ riI v S c h s ≤ ((9 : Nat) : Int) := by
  have := rt_bd hO c hh
  unfold riI
  split <;> omega
theorem spI_bd (h s : Nat) : 0 ≤ spI v S h s ∧ spI v S h s ≤ ((1 : Nat) : Int) := by
  unfold spI
  split <;> omega
theorem sum_bd {g : Nat → Int} {N B : Nat} (hb : ∀ i, i < N → 0 ≤ g i ∧ g i ≤ (B : Int)) : 0 ≤ sm N g ∧ sm N g ≤ ((B * N : Nat) : Int) := by
  have h := sm_bd (f := g) (lo := 0) (hi := (B : Int)) N hb
  rw [Int.zero_mul] at h
  exact ⟨h.1, by rw [Int.natCast_mul]; exact h.2⟩
theorem sum_bd48 {g : Nat → Int} {N B : Nat} (hN : N ≤ 48) (hb : ∀ i, i < N → 0 ≤ g i ∧ g i ≤ (B : Int)) : 0 ≤ sm N g ∧ sm N g ≤ ((B * 48 : Nat) : Int) := by
  have h := sum_bd hb
  have h2 : B * N ≤ B * 48 := Nat.mul_le_mul_left _ hN
  omega
/-! the class -/
def WX (v S : Nat → Int) (V : Nat) (F : Mem) : Prop := F 60 0 = (V : Int) ∧ V ≠ 0 ∧ VR v F V ∧ ∀ s : Nat, (s : Int) < v 0 → F 61 s = S s
variable {V : Nat} {F : Mem}
theorem wx_n (h : WX v S V F) : (F 60 0).toNat = V := by rw [h.1]; rfl
theorem x_isRight (hW : WX v S V F) (hO : VO v) {h s : Nat} (hh : (h : Int) < v 5) (hs : (s : Int) < v 0) : fX8_isRight 60 (h : Int) (s : Int) F = some (rgI v S h s) := by
  have hn := wx_n hW
  obtain ⟨h1, h2, h3, h4⟩ := hW
  have b0 := hO.1
  unfold fX8_isRight rgI
  rw [hn, if_neg h2, v_cell h3 hO (i := 1) (y := 1) hh (by omega) rfl, Option.bind_some]
  by_cases q : v (8 + 4 * h + 1) = 0
  · rw [if_neg (by omega), if_pos (Or.inl q)]
  · rw [if_pos q, if_neg (by omega), if_neg (by omega), show alen (60 + 1) = 48 from rfl, if_pos (by omega), Int.toNat_natCast, h4 s hs]
    by_cases q2 : S s = (h : Int)
    · rw [if_neg (by omega), if_neg h2, v_sees h3]
      by_cases q3 : v (8 + 4 * h + 1) ≠ 3 ∨ (v 2 ≤ (s : Int) ∧ (s : Int) < v 3)
      · rw [if_neg (by rw [if_pos q3]; decide), if_pos (Or.inr ⟨q2, q3⟩)]
      · rw [if_pos (by rw [if_neg q3]), if_neg (by rintro (z | z); exact q z; exact q3 z.2)]
    · rw [if_pos q2, if_neg (by rintro (z | z); exact q z; exact q2 z.1)]
theorem x_rowsIn (hW : WX v S V F) (hO : VO v) {h s : Nat} (hh : (h : Int) < v 5) (hs : (s : Int) < v 0) : fX8_rowsIn 60 (h : Int) (s : Int) F = some (rwI v S h s) := by
  unfold fX8_rowsIn fX8_rowsIn_b22
  rw [x_isRight hW hO hh hs, wx_n hW, if_neg hW.2.1, Option.bind_some, v_cell hW.2.2.1 hO (i := 3) (y := 3) hh (by omega) rfl, v_cell hW.2.2.1 hO (i := 2) (y := 2) hh (by omega) rfl, Option.bind_some, Option.bind_some]
  unfold rwI
  split <;> rfl
theorem wx_V0 (hW : WX v S V F) : F V 0 = v 0 := hW.2.2.1.2.1.1
theorem wx_V5 (hW : WX v S V F) : F (V + 1) 3 = v 5 := hW.2.2.1.2.2.1
theorem x_wrongRows (hW : WX v S V F) (hO : VO v) {h : Nat} (hh : (h : Int) < v 5) : fX8_wrongRows 60 (h : Int) F = some (sm (v 0).toNat (wrI v S h)) := by
  have b0 := hO.1
  unfold fX8_wrongRows
  refine lpS (fun n k a => fX8_wrongRows_b4 F n 60 (h : Int) a (k : Int)) (v 0).toNat (wrI v S h) 9 some (fun i _ => wrI_bd hO hh i) (fun n k hk h1 h2 => ?_) (fun n _ _ => ?_) (by omega)
  · have hb := wrI_bd (S := S) hO hh k
    show fX8_wrongRows_b4 F (n + 1) 60 (h : Int) (sm k (wrI v S h)) (k : Int) = fX8_wrongRows_b4 F n 60 (h : Int) (sm k (wrI v S h) + wrI v S h k) ((k + 1 : Nat) : Int)
    rw [fX8_wrongRows_b4, wx_n hW, if_neg hW.2.1, wx_V0 hW, if_neg (by omega), x_isRight hW hO hh (by omega), Option.bind_some, xwS (by omega)]
    by_cases q : rgI v S h k = 0
    · rw [if_pos q, x_rowsIn hW hO hh (by omega), Option.bind_some]
      have e : rwI v S h k = wrI v S h k := by unfold rwI wrI; rw [if_pos q, if_pos q]
      rw [e, xwn (by omega) (by omega)]
    · have e : wrI v S h k = 0 := by unfold wrI; rw [if_neg q]
      rw [if_neg q, e, xwn (by omega) (by omega)]
  · show fX8_wrongRows_b4 F (n + 1) 60 (h : Int) (sm (v 0).toNat (wrI v S h)) (((v 0).toNat : Nat) : Int) = _
    rw [fX8_wrongRows_b4, wx_n hW, if_neg hW.2.1, wx_V0 hW, if_pos (by omega)]
theorem x_allWrong (hW : WX v S V F) (hO : VO v) : fX8_allWrong 60 F = some (sm (v 5).toNat (fun h => sm (v 0).toNat (wrI v S h))) := by
  have b0 := hO.1
  have b5 := hO.2.2.2.1
  have hb : ∀ i, i < (v 5).toNat → 0 ≤ sm (v 0).toNat (wrI v S i) ∧ sm (v 0).toNat (wrI v S i) ≤ ((9 * 48 : Nat) : Int) := fun i hi => sum_bd48 (by omega) (fun j _ => wrI_bd hO (by omega) j)
  unfold fX8_allWrong
  refine lpS (fun n k a => fX8_allWrong_b4 F n 60 a (k : Int)) (v 5).toNat (fun h => sm (v 0).toNat (wrI v S h)) (9 * 48) some hb (fun n k hk h1 h2 => ?_) (fun n _ _ => ?_) (by omega)
  · have hb := hb k hk
    show fX8_allWrong_b4 F (n + 1) 60 (sm k (fun h => sm (v 0).toNat (wrI v S h))) (k : Int) = fX8_allWrong_b4 F n 60 (sm k (fun h => sm (v 0).toNat (wrI v S h)) + sm (v 0).toNat (wrI v S k)) ((k + 1 : Nat) : Int)
    rw [fX8_allWrong_b4, wx_n hW, if_neg hW.2.1, wx_V5 hW, if_neg (by omega), x_wrongRows hW hO (by omega), Option.bind_some, xwS (by omega), xwn (by omega) (by omega)]
  · show fX8_allWrong_b4 F (n + 1) 60 (sm (v 5).toNat (fun h => sm (v 0).toNat (wrI v S h))) (((v 5).toNat : Nat) : Int) = _
    rw [fX8_allWrong_b4, wx_n hW, if_neg hW.2.1, wx_V5 hW, if_pos (by omega)]
theorem x_allRight (hW : WX v S V F) (hO : VO v) (c : Int) : fX8_allRight 60 c F = some (sm (v 5).toNat (fun h => sm (v 0).toNat (riI v S c h))) := by
  have b0 := hO.1
  have b5 := hO.2.2.2.1
  have hb : ∀ i, i < (v 5).toNat → 0 ≤ sm (v 0).toNat (riI v S c i) ∧ sm (v 0).toNat (riI v S c i) ≤ ((9 * 48 : Nat) : Int) := fun i hi => sum_bd48 (by omega) (fun j _ => riI_bd hO (by omega) j)
  unfold fX8_allRight
  refine lpS (fun n k a => fX8_allRight_b4 F n 60 c a (k : Int)) (v 5).toNat (fun h => sm (v 0).toNat (riI v S c h)) (9 * 48) some hb (fun n k hk h1 h2 => ?_) (fun n _ _ => ?_) (by omega)
  · have hb := hb k hk
    have hk5 : (k : Int) < v 5 := by omega
    generalize ha : sm k (fun h => sm (v 0).toNat (riI v S c h)) = a at h1 h2
    show fX8_allRight_b4 F (n + 1) 60 c a (k : Int) = fX8_allRight_b4 F n 60 c (a + sm (v 0).toNat (riI v S c k)) ((k + 1 : Nat) : Int)
    rw [fX8_allRight_b4, wx_n hW, if_neg hW.2.1, wx_V5 hW, if_neg (by omega)]
    refine lp (fun m j x => fX8_allRight_b21 F (fX8_allRight_b4 F n) m 60 c x (k : Int) (j : Int)) (v 0).toNat (fun j x => x = a + sm j (riI v S c k)) (fun r => r = fX8_allRight_b4 F n 60 c (a + sm (v 0).toNat (riI v S c k)) ((k + 1 : Nat) : Int)) ?_ ?_ FU 0 a (by omega) (by show a = a + 0; omega) (FU_gt (by omega))
    · rintro m j x hj rfl
      left
      have hc := riI_bd (S := S) (c := c) hO hk5 j
      have hd := sum_bd48 (N := j) (g := riI v S c k) (B := 9) (by omega) (fun i _ => riI_bd hO hk5 i)
      refine ⟨_, rfl, ?_⟩
      show fX8_allRight_b21 F (fX8_allRight_b4 F n) (m + 1) 60 c (a + sm j (riI v S c k)) (k : Int) (j : Int) = fX8_allRight_b21 F (fX8_allRight_b4 F n) m 60 c (a + (sm j (riI v S c k) + riI v S c k j)) (k : Int) ((j + 1 : Nat) : Int)
      rw [fX8_allRight_b21, wx_n hW, if_neg hW.2.1, wx_V0 hW, if_neg (by omega), x_isRight hW hO hk5 (by omega), Option.bind_some, xwS (by omega)]
      by_cases q : rgI v S k j = 0
      · have e : riI v S c k j = 0 := by unfold riI; rw [if_pos q]
        rw [if_pos q, e, xwn (by omega) (by omega), Int.add_assoc]
      · have e : riI v S c k j = rt v c k := by unfold riI; rw [if_neg q]
        rw [if_neg q, if_neg hW.2.1, v_rate hW.2.2.1 hO c hk5, Option.bind_some, e, xwn (by omega) (by omega), Int.add_assoc]
    · rintro m x rfl
      show fX8_allRight_b21 F (fX8_allRight_b4 F n) (m + 1) 60 c _ (k : Int) (((v 0).toNat : Nat) : Int) = _
      rw [fX8_allRight_b21, wx_n hW, if_neg hW.2.1, wx_V0 hW, if_pos (by omega), xwS (by omega)]
  · show fX8_allRight_b4 F (n + 1) 60 c (sm (v 5).toNat (fun h => sm (v 0).toNat (riI v S c h))) (((v 5).toNat : Nat) : Int) = _
    rw [fX8_allRight_b4, wx_n hW, if_neg hW.2.1, wx_V5 hW, if_pos (by omega)]
theorem x_isSpoiled (hW : WX v S V F) (hO : VO v) {h s : Nat} (hh : (h : Int) < v 5) (hs : (s : Int) < v 0) : fX8_isSpoiled 60 (h : Int) (s : Int) F = some (spI v S h s) := by
  unfold fX8_isSpoiled spI
  rw [x_isRight hW hO hh hs, Option.bind_some]
  by_cases q : rgI v S h s = 0
  · rw [if_neg (by omega), x_rowsIn hW hO hh hs, Option.bind_some]
    have e : rwI v S h s = v (8 + 4 * h + 3) := by unfold rwI; rw [if_pos q]
    rw [e]
    by_cases q2 : v (8 + 4 * h + 3) ≤ 0
    · rw [if_pos q2, if_neg (by omega)]
    · rw [if_neg q2, if_pos ⟨q, by omega⟩]
  · rw [if_pos q, if_neg (fun z => q z.1)]
theorem x_wrongSlots (hW : WX v S V F) (hO : VO v) {h : Nat} (hh : (h : Int) < v 5) : fX8_wrongSlots 60 (h : Int) F = some (sm (v 0).toNat (spI v S h)) := by
  have b0 := hO.1
  unfold fX8_wrongSlots
  refine lpS (fun n k a => fX8_wrongSlots_b4 F n 60 (h : Int) a (k : Int)) (v 0).toNat (spI v S h) 1 some (fun i _ => spI_bd h i) (fun n k hk h1 h2 => ?_) (fun n _ _ => ?_) (by omega)
  · show fX8_wrongSlots_b4 F (n + 1) 60 (h : Int) (sm k (spI v S h)) (k : Int) = fX8_wrongSlots_b4 F n 60 (h : Int) (sm k (spI v S h) + spI v S h k) ((k + 1 : Nat) : Int)
    rw [fX8_wrongSlots_b4, wx_n hW, if_neg hW.2.1, wx_V0 hW, if_neg (by omega), x_isSpoiled hW hO hh (by omega), Option.bind_some, xwS (by omega), xwn (by omega) (by omega), xwn (by omega) (by omega)]
    by_cases q : spI v S h k = 0
    · rw [if_pos q, q]
    · have e : spI v S h k = 1 := by unfold spI at *; split at q <;> simp_all
      rw [if_neg q, e]
  · show fX8_wrongSlots_b4 F (n + 1) 60 (h : Int) (sm (v 0).toNat (spI v S h)) (((v 0).toNat : Nat) : Int) = _
    rw [fX8_wrongSlots_b4, wx_n hW, if_neg hW.2.1, wx_V0 hW, if_pos (by omega)]
theorem x_rowsBefore (hW : WX v S V F) (hO : VO v) {h e : Nat} (hh : (h : Int) < v 5) (he : (e : Int) ≤ v 0) : fX8_rowsBefore 60 (h : Int) (e : Int) F = some (sm e (rwI v S h)) := by
  have b0 := hO.1
  unfold fX8_rowsBefore
  refine lpS (fun n k a => fX8_rowsBefore_b5 F n 60 (h : Int) (e : Int) a (k : Int)) e (rwI v S h) 9 some (fun i _ => rwI_bd hO hh i) (fun n k hk h1 h2 => ?_) (fun n _ _ => ?_) (by omega)
  · have hb := rwI_bd (S := S) hO hh k
    show fX8_rowsBefore_b5 F (n + 1) 60 (h : Int) (e : Int) (sm k (rwI v S h)) (k : Int) = fX8_rowsBefore_b5 F n 60 (h : Int) (e : Int) (sm k (rwI v S h) + rwI v S h k) ((k + 1 : Nat) : Int)
    rw [fX8_rowsBefore_b5, if_neg (by omega), x_rowsIn hW hO hh (by omega), Option.bind_some, xwS (by omega), xwn (by omega) (by omega)]
  · show fX8_rowsBefore_b5 F (n + 1) 60 (h : Int) (e : Int) (sm e (rwI v S h)) (e : Int) = _
    rw [fX8_rowsBefore_b5, if_pos (by omega)]
theorem x_firstWrong (hW : WX v S V F) (hO : VO v) {h : Nat} (hh : (h : Int) < v 5) : ∃ z, fX8_firstWrong 60 (h : Int) F = some z ∧ FF (v 0).toNat (fun s => spI v S h s = 1) (fun s => sm s (rwI v S h)) (-1) z := by
  have b0 := hO.1
  unfold fX8_firstWrong
  refine lp (fun n k (_ : Unit) => fX8_firstWrong_b2 F n 60 (h : Int) (k : Int)) (v 0).toNat (fun k _ => ∀ j, j < k → ¬ spI v S h j = 1) (fun r => ∃ z, r = some z ∧ FF (v 0).toNat (fun s => spI v S h s = 1) (fun s => sm s (rwI v S h)) (-1) z) ?_ ?_ FU 0 () (by omega) (fun j hj => absurd hj (by omega)) (FU_gt (by omega))
  · rintro n k - hk hi
    have E : fX8_firstWrong_b2 F (n + 1) 60 (h : Int) (k : Int) = if spI v S h k = 0 then fX8_firstWrong_b2 F n 60 (h : Int) ((k + 1 : Nat) : Int) else some (sm k (rwI v S h)) := by
      rw [fX8_firstWrong_b2, wx_n hW, if_neg hW.2.1, wx_V0 hW, if_neg (by omega), x_isSpoiled hW hO hh (by omega), Option.bind_some, xwS (by omega), x_rowsBefore hW hO hh (by omega), Option.bind_some]
    have h01 : spI v S h k = 0 ∨ spI v S h k = 1 := by unfold spI; split <;> simp
    rcases h01 with q | q
    · left
      refine ⟨(), fun j hj => ?_, ?_⟩
      · by_cases y : j = k
        · subst y; omega
        · exact hi j (by omega)
      · show fX8_firstWrong_b2 F (n + 1) 60 (h : Int) (k : Int) = _
        rw [E, if_pos q]
    · right
      show ∃ z, fX8_firstWrong_b2 F (n + 1) 60 (h : Int) (k : Int) = some z ∧ _
      rw [E, if_neg (by omega)]
      exact ⟨_, rfl, Or.inl ⟨k, hk, q, hi, rfl⟩⟩
  · rintro n - hi
    show ∃ z, fX8_firstWrong_b2 F (n + 1) 60 (h : Int) (((v 0).toNat : Nat) : Int) = some z ∧ _
    rw [fX8_firstWrong_b2, wx_n hW, if_neg hW.2.1, wx_V0 hW, if_pos (by omega)]
    exact ⟨_, rfl, Or.inr ⟨hi, rfl⟩⟩
/-- the slot of a row -/
theorem x_slotOfRow (hW : WX v S V F) (hO : VO v) (h n : Int) : ∃ z, fX8_slotOfRow 60 h n F = some z ∧ ((0 ≤ h ∧ h < v 5 ∧ 0 ≤ n) → FF (v 0).toNat (fun s => n < sm (s + 1) (rwI v S h.toNat)) (fun s => (s : Int)) (-1) z) ∧ (¬ (0 ≤ h ∧ h < v 5 ∧ 0 ≤ n) → z = -1) := by
  have b0 := hO.1
  unfold fX8_slotOfRow
  rw [wx_n hW, if_neg hW.2.1, v_has hW.2.2.1]
  by_cases q : 0 ≤ h ∧ h < v 5
  · rw [if_pos q, if_neg (by decide)]
    by_cases q2 : 0 ≤ n
    · rw [if_pos q2]
      obtain ⟨k0, rfl⟩ := nat_of q.1
      rw [Int.toNat_natCast]
      have R := lp (fun m k a => fX8_slotOfRow_b22 F m 60 (k0 : Int) n a (k : Int)) (v 0).toNat (fun k a => a = sm k (rwI v S k0) ∧ ∀ j, j < k → ¬ n < sm (j + 1) (rwI v S k0)) (fun r => ∃ z, r = some z ∧ FF (v 0).toNat (fun s => n < sm (s + 1) (rwI v S k0)) (fun s => (s : Int)) (-1) z) ?_ ?_ FU 0 0 (by omega) ⟨rfl, fun j hj => absurd hj (by omega)⟩ (FU_gt (by omega))
      · obtain ⟨z, z1, z2⟩ := R
        exact ⟨z, z1, fun _ => z2, fun c => absurd ⟨by omega, by omega, q2⟩ c⟩
      · rintro m k a hk ⟨rfl, hi⟩
        have hb := rwI_bd (S := S) hO q.2 k
        have hs := sum_bd48 (N := k) (g := rwI v S k0) (B := 9) (by omega) (fun i _ => rwI_bd hO q.2 i)
        have e1 : sm (k + 1) (rwI v S k0) = sm k (rwI v S k0) + rwI v S k0 k := rfl
        have E : fX8_slotOfRow_b22 F (m + 1) 60 (k0 : Int) n (sm k (rwI v S k0)) (k : Int) = if sm (k + 1) (rwI v S k0) ≤ n then fX8_slotOfRow_b22 F m 60 (k0 : Int) n (sm (k + 1) (rwI v S k0)) ((k + 1 : Nat) : Int) else some (k : Int) := by
          rw [fX8_slotOfRow_b22, wx_n hW, if_neg hW.2.1, wx_V0 hW, if_neg (by omega), x_rowsIn hW hO q.2 (by omega), Option.bind_some, xwn (by omega) (by omega), xwS (by omega), e1]
        by_cases q3 : sm (k + 1) (rwI v S k0) ≤ n
        · left
          refine ⟨_, ⟨rfl, fun j hj => ?_⟩, ?_⟩
          · by_cases y : j = k
            · subst y; omega
            · exact hi j (by omega)
          · show fX8_slotOfRow_b22 F (m + 1) 60 (k0 : Int) n (sm k (rwI v S k0)) (k : Int) = _
            rw [E, if_pos q3]
        · right
          show ∃ z, fX8_slotOfRow_b22 F (m + 1) 60 (k0 : Int) n (sm k (rwI v S k0)) (k : Int) = some z ∧ _
          rw [E, if_neg q3]
          exact ⟨_, rfl, Or.inl ⟨k, hk, by omega, hi, rfl⟩⟩
      · rintro m a ⟨rfl, hi⟩
        show ∃ z, fX8_slotOfRow_b22 F (m + 1) 60 (k0 : Int) n _ (((v 0).toNat : Nat) : Int) = some z ∧ _
        rw [fX8_slotOfRow_b22, wx_n hW, if_neg hW.2.1, wx_V0 hW, if_pos (by omega)]
        exact ⟨_, rfl, Or.inr ⟨hi, rfl⟩⟩
    · rw [if_neg q2]
      exact ⟨_, rfl, fun c => absurd c.2.2 q2, fun _ => rfl⟩
  · rw [if_neg q, if_pos rfl]
    exact ⟨_, rfl, fun c => absurd ⟨c.1, c.2.1⟩ q, fun _ => rfl⟩
end ROWS
