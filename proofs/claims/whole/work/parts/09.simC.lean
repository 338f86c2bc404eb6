def xQr (Z : XZ) (D : va_G) (ad : Nat → Nat) (cA : Nat → ClassId) : Array Value → State → Outcome → State → Prop := fun a st oc t => ∃ r F', Z.2.2.2.2.2 r F' ∧ xQc D ad cA r F' a st oc t
theorem xA_D {D : va_G} {ad : Nat → Nat} {cA : Nat → ClassId} {F : Mem} {A : Nat → Prop} (h : va_D A (xWs ad cA F)) : ∀ q, xA ad q → A q := by
  intro q ⟨o, k, hk, e⟩
  subst e
  exact h.2 (o - 1) _ (xWs_at ad cA F hk)
theorem xEnv_stable {ad : Nat → Nat} {s U : State} {locs : List Loc} (h : xEnv ad s) (hS : va_S (xA ad) s.heap U.heap locs) (hW : s.WarmedH U.vm) : xEnv ad U := by
  obtain ⟨h1, h2, h3, h4⟩ := h
  exact ⟨(h1.moved hW.alike).kept hS.2.1, fun i e he => (h2 i e he).warm hW, (h3.moved hW.alike).kept hS.2.1, h4.elim (fun q => Or.inl ((q.moved hW.alike).kept hS.2.1)) (fun q => Or.inr ((q.moved hW.alike).kept hS.2.1))⟩
theorem xEnv_calling {ad : Nat → Nat} {U : State} {g : JFrame} {mk : MethodId} {a : Array Value} (h : xEnv ad U) : xEnv ad (U.calling g mk a) := by
  obtain ⟨h1, h2, h3, h4⟩ := h
  exact ⟨h1.moved (U := U.calling g mk a) (Vm.Alike.refl U.vm), fun i e he => vk_R.same (u := U) (U := U.calling g mk a) rfl (h2 i e he), h3.moved (U := U.calling g mk a) (Vm.Alike.refl U.vm), h4.elim (fun q => Or.inl (q.moved (U := U.calling g mk a) (Vm.Alike.refl U.vm))) (fun q => Or.inr (q.moved (U := U.calling g mk a) (Vm.Alike.refl U.vm)))⟩
theorem xblind (D : va_G) (ad : Nat → Nat) (cA : Nat → ClassId) (As : List PV) (F : Mem) : FrameBlind (xPc D ad cA As F) := by
  intro a U g mk ⟨h1, h2, h3, h4, h5⟩
  exact ⟨h1, h2, h3, va_K.moved (u := U) (U := U.calling g mk a) (Vm.Alike.refl U.vm) h4, xEnv_calling h5⟩
theorem xgood {y : MethodName} {cc : ByteArray} {nL : Nat} {rt : Option FieldType} (h : Cond.code y cc nL rt ∈ xw_T) : GoodIn xw_T (Cond.code y cc nL rt :: xw_T) := by
  intro w hw
  have h1 : w ∈ xw_T := by
    rcases List.mem_cons.mp hw with rfl | h2
    · exact h
    · exact h2
  exact ⟨h1, good_of_word (List.mem_filter.mp h1).2⟩
theorem xcats_map (ad : Nat → Nat) (st : List PV) : ((st.map (cv ad)).map fun v => v.category).sum = xcats st := by
  unfold xcats
  rw [List.map_map]
  congr 1
  apply List.map_congr_left
  intro v _
  exact xcat_cv ad v
theorem revmap (ad : Nat → Nat) (As : List PV) : As.reverse.map (cv ad) = (As.map (cv ad)).reverse := List.map_reverse
theorem mm_max : Cond.static Lib.Math.max.name ∈ xw_T ∧ Cond.initialized "java/lang/Math" ∈ xw_T ∧ Cond.code Lib.Math.max.name Lib.Math.max.code 2 (some .int) ∈ xw_T := ⟨xinT 163 (by decide +kernel) (by decide +kernel), xinT 120 (by decide +kernel) (by decide +kernel), xinT 164 (by decide +kernel) (by decide +kernel)⟩
theorem mm_min : Cond.static Lib.Math.min.name ∈ xw_T ∧ Cond.code Lib.Math.min.name Lib.Math.min.code 2 (some .int) ∈ xw_T := ⟨xinT 559 (by decide +kernel) (by decide +kernel), xinT 560 (by decide +kernel) (by decide +kernel)⟩
theorem mm_abs : Cond.static Lib.Math.abs.name ∈ xw_T ∧ Cond.code Lib.Math.abs.name Lib.Math.abs.code 1 (some .int) ∈ xw_T := ⟨xinT 773 (by decide +kernel) (by decide +kernel), xinT 774 (by decide +kernel) (by decide +kernel)⟩
theorem mm_minL : Cond.static Lib.MathLoose.min_long.x ∈ xw_T ∧ Cond.code Lib.MathLoose.min_long.x Lib.MathLoose.min_long.code 4 (some .long) ∈ xw_T := ⟨xinT 1266 (by decide +kernel) (by decide +kernel), xinT 1267 (by decide +kernel) (by decide +kernel)⟩
theorem mm_copy : Cond.native arraycopyName ∈ xw_T ∧ Cond.static arraycopyName ∈ xw_T ∧ Cond.initialized "java/lang/System" ∈ xw_T := ⟨xinT 742 (by decide +kernel) (by decide +kernel), xinT 741 (by decide +kernel) (by decide +kernel), xinT 132 (by decide +kernel) (by decide +kernel)⟩
section XS3
variable {p : Program} {l : Launch} {e : Env} {R : Room} {s : State} {m : MethodId} {args : Array Value} {below : List Frame} {meth : Method} {c : Code} {Q : State → Prop} {cc : ByteArray} {Z : XZ} {D : va_G} {ad : Nat → Nat} {cA : Nat → ClassId}
theorem x_lcmp (C : XCx p R s m args meth c cc Z D ad cA) : xr_lcmp cc Z (XWP p l e R s m args below meth c Z D ad cA Q) := by
  intro pc ls st F a b hd h H locs lsA hm hl hs hP hD hS hL
  refine W.lcmp C.1 C.2.1 hd ?_
  have ha : in64 a := st_hd (st_tl hs)
  have hb : in64 b := st_hd hs
  have e : lg_cmp (Int64.ofInt a) (Int64.ofInt b) = Int32.ofInt (xcmp a b) := by
    unfold lg_cmp xcmp
    simp only [i64_lt ha hb, i64_lt hb ha, i64_eq ha hb, gt_iff_lt]
    by_cases h1 : a < b
    · simp [h1, show ¬ b < a by omega, show ¬ a = b by omega] <;> rfl
    · by_cases h2 : a = b
      · simp [h2] <;> rfl
      · simp [h1, h2, show b < a by omega] <;> rfl
  rw [e]
  refine h H locs lsA hm hl (st_cons ?_ (st_tl (st_tl hs))) hP hD hS hL
  show in32 (xcmp a b)
  unfold xcmp in32
  split
  · omega
  · split <;> omega
theorem x_aaload (C : XCx p R s m args meth c cc Z D ad cA) : xr_aaload cc Z (XWP p l e R s m args below meth c Z D ad cA Q) := by
  intro pc ls st F o ci i hd ha h0 h1 h H locs lsA hm hl hs hP hD hS hL
  obtain ⟨b, sp, hlay, har⟩ := isRA_n ha
  have hi : in32 i := st_hd hs
  have ecl := cl_of h0 hi
  have hn0 := lay_ne0 hlay
  show W _ _ _ _ _ _ _ _ _ _ _ _ _ _ _ (F0 m pc lsA (Value.int (Int32.ofInt i) :: cv ad (vR o) :: st.map (cv ad)))
  rw [cv_R hn0]
  have hci : ci = 7 ∨ ci = 3 ∨ ci = 4 := by
    have hd2 : (List.range (layN + 1)).all (fun o => match (lay o).bind kref with | some c => decide (c = 7 ∨ c = 3 ∨ c = 4) | none => true) = true := by decide +kernel
    have h7 := lay_all hd2 hlay
    unfold isRA at ha
    simp only [ha] at h7
    exact of_decide_eq_true h7
  have h2 := h H locs lsA hm hl (st_cons trivial (st_tl (st_tl hs))) hP hD hS hL
  rw [List.map_cons, cv_R (by have := har i.toNat; have := lay_le hlay; omega), har] at h2
  rcases hci with rfl | rfl | rfl
  · refine va_aldq C.1 C.2.1 C.2.2.2.2.2.1 hP (o - 1) 4 (xWs_at ad cA F hlay) rfl (vpin_of h0 hi h1) hd ?_
    rw [ecl]; exact h2
  · refine va_aldq C.1 C.2.1 C.2.2.2.2.2.1 hP (o - 1) 5 (xWs_at ad cA F hlay) rfl (vpin_of h0 hi h1) hd ?_
    rw [ecl]; exact h2
  · refine va_aldq C.1 C.2.1 C.2.2.2.2.2.1 hP (o - 1) 6 (xWs_at ad cA F hlay) rfl (vpin_of h0 hi h1) hd ?_
    rw [ecl]; exact h2
theorem alen_in (o : Nat) : in32 (alen o : Int) := by
  have hd2 : (List.range (layN + 1)).all (fun o => decide (alen o < 10000)) = true := by decide +kernel
  unfold in32
  by_cases h : ∃ k, lay o = some k
  · obtain ⟨k, hk⟩ := h
    have h1 := of_decide_eq_true (p := alen o < 10000) (lay_all hd2 hk)
    omega
  · have : alen o = 0 := by
      unfold alen
      cases hl : lay o with
      | none => rfl
      | some k => exact absurd ⟨k, hl⟩ h
    omega
theorem x_alen (C : XCx p R s m args meth c cc Z D ad cA) : xr_alen cc Z (XWP p l e R s m args below meth c Z D ad cA Q) := by
  intro pc ls st F o t hd ha h H locs lsA hm hl hs hP hD hS hL
  have hlay := isA_n ha
  have hn0 := lay_ne0 hlay
  show W _ _ _ _ _ _ _ _ _ _ _ _ _ _ _ (F0 m pc lsA ( cv ad (vR o) :: st.map (cv ad)))
  rw [cv_R hn0]
  have ht : t = 0 ∨ t = 1 ∨ t = 2 ∨ t = 3 := by
    have hd2 : (List.range (layN + 1)).all (fun o => match (lay o).bind kprim with | some c => decide (c = 0 ∨ c = 1 ∨ c = 2 ∨ c = 3) | none => true) = true := by decide +kernel
    have h7 := lay_all hd2 hlay
    unfold isA at ha
    simp only [ha] at h7
    exact of_decide_eq_true h7
  have h2 := h H locs lsA hm hl (st_cons (alen_in o) (st_tl hs)) hP hD hS hL
  rcases ht with rfl | rfl | rfl | rfl
  · exact va_alen C.1 C.2.1 C.2.2.2.2.2.1 hP (o - 1) 0 (xWs_at ad cA F hlay) rfl (v := Int32.ofInt (alen o : Int)) rfl hd h2
  · exact va_alen C.1 C.2.1 C.2.2.2.2.2.1 hP (o - 1) 1 (xWs_at ad cA F hlay) rfl (v := Int32.ofInt (alen o : Int)) rfl hd h2
  · exact va_alen C.1 C.2.1 C.2.2.2.2.2.1 hP (o - 1) 2 (xWs_at ad cA F hlay) rfl (v := Int32.ofInt (alen o : Int)) rfl hd h2
  · exact va_alen C.1 C.2.1 C.2.2.2.2.2.1 hP (o - 1) 3 (xWs_at ad cA F hlay) rfl (v := Int32.ofInt (alen o : Int)) rfl hd h2
theorem x_alenR (C : XCx p R s m args meth c cc Z D ad cA) : xr_alenR cc Z (XWP p l e R s m args below meth c Z D ad cA Q) := by
  intro pc ls st F o ci hd ha h H locs lsA hm hl hs hP hD hS hL
  obtain ⟨b, sp, hlay, har⟩ := isRA_n ha
  have hn0 := lay_ne0 hlay
  show W _ _ _ _ _ _ _ _ _ _ _ _ _ _ _ (F0 m pc lsA ( cv ad (vR o) :: st.map (cv ad)))
  rw [cv_R hn0]
  have hci : ci = 7 ∨ ci = 3 ∨ ci = 4 := by
    have hd2 : (List.range (layN + 1)).all (fun o => match (lay o).bind kref with | some c => decide (c = 7 ∨ c = 3 ∨ c = 4) | none => true) = true := by decide +kernel
    have h7 := lay_all hd2 hlay
    unfold isRA at ha
    simp only [ha] at h7
    exact of_decide_eq_true h7
  have h2 := h H locs lsA hm hl (st_cons (alen_in o) (st_tl hs)) hP hD hS hL
  rcases hci with rfl | rfl | rfl
  · exact va_alen C.1 C.2.1 C.2.2.2.2.2.1 hP (o - 1) 4 (xWs_at ad cA F hlay) rfl (v := Int32.ofInt (alen o : Int)) rfl hd h2
  · exact va_alen C.1 C.2.1 C.2.2.2.2.2.1 hP (o - 1) 5 (xWs_at ad cA F hlay) rfl (v := Int32.ofInt (alen o : Int)) rfl hd h2
  · exact va_alen C.1 C.2.1 C.2.2.2.2.2.1 hP (o - 1) 6 (xWs_at ad cA F hlay) rfl (v := Int32.ofInt (alen o : Int)) rfl hd h2
theorem x_ldcS (C : XCx p R s m args meth c cc Z D ad cA) : xr_ldcS cc Z (XWP p l e R s m args below meth c Z D ad cA Q) := by
  intro pc ls st F i j tx hd hs2 ho h H locs lsA hm hl hs hP hD hS hL
  obtain ⟨-, h2, -⟩ := C.2.2.2.2.2.2.1
  have h3 := h H locs lsA hm hl (st_cons trivial hs) hP hD hS hL
  rw [List.map_cons, cv_R (by omega)] at h3
  have h4 := h2 j (i, tx) hs2
  rw [← ho] at h4
  exact va_ldcS C.1 C.2.1 C.2.2.2.1 h4 hd h3
theorem x_ireturn (C : XCx p R s m args meth c cc Z D ad cA) : xr_ireturn cc Z (XWP p l e R s m args below meth c Z D ad cA (MQ below (xQr Z D ad cA) args s 0 0 (xA ad))) := by
  intro pc ls F x hd hr hq H locs lsA hm hl hs hP hD hS hL
  exact W.iret C.1 C.2.1 (C.2.2.2.2.2.2.2.2.1.trans hr) (fun t ht hW => ⟨some (vI x), F, hq, ⟨rfl, by rw [ht]; exact hP, hm, fun v hv => by cases hv; exact st_hd hs⟩, hS.F ht⟩) hS.2.2 hd C.2.2.2.2.2.2.2.1
theorem x_zreturn (C : XCx p R s m args meth c cc Z D ad cA) : xr_zreturn cc Z (XWP p l e R s m args below meth c Z D ad cA (MQ below (xQr Z D ad cA) args s 0 0 (xA ad))) := by
  intro pc ls F x hd hr hx hq H locs lsA hm hl hs hP hD hS hL
  exact W.zret C.1 C.2.1 (C.2.2.2.2.2.2.2.2.1.trans hr) (by rcases hx with rfl | rfl <;> rfl) (fun t ht hW => ⟨some (vI x), F, hq, ⟨rfl, by rw [ht]; exact hP, hm, fun v hv => by cases hv; exact st_hd hs⟩, hS.F ht⟩) hS.2.2 hd C.2.2.2.2.2.2.2.1
theorem x_return (C : XCx p R s m args meth c cc Z D ad cA) : xr_return cc Z (XWP p l e R s m args below meth c Z D ad cA (MQ below (xQr Z D ad cA) args s 0 0 (xA ad))) := by
  intro pc ls F hd hr hq H locs lsA hm hl hs hP hD hS hL
  exact W.vret C.1 C.2.1 (C.2.2.2.2.2.2.2.2.1.trans hr) (fun t ht hW => ⟨none, F, hq, ⟨rfl, by rw [ht]; exact hP, hm, fun v hv => by cases hv⟩, hS.F ht⟩) hS.2.2 hd C.2.2.2.2.2.2.2.1
theorem x_areturn (C : XCx p R s m args meth c cc Z D ad cA) : xr_areturn cc Z (XWP p l e R s m args below meth c Z D ad cA (MQ below (xQr Z D ad cA) args s 0 0 (xA ad))) := by
  intro pc ls F o ty hd hr hty hq H locs lsA hm hl hs hP hD hS hL
  exact W.aret C.1 C.2.1 (C.2.2.2.2.2.2.2.2.1.trans hr) hty (by show (if o = 0 then Value.null else _) = _ ∨ ∃ a, (if o = 0 then Value.null else _) = _; split; exact Or.inl rfl; exact Or.inr ⟨_, rfl⟩) (fun t ht hW => ⟨some (vR o), F, hq, ⟨rfl, by rw [ht]; exact hP, hm, fun v hv => by cases hv; exact trivial⟩, hS.F ht⟩) hS.2.2 hd C.2.2.2.2.2.2.2.1
theorem x_lreturn (C : XCx p R s m args meth c cc Z D ad cA) : xr_lreturn cc Z (XWP p l e R s m args below meth c Z D ad cA (MQ below (xQr Z D ad cA) args s 0 0 (xA ad))) := by
  intro pc ls F x hd hr hq H locs lsA hm hl hs hP hD hS hL
  exact W.lret C.1 C.2.1 (C.2.2.2.2.2.2.2.2.1.trans hr) (fun t ht hW => ⟨some (vL x), F, hq, ⟨rfl, by rw [ht]; exact hP, hm, fun v hv => by cases hv; exact st_hd hs⟩, hS.F ht⟩) hS.2.2 hd C.2.2.2.2.2.2.2.1
theorem xgo {H : Heap} {locs : List Loc} {lsA : Array Slot} {pc : Nat} {st0 : List Value} {rest : List PV} {ls : List (Nat × PV)} {r : Option PV} {F' : Mem} {a : Array Value}
    (hr : va_Run p l e R s m args below meth c H locs 0 0 0 0 (F0 m pc lsA st0) (rest.map (cv ad)) (xQc D ad cA r F' a) (xA ad)) (hS : va_S (xA ad) s.heap H locs) (hs : ∀ v ∈ rest, okV v) (hl : ∀ q ∈ ls, okV q.2) (hL : lv_has lsA Z.2.2.2.1 (ls.map (cvp ad))) {F : Mem} (hD : va_D (xA ad) (xWs ad cA F))
    (kk : XWP p l e R s m args below meth c Z D ad cA Q (pc + 3) ls (r.toList ++ rest) F') : W p l e R s m args below meth c H locs 0 0 Q (F0 m pc lsA st0) := by
  intro T hT X
  obtain ⟨v, st₀, t, T', L, h0, X', hL2, e1, e2, ⟨⟨hv, hP, hm, hok⟩, hz, hk⟩, st⟩ := hr T hT X
  cases hv
  rw [h0] at hz hk
  have hS' : va_S (xA ad) s.heap T'.heap (locs ++ L) := ⟨Nat.le_trans hS.1 (by rw [e1]; exact hz), fun q h1 h2 => by rw [e1, hk q (Nat.lt_of_lt_of_le h1 hS.1) h2]; exact hS.2.1 q h1 h2, fun q hq => by
      rcases List.mem_append.mp hq with h | h
      · exact hS.2.2 q h
      · exact hL2 q h⟩
  have hK := kk T'.heap (locs ++ L) lsA hm hl (fun u hu => by
      rcases List.mem_append.mp hu with h | h
      · exact hok u (Option.mem_toList.mp h)
      · exact hs u h) (by rw [e1]; exact hP) (xD_any F' hD) hS' hL
  have e : ((r.toList ++ rest).map (cv ad)) = (r.map (cv ad)).toList ++ rest.map (cv ad) := by cases r <;> rfl
  rw [e] at hK
  obtain ⟨t2, a1, b1⟩ := hK T' rfl X'
  exact ⟨t2, st t2 a1, b1⟩
theorem x_callV (C : XCx p R s m args meth c cc Z D ad cA) : xr_callV cc Z (XWP p l e R s m args below meth c Z D ad cA Q) := by
  intro pc ls st F o idx ci n g As rest r F' hd hc hk hn hg hst hw h H locs lsA hm hl hs hP hD hS hL
  subst hst
  obtain ⟨y, cc', nL', rt', fr', lo', hct, hfr, hlo, hcode, hlink, hini, hy, hkd⟩ := hc
  obtain ⟨hin, hsel, T, N, hcl⟩ := hkd
  obtain ⟨cs, hlay⟩ := isK_cs hk
  have hok : ∀ v ∈ vR o :: As, okV v := fun v hv => by
    rcases List.mem_cons.mp hv with rfl | h1
    · trivial
    · exact hs v (List.mem_append_left _ (List.mem_reverse.mpr h1))
  have hMet := hct _ F r F' hg hok hm l D ad cA
  have hcv : (vR o :: As).map (cv ad) = Value.ref (ad o) :: As.map (cv ad) := by rw [List.map_cons, cv_R (lay_ne0 hlay)]
  have hCB : CallB R s args Z.1 idx y cc' nL' rt' (Cond.code y cc' nL' rt' :: xw_T) { frames := fr', cells := 0, slots := 0, locals := lo' } 0 0 n :=
    callB_of n C.2.2.2.2.1 (xgood hcode) rfl rfl rfl (C.2.2.2.2.1 _ hini) (C.2.2.2.2.1 _ hlink) hy ⟨by show fr' + 1 ≤ R.frames; rw [C.2.2.2.2.2.2.2.2.2.1]; exact hfr, by show 8 + (nL' + 11) + lo' ≤ R.locals; rw [C.2.2.2.2.2.2.2.2.2.2]; exact hlo⟩
  have hrun := va_runV (locs := locs) (below := below) (meth := meth) (e := e) (cells := 0) (slots := 0) (As := As.map (cv ad)) (rest := rest.map (cv ad)) (b := ad o) (C := y.cls) (g := F0 m pc lsA ((As.reverse ++ vR o :: rest).map (cv ad))) (H := H) ⟨C.1, C.2.1, C.2.2.1, C.2.2.2.1, C.2.2.2.2.1⟩ hMet ⟨hCB, C.2.2.2.2.1 _ hin, C.2.2.2.2.1 _ hsel⟩
    ⟨xblind D ad cA _ F, va_recv C.2.2.2.2.2.1 hP hcl (xWs_at ad cA F hlay), fun U hU hW => ⟨by rw [hcv], by rw [hU]; exact hP, hD, va_K.moved hW.alike C.2.2.2.2.2.1, xEnv_stable C.2.2.2.2.2.2.1 (by rw [hU]; exact hS) hW⟩⟩
    rfl (by rw [List.length_map]; exact hn) hL.1 (by show (As.reverse ++ vR o :: rest).map (cv ad) = _; rw [List.map_append, revmap, List.map_cons, cv_R (lay_ne0 hlay)]) (by show 2 * 0 + _ ≤ 8; rw [xcats_map]; omega) hd ⟨Nat.zero_le _, Nat.zero_le _⟩
  exact xgo hrun hS (fun v hv => hs v (List.mem_append_right _ (List.mem_cons_of_mem _ hv))) hl hL hD h
theorem x_callT (C : XCx p R s m args meth c cc Z D ad cA) : xr_callT cc Z (XWP p l e R s m args below meth c Z D ad cA Q) := by
  intro pc ls st F o idx n g As rest r F' hd hc hk hn hg hst hw h H locs lsA hm hl hs hP hD hS hL
  subst hst
  obtain ⟨y, cc', nL', rt', fr', lo', hct, hfr, hlo, hcode, hlink, hini, hy, hkd⟩ := hc
  obtain ⟨hin, hsel, hcl⟩ := hkd
  obtain ⟨j, hj, hoj⟩ := hk
  have hne : o ≠ 0 := by omega
  obtain ⟨hstr, -⟩ := C.2.2.2.2.2.2.1
  have hrec := vk_recv hstr hj hS
  have hok : ∀ v ∈ vR o :: As, okV v := fun v hv => by
    rcases List.mem_cons.mp hv with rfl | h1
    · trivial
    · exact hs v (List.mem_append_left _ (List.mem_reverse.mpr h1))
  have hMet := hct _ F r F' hg hok hm l D ad cA
  have hcv : (vR o :: As).map (cv ad) = Value.ref (ad o) :: As.map (cv ad) := by rw [List.map_cons, cv_R hne]
  have hCB : CallB R s args Z.1 idx y cc' nL' rt' (Cond.code y cc' nL' rt' :: xw_T) { frames := fr', cells := 0, slots := 0, locals := lo' } 0 0 n :=
    callB_of n C.2.2.2.2.1 (xgood hcode) rfl rfl rfl (C.2.2.2.2.1 _ hini) (C.2.2.2.2.1 _ hlink) hy ⟨by show fr' + 1 ≤ R.frames; rw [C.2.2.2.2.2.2.2.2.2.1]; exact hfr, by show 8 + (nL' + 11) + lo' ≤ R.locals; rw [C.2.2.2.2.2.2.2.2.2.2]; exact hlo⟩
  have hrun := va_runV (locs := locs) (below := below) (meth := meth) (e := e) (cells := 0) (slots := 0) (As := As.map (cv ad)) (rest := rest.map (cv ad)) (b := ad o) (C := y.cls) (g := F0 m pc lsA ((As.reverse ++ vR o :: rest).map (cv ad))) (H := H) ⟨C.1, C.2.1, C.2.2.1, C.2.2.2.1, C.2.2.2.2.1⟩ hMet ⟨hCB, C.2.2.2.2.1 _ hin, C.2.2.2.2.1 _ hsel⟩
    ⟨xblind D ad cA _ F, by rw [hcl, hoj]; exact hrec, fun U hU hW => ⟨by rw [hcv], by rw [hU]; exact hP, hD, va_K.moved hW.alike C.2.2.2.2.2.1, xEnv_stable C.2.2.2.2.2.2.1 (by rw [hU]; exact hS) hW⟩⟩
    rfl (by rw [List.length_map]; exact hn) hL.1 (by show (As.reverse ++ vR o :: rest).map (cv ad) = _; rw [List.map_append, revmap, List.map_cons, cv_R hne]) (by show 2 * 0 + _ ≤ 8; rw [xcats_map]; omega) hd ⟨Nat.zero_le _, Nat.zero_le _⟩
  exact xgo hrun hS (fun v hv => hs v (List.mem_append_right _ (List.mem_cons_of_mem _ hv))) hl hL hD h
theorem x_callS (C : XCx p R s m args meth c cc Z D ad cA) : xr_callS cc Z (XWP p l e R s m args below meth c Z D ad cA Q) := by
  intro pc ls st F idx ci n g As rest r F' hd hc hn hg hst hw h H locs lsA hm hl hs hP hD hS hL
  subst hst
  obtain ⟨y, cc', nL', rt', fr', lo', hct, hfr, hlo, hcode, hlink, hini, hy, hkd⟩ := hc
  have hstt : Cond.static y ∈ xw_T := hkd
  have hok : ∀ v ∈ As, okV v := fun v hv => hs v (List.mem_append_left _ (List.mem_reverse.mpr hv))
  have hMet := hct _ F r F' hg hok hm l D ad cA
  have hCB : CallB R s args Z.1 idx y cc' nL' rt' (Cond.code y cc' nL' rt' :: xw_T) { frames := fr', cells := 0, slots := 0, locals := lo' } 0 0 n :=
    callB_of n C.2.2.2.2.1 (xgood hcode) rfl rfl rfl (C.2.2.2.2.1 _ hini) (C.2.2.2.2.1 _ hlink) hy ⟨by show fr' + 1 ≤ R.frames; rw [C.2.2.2.2.2.2.2.2.2.1]; exact hfr, by show 8 + (nL' + 11) + lo' ≤ R.locals; rw [C.2.2.2.2.2.2.2.2.2.2]; exact hlo⟩
  have hrun := va_runS (locs := locs) (below := below) (meth := meth) (e := e) (cells := 0) (slots := 0) (As := As.map (cv ad)) (rest := rest.map (cv ad)) (g := F0 m pc lsA ((As.reverse ++ rest).map (cv ad))) (H := H) ⟨C.1, C.2.1, C.2.2.1, C.2.2.2.1, C.2.2.2.2.1⟩ hMet ⟨hCB, C.2.2.2.2.1 _ hstt⟩
    ⟨xblind D ad cA _ F, fun U hU hW => ⟨rfl, by rw [hU]; exact hP, hD, va_K.moved hW.alike C.2.2.2.2.2.1, xEnv_stable C.2.2.2.2.2.2.1 (by rw [hU]; exact hS) hW⟩⟩
    rfl (by rw [List.length_map]; exact hn) hL.1 (by show (As.reverse ++ rest).map (cv ad) = _; rw [List.map_append, revmap]) (by show 2 * 0 + _ ≤ 8; rw [xcats_map]; omega) hd ⟨Nat.zero_le _, Nat.zero_le _⟩
  exact xgo hrun hS (fun v hv => hs v (List.mem_append_right _ hv)) hl hL hD h
theorem x_mmax (C : XCx p R s m args meth c cc Z D ad cA) : xr_mmax cc Z (XWP p l e R s m args below meth c Z D ad cA Q) := by
  intro pc ls st F idx a b hd hmm hw h H locs lsA hm hl hs hP hD hS hL
  obtain ⟨hlink, hm1, hm2⟩ := hmm
  have ha : in32 a := st_hd (st_tl hs)
  have hb : in32 b := st_hd hs
  have h2 := h H locs lsA hm hl (st_cons (by show in32 (xmax a b); unfold xmax; split; exact hb; exact ha) (st_tl (st_tl hs))) hP hD hS hL
  have e : (if Int32.ofInt a < Int32.ofInt b then Int32.ofInt b else Int32.ofInt a) = Int32.ofInt (xmax a b) := by
    unfold xmax
    by_cases hab : a < b
    · rw [if_pos hab, if_pos ((i32_lt ha hb).mpr hab)]
    · rw [if_neg hab, if_neg (fun z => hab ((i32_lt ha hb).mp z))]
  rw [List.map_cons, show cv ad (vI (xmax a b)) = Value.int (Int32.ofInt (xmax a b)) from rfl, ← e] at h2
  exact va_mmax C.1 C.2.1 (C.2.2.1.trans hL.1.symm) C.2.2.2.1 (C.2.2.2.2.1 _ hlink) (C.2.2.2.2.1 _ mm_max.1) (C.2.2.2.2.1 _ mm_max.2.1) (C.2.2.2.2.1 _ mm_max.2.2) (by rw [C.2.2.2.2.2.2.2.2.2.1]; exact hm1) (by rw [C.2.2.2.2.2.2.2.2.2.2]; rw [xcats_map]; omega) (Nat.zero_le _) (Nat.zero_le _) hd h2
theorem x_mmin (C : XCx p R s m args meth c cc Z D ad cA) : xr_mmin cc Z (XWP p l e R s m args below meth c Z D ad cA Q) := by
  intro pc ls st F idx a b hd hmm hw h H locs lsA hm hl hs hP hD hS hL
  obtain ⟨hlink, hm1, hm2⟩ := hmm
  have ha : in32 a := st_hd (st_tl hs)
  have hb : in32 b := st_hd hs
  have h2 := h H locs lsA hm hl (st_cons (by show in32 (xmin a b); unfold xmin; split; exact hb; exact ha) (st_tl (st_tl hs))) hP hD hS hL
  have e : (if Int32.ofInt b < Int32.ofInt a then Int32.ofInt b else Int32.ofInt a) = Int32.ofInt (xmin a b) := by
    unfold xmin
    by_cases hab : b < a
    · rw [if_pos hab, if_pos ((i32_lt hb ha).mpr hab)]
    · rw [if_neg hab, if_neg (fun z => hab ((i32_lt hb ha).mp z))]
  rw [List.map_cons, show cv ad (vI (xmin a b)) = Value.int (Int32.ofInt (xmin a b)) from rfl, ← e] at h2
  exact va_mmin C.1 C.2.1 (C.2.2.1.trans hL.1.symm) C.2.2.2.1 (C.2.2.2.2.1 _ hlink) (C.2.2.2.2.1 _ mm_min.1) (C.2.2.2.2.1 _ mm_max.2.1) (C.2.2.2.2.1 _ mm_min.2) (by rw [C.2.2.2.2.2.2.2.2.2.1]; exact hm1) (by rw [C.2.2.2.2.2.2.2.2.2.2]; rw [xcats_map]; omega) (Nat.zero_le _) (Nat.zero_le _) hd h2
theorem x_mabs (C : XCx p R s m args meth c cc Z D ad cA) : xr_mabs cc Z (XWP p l e R s m args below meth c Z D ad cA Q) := by
  intro pc ls st F idx a hd hmm hw h H locs lsA hm hl hs hP hD hS hL
  obtain ⟨hlink, hm1, hm2⟩ := hmm
  have ha : in32 a := st_hd hs
  have h2 := h H locs lsA hm hl (st_cons (by show in32 (xabs a); unfold xabs; split; exact xw_in _; exact ha) (st_tl hs)) hP hD hS hL
  have e : (if 0 ≤ Int32.ofInt a then Int32.ofInt a else 0 - Int32.ofInt a) = Int32.ofInt (xabs a) := by
    unfold xabs
    have hq := i32_le in32_0 ha
    rw [← i32_zero] at hq
    by_cases hab : a < 0
    · rw [if_pos hab, if_neg (fun z => by have := hq.mp z; omega), i32_zero, i32_sub, Int.zero_sub]
    · rw [if_neg hab, if_pos (hq.mpr (by omega))]
  rw [List.map_cons, show cv ad (vI (xabs a)) = Value.int (Int32.ofInt (xabs a)) from rfl, ← e] at h2
  exact va_mabs C.1 C.2.1 (C.2.2.1.trans hL.1.symm) C.2.2.2.1 (C.2.2.2.2.1 _ hlink) (C.2.2.2.2.1 _ mm_abs.1) (C.2.2.2.2.1 _ mm_max.2.1) (C.2.2.2.2.1 _ mm_abs.2) (by rw [C.2.2.2.2.2.2.2.2.2.1]; exact hm1) (by rw [C.2.2.2.2.2.2.2.2.2.2]; rw [xcats_map]; omega) (Nat.zero_le _) (Nat.zero_le _) hd h2
theorem x_mminL (C : XCx p R s m args meth c cc Z D ad cA) : xr_mminL cc Z (XWP p l e R s m args below meth c Z D ad cA Q) := by
  intro pc ls st F idx a b hd hmm hw h H locs lsA hm hl hs hP hD hS hL
  obtain ⟨hlink, hm1, hm2⟩ := hmm
  have ha : in64 a := st_hd (st_tl hs)
  have hb : in64 b := st_hd hs
  have h2 := h H locs lsA hm hl (st_cons (by show in64 (xmin a b); unfold xmin; split; exact hb; exact ha) (st_tl (st_tl hs))) hP hD hS hL
  have e : (if Int64.ofInt b < Int64.ofInt a then Int64.ofInt b else Int64.ofInt a) = Int64.ofInt (xmin a b) := by
    unfold xmin
    by_cases hab : b < a
    · rw [if_pos hab, if_pos ((i64_lt hb ha).mpr hab)]
    · rw [if_neg hab, if_neg (fun z => hab ((i64_lt hb ha).mp z))]
  rw [List.map_cons, show cv ad (vL (xmin a b)) = Value.long (Int64.ofInt (xmin a b)) from rfl, ← e] at h2
  exact va_mmin_long C.1 C.2.1 (C.2.2.1.trans hL.1.symm) C.2.2.2.1 (C.2.2.2.2.1 _ hlink) (C.2.2.2.2.1 _ mm_minL.1) (C.2.2.2.2.1 _ mm_max.2.1) (C.2.2.2.2.1 _ mm_minL.2) (by rw [C.2.2.2.2.2.2.2.2.2.1]; exact hm1) (by rw [C.2.2.2.2.2.2.2.2.2.2]; rw [xcats_map]; omega) (Nat.zero_le _) (Nat.zero_le _) hd h2
theorem x_getSV (C : XCx p R s m args meth c cc Z D ad cA) : xr_getSV cc Z (XWP p l e R s m args below meth c Z D ad cA Q) := by
  intro pc ls st F j idx hd hw hj h H locs lsA hm hl hs hP hD hS hL
  show W _ _ _ _ _ _ _ _ _ _ _ _ _ _ _ (F0 m pc lsA ( cv ad (vR (1000 + j)) :: st.map (cv ad)))
  rw [cv_R (by omega)]
  have h2 := h H locs lsA hm hl (st_cons trivial (st_tl hs)) hP hD hS hL
  rw [List.map_cons, cv_R (by omega)] at h2
  exact vk_getf C.1 C.2.1 (C.2.2.2.2.2.2.1.1.1 j hj).2.2.1 hS C.2.2.2.1 (C.2.2.2.2.1 _ hw) (fun x hx => hx) hd h2
theorem x_getSC (C : XCx p R s m args meth c cc Z D ad cA) : xr_getSC cc Z (XWP p l e R s m args below meth c Z D ad cA Q) := by
  intro pc ls st F j idx hd hw hj h H locs lsA hm hl hs hP hD hS hL
  show W _ _ _ _ _ _ _ _ _ _ _ _ _ _ _ (F0 m pc lsA ( cv ad (vR (1000 + j)) :: st.map (cv ad)))
  rw [cv_R (by omega)]
  have h2 := h H locs lsA hm hl (st_cons in32_0 (st_tl hs)) hP hD hS hL
  exact vk_getf C.1 C.2.1 (C.2.2.2.2.2.2.1.1.1 j hj).2.1 hS C.2.2.2.1 (C.2.2.2.2.1 _ hw) (fun x hx => hx) hd h2
theorem x_getCS (C : XCx p R s m args meth c cc Z D ad cA) : xr_getCS cc Z (XWP p l e R s m args below meth c Z D ad cA Q) := by
  intro pc ls st F idx hd hw h H locs lsA hm hl hs hP hD hS hL
  have h2 := h H locs lsA hm hl (st_cons (by show in32 1; unfold in32; omega) hs) hP hD hS hL
  exact va_gets C.1 C.2.1 C.2.2.2.2.2.2.1.2.2.1 hS C.2.2.2.1 (C.2.2.2.2.1 _ hw) (fun x hx => hx) hd h2
theorem x_getSF (C : XCx p R s m args meth c cc Z D ad cA) : xr_getSF cc Z (XWP p l e R s m args below meth c Z D ad cA Q) := by
  intro pc ls st F idx hd hw h0 h1 H locs lsA hm hl hs hP hD hS hL
  rcases C.2.2.2.2.2.2.1.2.2.2 with q | q
  · exact va_gets C.1 C.2.1 q hS C.2.2.2.1 (C.2.2.2.2.1 _ hw) (fun x hx => hx) hd (h0 H locs lsA hm hl (st_cons trivial hs) hP hD hS hL)
  · have h2 := h1 H locs lsA hm hl (st_cons trivial hs) hP hD hS hL
    rw [List.map_cons, cv_R (by omega)] at h2
    exact va_gets C.1 C.2.1 q hS C.2.2.2.1 (C.2.2.2.2.1 _ hw) (fun x hx => hx) hd h2
theorem strL_in (j : Nat) : in32 ((strL.getD j 0 : Nat) : Int) := by
  have hd : strL.all (fun n => decide (n < 1000)) = true := by decide +kernel
  rw [List.getD_eq_getElem?_getD]
  cases h : strL[j]? with
  | none => exact in32_0
  | some n =>
    have h2 := of_decide_eq_true (List.all_eq_true.mp hd n (List.mem_of_getElem? h))
    show in32 ((n : Nat) : Int)
    unfold in32; omega
theorem x_alenS (C : XCx p R s m args meth c cc Z D ad cA) : xr_alenS cc Z (XWP p l e R s m args below meth c Z D ad cA Q) := by
  intro pc ls st F j hd hj h H locs lsA hm hl hs hP hD hS hL
  show W _ _ _ _ _ _ _ _ _ _ _ _ _ _ _ (F0 m pc lsA ( cv ad (vR (2000 + j)) :: st.map (cv ad)))
  rw [cv_R (by omega)]
  have h2 := h H locs lsA hm hl (st_cons (strL_in j) (st_tl hs)) hP hD hS hL
  exact va_tlen C.1 C.2.1 (C.2.2.2.2.2.2.1.1.1 j hj).2.2.2 hS (v := Int32.ofInt ((strL.getD j 0 : Nat) : Int)) rfl hd h2
theorem x_baloadS (C : XCx p R s m args meth c cc Z D ad cA) : xr_baloadS cc Z (XWP p l e R s m args below meth c Z D ad cA Q) := by
  intro pc ls st F j i hd hj h0 h1 h H locs lsA hm hl hs hP hD hS hL
  have hi : in32 i := st_hd hs
  have ecl := cl_of h0 hi
  show W _ _ _ _ _ _ _ _ _ _ _ _ _ _ _ (F0 m pc lsA (Value.int (Int32.ofInt i) :: cv ad (vR (2000 + j)) :: st.map (cv ad)))
  rw [cv_R (by omega)]
  have h2 := h H locs lsA hm hl (st_cons (i32_in _) (st_tl (st_tl hs))) hP hD hS hL
  refine va_tb C.1 C.2.1 (C.2.2.2.2.2.2.1.1.1 j hj).2.2.2 hS (vpin_of h0 hi h1) (v := cv ad (vI ((strB.getD j []).getD i.toNat 0).toInt)) ?_ hd h2
  show Value.int ((strB.getD j []).getD (Int32.ofInt i).toNatClampNeg 0) = Value.int (Int32.ofInt ((strB.getD j []).getD i.toNat 0).toInt)
  rw [ecl, i32_ofToInt]
theorem x_i2c (C : XCx p R s m args meth c cc Z D ad cA) : xr_i2c cc Z (XWP p l e R s m args below meth c Z D ad cA Q) := by
  intro pc ls st F a hd h H locs lsA hm hl hs hP hD hS hL
  refine lv_i2c C.1 C.2.1 hd (i32_ofToInt _).symm ?_
  exact h H locs lsA hm hl (st_cons (i32_in _) (st_tl hs)) hP hD hS hL
theorem nar_char {x : Int} (h : 0 ≤ x ∧ x < 65536) : narrow .char (.int (Int32.ofInt x)) = .int (Int32.ofInt x) := by
  have e : Int32.ofInt x = nI x.toNat := by
    apply Int32.toInt_inj.mp
    rw [i32_toInt, nI_toInt (by omega)]
    unfold xw; omega
  rw [e]
  exact (pk_charN (by omega)).1
theorem x_creturn (C : XCx p R s m args meth c cc Z D ad cA) : xr_creturn cc Z (XWP p l e R s m args below meth c Z D ad cA (MQ below (xQr Z D ad cA) args s 0 0 (xA ad))) := by
  intro pc ls F x hd hr hx hq H locs lsA hm hl hs hP hD hS hL
  exact W.zret C.1 C.2.1 (C.2.2.2.2.2.2.2.2.1.trans hr) (nar_char hx) (fun t ht hW => ⟨some (vI x), F, hq, ⟨rfl, by rw [ht]; exact hP, hm, fun v hv => by cases hv; exact st_hd hs⟩, hS.F ht⟩) hS.2.2 hd C.2.2.2.2.2.2.2.1
theorem x_breturn (C : XCx p R s m args meth c cc Z D ad cA) : xr_breturn cc Z (XWP p l e R s m args below meth c Z D ad cA (MQ below (xQr Z D ad cA) args s 0 0 (xA ad))) := by
  intro pc ls F hd hr hq H locs lsA hm hl hs hP hD hS hL
  exact W.zret C.1 C.2.1 (C.2.2.2.2.2.2.2.2.1.trans hr) rfl (fun t ht hW => ⟨some (vI 0), F, hq, ⟨rfl, by rw [ht]; exact hP, hm, fun v hv => by cases hv; exact st_hd hs⟩, hS.F ht⟩) hS.2.2 hd C.2.2.2.2.2.2.2.1
end XS3
