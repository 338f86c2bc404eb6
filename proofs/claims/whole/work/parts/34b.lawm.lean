/-! ===== the law's own walk: rows ===== -/
def LX (p : Program) (s : State) (m : MethodId) (meth : Method) (c : Code) (b L : Nat) (xs : Nat → Int32) (D : va_G) (ad : Nat → Nat) (cA : Nat → ClassId) : Prop :=
  p.tables.exec = Jvm.exec ∧ c.code = code ∧ c.maxLocals = 4 ∧ s.vm.findClass R_law = some m.cls ∧ (∀ w ∈ xw_T, w.before #[Value.ref b] s = true) ∧ va_K D vwCl (xTys cA) s ∧ xEnv ad s ∧ va_X b L xs s s.heap ∧ b < s.heap.size ∧ ¬ xA ad b ∧ L ≤ 4608 ∧ meth.sig.returnType = ret ∧ meth.locks = false ∧ (∀ q, xA ad q → s.heap.size ≤ q)
def lloc (ad : Nat → Nat) (b i : Nat) : List (Nat × Value) := [(0, .ref b), (1, .ref (ad 1)), (2, .ref (ad 173)), (3, .int (Int32.ofInt (i : Int)))]
def LWP (p : Program) (l : Launch) (e : Env) (s : State) (m : MethodId) (below : List Frame) (meth : Method) (c : Code) (b : Nat) (D : va_G) (ad : Nat → Nat) (cA : Nat → ClassId) (Q : State → Prop) : Nat → Nat → List PV → Mem → Prop := fun pc i st F =>
  ∀ (H : Heap) (locs : List Loc) (lsA : Array Slot), mok F → (∀ v ∈ st, okV v) → va_P D vwCl (xWs ad cA F) H → va_D (xA ad) (xWs ad cA F) → va_S (xA ad) s.heap H locs → lv_has lsA 4 (lloc ad b i) →
    W p l e room_1 s m #[Value.ref b] below meth c H locs 600000 7302250 Q (F0 m pc lsA (st.map (cv ad)))
section LAWM
variable {p : Program} {l : Launch} {e : Env} {s : State} {m : MethodId} {below : List Frame} {meth : Method} {c : Code} {b L : Nat} {xs : Nat → Int32} {D : va_G} {ad : Nat → Nat} {cA : Nat → ClassId} {Q : State → Prop}
theorem l_x (C : LX p s m meth c b L xs D ad cA) {pc i : Nat} {st : List PV} {F : Mem} (hd : decode code pc = .ok (.aload_n 1, 1)) (h : LWP p l e s m below meth c b D ad cA Q (pc + 1) i (vR 1 :: st) F) : LWP p l e s m below meth c b D ad cA Q pc i st F := by
  intro H locs lsA hm hs hP hD hS hL
  refine lv_aload_n C.1 C.2.1 hd rfl (lv_at hL 1 rfl) ?_
  exact h H locs lsA hm (st_cons trivial hs) hP hD hS hL
theorem l_m (C : LX p s m meth c b L xs D ad cA) {pc i : Nat} {st : List PV} {F : Mem} (hd : decode code pc = .ok (.aload_n 2, 1)) (h : LWP p l e s m below meth c b D ad cA Q (pc + 1) i (vR 173 :: st) F) : LWP p l e s m below meth c b D ad cA Q pc i st F := by
  intro H locs lsA hm hs hP hD hS hL
  refine lv_aload_n C.1 C.2.1 hd rfl (lv_at hL 2 rfl) ?_
  exact h H locs lsA hm (st_cons trivial hs) hP hD hS hL
theorem l_argW (C : LX p s m meth c b L xs D ad cA) {pc i k : Nat} {st : List PV} {F : Mem} {lsA : Array Slot} {H : Heap} {locs : List Loc} (h4 : decode code pc = .ok (.iadd, 1)) (h5 : decode code (pc + 1) = .ok (.iaload, 1)) (hi : i + k < L) (h : LWP p l e s m below meth c b D ad cA Q (pc + 2) i (vI (xs (i + k)).toInt :: st) F)
    (hm : mok F) (hs : ∀ v ∈ st, okV v) (hP : va_P D vwCl (xWs ad cA F) H) (hD : va_D (xA ad) (xWs ad cA F)) (hS : va_S (xA ad) s.heap H locs) (hL : lv_has lsA 4 (lloc ad b i)) :
    W p l e room_1 s m #[Value.ref b] below meth c H locs 600000 7302250 Q (F0 m pc lsA (.int (Int32.ofInt (k : Int)) :: .int (Int32.ofInt (i : Int)) :: .ref b :: st.map (cv ad))) := by
  have hLL := C.2.2.2.2.2.2.2.2.2.2.1
  have e1 : Int32.ofInt (i : Int) + Int32.ofInt (k : Int) = Int32.ofInt ((i + k : Nat) : Int) := by
    rw [i32_add, xw_id (by unfold in32; omega)]
    rfl
  refine lv_iadd C.1 C.2.1 h4 ?_
  rw [e1]
  have h2 := h H locs lsA hm (st_cons (i32_in _) hs) hP hD hS hL
  have e2 : (Int32.ofInt ((i + k : Nat) : Int)).toNatClampNeg = i + k := cl_of (by omega) (by unfold in32; omega)
  refine va_sld C.1 C.2.1 C.2.2.2.2.2.2.2.1 C.2.2.2.2.2.2.2.2.1 C.2.2.2.2.2.2.2.2.2.1 hS (vpin_of (by omega) (by unfold in32; omega) (by omega)) h5 ?_
  rw [e2]
  have e3 : (Value.int (xs (i + k))) = cv ad (vI (xs (i + k)).toInt) := by show _ = Value.int (Int32.ofInt _); rw [i32_ofToInt]
  rw [e3]
  exact h2
theorem l_arg (C : LX p s m meth c b L xs D ad cA) {pc i k : Nat} {st : List PV} {F : Mem} (h1 : decode code pc = .ok (.aload_n 0, 1)) (h2 : decode code (pc + 1) = .ok (.iload_n 3, 1)) (h3 : decode code (pc + 2) = .ok (.iconst (k : Int), 1)) (h4 : decode code (pc + 3) = .ok (.iadd, 1)) (h5 : decode code (pc + 4) = .ok (.iaload, 1)) (hi : i + k < L) (h : LWP p l e s m below meth c b D ad cA Q (pc + 5) i (vI (xs (i + k)).toInt :: st) F) : LWP p l e s m below meth c b D ad cA Q pc i st F := by
  intro H locs lsA hm hs hP hD hS hL
  refine lv_aload_n C.1 C.2.1 h1 rfl (lv_at hL 0 rfl) ?_
  refine lv_iload_n C.1 C.2.1 h2 rfl (lv_at hL 3 rfl) ?_
  refine lv_iconst (v := Int32.ofInt (k : Int)) C.1 C.2.1 h3 rfl ?_
  exact l_argW C h4 h5 hi h hm hs hP hD hS hL
theorem l_argB (C : LX p s m meth c b L xs D ad cA) {pc i k : Nat} {st : List PV} {F : Mem} (h1 : decode code pc = .ok (.aload_n 0, 1)) (h2 : decode code (pc + 1) = .ok (.iload_n 3, 1)) (h3 : decode code (pc + 2) = .ok (.bipush (k : Int), 2)) (h4 : decode code (pc + 4) = .ok (.iadd, 1)) (h5 : decode code (pc + 5) = .ok (.iaload, 1)) (hk : (Int8.ofInt (k : Int)).toInt32 = Int32.ofInt (k : Int)) (hi : i + k < L) (h : LWP p l e s m below meth c b D ad cA Q (pc + 6) i (vI (xs (i + k)).toInt :: st) F) : LWP p l e s m below meth c b D ad cA Q pc i st F := by
  intro H locs lsA hm hs hP hD hS hL
  refine lv_aload_n C.1 C.2.1 h1 rfl (lv_at hL 0 rfl) ?_
  refine lv_iload_n C.1 C.2.1 h2 rfl (lv_at hL 3 rfl) ?_
  refine lv_bipush (v := Int32.ofInt (k : Int)) C.1 C.2.1 h3 hk ?_
  exact l_argW C h4 h5 hi h hm hs hP hD hS hL
theorem l_bool (C : LX p s m meth c b L xs D ad cA) {pc i : Nat} {x : Int} {st : List PV} {F : Mem} (h1 : decode code pc = .ok (.ifCond .eq 7, 3)) (h2 : decode code (pc + 3) = .ok (.iconst 1, 1)) (h3 : decode code (pc + 4) = .ok (.goto 4, 3)) (h4 : decode code (pc + 7) = .ok (.iconst 0, 1)) (h : LWP p l e s m below meth c b D ad cA Q (pc + 8) i (vI (if x = 0 then 0 else 1) :: st) F) : LWP p l e s m below meth c b D ad cA Q pc i (vI x :: st) F := by
  intro H locs lsA hm hs hP hD hS hL
  have hx : in32 x := st_hd hs
  refine lv_if_eq (tgt := pc + 7) C.1 C.2.1 h1 (by omega) (fun hc => ?_) (fun hc => ?_)
  · have hx0 : x = 0 := (i32_eq hx in32_0).mp hc
    rw [if_pos hx0] at h
    refine lv_iconst (v := Int32.ofInt 0) C.1 C.2.1 h4 rfl ?_
    exact h H locs lsA hm (st_cons in32_0 (st_tl hs)) hP hD hS hL
  · have hx0 : ¬ x = 0 := fun q => hc (by rw [q]; rfl)
    rw [if_neg hx0] at h
    refine lv_iconst (v := Int32.ofInt 1) C.1 C.2.1 h2 rfl ?_
    refine lv_goto (tgt := pc + 8) C.1 C.2.1 h3 (by omega) ?_
    exact h H locs lsA hm (st_cons (by show in32 1; unfold in32; omega) (st_tl hs)) hP hD hS hL
theorem l_callV (C : LX p s m meth c b L xs D ad cA) {pc i : Nat} {st : List PV} {F : Mem} {o idx ci n : Nat} {g : XG} {As rest : List PV} {r : PV} {F' : Mem} (hd : decode code pc = .ok (.invokevirtual idx, 3)) (hc : xCall R_law 12 454 0 idx ci n g) (hk : isK o ci) (hn : As.length = n) (hg : g (vR o :: As) F (some r) F') (hst : st = As.reverse ++ vR o :: rest) (hw : xcats rest ≤ 8) (h : LWP p l e s m below meth c b D ad cA Q (pc + 3) i (r :: rest) F') : LWP p l e s m below meth c b D ad cA Q pc i st F := by
  intro H locs lsA hm hs hP hD hS hL
  subst hst
  obtain ⟨y, cc', nL', rt', fr', lo', hct, hfr, hlo, hcode, hlink, hini, hy, hkd⟩ := hc
  obtain ⟨hin, hsel, T, N, hcl⟩ := hkd
  obtain ⟨cs, hlay⟩ := isK_cs hk
  obtain ⟨C1, C2, C3, C4, C5, C6, C7, -⟩ := C
  have hok : ∀ v ∈ vR o :: As, okV v := fun v hv => by
    rcases List.mem_cons.mp hv with rfl | h1
    · trivial
    · exact hs v (List.mem_append_left _ (List.mem_reverse.mpr h1))
  have hMet := hct _ F (some r) F' hg hok hm l D ad cA
  have hcv : (vR o :: As).map (cv ad) = Value.ref (ad o) :: As.map (cv ad) := by rw [List.map_cons, cv_R (lay_ne0 hlay)]
  have hCB : CallB room_1 s #[Value.ref b] R_law idx y cc' nL' rt' (Cond.code y cc' nL' rt' :: xw_T) { frames := fr', cells := 0, slots := 0, locals := lo' } 0 0 n :=
    callB_of n C5 (xgood hcode) rfl rfl rfl (C5 _ hini) (C5 _ hlink) hy ⟨hfr, hlo⟩
  have hrun := va_runV (locs := locs) (below := below) (meth := meth) (e := e) (cells := 600000) (slots := 7302250) (As := As.map (cv ad)) (rest := rest.map (cv ad)) (b := ad o) (C := y.cls) (g := F0 m pc lsA ((As.reverse ++ vR o :: rest).map (cv ad))) (H := H) ⟨C1, C2, C3, C4, C5⟩ hMet ⟨hCB, C5 _ hin, C5 _ hsel⟩
    ⟨xblind D ad cA _ F, va_recv C6 hP hcl (xWs_at ad cA F hlay), fun U hU hW => ⟨by rw [hcv], by rw [hU]; exact hP, hD, va_K.moved hW.alike C6, xEnv_stable C7 (by rw [hU]; exact hS) hW⟩⟩
    rfl (by rw [List.length_map]; exact hn) hL.1 (by show (As.reverse ++ vR o :: rest).map (cv ad) = _; rw [List.map_append, revmap, List.map_cons, cv_R (lay_ne0 hlay)]) (by show 2 * 0 + _ ≤ 8; rw [xcats_map]; omega) hd ⟨Nat.le_of_ble_eq_true rfl, Nat.le_of_ble_eq_true rfl⟩
  intro T hT X
  obtain ⟨v, st₀, t, T', L2, h0, X', hL2, e1, e2, ⟨⟨hv, hP2, hm2, hok2⟩, hz, hkk⟩, stt⟩ := hrun T hT X
  cases hv
  rw [h0] at hz hkk
  have hS' : va_S (xA ad) s.heap T'.heap (locs ++ L2) := ⟨Nat.le_trans hS.1 (by rw [e1]; exact hz), fun q h1 h2 => by rw [e1, hkk q (Nat.lt_of_lt_of_le h1 hS.1) h2]; exact hS.2.1 q h1 h2, fun q hq => by
      rcases List.mem_append.mp hq with h | h
      · exact hS.2.2 q h
      · exact hL2 q h⟩
  have hK := h T'.heap (locs ++ L2) lsA hm2 (st_cons (hok2 r rfl) fun u hu => hs u (List.mem_append_right _ (List.mem_cons_of_mem _ hu))) (by rw [e1]; exact hP2) (xD_any F' hD) hS' hL
  obtain ⟨t2, a1, b1⟩ := hK T' rfl X'
  exact ⟨t2, stt t2 a1, b1⟩
theorem l_eq (C : LX p s m meth c b L xs D ad cA) {pc i : Nat} {x : Int} {st : List PV} {F : Mem} {off : Int} {tgt : Nat} (hd : decode code pc = .ok (.if_icmp .eq off, 3)) (ht : (pc : Int) + off = (tgt : Int)) (h : LWP p l e s m below meth c b D ad cA Q tgt i st F) : LWP p l e s m below meth c b D ad cA Q pc i (vI x :: vI x :: st) F := by
  intro H locs lsA hm hs hP hD hS hL
  refine lv_icmp_eq (tgt := tgt) C.1 C.2.1 hd ht (fun hc => ?_) (fun hc => absurd rfl hc)
  exact h H locs lsA hm (st_tl (st_tl hs)) hP hD hS hL
theorem l_leq (C : LX p s m meth c b L xs D ad cA) {pc i : Nat} {x : Int} {st : List PV} {F : Mem} {off : Int} {tgt : Nat} (h1 : decode code pc = .ok (.lcmp, 1)) (hd : decode code (pc + 1) = .ok (.ifCond .eq off, 3)) (ht : ((pc + 1 : Nat) : Int) + off = (tgt : Int)) (h : LWP p l e s m below meth c b D ad cA Q tgt i st F) : LWP p l e s m below meth c b D ad cA Q pc i (vL x :: vL x :: st) F := by
  intro H locs lsA hm hs hP hD hS hL
  refine W.lcmp C.1 C.2.1 h1 ?_
  refine lv_if_eq (tgt := tgt) C.1 C.2.1 hd ht (fun hc => ?_) (fun hc => absurd ?_ hc)
  · exact h H locs lsA hm (st_tl (st_tl hs)) hP hD hS hL
  · unfold lg_cmp; simp
end LAWM
/-- what the pure part owes, a call -/
def pcase (RR : Mem → Prop) (gx gm : XG) (As : List PV) : Prop := ∀ F, RR F → mok F → ∃ (z : Int) (F1 F2 : Mem), gx (vR 1 :: As) F (some (vI z)) F1 ∧ gm (vR 173 :: As) F1 (some (vI z)) F2 ∧ RR F2
def pcaseL (RR : Mem → Prop) (gx gm : XG) (As : List PV) : Prop := ∀ F, RR F → mok F → ∃ (z : Int) (F1 F2 : Mem), gx (vR 1 :: As) F (some (vL z)) F1 ∧ gm (vR 173 :: As) F1 (some (vL z)) F2 ∧ RR F2
theorem lwp_mok {p : Program} {l : Launch} {e : Env} {s : State} {m : MethodId} {below : List Frame} {meth : Method} {c : Code} {b : Nat} {D : va_G} {ad : Nat → Nat} {cA : Nat → ClassId} {Q : State → Prop} {pc i : Nat} {st : List PV} {F : Mem} (h : mok F → LWP p l e s m below meth c b D ad cA Q pc i st F) : LWP p l e s m below meth c b D ad cA Q pc i st F :=
  fun H locs lsA hm hs hP hD hS hL => h hm H locs lsA hm hs hP hD hS hL
