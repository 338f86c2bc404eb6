theorem xcc_of {y : MethodName} {cc : ByteArray} {nL fr lo n1 mc ms : Nat} {As : List PV} {M M' : CM} (hy : plainName y.cls = true) (hyn : y.name = "<init>") (hn : xcats As ≤ nL) (hok : ∀ v ∈ As, okV v) (hfr : cfresh M) (hML : M.1 ≤ layN) (hmc : n1 - M.1 = mc) (hms : ssum n1 - ssum M.1 = ms)
    (body : ∀ (p : Program) (l : Launch) (e : Env) (R : Room) (s : State) (m : MethodId) (args : Array Value) (below : List Frame) (meth : Method) (c : Code) (D : va_G) (ad : Nat → Nat) (cA : Nat → ClassId) (base : Nat), XCX p R s m args meth c cc y.cls fr lo nL M.1 n1 base D ad cA → meth.sig.returnType = none → meth.name = "<init>" →
      XCP p l e R s m args below meth c nL M.1 base D ad cA (MQ below (xQcC D ad cA base M') args s (n1 - M.1) (ssum n1 - ssum M.1) (xA ad)) 0 (pargs 0 As) [] M) : xCC y cc nL fr lo mc ms As M M' := by
  subst hmc
  subst hms
  intro l D ad cA base hAd
  refine Met.ofW (cc := cc) (maxL := nL) (ret := none) hy rfl ?_
  intro p e s m args below meth c s₁ B hml hv
  obtain ⟨rfl, hz, hP, hK⟩ := hv
  have hts := atoms_spec (ws := Cond.code y cc nL none :: xw_T) B.pre
  have hown : s.vm.findClass y.cls = some m.cls := findClass_of_methodNamed B.named
  have hnm : meth.name = "<init>" := (name_of_methodNamed B.named B.method).1.trans hyn
  have hlen : (lg_sl (As.map (cv ad))).length ≤ nL := by rw [sl_len]; exact hn
  have hl := lv_entry (As.map (cv ad)) (n := nL) hlen
  rw [lg_entry_eq]
  generalize (lg_sl (As.map (cv ad)) ++ List.replicate (nL - (lg_sl (As.map (cv ad))).length) Slot.unset).toArray = lsA at hl ⊢
  rw [← pargs_map] at hl
  have C : XCX p (headSpec (Cond.code y cc nL none :: xw_T) { frames := fr, cells := n1 - M.1, slots := ssum n1 - ssum M.1, locals := lo }).room s m (As.map (cv ad)).toArray meth c cc y.cls fr lo nL M.1 n1 base D ad cA :=
    ⟨B.exec, B.bytes, hml, hown, fun w hw => hts w (List.mem_cons_of_mem _ hw), hK, hAd, B.notSynchronized, rfl, rfl, Nat.le_refl _, Nat.le_refl _, by omega⟩
  have K := body p l e _ s m _ below meth c D ad cA base C B.returns hnm s.heap [] lsA (pargs_ok As 0 hok) (fun v hv => by cases hv) hfr hML (Nat.le_refl _) hz hP va_S.rf hl
  rw [Nat.sub_self, Nat.sub_self] at K
  exact K
theorem layq {P : Nat → Bool} {ci : Nat} (h : (List.range (layN + 1)).all (fun o => !isKb o ci || P o) = true) {o : Nat} (ho : isK o ci) : P o = true := by
  obtain ⟨cs, hc⟩ := isK_cs ho
  have h1 := lay_all h hc
  have h2 : isKb o ci = true := decide_eq_true ho
  rw [h2] at h1
  exact h1
theorem cfresh_app {M : CM} (h : cfresh M) {o n : Nat} {Gs : List (Nat × Nat)} {Fs : List (Nat × Nat × Int)} (hMo : M.1 ≤ o + n) (hG : Gs.all (fun q => decide (q.1 ≤ n)) = true) (hF : Fs.all (fun q => decide (q.1 ≤ n)) = true) : cfresh (o + n, (Gs.map fun q => (o + q.1, q.2)) ++ M.2.1, (Fs.map fun q => (o + q.1, q.2)) ++ M.2.2) := by
  intro o' k' ho'
  have ho2 : o + n < o' := ho'
  clear ho'
  obtain ⟨h1, h2⟩ := h o' k' (by omega)
  refine ⟨?_, ?_⟩
  · show gL ((Gs.map fun q => (o + q.1, q.2)) ++ M.2.1) o' k' = false
    clear hF
    induction Gs with
    | nil => exact h1
    | cons q r ih =>
      simp only [List.all_cons, Bool.and_eq_true, decide_eq_true_eq] at hG
      show gL ((o + q.1, q.2) :: ((r.map fun q => (o + q.1, q.2)) ++ M.2.1)) o' k' = false
      rw [gL_cons, ih hG.2]
      simp; omega
  · show fL ((Fs.map fun q => (o + q.1, q.2)) ++ M.2.2) o' k' = 0
    clear hG
    induction Fs with
    | nil => exact h2
    | cons q r ih =>
      simp only [List.all_cons, Bool.and_eq_true, decide_eq_true_eq] at hF
      show mset (fL ((r.map fun q => (o + q.1, q.2)) ++ M.2.2)) (o + q.1) q.2.1 q.2.2 o' k' = 0
      rw [mset_ne _ _ (by omega), ih hF.2]
theorem cst_pos (o d : Nat) : 0 ≤ cst o d := by
  have hd : (List.range (layN + 1)).all (fun o => match lay o with | some (.inl (_, cs)) => cs.all fun x => decide (0 ≤ x) | _ => true) = true := by decide +kernel
  unfold cst
  cases hl : lay o with
  | none => exact Int.le_refl _
  | some k =>
    rcases k with ⟨ci, cs⟩ | z
    · have h1 := lay_all hd hl
      simp only [hl] at h1
      show 0 ≤ cs.getD d 0
      rw [List.getD_eq_getElem?_getD]
      cases hc : cs[d]? with
      | none => exact Int.le_refl _
      | some x => exact of_decide_eq_true (List.all_eq_true.mp h1 x (List.mem_of_getElem? hc))
    · exact Int.le_refl _
theorem oi_code : Cond.code objectInit ⟨#[0xb1]⟩ 1 none ∈ xw_T := (xinT 140 (by decide +kernel) (by decide +kernel))
theorem oi_inst : Cond.instanceMethod objectInit ∈ xw_T := (xinT 139 (by decide +kernel) (by decide +kernel))
theorem dX3_init_0 : decode cX3_init 0 = .ok (.aload_n 0, 1) := by decide +kernel
theorem dX3_init_1 : decode cX3_init 1 = .ok (.invokespecial 3, 3) := by decide +kernel
theorem dX3_init_4 : decode cX3_init 4 = .ok (.aload_n 0, 1) := by decide +kernel
theorem dX3_init_5 : decode cX3_init 5 = .ok (.iconst 0, 1) := by decide +kernel
theorem dX3_init_6 : decode cX3_init 6 = .ok (.putfield 9, 3) := by decide +kernel
theorem dX3_init_9 : decode cX3_init 9 = .ok (.aload_n 0, 1) := by decide +kernel
theorem dX3_init_10 : decode cX3_init 10 = .ok (.iconst 0, 1) := by decide +kernel
theorem dX3_init_11 : decode cX3_init 11 = .ok (.iload_n 1, 1) := by decide +kernel
theorem dX3_init_12 : decode cX3_init 12 = .ok (.invokestatic 15, 3) := by decide +kernel
theorem dX3_init_15 : decode cX3_init 15 = .ok (.putfield 21, 3) := by decide +kernel
theorem dX3_init_18 : decode cX3_init 18 = .ok (.aload_n 0, 1) := by decide +kernel
theorem dX3_init_19 : decode cX3_init 19 = .ok (.iconst 0, 1) := by decide +kernel
theorem dX3_init_20 : decode cX3_init 20 = .ok (.iload_n 2, 1) := by decide +kernel
theorem dX3_init_21 : decode cX3_init 21 = .ok (.invokestatic 15, 3) := by decide +kernel
theorem dX3_init_24 : decode cX3_init 24 = .ok (.putfield 24, 3) := by decide +kernel
theorem dX3_init_27 : decode cX3_init 27 = .ok (.aload_n 0, 1) := by decide +kernel
theorem dX3_init_28 : decode cX3_init 28 = .ok (.aload_n 0, 1) := by decide +kernel
theorem dX3_init_29 : decode cX3_init 29 = .ok (.getfield 21, 3) := by decide +kernel
theorem dX3_init_32 : decode cX3_init 32 = .ok (.aload_n 0, 1) := by decide +kernel
theorem dX3_init_33 : decode cX3_init 33 = .ok (.getfield 24, 3) := by decide +kernel
theorem dX3_init_36 : decode cX3_init 36 = .ok (.imul, 1) := by decide +kernel
theorem dX3_init_37 : decode cX3_init 37 = .ok (.newarray .int, 2) := by decide +kernel
theorem dX3_init_39 : decode cX3_init 39 = .ok (.putfield 27, 3) := by decide +kernel
theorem dX3_init_42 : decode cX3_init 42 = .ok (.return_, 1) := by decide +kernel
theorem fcX3_9 : xFld RX3 9 3 3 0 0 := ⟨_, _, _, rfl, Nat.le_of_ble_eq_true rfl, rfl, (xinT 168 (by decide +kernel) (by decide +kernel)), rfl⟩
theorem fcX3_21 : xFld RX3 21 3 0 1 0 := ⟨_, _, _, rfl, Nat.le_of_ble_eq_true rfl, rfl, (xinT 165 (by decide +kernel) (by decide +kernel)), rfl⟩
theorem fcX3_24 : xFld RX3 24 3 1 1 1 := ⟨_, _, _, rfl, Nat.le_of_ble_eq_true rfl, rfl, (xinT 166 (by decide +kernel) (by decide +kernel)), rfl⟩
theorem fcX3_27 : xFld RX3 27 3 2 2 1 := ⟨_, _, _, rfl, Nat.le_of_ble_eq_true rfl, rfl, (xinT 167 (by decide +kernel) (by decide +kernel)), rfl⟩
theorem layX3 {o : Nat} (ho : isK o 3) : o + 1 ≤ layN ∧ o ≠ 0 ∧ lay (o + 1) = some (.inr (.inl (0, alen (o + 1)))) := by
  have h := layq (P := fun o => decide (o + 1 ≤ layN) && (decide (o ≠ 0) && decide (lay (o + 1) = some (.inr (.inl (0, alen (o + 1))))))) (by decide +kernel) ho
  simp only [Bool.and_eq_true, decide_eq_true_eq] at h
  obtain ⟨h1, ⟨h2, g1⟩⟩ := h
  exact ⟨h1, h2, g1⟩
theorem ssX3 {o : Nat} (ho : isK o 3) : ssum (o + 1) = ssum o + alen (o + 1) := of_decide_eq_true (layq (P := fun o => decide (ssum (o + 1) = ssum o + alen (o + 1))) (by decide +kernel) ho)
def rgX3 : List (Nat × Nat) := [(0, 2), (0, 1), (0, 0)]
def rfX3 : List (Nat × Nat × Int) := [(0, 3, 0)]
def mkX3 (o : Nat) (M : CM) : CM := (o + 1, (rgX3.map fun q => (o + q.1, q.2)) ++ M.2.1, (rfX3.map fun q => (o + q.1, q.2)) ++ M.2.2)
theorem gk_mk3 {M : CM} {o k o2 : Nat} (h : gL M.2.1 o k = true) : gL (mkX3 o2 M).2.1 o k = true := gk_app h
theorem cfrX3 {o : Nat} {M : CM} (hM : M.1 = o) (h : cfresh M) : cfresh (mkX3 o M) := cfresh_app h (by omega) (by decide +kernel) (by decide +kernel)
theorem mcI3 : Cond.code yX3_init cX3_init 3 none ∈ xw_T ∧ Cond.initialized yX3_init.cls ∈ xw_T ∧ Cond.instanceMethod yX3_init ∈ xw_T := ⟨(xinT 160 (by decide +kernel) (by decide +kernel)), (xinT 119 (by decide +kernel) (by decide +kernel)), (xinT 159 (by decide +kernel) (by decide +kernel))⟩
set_option maxHeartbeats 8000000 in
set_option maxRecDepth 100000 in
theorem ccX3 {o : Nat} {M : CM} {m w : Int} (ho : isK o 3) (hM : M.1 = o) (hfr : cfresh M) (hm : cst o 0 = m) (hw : cst o 1 = w) : xCC yX3_init cX3_init 3 1 40 1 (alen (o + 1)) [vR o, vI m, vI w] M (mkX3 o M) := by
  obtain ⟨n, Gm, Fm⟩ := M
  obtain rfl : n = o := hM
  have hl := layX3 ho
  obtain ⟨hlN, ho0, l1⟩ := hl
  subst hm
  subst hw
  have hlen : xw (cst n 0 * cst n 1) = (alen (n + 1) : Int) := of_decide_eq_true (layq (P := fun o => decide (xw (cst o 0 * cst o 1) = (alen (o + 1) : Int))) (by decide +kernel) ho)
  have hlt : alen (n + 1) < 100000 := of_decide_eq_true (layq (P := fun o => decide (alen (o + 1) < 100000)) (by decide +kernel) ho)
  have hss := ssX3 ho
  refine xcc_of (n1 := n + 1) (by decide +kernel) rfl (Nat.le_of_ble_eq_true rfl) (fun v hv => by simp only [List.mem_cons, List.not_mem_nil, or_false] at hv; rcases hv with rfl | rfl | rfl; trivial; exact cst_in _ _; exact cst_in _ _) hfr (show n ≤ layN by omega) (show n + 1 - n = 1 by omega) (show ssum (n + 1) - ssum n = _ by omega) (fun p l e R s m args below meth c D ad cA base C hret hnm => ?_)
  refine cx_aload_n C (j := 0) dX3_init_0 rfl rfl (by omega) ?_
  refine cx_objInit C dX3_init_1 (xinT 161 (by decide +kernel) (by decide +kernel)) oi_inst oi_code (by omega) (Nat.le_of_ble_eq_true rfl) (Nat.le_of_ble_eq_true rfl) (Nat.le_of_ble_eq_true rfl) ?_
  refine cx_aload_n C (j := 0) dX3_init_4 rfl rfl (by omega) ?_
  refine cx_iconst C dX3_init_5 (cin rfl) ?_
  refine cx_putI C dX3_init_6 fcX3_9 ⟨_, _, _, rfl, rfl, by decide +kernel, rfl⟩ hnm ho (show n ≤ n by omega) ?_
  refine cx_aload_n C (j := 0) dX3_init_9 rfl rfl (by omega) ?_
  refine cx_iconst C dX3_init_10 (cin rfl) ?_
  refine cx_iload_n C (j := 1) dX3_init_11 rfl rfl ?_
  refine cx_mmax C dX3_init_12 ⟨(xinT 162 (by decide +kernel) (by decide +kernel)), (Nat.le_of_ble_eq_true rfl), (Nat.le_of_ble_eq_true rfl)⟩ (Nat.le_of_ble_eq_true rfl) (show n ≤ n + 1 by omega) ?_
  refine cx_putC C dX3_init_15 fcX3_21 ⟨_, _, _, rfl, rfl, by decide +kernel, rfl⟩ hnm ho (show n ≤ n by omega) (xmax0 (cst_pos _ _)) ?_
  refine cx_aload_n C (j := 0) dX3_init_18 rfl rfl (by omega) ?_
  refine cx_iconst C dX3_init_19 (cin rfl) ?_
  refine cx_iload_n C (j := 2) dX3_init_20 rfl rfl ?_
  refine cx_mmax C dX3_init_21 ⟨(xinT 162 (by decide +kernel) (by decide +kernel)), (Nat.le_of_ble_eq_true rfl), (Nat.le_of_ble_eq_true rfl)⟩ (Nat.le_of_ble_eq_true rfl) (show n ≤ n + 1 by omega) ?_
  refine cx_putC C dX3_init_24 fcX3_24 ⟨_, _, _, rfl, rfl, by decide +kernel, rfl⟩ hnm ho (show n ≤ n by omega) (xmax0 (cst_pos _ _)) ?_
  refine cx_aload_n C (j := 0) dX3_init_27 rfl rfl (by omega) ?_
  refine cx_aload_n C (j := 0) dX3_init_28 rfl rfl (by omega) ?_
  refine cx_getC C dX3_init_29 fcX3_21 ho (show n ≤ n by omega) (by repeat (first | exact gs_on _ _ _ | apply gk_gs | apply gk_fs | apply gk_al | apply gk_mk3 | apply gk_mk7 | apply gk_mk4)) ?_
  refine cx_aload_n C (j := 0) dX3_init_32 rfl rfl (by omega) ?_
  refine cx_getC C dX3_init_33 fcX3_24 ho (show n ≤ n by omega) (by repeat (first | exact gs_on _ _ _ | apply gk_gs | apply gk_fs | apply gk_al | apply gk_mk3 | apply gk_mk7 | apply gk_mk4)) ?_
  refine cx_imul C dX3_init_36 ?_
  refine cx_newa C dX3_init_37 l1 rfl (Or.inl ⟨rfl, rfl⟩) (xinT 186 (by decide +kernel) (by decide +kernel)) hlen hlt (show n + 1 ≤ n + 1 by omega) ?_
  refine cx_putR C (ty := .array .int) dX3_init_39 fcX3_27 ⟨_, _, _, rfl, rfl, by decide +kernel, rfl⟩ hnm ho (show n ≤ n + 1 by omega) (Or.inr ⟨_, rfl⟩) rfl ?_
  exact cx_return C dX3_init_42 hret rfl
theorem dX7_init_0 : decode cX7_init 0 = .ok (.aload_n 0, 1) := by decide +kernel
theorem dX7_init_1 : decode cX7_init 1 = .ok (.invokespecial 3, 3) := by decide +kernel
theorem dX7_init_4 : decode cX7_init 4 = .ok (.aload_n 0, 1) := by decide +kernel
theorem dX7_init_5 : decode cX7_init 5 = .ok (.bipush 24, 2) := by decide +kernel
theorem dX7_init_7 : decode cX7_init 7 = .ok (.putfield 9, 3) := by decide +kernel
theorem dX7_init_10 : decode cX7_init 10 = .ok (.aload_n 0, 1) := by decide +kernel
theorem dX7_init_11 : decode cX7_init 11 = .ok (.bipush 9, 2) := by decide +kernel
theorem dX7_init_13 : decode cX7_init 13 = .ok (.putfield 15, 3) := by decide +kernel
theorem dX7_init_16 : decode cX7_init 16 = .ok (.aload_n 0, 1) := by decide +kernel
theorem dX7_init_17 : decode cX7_init 17 = .ok (.iconst 0, 1) := by decide +kernel
theorem dX7_init_18 : decode cX7_init 18 = .ok (.putfield 18, 3) := by decide +kernel
theorem dX7_init_21 : decode cX7_init 21 = .ok (.aload_n 0, 1) := by decide +kernel
theorem dX7_init_22 : decode cX7_init 22 = .ok (.bipush 48, 2) := by decide +kernel
theorem dX7_init_24 : decode cX7_init 24 = .ok (.putfield 21, 3) := by decide +kernel
theorem dX7_init_27 : decode cX7_init 27 = .ok (.aload_n 0, 1) := by decide +kernel
theorem dX7_init_28 : decode cX7_init 28 = .ok (.iconst 0, 1) := by decide +kernel
theorem dX7_init_29 : decode cX7_init 29 = .ok (.putfield 24, 3) := by decide +kernel
theorem dX7_init_32 : decode cX7_init 32 = .ok (.aload_n 0, 1) := by decide +kernel
theorem dX7_init_33 : decode cX7_init 33 = .ok (.new 27, 3) := by decide +kernel
theorem dX7_init_36 : decode cX7_init 36 = .ok (.dup, 1) := by decide +kernel
theorem dX7_init_37 : decode cX7_init 37 = .ok (.bipush 8, 2) := by decide +kernel
theorem dX7_init_39 : decode cX7_init 39 = .ok (.iconst 4, 1) := by decide +kernel
theorem dX7_init_40 : decode cX7_init 40 = .ok (.invokespecial 29, 3) := by decide +kernel
theorem dX7_init_43 : decode cX7_init 43 = .ok (.putfield 32, 3) := by decide +kernel
theorem dX7_init_46 : decode cX7_init 46 = .ok (.aload_n 0, 1) := by decide +kernel
theorem dX7_init_47 : decode cX7_init 47 = .ok (.new 27, 3) := by decide +kernel
theorem dX7_init_50 : decode cX7_init 50 = .ok (.dup, 1) := by decide +kernel
theorem dX7_init_51 : decode cX7_init 51 = .ok (.bipush 6, 2) := by decide +kernel
theorem dX7_init_53 : decode cX7_init 53 = .ok (.iconst 3, 1) := by decide +kernel
theorem dX7_init_54 : decode cX7_init 54 = .ok (.invokespecial 29, 3) := by decide +kernel
theorem dX7_init_57 : decode cX7_init 57 = .ok (.putfield 36, 3) := by decide +kernel
theorem dX7_init_60 : decode cX7_init 60 = .ok (.return_, 1) := by decide +kernel
theorem fcX7_9 : xFld RX7 9 7 0 0 0 := ⟨_, _, _, rfl, Nat.le_of_ble_eq_true rfl, rfl, (xinT 187 (by decide +kernel) (by decide +kernel)), rfl⟩
theorem fcX7_15 : xFld RX7 15 7 1 0 0 := ⟨_, _, _, rfl, Nat.le_of_ble_eq_true rfl, rfl, (xinT 192 (by decide +kernel) (by decide +kernel)), rfl⟩
theorem fcX7_18 : xFld RX7 18 7 2 0 0 := ⟨_, _, _, rfl, Nat.le_of_ble_eq_true rfl, rfl, (xinT 197 (by decide +kernel) (by decide +kernel)), rfl⟩
theorem fcX7_21 : xFld RX7 21 7 3 0 0 := ⟨_, _, _, rfl, Nat.le_of_ble_eq_true rfl, rfl, (xinT 200 (by decide +kernel) (by decide +kernel)), rfl⟩
theorem fcX7_24 : xFld RX7 24 7 4 0 0 := ⟨_, _, _, rfl, Nat.le_of_ble_eq_true rfl, rfl, (xinT 203 (by decide +kernel) (by decide +kernel)), rfl⟩
theorem fcX7_32 : xFld RX7 32 7 5 2 1 := ⟨_, _, _, rfl, Nat.le_of_ble_eq_true rfl, rfl, (xinT 209 (by decide +kernel) (by decide +kernel)), rfl⟩
theorem fcX7_36 : xFld RX7 36 7 6 2 3 := ⟨_, _, _, rfl, Nat.le_of_ble_eq_true rfl, rfl, (xinT 215 (by decide +kernel) (by decide +kernel)), rfl⟩
theorem layX7 {o : Nat} (ho : isK o 7) : o + 4 ≤ layN ∧ o ≠ 0 ∧ lay (o + 1) = some (.inl (3, [8, 4])) ∧ lay (o + 3) = some (.inl (3, [6, 3])) := by
  have h := layq (P := fun o => decide (o + 4 ≤ layN) && (decide (o ≠ 0) && decide (lay (o + 1) = some (.inl (3, [8, 4]))) && decide (lay (o + 3) = some (.inl (3, [6, 3]))))) (by decide +kernel) ho
  simp only [Bool.and_eq_true, decide_eq_true_eq] at h
  obtain ⟨h1, ⟨⟨h2, g1⟩, g3⟩⟩ := h
  exact ⟨h1, h2, g1, g3⟩
theorem ssX7 {o : Nat} (ho : isK o 7) : ssum (o + 4) = ssum o + 58 := of_decide_eq_true (layq (P := fun o => decide (ssum (o + 4) = ssum o + 58)) (by decide +kernel) ho)
def rgX7 : List (Nat × Nat) := [(0, 6), (3, 2), (3, 1), (3, 0), (0, 5), (1, 2), (1, 1), (1, 0)]
def rfX7 : List (Nat × Nat × Int) := [(3, 3, 0), (1, 3, 0), (0, 4, 0), (0, 3, 48), (0, 2, 0), (0, 1, 9), (0, 0, 24)]
def mkX7 (o : Nat) (M : CM) : CM := (o + 4, (rgX7.map fun q => (o + q.1, q.2)) ++ M.2.1, (rfX7.map fun q => (o + q.1, q.2)) ++ M.2.2)
theorem gk_mk7 {M : CM} {o k o2 : Nat} (h : gL M.2.1 o k = true) : gL (mkX7 o2 M).2.1 o k = true := gk_app h
theorem cfrX7 {o : Nat} {M : CM} (hM : M.1 = o) (h : cfresh M) : cfresh (mkX7 o M) := cfresh_app h (by omega) (by decide +kernel) (by decide +kernel)
theorem mcI7 : Cond.code yX7_init cX7_init 1 none ∈ xw_T ∧ Cond.initialized yX7_init.cls ∈ xw_T ∧ Cond.instanceMethod yX7_init ∈ xw_T := ⟨(xinT 154 (by decide +kernel) (by decide +kernel)), (xinT 118 (by decide +kernel) (by decide +kernel)), (xinT 153 (by decide +kernel) (by decide +kernel))⟩
set_option maxHeartbeats 8000000 in
set_option maxRecDepth 100000 in
theorem ccX7 {o : Nat} {M : CM} (ho : isK o 7) (hM : M.1 = o) (hfr : cfresh M) : xCC yX7_init cX7_init 1 2 62 4 (58) [vR o] M (mkX7 o M) := by
  obtain ⟨n, Gm, Fm⟩ := M
  obtain rfl : n = o := hM
  have hl := layX7 ho
  obtain ⟨hlN, ho0, l1, l3⟩ := hl
  have hss := ssX7 ho
  refine xcc_of (n1 := n + 4) (by decide +kernel) rfl (Nat.le_of_ble_eq_true rfl) (fun v hv => by rcases List.mem_cons.mp hv with rfl | hv <;> first | trivial | cases hv) hfr (show n ≤ layN by omega) (show n + 4 - n = 4 by omega) (show ssum (n + 4) - ssum n = _ by omega) (fun p l e R s m args below meth c D ad cA base C hret hnm => ?_)
  refine cx_aload_n C (j := 0) dX7_init_0 rfl rfl (by omega) ?_
  refine cx_objInit C dX7_init_1 (xinT 155 (by decide +kernel) (by decide +kernel)) oi_inst oi_code (by omega) (Nat.le_of_ble_eq_true rfl) (Nat.le_of_ble_eq_true rfl) (Nat.le_of_ble_eq_true rfl) ?_
  refine cx_aload_n C (j := 0) dX7_init_4 rfl rfl (by omega) ?_
  refine cx_bipush C dX7_init_5 rfl (cin rfl) ?_
  refine cx_putI C dX7_init_7 fcX7_9 ⟨_, _, _, rfl, rfl, by decide +kernel, rfl⟩ hnm ho (show n ≤ n by omega) ?_
  refine cx_aload_n C (j := 0) dX7_init_10 rfl rfl (by omega) ?_
  refine cx_bipush C dX7_init_11 rfl (cin rfl) ?_
  refine cx_putI C dX7_init_13 fcX7_15 ⟨_, _, _, rfl, rfl, by decide +kernel, rfl⟩ hnm ho (show n ≤ n by omega) ?_
  refine cx_aload_n C (j := 0) dX7_init_16 rfl rfl (by omega) ?_
  refine cx_iconst C dX7_init_17 (cin rfl) ?_
  refine cx_putI C dX7_init_18 fcX7_18 ⟨_, _, _, rfl, rfl, by decide +kernel, rfl⟩ hnm ho (show n ≤ n by omega) ?_
  refine cx_aload_n C (j := 0) dX7_init_21 rfl rfl (by omega) ?_
  refine cx_bipush C dX7_init_22 rfl (cin rfl) ?_
  refine cx_putI C dX7_init_24 fcX7_21 ⟨_, _, _, rfl, rfl, by decide +kernel, rfl⟩ hnm ho (show n ≤ n by omega) ?_
  refine cx_aload_n C (j := 0) dX7_init_27 rfl rfl (by omega) ?_
  refine cx_iconst C dX7_init_28 (cin rfl) ?_
  refine cx_putI C dX7_init_29 fcX7_24 ⟨_, _, _, rfl, rfl, by decide +kernel, rfl⟩ hnm ho (show n ≤ n by omega) ?_
  refine cx_aload_n C (j := 0) dX7_init_32 rfl rfl (by omega) ?_
  refine cx_new C (C0 := RX3) (N := 4) dX7_init_33 l1 (xinT 156 (by decide +kernel) (by decide +kernel)) (xinT 157 (by decide +kernel) (by decide +kernel)) (xinT 119 (by decide +kernel) (by decide +kernel)) rfl (show n + 1 ≤ n + 4 by omega) ?_
  refine cx_dup C dX7_init_36 rfl ?_
  refine cx_bipush C dX7_init_37 rfl (cin rfl) ?_
  refine cx_iconst C dX7_init_39 (cin rfl) ?_
  refine cx_callI' C (As := [vI 8, vI 4]) (rest := [vR (n + 1), vR n]) dX7_init_40 (fun hfr => ccX3 (o := n + 1) (by unfold isK; rw [l1]; rfl) rfl hfr (by unfold cst; rw [l1]; rfl) (by unfold cst; rw [l1]; rfl)) (Nat.le_of_ble_eq_true rfl) (Nat.le_of_ble_eq_true rfl) mcI3.1 (xinT 158 (by decide +kernel) (by decide +kernel)) mcI3.2.1 mcI3.2.2 rfl ⟨by decide +kernel, by decide +kernel, by decide +kernel⟩ (by omega) rfl rfl (Nat.le_of_ble_eq_true rfl) rfl (ssX3 (by unfold isK; rw [l1]; rfl)) (show n + 2 ≤ layN by omega) (show n + 2 ≤ n + 4 by omega) (fun q => cfrX3 rfl q) ?_
  refine cx_putR C (ty := .object "OnePair$Sheet") dX7_init_43 fcX7_32 ⟨_, _, _, rfl, rfl, by decide +kernel, rfl⟩ hnm ho (show n ≤ n + 2 by omega) (Or.inl ⟨_, rfl⟩) rfl ?_
  refine cx_aload_n C (j := 0) dX7_init_46 rfl rfl (by omega) ?_
  refine cx_new C (C0 := RX3) (N := 4) dX7_init_47 l3 (xinT 156 (by decide +kernel) (by decide +kernel)) (xinT 157 (by decide +kernel) (by decide +kernel)) (xinT 119 (by decide +kernel) (by decide +kernel)) rfl (show n + 3 ≤ n + 4 by omega) ?_
  refine cx_dup C dX7_init_50 rfl ?_
  refine cx_bipush C dX7_init_51 rfl (cin rfl) ?_
  refine cx_iconst C dX7_init_53 (cin rfl) ?_
  refine cx_callI' C (As := [vI 6, vI 3]) (rest := [vR (n + 3), vR n]) dX7_init_54 (fun hfr => ccX3 (o := n + 3) (by unfold isK; rw [l3]; rfl) rfl hfr (by unfold cst; rw [l3]; rfl) (by unfold cst; rw [l3]; rfl)) (Nat.le_of_ble_eq_true rfl) (Nat.le_of_ble_eq_true rfl) mcI3.1 (xinT 158 (by decide +kernel) (by decide +kernel)) mcI3.2.1 mcI3.2.2 rfl ⟨by decide +kernel, by decide +kernel, by decide +kernel⟩ (by omega) rfl rfl (Nat.le_of_ble_eq_true rfl) rfl (ssX3 (by unfold isK; rw [l3]; rfl)) (show n + 4 ≤ layN by omega) (show n + 4 ≤ n + 4 by omega) (fun q => cfrX3 rfl q) ?_
  refine cx_putR C (ty := .object "OnePair$Sheet") dX7_init_57 fcX7_36 ⟨_, _, _, rfl, rfl, by decide +kernel, rfl⟩ hnm ho (show n ≤ n + 4 by omega) (Or.inl ⟨_, rfl⟩) rfl ?_
  exact cx_return C dX7_init_60 hret rfl
