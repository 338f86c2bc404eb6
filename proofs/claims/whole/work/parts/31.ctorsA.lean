theorem xcc_of {y : MethodName} {cc : ByteArray} {nL fr lo n1 mc ms : Nat} {As : List PV} {M M' : CM} (hy : plainName y.cls = true) (hyn : y.name = "<init>") (hn : xcats As ≤ nL) (hok : ∀ v ∈ As, okV v) (hfr : cfresh M) (hML : M.1 ≤ layN) (hmc : n1 - M.1 = mc) (hms : ssum n1 - ssum M.1 = ms)
    (body : ∀ (p : Program) (l : Launch) (e : Env) (R : Room) (s : State) (m : MethodId) (args : Array Value) (below : List Frame) (meth : Method) (c : Code) (D : va_G) (ad : Nat → Nat) (cA : Nat → ClassId) (base : Nat), XCX p R s m args meth c cc y.cls fr lo nL M.1 n1 base D ad cA → meth.sig.returnType = none → meth.name = "<init>" →
      XCP p l e R s m args below meth c nL M.1 base D ad cA (MQ below (xQcC D ad cA base M') args s (n1 - M.1) (ssum n1 - ssum M.1) (xA ad)) 0 (pargs 0 As) [] M) : xCC y cc nL fr lo mc ms As M M' := by
  subst hmc
  subst hms
  intro l D ad cA base hAd
  refine Met.ofW (cc := cc) (maxL := nL) (ret := none) hy rfl ?_
  intro p e s m args below meth c s₁ B hml hv
  obtain ⟨rfl, hz, hP, hK, hAO⟩ := hv
  have hts := atoms_spec (ws := Cond.code y cc nL none :: xw_T) B.pre
  have hown : s.vm.findClass y.cls = some m.cls := findClass_of_methodNamed B.named
  have hnm : meth.name = "<init>" := (name_of_methodNamed B.named B.method).1.trans hyn
  have hlen : (lg_sl (As.map (cv ad))).length ≤ nL := by rw [sl_len]; exact hn
  have hl := lv_entry (As.map (cv ad)) (n := nL) hlen
  rw [lg_entry_eq]
  generalize (lg_sl (As.map (cv ad)) ++ List.replicate (nL - (lg_sl (As.map (cv ad))).length) Slot.unset).toArray = lsA at hl ⊢
  rw [← pargs_map] at hl
  have C : XCX p (headSpec (Cond.code y cc nL none :: xw_T) { frames := fr, cells := n1 - M.1, slots := ssum n1 - ssum M.1, locals := lo }).room s m (As.map (cv ad)).toArray meth c cc y.cls fr lo nL M.1 n1 base D ad cA :=
    ⟨B.exec, B.bytes, hml, hown, fun w hw => hts w (List.mem_cons_of_mem _ hw), hK, hAd, B.notSynchronized, rfl, rfl, Nat.le_refl _, Nat.le_refl _, by omega, hAO⟩
  have K := body p l e _ s m _ below meth c D ad cA base C B.returns hnm s.heap [] lsA (pargs_ok As 0 hok) (fun v hv => by cases hv) hfr hML (Nat.le_refl _) hz hP va_S.rf hl
  rw [Nat.sub_self, Nat.sub_self] at K
  exact K
theorem sub_of {a b c : Nat} (h : a = b + c) : a - b = c := by omega
theorem layq {P : Nat → Bool} {ci : Nat} (h : (List.range (layN + 1)).all (fun o => !isKb o ci || P o) = true) {o : Nat} (ho : isK o ci) : P o = true := by
  obtain ⟨cs, hc⟩ := isK_cs ho
  have h1 := lay_all h hc
  have h2 : isKb o ci = true := decide_eq_true ho
  rw [h2] at h1
  exact h1
theorem cfresh_app {M : CM} (h : cfresh M) {o n : Nat} {Gs : List (Nat × Nat)} {Fs : List (Nat × Nat × Int)} (hMo : M.1 ≤ o + n) (hG : Gs.all (fun q => decide (q.1 ≤ n)) = true) (hF : Fs.all (fun q => decide (q.1 ≤ n)) = true) : cfresh (o + n, (Gs.map fun q => (o + q.1, q.2)) ++ M.2.1, (Fs.map fun q => (o + q.1, q.2)) ++ M.2.2) := by
  intro o' k' ho'
  have ho2 : o + n < o' := ho'
  clear ho'
  obtain ⟨h1, h2⟩ := h o' k' (by omega)
  refine ⟨?_, ?_⟩
  · show gL ((Gs.map fun q => (o + q.1, q.2)) ++ M.2.1) o' k' = false
    clear hF
    induction Gs with
    | nil => exact h1
    | cons q r ih =>
      simp only [List.all_cons, Bool.and_eq_true, decide_eq_true_eq] at hG
      show gL ((o + q.1, q.2) :: ((r.map fun q => (o + q.1, q.2)) ++ M.2.1)) o' k' = false
      rw [gL_cons, ih hG.2]
      simp; omega
  · show fL ((Fs.map fun q => (o + q.1, q.2)) ++ M.2.2) o' k' = 0
    clear hG
    induction Fs with
    | nil => exact h2
    | cons q r ih =>
      simp only [List.all_cons, Bool.and_eq_true, decide_eq_true_eq] at hF
      show mset (fL ((r.map fun q => (o + q.1, q.2)) ++ M.2.2)) (o + q.1) q.2.1 q.2.2 o' k' = 0
      rw [mset_ne _ _ (by omega), ih hF.2]
theorem cst_pos (o d : Nat) : 0 ≤ cst o d := by
  have hd : (List.range (layN + 1)).all (fun o => match lay o with | some (.inl (_, cs)) => cs.all fun x => decide (0 ≤ x) | _ => true) = true := by decide +kernel
  unfold cst
  cases hl : lay o with
  | none => exact Int.le_refl _
  | some k =>
    rcases k with ⟨ci, cs⟩ | z
    · have h1 := lay_all hd hl
      simp only [hl] at h1
      show 0 ≤ cs.getD d 0
      rw [List.getD_eq_getElem?_getD]
      cases hc : cs[d]? with
      | none => exact Int.le_refl _
      | some x => exact of_decide_eq_true (List.all_eq_true.mp h1 x (List.mem_of_getElem? hc))
    · exact Int.le_refl _
theorem oi_code : Cond.code objectInit ⟨#[0xb1]⟩ 1 none ∈ xw_T := (xinT 140 (by decide +kernel) (by decide +kernel))
theorem oi_inst : Cond.instanceMethod objectInit ∈ xw_T := (xinT 139 (by decide +kernel) (by decide +kernel))
theorem dX3_init_0 : decode cX3_init 0 = .ok (.aload_n 0, 1) := by decide +kernel
theorem dX3_init_1 : decode cX3_init 1 = .ok (.invokespecial 3, 3) := by decide +kernel
theorem dX3_init_4 : decode cX3_init 4 = .ok (.aload_n 0, 1) := by decide +kernel
theorem dX3_init_5 : decode cX3_init 5 = .ok (.iconst 0, 1) := by decide +kernel
theorem dX3_init_6 : decode cX3_init 6 = .ok (.putfield 9, 3) := by decide +kernel
theorem dX3_init_9 : decode cX3_init 9 = .ok (.aload_n 0, 1) := by decide +kernel
theorem dX3_init_10 : decode cX3_init 10 = .ok (.iconst 0, 1) := by decide +kernel
theorem dX3_init_11 : decode cX3_init 11 = .ok (.iload_n 1, 1) := by decide +kernel
theorem dX3_init_12 : decode cX3_init 12 = .ok (.invokestatic 15, 3) := by decide +kernel
theorem dX3_init_15 : decode cX3_init 15 = .ok (.putfield 21, 3) := by decide +kernel
theorem dX3_init_18 : decode cX3_init 18 = .ok (.aload_n 0, 1) := by decide +kernel
theorem dX3_init_19 : decode cX3_init 19 = .ok (.iconst 0, 1) := by decide +kernel
theorem dX3_init_20 : decode cX3_init 20 = .ok (.iload_n 2, 1) := by decide +kernel
theorem dX3_init_21 : decode cX3_init 21 = .ok (.invokestatic 15, 3) := by decide +kernel
theorem dX3_init_24 : decode cX3_init 24 = .ok (.putfield 24, 3) := by decide +kernel
theorem dX3_init_27 : decode cX3_init 27 = .ok (.aload_n 0, 1) := by decide +kernel
theorem dX3_init_28 : decode cX3_init 28 = .ok (.aload_n 0, 1) := by decide +kernel
theorem dX3_init_29 : decode cX3_init 29 = .ok (.getfield 21, 3) := by decide +kernel
theorem dX3_init_32 : decode cX3_init 32 = .ok (.aload_n 0, 1) := by decide +kernel
theorem dX3_init_33 : decode cX3_init 33 = .ok (.getfield 24, 3) := by decide +kernel
theorem dX3_init_36 : decode cX3_init 36 = .ok (.imul, 1) := by decide +kernel
theorem dX3_init_37 : decode cX3_init 37 = .ok (.newarray .int, 2) := by decide +kernel
theorem dX3_init_39 : decode cX3_init 39 = .ok (.putfield 27, 3) := by decide +kernel
theorem dX3_init_42 : decode cX3_init 42 = .ok (.return_, 1) := by decide +kernel
theorem fcX3_9 : xFld RX3 9 3 3 0 0 := ⟨_, _, _, rfl, Nat.le_of_ble_eq_true rfl, rfl, (xinT 168 (by decide +kernel) (by decide +kernel)), rfl⟩
theorem fcX3_21 : xFld RX3 21 3 0 1 0 := ⟨_, _, _, rfl, Nat.le_of_ble_eq_true rfl, rfl, (xinT 165 (by decide +kernel) (by decide +kernel)), rfl⟩
theorem fcX3_24 : xFld RX3 24 3 1 1 1 := ⟨_, _, _, rfl, Nat.le_of_ble_eq_true rfl, rfl, (xinT 166 (by decide +kernel) (by decide +kernel)), rfl⟩
theorem fcX3_27 : xFld RX3 27 3 2 2 1 := ⟨_, _, _, rfl, Nat.le_of_ble_eq_true rfl, rfl, (xinT 167 (by decide +kernel) (by decide +kernel)), rfl⟩
theorem layX3 {o : Nat} (ho : isK o 3) : o + 1 ≤ layN ∧ o ≠ 0 ∧ lay (o + 1) = some (.inr (.inl (0, alen (o + 1)))) := by
  have h := layq (P := fun o => decide (o + 1 ≤ layN) && (decide (o ≠ 0) && decide (lay (o + 1) = some (.inr (.inl (0, alen (o + 1))))))) (by decide +kernel) ho
  simp only [Bool.and_eq_true, decide_eq_true_eq] at h
  obtain ⟨h1, ⟨h2, g1⟩⟩ := h
  exact ⟨h1, h2, g1⟩
theorem ssX3 {o : Nat} (ho : isK o 3) : ssum (o + 1) = ssum o + alen (o + 1) := of_decide_eq_true (layq (P := fun o => decide (ssum (o + 1) = ssum o + alen (o + 1))) (by decide +kernel) ho)
def rgX3 : List (Nat × Nat) := [(0, 2), (0, 1), (0, 0)]
def rfX3 : List (Nat × Nat × Int) := [(0, 3, 0)]
def mkX3 (o : Nat) (M : CM) : CM := (o + 1, (o, 2) :: (o, 1) :: (o, 0) :: M.2.1, (o, 3, 0) :: M.2.2)
theorem gk_mk3 {M : CM} {o k o2 : Nat} (h : gL M.2.1 o k = true) : gL (mkX3 o2 M).2.1 o k = true := (gk_app h : gL ((rgX3.map fun q => (o2 + q.1, q.2)) ++ M.2.1) o k = true)
theorem cfrX3 {o : Nat} {M : CM} (hM : M.1 = o) (h : cfresh M) : cfresh (mkX3 o M) := (cfresh_app (o := o) (n := 1) (Gs := rgX3) (Fs := rfX3) h (by omega) (by decide +kernel) (by decide +kernel) : _)
theorem mcI3 : Cond.code yX3_init cX3_init 3 none ∈ xw_T ∧ Cond.initialized yX3_init.cls ∈ xw_T ∧ Cond.instanceMethod yX3_init ∈ xw_T := ⟨(xinT 160 (by decide +kernel) (by decide +kernel)), (xinT 119 (by decide +kernel) (by decide +kernel)), (xinT 159 (by decide +kernel) (by decide +kernel))⟩
set_option maxHeartbeats 2000000 in
set_option maxRecDepth 100000 in
theorem ccX3 {o : Nat} {M : CM} {m w : Int} (ho : isK o 3) (hM : M.1 = o) (hfr : cfresh M) (hm : cst o 0 = m) (hw : cst o 1 = w) : xCC yX3_init cX3_init 3 1 40 1 (alen (o + 1)) [vR o, vI m, vI w] M (mkX3 o M) := by
  obtain ⟨n, Gm, Fm⟩ := M
  obtain rfl : n = o := hM
  have hl := layX3 ho
  obtain ⟨hlN, ho0, l1⟩ := hl
  subst hm
  subst hw
  have hlen : xw (cst n 0 * cst n 1) = (alen (n + 1) : Int) := of_decide_eq_true (layq (P := fun o => decide (xw (cst o 0 * cst o 1) = (alen (o + 1) : Int))) (by decide +kernel) ho)
  have hlt : alen (n + 1) < 100000 := of_decide_eq_true (layq (P := fun o => decide (alen (o + 1) < 100000)) (by decide +kernel) ho)
  have hss := ssX3 ho
  refine xcc_of (n1 := n + 1) (by decide +kernel) rfl (Nat.le_of_ble_eq_true rfl) (fun v hv => by simp only [List.mem_cons, List.not_mem_nil, or_false] at hv; rcases hv with rfl | rfl | rfl; trivial; exact cst_in _ _; exact cst_in _ _) hfr (show n ≤ layN by omega) (show n + 1 - n = 1 by omega) (sub_of hss) (fun p l e R s m args below meth c D ad cA base C hret hnm => ?_)
  clear hss
  refine cx_aload_n C (j := 0) dX3_init_0 rfl rfl (by omega) ?_
  refine cx_objInit C dX3_init_1 (xinT 161 (by decide +kernel) (by decide +kernel)) oi_inst oi_code (by omega) (Nat.le_of_ble_eq_true rfl) (Nat.le_of_ble_eq_true rfl) (Nat.le_of_ble_eq_true rfl) ?_
  refine cx_aload_n C (j := 0) dX3_init_4 rfl rfl (by omega) ?_
  refine cx_iconst C dX3_init_5 (cin rfl) ?_
  refine cx_putI C dX3_init_6 fcX3_9 ⟨_, _, _, rfl, rfl, by decide +kernel, rfl⟩ hnm ho (show n ≤ n by omega) ?_
  refine cx_aload_n C (j := 0) dX3_init_9 rfl rfl (by omega) ?_
  refine cx_iconst C dX3_init_10 (cin rfl) ?_
  refine cx_iload_n C (j := 1) dX3_init_11 rfl rfl ?_
  refine cx_mmax C dX3_init_12 ⟨(xinT 162 (by decide +kernel) (by decide +kernel)), (Nat.le_of_ble_eq_true rfl), (Nat.le_of_ble_eq_true rfl)⟩ (Nat.le_of_ble_eq_true rfl) (show n ≤ n + 1 by omega) ?_
  refine cx_putC C dX3_init_15 fcX3_21 ⟨_, _, _, rfl, rfl, by decide +kernel, rfl⟩ hnm ho (show n ≤ n by omega) (xmax0 (cst_pos _ _)) ?_
  refine cx_aload_n C (j := 0) dX3_init_18 rfl rfl (by omega) ?_
  refine cx_iconst C dX3_init_19 (cin rfl) ?_
  refine cx_iload_n C (j := 2) dX3_init_20 rfl rfl ?_
  refine cx_mmax C dX3_init_21 ⟨(xinT 162 (by decide +kernel) (by decide +kernel)), (Nat.le_of_ble_eq_true rfl), (Nat.le_of_ble_eq_true rfl)⟩ (Nat.le_of_ble_eq_true rfl) (show n ≤ n + 1 by omega) ?_
  refine cx_putC C dX3_init_24 fcX3_24 ⟨_, _, _, rfl, rfl, by decide +kernel, rfl⟩ hnm ho (show n ≤ n by omega) (xmax0 (cst_pos _ _)) ?_
  refine cx_aload_n C (j := 0) dX3_init_27 rfl rfl (by omega) ?_
  refine cx_aload_n C (j := 0) dX3_init_28 rfl rfl (by omega) ?_
  refine cx_getC C dX3_init_29 fcX3_21 ho (show n ≤ n by omega) (gk_gs (gs_on _ _ _)) ?_
  refine cx_aload_n C (j := 0) dX3_init_32 rfl rfl (by omega) ?_
  refine cx_getC C dX3_init_33 fcX3_24 ho (show n ≤ n by omega) (gs_on _ _ _) ?_
  refine cx_imul C dX3_init_36 ?_
  refine cx_newa C dX3_init_37 l1 rfl (Or.inl ⟨rfl, rfl⟩) (xinT 186 (by decide +kernel) (by decide +kernel)) hlen hlt (show n + 1 ≤ n + 1 by omega) ?_
  refine cx_putR C (ty := .array .int) dX3_init_39 fcX3_27 ⟨_, _, _, rfl, rfl, by decide +kernel, rfl⟩ hnm ho (show n ≤ n + 1 by omega) (Or.inr ⟨_, rfl⟩) rfl ?_
  exact cx_return C dX3_init_42 hret rfl
theorem dX7_init_0 : decode cX7_init 0 = .ok (.aload_n 0, 1) := by decide +kernel
theorem dX7_init_1 : decode cX7_init 1 = .ok (.invokespecial 3, 3) := by decide +kernel
theorem dX7_init_4 : decode cX7_init 4 = .ok (.aload_n 0, 1) := by decide +kernel
theorem dX7_init_5 : decode cX7_init 5 = .ok (.bipush 24, 2) := by decide +kernel
theorem dX7_init_7 : decode cX7_init 7 = .ok (.putfield 9, 3) := by decide +kernel
theorem dX7_init_10 : decode cX7_init 10 = .ok (.aload_n 0, 1) := by decide +kernel
theorem dX7_init_11 : decode cX7_init 11 = .ok (.bipush 9, 2) := by decide +kernel
theorem dX7_init_13 : decode cX7_init 13 = .ok (.putfield 15, 3) := by decide +kernel
theorem dX7_init_16 : decode cX7_init 16 = .ok (.aload_n 0, 1) := by decide +kernel
theorem dX7_init_17 : decode cX7_init 17 = .ok (.iconst 0, 1) := by decide +kernel
theorem dX7_init_18 : decode cX7_init 18 = .ok (.putfield 18, 3) := by decide +kernel
theorem dX7_init_21 : decode cX7_init 21 = .ok (.aload_n 0, 1) := by decide +kernel
theorem dX7_init_22 : decode cX7_init 22 = .ok (.bipush 48, 2) := by decide +kernel
theorem dX7_init_24 : decode cX7_init 24 = .ok (.putfield 21, 3) := by decide +kernel
theorem dX7_init_27 : decode cX7_init 27 = .ok (.aload_n 0, 1) := by decide +kernel
theorem dX7_init_28 : decode cX7_init 28 = .ok (.iconst 0, 1) := by decide +kernel
theorem dX7_init_29 : decode cX7_init 29 = .ok (.putfield 24, 3) := by decide +kernel
theorem dX7_init_32 : decode cX7_init 32 = .ok (.aload_n 0, 1) := by decide +kernel
theorem dX7_init_33 : decode cX7_init 33 = .ok (.new 27, 3) := by decide +kernel
theorem dX7_init_36 : decode cX7_init 36 = .ok (.dup, 1) := by decide +kernel
theorem dX7_init_37 : decode cX7_init 37 = .ok (.bipush 8, 2) := by decide +kernel
theorem dX7_init_39 : decode cX7_init 39 = .ok (.iconst 4, 1) := by decide +kernel
theorem dX7_init_40 : decode cX7_init 40 = .ok (.invokespecial 29, 3) := by decide +kernel
theorem dX7_init_43 : decode cX7_init 43 = .ok (.putfield 32, 3) := by decide +kernel
theorem dX7_init_46 : decode cX7_init 46 = .ok (.aload_n 0, 1) := by decide +kernel
theorem dX7_init_47 : decode cX7_init 47 = .ok (.new 27, 3) := by decide +kernel
theorem dX7_init_50 : decode cX7_init 50 = .ok (.dup, 1) := by decide +kernel
theorem dX7_init_51 : decode cX7_init 51 = .ok (.bipush 6, 2) := by decide +kernel
theorem dX7_init_53 : decode cX7_init 53 = .ok (.iconst 3, 1) := by decide +kernel
theorem dX7_init_54 : decode cX7_init 54 = .ok (.invokespecial 29, 3) := by decide +kernel
theorem dX7_init_57 : decode cX7_init 57 = .ok (.putfield 36, 3) := by decide +kernel
theorem dX7_init_60 : decode cX7_init 60 = .ok (.return_, 1) := by decide +kernel
theorem fcX7_9 : xFld RX7 9 7 0 0 0 := ⟨_, _, _, rfl, Nat.le_of_ble_eq_true rfl, rfl, (xinT 187 (by decide +kernel) (by decide +kernel)), rfl⟩
theorem fcX7_15 : xFld RX7 15 7 1 0 0 := ⟨_, _, _, rfl, Nat.le_of_ble_eq_true rfl, rfl, (xinT 192 (by decide +kernel) (by decide +kernel)), rfl⟩
theorem fcX7_18 : xFld RX7 18 7 2 0 0 := ⟨_, _, _, rfl, Nat.le_of_ble_eq_true rfl, rfl, (xinT 197 (by decide +kernel) (by decide +kernel)), rfl⟩
theorem fcX7_21 : xFld RX7 21 7 3 0 0 := ⟨_, _, _, rfl, Nat.le_of_ble_eq_true rfl, rfl, (xinT 200 (by decide +kernel) (by decide +kernel)), rfl⟩
theorem fcX7_24 : xFld RX7 24 7 4 0 0 := ⟨_, _, _, rfl, Nat.le_of_ble_eq_true rfl, rfl, (xinT 203 (by decide +kernel) (by decide +kernel)), rfl⟩
theorem fcX7_32 : xFld RX7 32 7 5 2 1 := ⟨_, _, _, rfl, Nat.le_of_ble_eq_true rfl, rfl, (xinT 209 (by decide +kernel) (by decide +kernel)), rfl⟩
theorem fcX7_36 : xFld RX7 36 7 6 2 3 := ⟨_, _, _, rfl, Nat.le_of_ble_eq_true rfl, rfl, (xinT 215 (by decide +kernel) (by decide +kernel)), rfl⟩
theorem layX7 {o : Nat} (ho : isK o 7) : o + 4 ≤ layN ∧ o ≠ 0 ∧ lay (o + 1) = some (.inl (3, [8, 4])) ∧ lay (o + 3) = some (.inl (3, [6, 3])) := by
  have h := layq (P := fun o => decide (o + 4 ≤ layN) && (decide (o ≠ 0) && decide (lay (o + 1) = some (.inl (3, [8, 4]))) && decide (lay (o + 3) = some (.inl (3, [6, 3]))))) (by decide +kernel) ho
  simp only [Bool.and_eq_true, decide_eq_true_eq] at h
  obtain ⟨h1, ⟨⟨h2, g1⟩, g3⟩⟩ := h
  exact ⟨h1, h2, g1, g3⟩
theorem ssX7 {o : Nat} (ho : isK o 7) : ssum (o + 4) = ssum o + 58 := of_decide_eq_true (layq (P := fun o => decide (ssum (o + 4) = ssum o + 58)) (by decide +kernel) ho)
def rgX7 : List (Nat × Nat) := [(0, 6), (3, 2), (3, 1), (3, 0), (0, 5), (1, 2), (1, 1), (1, 0)]
def rfX7 : List (Nat × Nat × Int) := [(3, 3, 0), (1, 3, 0), (0, 4, 0), (0, 3, 48), (0, 2, 0), (0, 1, 9), (0, 0, 24)]
def mkX7 (o : Nat) (M : CM) : CM := (o + 4, (o, 6) :: (o + 3, 2) :: (o + 3, 1) :: (o + 3, 0) :: (o, 5) :: (o + 1, 2) :: (o + 1, 1) :: (o + 1, 0) :: M.2.1, (o + 3, 3, 0) :: (o + 1, 3, 0) :: (o, 4, 0) :: (o, 3, 48) :: (o, 2, 0) :: (o, 1, 9) :: (o, 0, 24) :: M.2.2)
theorem gk_mk7 {M : CM} {o k o2 : Nat} (h : gL M.2.1 o k = true) : gL (mkX7 o2 M).2.1 o k = true := (gk_app h : gL ((rgX7.map fun q => (o2 + q.1, q.2)) ++ M.2.1) o k = true)
theorem cfrX7 {o : Nat} {M : CM} (hM : M.1 = o) (h : cfresh M) : cfresh (mkX7 o M) := (cfresh_app (o := o) (n := 4) (Gs := rgX7) (Fs := rfX7) h (by omega) (by decide +kernel) (by decide +kernel) : _)
theorem mcI7 : Cond.code yX7_init cX7_init 1 none ∈ xw_T ∧ Cond.initialized yX7_init.cls ∈ xw_T ∧ Cond.instanceMethod yX7_init ∈ xw_T := ⟨(xinT 154 (by decide +kernel) (by decide +kernel)), (xinT 118 (by decide +kernel) (by decide +kernel)), (xinT 153 (by decide +kernel) (by decide +kernel))⟩
set_option maxHeartbeats 2000000 in
set_option maxRecDepth 100000 in
theorem ccX7 {o : Nat} {M : CM} (ho : isK o 7) (hM : M.1 = o) (hfr : cfresh M) : xCC yX7_init cX7_init 1 2 62 4 (58) [vR o] M (mkX7 o M) := by
  obtain ⟨n, Gm, Fm⟩ := M
  obtain rfl : n = o := hM
  have hl := layX7 ho
  obtain ⟨hlN, ho0, l1, l3⟩ := hl
  have hss := ssX7 ho
  refine xcc_of (n1 := n + 4) (by decide +kernel) rfl (Nat.le_of_ble_eq_true rfl) (fun v hv => by rcases List.mem_cons.mp hv with rfl | hv <;> first | trivial | cases hv) hfr (show n ≤ layN by omega) (show n + 4 - n = 4 by omega) (sub_of hss) (fun p l e R s m args below meth c D ad cA base C hret hnm => ?_)
  clear hss
  refine cx_aload_n C (j := 0) dX7_init_0 rfl rfl (by omega) ?_
  refine cx_objInit C dX7_init_1 (xinT 155 (by decide +kernel) (by decide +kernel)) oi_inst oi_code (by omega) (Nat.le_of_ble_eq_true rfl) (Nat.le_of_ble_eq_true rfl) (Nat.le_of_ble_eq_true rfl) ?_
  refine cx_aload_n C (j := 0) dX7_init_4 rfl rfl (by omega) ?_
  refine cx_bipush C dX7_init_5 rfl (cin rfl) ?_
  refine cx_putI C dX7_init_7 fcX7_9 ⟨_, _, _, rfl, rfl, by decide +kernel, rfl⟩ hnm ho (show n ≤ n by omega) ?_
  refine cx_aload_n C (j := 0) dX7_init_10 rfl rfl (by omega) ?_
  refine cx_bipush C dX7_init_11 rfl (cin rfl) ?_
  refine cx_putI C dX7_init_13 fcX7_15 ⟨_, _, _, rfl, rfl, by decide +kernel, rfl⟩ hnm ho (show n ≤ n by omega) ?_
  refine cx_aload_n C (j := 0) dX7_init_16 rfl rfl (by omega) ?_
  refine cx_iconst C dX7_init_17 (cin rfl) ?_
  refine cx_putI C dX7_init_18 fcX7_18 ⟨_, _, _, rfl, rfl, by decide +kernel, rfl⟩ hnm ho (show n ≤ n by omega) ?_
  refine cx_aload_n C (j := 0) dX7_init_21 rfl rfl (by omega) ?_
  refine cx_bipush C dX7_init_22 rfl (cin rfl) ?_
  refine cx_putI C dX7_init_24 fcX7_21 ⟨_, _, _, rfl, rfl, by decide +kernel, rfl⟩ hnm ho (show n ≤ n by omega) ?_
  refine cx_aload_n C (j := 0) dX7_init_27 rfl rfl (by omega) ?_
  refine cx_iconst C dX7_init_28 (cin rfl) ?_
  refine cx_putI C dX7_init_29 fcX7_24 ⟨_, _, _, rfl, rfl, by decide +kernel, rfl⟩ hnm ho (show n ≤ n by omega) ?_
  refine cx_aload_n C (j := 0) dX7_init_32 rfl rfl (by omega) ?_
  refine cx_new C (C0 := RX3) (N := 4) dX7_init_33 l1 (xinT 156 (by decide +kernel) (by decide +kernel)) (xinT 157 (by decide +kernel) (by decide +kernel)) (xinT 119 (by decide +kernel) (by decide +kernel)) rfl (show n + 1 ≤ n + 4 by omega) ?_
  refine cx_dup C dX7_init_36 rfl ?_
  refine cx_bipush C dX7_init_37 rfl (cin rfl) ?_
  refine cx_iconst C dX7_init_39 (cin rfl) ?_
  refine cx_callI' C (As := [vI 8, vI 4]) (rest := [vR (n + 1), vR n]) dX7_init_40 (fun hfr => ccX3 (o := n + 1) (by unfold isK; rw [l1]; rfl) rfl hfr (by unfold cst; rw [l1]; rfl) (by unfold cst; rw [l1]; rfl)) (Nat.le_of_ble_eq_true rfl) (Nat.le_of_ble_eq_true rfl) mcI3.1 (xinT 158 (by decide +kernel) (by decide +kernel)) mcI3.2.1 mcI3.2.2 rfl ⟨by decide +kernel, by decide +kernel, by decide +kernel⟩ (by omega) rfl rfl (Nat.le_of_ble_eq_true rfl) rfl (ssX3 (by unfold isK; rw [l1]; rfl)) (show n + 2 ≤ layN by omega) (show n + 2 ≤ n + 4 by omega) (fun q => cfrX3 rfl q) ?_
  refine cx_putR C (ty := .object "OnePair$Sheet") dX7_init_43 fcX7_32 ⟨_, _, _, rfl, rfl, by decide +kernel, rfl⟩ hnm ho (show n ≤ n + 2 by omega) (Or.inl ⟨_, rfl⟩) rfl ?_
  refine cx_aload_n C (j := 0) dX7_init_46 rfl rfl (by omega) ?_
  refine cx_new C (C0 := RX3) (N := 4) dX7_init_47 l3 (xinT 156 (by decide +kernel) (by decide +kernel)) (xinT 157 (by decide +kernel) (by decide +kernel)) (xinT 119 (by decide +kernel) (by decide +kernel)) rfl (show n + 3 ≤ n + 4 by omega) ?_
  refine cx_dup C dX7_init_50 rfl ?_
  refine cx_bipush C dX7_init_51 rfl (cin rfl) ?_
  refine cx_iconst C dX7_init_53 (cin rfl) ?_
  refine cx_callI' C (As := [vI 6, vI 3]) (rest := [vR (n + 3), vR n]) dX7_init_54 (fun hfr => ccX3 (o := n + 3) (by unfold isK; rw [l3]; rfl) rfl hfr (by unfold cst; rw [l3]; rfl) (by unfold cst; rw [l3]; rfl)) (Nat.le_of_ble_eq_true rfl) (Nat.le_of_ble_eq_true rfl) mcI3.1 (xinT 158 (by decide +kernel) (by decide +kernel)) mcI3.2.1 mcI3.2.2 rfl ⟨by decide +kernel, by decide +kernel, by decide +kernel⟩ (by omega) rfl rfl (Nat.le_of_ble_eq_true rfl) rfl (ssX3 (by unfold isK; rw [l3]; rfl)) (show n + 4 ≤ layN by omega) (show n + 4 ≤ n + 4 by omega) (fun q => cfrX3 rfl q) ?_
  refine cx_putR C (ty := .object "OnePair$Sheet") dX7_init_57 fcX7_36 ⟨_, _, _, rfl, rfl, by decide +kernel, rfl⟩ hnm ho (show n ≤ n + 4 by omega) (Or.inl ⟨_, rfl⟩) rfl ?_
  exact cx_return C dX7_init_60 hret rfl
theorem dX0_init_0 : decode cX0_init 0 = .ok (.aload_n 0, 1) := by decide +kernel
theorem dX0_init_1 : decode cX0_init 1 = .ok (.invokespecial 3, 3) := by decide +kernel
theorem dX0_init_4 : decode cX0_init 4 = .ok (.aload_n 0, 1) := by decide +kernel
theorem dX0_init_5 : decode cX0_init 5 = .ok (.sipush 336, 3) := by decide +kernel
theorem dX0_init_8 : decode cX0_init 8 = .ok (.newarray .int, 2) := by decide +kernel
theorem dX0_init_10 : decode cX0_init 10 = .ok (.putfield 9, 3) := by decide +kernel
theorem dX0_init_13 : decode cX0_init 13 = .ok (.aload_n 0, 1) := by decide +kernel
theorem dX0_init_14 : decode cX0_init 14 = .ok (.sipush 336, 3) := by decide +kernel
theorem dX0_init_17 : decode cX0_init 17 = .ok (.newarray .int, 2) := by decide +kernel
theorem dX0_init_19 : decode cX0_init 19 = .ok (.putfield 15, 3) := by decide +kernel
theorem dX0_init_22 : decode cX0_init 22 = .ok (.aload_n 0, 1) := by decide +kernel
theorem dX0_init_23 : decode cX0_init 23 = .ok (.bipush 8, 2) := by decide +kernel
theorem dX0_init_25 : decode cX0_init 25 = .ok (.newarray .int, 2) := by decide +kernel
theorem dX0_init_27 : decode cX0_init 27 = .ok (.putfield 18, 3) := by decide +kernel
theorem dX0_init_30 : decode cX0_init 30 = .ok (.aload_n 0, 1) := by decide +kernel
theorem dX0_init_31 : decode cX0_init 31 = .ok (.bipush 8, 2) := by decide +kernel
theorem dX0_init_33 : decode cX0_init 33 = .ok (.newarray .boolean, 2) := by decide +kernel
theorem dX0_init_35 : decode cX0_init 35 = .ok (.putfield 21, 3) := by decide +kernel
theorem dX0_init_38 : decode cX0_init 38 = .ok (.aload_n 0, 1) := by decide +kernel
theorem dX0_init_39 : decode cX0_init 39 = .ok (.bipush 30, 2) := by decide +kernel
theorem dX0_init_41 : decode cX0_init 41 = .ok (.newarray .boolean, 2) := by decide +kernel
theorem dX0_init_43 : decode cX0_init 43 = .ok (.putfield 25, 3) := by decide +kernel
theorem dX0_init_46 : decode cX0_init 46 = .ok (.aload_n 0, 1) := by decide +kernel
theorem dX0_init_47 : decode cX0_init 47 = .ok (.iconst 0, 1) := by decide +kernel
theorem dX0_init_48 : decode cX0_init 48 = .ok (.putfield 28, 3) := by decide +kernel
theorem dX0_init_51 : decode cX0_init 51 = .ok (.aload_n 0, 1) := by decide +kernel
theorem dX0_init_52 : decode cX0_init 52 = .ok (.iconst 0, 1) := by decide +kernel
theorem dX0_init_53 : decode cX0_init 53 = .ok (.putfield 32, 3) := by decide +kernel
theorem dX0_init_56 : decode cX0_init 56 = .ok (.return_, 1) := by decide +kernel
theorem fcX0_9 : xFld RX0 9 0 0 2 1 := ⟨_, _, _, rfl, Nat.le_of_ble_eq_true rfl, rfl, (xinT 329 (by decide +kernel) (by decide +kernel)), rfl⟩
theorem fcX0_15 : xFld RX0 15 0 1 2 2 := ⟨_, _, _, rfl, Nat.le_of_ble_eq_true rfl, rfl, (xinT 331 (by decide +kernel) (by decide +kernel)), rfl⟩
theorem fcX0_18 : xFld RX0 18 0 2 2 3 := ⟨_, _, _, rfl, Nat.le_of_ble_eq_true rfl, rfl, (xinT 334 (by decide +kernel) (by decide +kernel)), rfl⟩
theorem fcX0_21 : xFld RX0 21 0 3 2 4 := ⟨_, _, _, rfl, Nat.le_of_ble_eq_true rfl, rfl, (xinT 336 (by decide +kernel) (by decide +kernel)), rfl⟩
theorem fcX0_25 : xFld RX0 25 0 4 2 5 := ⟨_, _, _, rfl, Nat.le_of_ble_eq_true rfl, rfl, (xinT 338 (by decide +kernel) (by decide +kernel)), rfl⟩
theorem fcX0_28 : xFld RX0 28 0 5 0 0 := ⟨_, _, _, rfl, Nat.le_of_ble_eq_true rfl, rfl, (xinT 339 (by decide +kernel) (by decide +kernel)), rfl⟩
theorem fcX0_32 : xFld RX0 32 0 6 0 0 := ⟨_, _, _, rfl, Nat.le_of_ble_eq_true rfl, rfl, (xinT 340 (by decide +kernel) (by decide +kernel)), rfl⟩
theorem layX0 {o : Nat} (ho : isK o 0) : o + 5 ≤ layN ∧ o ≠ 0 ∧ lay (o + 1) = some (.inr (.inl (0, 336))) ∧ lay (o + 2) = some (.inr (.inl (0, 336))) ∧ lay (o + 3) = some (.inr (.inl (0, 8))) ∧ lay (o + 4) = some (.inr (.inl (2, 8))) ∧ lay (o + 5) = some (.inr (.inl (2, 30))) := by
  have h := layq (P := fun o => decide (o + 5 ≤ layN) && (decide (o ≠ 0) && decide (lay (o + 1) = some (.inr (.inl (0, 336)))) && decide (lay (o + 2) = some (.inr (.inl (0, 336)))) && decide (lay (o + 3) = some (.inr (.inl (0, 8)))) && decide (lay (o + 4) = some (.inr (.inl (2, 8)))) && decide (lay (o + 5) = some (.inr (.inl (2, 30)))))) (by decide +kernel) ho
  simp only [Bool.and_eq_true, decide_eq_true_eq] at h
  obtain ⟨h1, ⟨⟨⟨⟨⟨h2, g1⟩, g2⟩, g3⟩, g4⟩, g5⟩⟩ := h
  exact ⟨h1, h2, g1, g2, g3, g4, g5⟩
theorem ssX0 {o : Nat} (ho : isK o 0) : ssum (o + 5) = ssum o + 718 := of_decide_eq_true (layq (P := fun o => decide (ssum (o + 5) = ssum o + 718)) (by decide +kernel) ho)
def rgX0 : List (Nat × Nat) := [(0, 4), (0, 3), (0, 2), (0, 1), (0, 0)]
def rfX0 : List (Nat × Nat × Int) := [(0, 6, 0), (0, 5, 0)]
def mkX0 (o : Nat) (M : CM) : CM := (o + 5, (o, 4) :: (o, 3) :: (o, 2) :: (o, 1) :: (o, 0) :: M.2.1, (o, 6, 0) :: (o, 5, 0) :: M.2.2)
theorem gk_mk0 {M : CM} {o k o2 : Nat} (h : gL M.2.1 o k = true) : gL (mkX0 o2 M).2.1 o k = true := (gk_app h : gL ((rgX0.map fun q => (o2 + q.1, q.2)) ++ M.2.1) o k = true)
theorem cfrX0 {o : Nat} {M : CM} (hM : M.1 = o) (h : cfresh M) : cfresh (mkX0 o M) := (cfresh_app (o := o) (n := 5) (Gs := rgX0) (Fs := rfX0) h (by omega) (by decide +kernel) (by decide +kernel) : _)
theorem mcI0 : Cond.code yX0_init cX0_init 1 none ∈ xw_T ∧ Cond.initialized yX0_init.cls ∈ xw_T ∧ Cond.instanceMethod yX0_init ∈ xw_T := ⟨(xinT 327 (by decide +kernel) (by decide +kernel)), (xinT 122 (by decide +kernel) (by decide +kernel)), (xinT 326 (by decide +kernel) (by decide +kernel))⟩
set_option maxHeartbeats 2000000 in
set_option maxRecDepth 100000 in
theorem ccX0 {o : Nat} {M : CM} (ho : isK o 0) (hM : M.1 = o) (hfr : cfresh M) : xCC yX0_init cX0_init 1 1 20 5 (718) [vR o] M (mkX0 o M) := by
  obtain ⟨n, Gm, Fm⟩ := M
  obtain rfl : n = o := hM
  have hl := layX0 ho
  obtain ⟨hlN, ho0, l1, l2, l3, l4, l5⟩ := hl
  have hss := ssX0 ho
  refine xcc_of (n1 := n + 5) (by decide +kernel) rfl (Nat.le_of_ble_eq_true rfl) (fun v hv => by rcases List.mem_cons.mp hv with rfl | hv <;> first | trivial | cases hv) hfr (show n ≤ layN by omega) (show n + 5 - n = 5 by omega) (sub_of hss) (fun p l e R s m args below meth c D ad cA base C hret hnm => ?_)
  clear hss
  refine cx_aload_n C (j := 0) dX0_init_0 rfl rfl (by omega) ?_
  refine cx_objInit C dX0_init_1 (xinT 328 (by decide +kernel) (by decide +kernel)) oi_inst oi_code (by omega) (Nat.le_of_ble_eq_true rfl) (Nat.le_of_ble_eq_true rfl) (Nat.le_of_ble_eq_true rfl) ?_
  refine cx_aload_n C (j := 0) dX0_init_4 rfl rfl (by omega) ?_
  refine cx_sipush C dX0_init_5 rfl (cin rfl) ?_
  refine cx_newa C dX0_init_8 l1 rfl (Or.inl ⟨rfl, rfl⟩) (xinT 186 (by decide +kernel) (by decide +kernel)) rfl (Nat.le_of_ble_eq_true rfl) (show n + 1 ≤ n + 5 by omega) ?_
  refine cx_putR C (ty := .array .int) dX0_init_10 fcX0_9 ⟨_, _, _, rfl, rfl, by decide +kernel, rfl⟩ hnm ho (show n ≤ n + 1 by omega) (Or.inr ⟨_, rfl⟩) rfl ?_
  refine cx_aload_n C (j := 0) dX0_init_13 rfl rfl (by omega) ?_
  refine cx_sipush C dX0_init_14 rfl (cin rfl) ?_
  refine cx_newa C dX0_init_17 l2 rfl (Or.inl ⟨rfl, rfl⟩) (xinT 186 (by decide +kernel) (by decide +kernel)) rfl (Nat.le_of_ble_eq_true rfl) (show n + 2 ≤ n + 5 by omega) ?_
  refine cx_putR C (ty := .array .int) dX0_init_19 fcX0_15 ⟨_, _, _, rfl, rfl, by decide +kernel, rfl⟩ hnm ho (show n ≤ n + 2 by omega) (Or.inr ⟨_, rfl⟩) rfl ?_
  refine cx_aload_n C (j := 0) dX0_init_22 rfl rfl (by omega) ?_
  refine cx_bipush C dX0_init_23 rfl (cin rfl) ?_
  refine cx_newa C dX0_init_25 l3 rfl (Or.inl ⟨rfl, rfl⟩) (xinT 186 (by decide +kernel) (by decide +kernel)) rfl (Nat.le_of_ble_eq_true rfl) (show n + 3 ≤ n + 5 by omega) ?_
  refine cx_putR C (ty := .array .int) dX0_init_27 fcX0_18 ⟨_, _, _, rfl, rfl, by decide +kernel, rfl⟩ hnm ho (show n ≤ n + 3 by omega) (Or.inr ⟨_, rfl⟩) rfl ?_
  refine cx_aload_n C (j := 0) dX0_init_30 rfl rfl (by omega) ?_
  refine cx_bipush C dX0_init_31 rfl (cin rfl) ?_
  refine cx_newa C dX0_init_33 l4 rfl (Or.inr (Or.inr (Or.inl ⟨rfl, rfl⟩))) (xinT 322 (by decide +kernel) (by decide +kernel)) rfl (Nat.le_of_ble_eq_true rfl) (show n + 4 ≤ n + 5 by omega) ?_
  refine cx_putR C (ty := .array .boolean) dX0_init_35 fcX0_21 ⟨_, _, _, rfl, rfl, by decide +kernel, rfl⟩ hnm ho (show n ≤ n + 4 by omega) (Or.inr ⟨_, rfl⟩) rfl ?_
  refine cx_aload_n C (j := 0) dX0_init_38 rfl rfl (by omega) ?_
  refine cx_bipush C dX0_init_39 rfl (cin rfl) ?_
  refine cx_newa C dX0_init_41 l5 rfl (Or.inr (Or.inr (Or.inl ⟨rfl, rfl⟩))) (xinT 322 (by decide +kernel) (by decide +kernel)) rfl (Nat.le_of_ble_eq_true rfl) (show n + 5 ≤ n + 5 by omega) ?_
  refine cx_putR C (ty := .array .boolean) dX0_init_43 fcX0_25 ⟨_, _, _, rfl, rfl, by decide +kernel, rfl⟩ hnm ho (show n ≤ n + 5 by omega) (Or.inr ⟨_, rfl⟩) rfl ?_
  refine cx_aload_n C (j := 0) dX0_init_46 rfl rfl (by omega) ?_
  refine cx_iconst C dX0_init_47 (cin rfl) ?_
  refine cx_putI C dX0_init_48 fcX0_28 ⟨_, _, _, rfl, rfl, by decide +kernel, rfl⟩ hnm ho (show n ≤ n + 5 by omega) ?_
  refine cx_aload_n C (j := 0) dX0_init_51 rfl rfl (by omega) ?_
  refine cx_iconst C dX0_init_52 (cin rfl) ?_
  refine cx_putI C dX0_init_53 fcX0_32 ⟨_, _, _, rfl, rfl, by decide +kernel, rfl⟩ hnm ho (show n ≤ n + 5 by omega) ?_
  exact cx_return C dX0_init_56 hret rfl
theorem dX8_init_0 : decode cX8_init 0 = .ok (.aload_n 0, 1) := by decide +kernel
theorem dX8_init_1 : decode cX8_init 1 = .ok (.invokespecial 3, 3) := by decide +kernel
theorem dX8_init_4 : decode cX8_init 4 = .ok (.aload_n 0, 1) := by decide +kernel
theorem dX8_init_5 : decode cX8_init 5 = .ok (.aconst_null, 1) := by decide +kernel
theorem dX8_init_6 : decode cX8_init 6 = .ok (.putfield 9, 3) := by decide +kernel
theorem dX8_init_9 : decode cX8_init 9 = .ok (.aload_n 0, 1) := by decide +kernel
theorem dX8_init_10 : decode cX8_init 10 = .ok (.iconst 0, 1) := by decide +kernel
theorem dX8_init_11 : decode cX8_init 11 = .ok (.putfield 15, 3) := by decide +kernel
theorem dX8_init_14 : decode cX8_init 14 = .ok (.aload_n 0, 1) := by decide +kernel
theorem dX8_init_15 : decode cX8_init 15 = .ok (.iconst 0, 1) := by decide +kernel
theorem dX8_init_16 : decode cX8_init 16 = .ok (.putfield 19, 3) := by decide +kernel
theorem dX8_init_19 : decode cX8_init 19 = .ok (.aload_n 0, 1) := by decide +kernel
theorem dX8_init_20 : decode cX8_init 20 = .ok (.bipush 48, 2) := by decide +kernel
theorem dX8_init_22 : decode cX8_init 22 = .ok (.newarray .int, 2) := by decide +kernel
theorem dX8_init_24 : decode cX8_init 24 = .ok (.putfield 22, 3) := by decide +kernel
theorem dX8_init_27 : decode cX8_init 27 = .ok (.aload_n 0, 1) := by decide +kernel
theorem dX8_init_28 : decode cX8_init 28 = .ok (.bipush 8, 2) := by decide +kernel
theorem dX8_init_30 : decode cX8_init 30 = .ok (.newarray .int, 2) := by decide +kernel
theorem dX8_init_32 : decode cX8_init 32 = .ok (.putfield 26, 3) := by decide +kernel
theorem dX8_init_35 : decode cX8_init 35 = .ok (.return_, 1) := by decide +kernel
theorem fcX8_9 : xFld RX8 9 8 0 3 0 := ⟨_, _, _, rfl, Nat.le_of_ble_eq_true rfl, rfl, (xinT 362 (by decide +kernel) (by decide +kernel)), rfl⟩
theorem fcX8_15 : xFld RX8 15 8 1 0 0 := ⟨_, _, _, rfl, Nat.le_of_ble_eq_true rfl, rfl, (xinT 364 (by decide +kernel) (by decide +kernel)), rfl⟩
theorem fcX8_19 : xFld RX8 19 8 2 0 0 := ⟨_, _, _, rfl, Nat.le_of_ble_eq_true rfl, rfl, (xinT 366 (by decide +kernel) (by decide +kernel)), rfl⟩
theorem fcX8_22 : xFld RX8 22 8 3 2 1 := ⟨_, _, _, rfl, Nat.le_of_ble_eq_true rfl, rfl, (xinT 368 (by decide +kernel) (by decide +kernel)), rfl⟩
theorem fcX8_26 : xFld RX8 26 8 4 2 2 := ⟨_, _, _, rfl, Nat.le_of_ble_eq_true rfl, rfl, (xinT 370 (by decide +kernel) (by decide +kernel)), rfl⟩
theorem layX8 {o : Nat} (ho : isK o 8) : o + 2 ≤ layN ∧ o ≠ 0 ∧ lay (o + 1) = some (.inr (.inl (0, 48))) ∧ lay (o + 2) = some (.inr (.inl (0, 8))) := by
  have h := layq (P := fun o => decide (o + 2 ≤ layN) && (decide (o ≠ 0) && decide (lay (o + 1) = some (.inr (.inl (0, 48)))) && decide (lay (o + 2) = some (.inr (.inl (0, 8)))))) (by decide +kernel) ho
  simp only [Bool.and_eq_true, decide_eq_true_eq] at h
  obtain ⟨h1, ⟨⟨h2, g1⟩, g2⟩⟩ := h
  exact ⟨h1, h2, g1, g2⟩
theorem ssX8 {o : Nat} (ho : isK o 8) : ssum (o + 2) = ssum o + 56 := of_decide_eq_true (layq (P := fun o => decide (ssum (o + 2) = ssum o + 56)) (by decide +kernel) ho)
def rgX8 : List (Nat × Nat) := [(0, 4), (0, 3)]
def rfX8 : List (Nat × Nat × Int) := [(0, 2, 0), (0, 1, 0), (0, 0, 0)]
def mkX8 (o : Nat) (M : CM) : CM := (o + 2, (o, 4) :: (o, 3) :: M.2.1, (o, 2, 0) :: (o, 1, 0) :: (o, 0, 0) :: M.2.2)
theorem gk_mk8 {M : CM} {o k o2 : Nat} (h : gL M.2.1 o k = true) : gL (mkX8 o2 M).2.1 o k = true := (gk_app h : gL ((rgX8.map fun q => (o2 + q.1, q.2)) ++ M.2.1) o k = true)
theorem cfrX8 {o : Nat} {M : CM} (hM : M.1 = o) (h : cfresh M) : cfresh (mkX8 o M) := (cfresh_app (o := o) (n := 2) (Gs := rgX8) (Fs := rfX8) h (by omega) (by decide +kernel) (by decide +kernel) : _)
theorem mcI8 : Cond.code yX8_init cX8_init 1 none ∈ xw_T ∧ Cond.initialized yX8_init.cls ∈ xw_T ∧ Cond.instanceMethod yX8_init ∈ xw_T := ⟨(xinT 360 (by decide +kernel) (by decide +kernel)), (xinT 123 (by decide +kernel) (by decide +kernel)), (xinT 359 (by decide +kernel) (by decide +kernel))⟩
set_option maxHeartbeats 2000000 in
set_option maxRecDepth 100000 in
theorem ccX8 {o : Nat} {M : CM} (ho : isK o 8) (hM : M.1 = o) (hfr : cfresh M) : xCC yX8_init cX8_init 1 1 20 2 (56) [vR o] M (mkX8 o M) := by
  obtain ⟨n, Gm, Fm⟩ := M
  obtain rfl : n = o := hM
  have hl := layX8 ho
  obtain ⟨hlN, ho0, l1, l2⟩ := hl
  have hss := ssX8 ho
  refine xcc_of (n1 := n + 2) (by decide +kernel) rfl (Nat.le_of_ble_eq_true rfl) (fun v hv => by rcases List.mem_cons.mp hv with rfl | hv <;> first | trivial | cases hv) hfr (show n ≤ layN by omega) (show n + 2 - n = 2 by omega) (sub_of hss) (fun p l e R s m args below meth c D ad cA base C hret hnm => ?_)
  clear hss
  refine cx_aload_n C (j := 0) dX8_init_0 rfl rfl (by omega) ?_
  refine cx_objInit C dX8_init_1 (xinT 361 (by decide +kernel) (by decide +kernel)) oi_inst oi_code (by omega) (Nat.le_of_ble_eq_true rfl) (Nat.le_of_ble_eq_true rfl) (Nat.le_of_ble_eq_true rfl) ?_
  refine cx_aload_n C (j := 0) dX8_init_4 rfl rfl (by omega) ?_
  refine cx_null C dX8_init_5 ?_
  refine cx_putN C (ty := .object "OnePair$Valley") dX8_init_6 fcX8_9 ⟨_, _, _, rfl, rfl, by decide +kernel, rfl⟩ hnm ho (show n ≤ n by omega) (Or.inl ⟨_, rfl⟩) ?_
  refine cx_aload_n C (j := 0) dX8_init_9 rfl rfl (by omega) ?_
  refine cx_iconst C dX8_init_10 (cin rfl) ?_
  refine cx_putI C dX8_init_11 fcX8_15 ⟨_, _, _, rfl, rfl, by decide +kernel, rfl⟩ hnm ho (show n ≤ n by omega) ?_
  refine cx_aload_n C (j := 0) dX8_init_14 rfl rfl (by omega) ?_
  refine cx_iconst C dX8_init_15 (cin rfl) ?_
  refine cx_putI C dX8_init_16 fcX8_19 ⟨_, _, _, rfl, rfl, by decide +kernel, rfl⟩ hnm ho (show n ≤ n by omega) ?_
  refine cx_aload_n C (j := 0) dX8_init_19 rfl rfl (by omega) ?_
  refine cx_bipush C dX8_init_20 rfl (cin rfl) ?_
  refine cx_newa C dX8_init_22 l1 rfl (Or.inl ⟨rfl, rfl⟩) (xinT 186 (by decide +kernel) (by decide +kernel)) rfl (Nat.le_of_ble_eq_true rfl) (show n + 1 ≤ n + 2 by omega) ?_
  refine cx_putR C (ty := .array .int) dX8_init_24 fcX8_22 ⟨_, _, _, rfl, rfl, by decide +kernel, rfl⟩ hnm ho (show n ≤ n + 1 by omega) (Or.inr ⟨_, rfl⟩) rfl ?_
  refine cx_aload_n C (j := 0) dX8_init_27 rfl rfl (by omega) ?_
  refine cx_bipush C dX8_init_28 rfl (cin rfl) ?_
  refine cx_newa C dX8_init_30 l2 rfl (Or.inl ⟨rfl, rfl⟩) (xinT 186 (by decide +kernel) (by decide +kernel)) rfl (Nat.le_of_ble_eq_true rfl) (show n + 2 ≤ n + 2 by omega) ?_
  refine cx_putR C (ty := .array .int) dX8_init_32 fcX8_26 ⟨_, _, _, rfl, rfl, by decide +kernel, rfl⟩ hnm ho (show n ≤ n + 2 by omega) (Or.inr ⟨_, rfl⟩) rfl ?_
  exact cx_return C dX8_init_35 hret rfl
theorem dX1_init_0 : decode cX1_init 0 = .ok (.aload_n 0, 1) := by decide +kernel
theorem dX1_init_1 : decode cX1_init 1 = .ok (.invokespecial 3, 3) := by decide +kernel
theorem dX1_init_4 : decode cX1_init 4 = .ok (.aload_n 0, 1) := by decide +kernel
theorem dX1_init_5 : decode cX1_init 5 = .ok (.aconst_null, 1) := by decide +kernel
theorem dX1_init_6 : decode cX1_init 6 = .ok (.putfield 9, 3) := by decide +kernel
theorem dX1_init_9 : decode cX1_init 9 = .ok (.aload_n 0, 1) := by decide +kernel
theorem dX1_init_10 : decode cX1_init 10 = .ok (.aconst_null, 1) := by decide +kernel
theorem dX1_init_11 : decode cX1_init 11 = .ok (.putfield 15, 3) := by decide +kernel
theorem dX1_init_14 : decode cX1_init 14 = .ok (.aload_n 0, 1) := by decide +kernel
theorem dX1_init_15 : decode cX1_init 15 = .ok (.iconst 0, 1) := by decide +kernel
theorem dX1_init_16 : decode cX1_init 16 = .ok (.putfield 19, 3) := by decide +kernel
theorem dX1_init_19 : decode cX1_init 19 = .ok (.aload_n 0, 1) := by decide +kernel
theorem dX1_init_20 : decode cX1_init 20 = .ok (.iconst 0, 1) := by decide +kernel
theorem dX1_init_21 : decode cX1_init 21 = .ok (.putfield 23, 3) := by decide +kernel
theorem dX1_init_24 : decode cX1_init 24 = .ok (.aload_n 0, 1) := by decide +kernel
theorem dX1_init_25 : decode cX1_init 25 = .ok (.iconst 0, 1) := by decide +kernel
theorem dX1_init_26 : decode cX1_init 26 = .ok (.putfield 26, 3) := by decide +kernel
theorem dX1_init_29 : decode cX1_init 29 = .ok (.aload_n 0, 1) := by decide +kernel
theorem dX1_init_30 : decode cX1_init 30 = .ok (.bipush 8, 2) := by decide +kernel
theorem dX1_init_32 : decode cX1_init 32 = .ok (.newarray .int, 2) := by decide +kernel
theorem dX1_init_34 : decode cX1_init 34 = .ok (.putfield 29, 3) := by decide +kernel
theorem dX1_init_37 : decode cX1_init 37 = .ok (.aload_n 0, 1) := by decide +kernel
theorem dX1_init_38 : decode cX1_init 38 = .ok (.sipush 2688, 3) := by decide +kernel
theorem dX1_init_41 : decode cX1_init 41 = .ok (.newarray .int, 2) := by decide +kernel
theorem dX1_init_43 : decode cX1_init 43 = .ok (.putfield 33, 3) := by decide +kernel
theorem dX1_init_46 : decode cX1_init 46 = .ok (.aload_n 0, 1) := by decide +kernel
theorem dX1_init_47 : decode cX1_init 47 = .ok (.sipush 336, 3) := by decide +kernel
theorem dX1_init_50 : decode cX1_init 50 = .ok (.newarray .int, 2) := by decide +kernel
theorem dX1_init_52 : decode cX1_init 52 = .ok (.putfield 36, 3) := by decide +kernel
theorem dX1_init_55 : decode cX1_init 55 = .ok (.aload_n 0, 1) := by decide +kernel
theorem dX1_init_56 : decode cX1_init 56 = .ok (.sipush 337, 3) := by decide +kernel
theorem dX1_init_59 : decode cX1_init 59 = .ok (.newarray .int, 2) := by decide +kernel
theorem dX1_init_61 : decode cX1_init 61 = .ok (.putfield 39, 3) := by decide +kernel
theorem dX1_init_64 : decode cX1_init 64 = .ok (.aload_n 0, 1) := by decide +kernel
theorem dX1_init_65 : decode cX1_init 65 = .ok (.bipush 64, 2) := by decide +kernel
theorem dX1_init_67 : decode cX1_init 67 = .ok (.newarray .int, 2) := by decide +kernel
theorem dX1_init_69 : decode cX1_init 69 = .ok (.putfield 42, 3) := by decide +kernel
theorem dX1_init_72 : decode cX1_init 72 = .ok (.aload_n 0, 1) := by decide +kernel
theorem dX1_init_73 : decode cX1_init 73 = .ok (.bipush 64, 2) := by decide +kernel
theorem dX1_init_75 : decode cX1_init 75 = .ok (.newarray .int, 2) := by decide +kernel
theorem dX1_init_77 : decode cX1_init 77 = .ok (.putfield 45, 3) := by decide +kernel
theorem dX1_init_80 : decode cX1_init 80 = .ok (.aload_n 0, 1) := by decide +kernel
theorem dX1_init_81 : decode cX1_init 81 = .ok (.sipush 2696, 3) := by decide +kernel
theorem dX1_init_84 : decode cX1_init 84 = .ok (.newarray .int, 2) := by decide +kernel
theorem dX1_init_86 : decode cX1_init 86 = .ok (.putfield 48, 3) := by decide +kernel
theorem dX1_init_89 : decode cX1_init 89 = .ok (.aload_n 0, 1) := by decide +kernel
theorem dX1_init_90 : decode cX1_init 90 = .ok (.sipush 392, 3) := by decide +kernel
theorem dX1_init_93 : decode cX1_init 93 = .ok (.newarray .int, 2) := by decide +kernel
theorem dX1_init_95 : decode cX1_init 95 = .ok (.putfield 51, 3) := by decide +kernel
theorem dX1_init_98 : decode cX1_init 98 = .ok (.return_, 1) := by decide +kernel
theorem fcX1_9 : xFld RX1 9 1 0 3 0 := ⟨_, _, _, rfl, Nat.le_of_ble_eq_true rfl, rfl, (xinT 388 (by decide +kernel) (by decide +kernel)), rfl⟩
theorem fcX1_15 : xFld RX1 15 1 1 3 0 := ⟨_, _, _, rfl, Nat.le_of_ble_eq_true rfl, rfl, (xinT 391 (by decide +kernel) (by decide +kernel)), rfl⟩
theorem fcX1_19 : xFld RX1 19 1 2 0 0 := ⟨_, _, _, rfl, Nat.le_of_ble_eq_true rfl, rfl, (xinT 392 (by decide +kernel) (by decide +kernel)), rfl⟩
theorem fcX1_23 : xFld RX1 23 1 3 0 0 := ⟨_, _, _, rfl, Nat.le_of_ble_eq_true rfl, rfl, (xinT 393 (by decide +kernel) (by decide +kernel)), rfl⟩
theorem fcX1_26 : xFld RX1 26 1 4 0 0 := ⟨_, _, _, rfl, Nat.le_of_ble_eq_true rfl, rfl, (xinT 394 (by decide +kernel) (by decide +kernel)), rfl⟩
theorem fcX1_29 : xFld RX1 29 1 5 2 1 := ⟨_, _, _, rfl, Nat.le_of_ble_eq_true rfl, rfl, (xinT 398 (by decide +kernel) (by decide +kernel)), rfl⟩
theorem fcX1_33 : xFld RX1 33 1 6 2 2 := ⟨_, _, _, rfl, Nat.le_of_ble_eq_true rfl, rfl, (xinT 399 (by decide +kernel) (by decide +kernel)), rfl⟩
theorem fcX1_36 : xFld RX1 36 1 7 2 3 := ⟨_, _, _, rfl, Nat.le_of_ble_eq_true rfl, rfl, (xinT 400 (by decide +kernel) (by decide +kernel)), rfl⟩
theorem fcX1_39 : xFld RX1 39 1 8 2 4 := ⟨_, _, _, rfl, Nat.le_of_ble_eq_true rfl, rfl, (xinT 401 (by decide +kernel) (by decide +kernel)), rfl⟩
theorem fcX1_42 : xFld RX1 42 1 9 2 5 := ⟨_, _, _, rfl, Nat.le_of_ble_eq_true rfl, rfl, (xinT 402 (by decide +kernel) (by decide +kernel)), rfl⟩
theorem fcX1_45 : xFld RX1 45 1 10 2 6 := ⟨_, _, _, rfl, Nat.le_of_ble_eq_true rfl, rfl, (xinT 403 (by decide +kernel) (by decide +kernel)), rfl⟩
theorem fcX1_48 : xFld RX1 48 1 11 2 7 := ⟨_, _, _, rfl, Nat.le_of_ble_eq_true rfl, rfl, (xinT 404 (by decide +kernel) (by decide +kernel)), rfl⟩
theorem fcX1_51 : xFld RX1 51 1 12 2 8 := ⟨_, _, _, rfl, Nat.le_of_ble_eq_true rfl, rfl, (xinT 405 (by decide +kernel) (by decide +kernel)), rfl⟩
theorem layX1 {o : Nat} (ho : isK o 1) : o + 8 ≤ layN ∧ o ≠ 0 ∧ lay (o + 1) = some (.inr (.inl (0, 8))) ∧ lay (o + 2) = some (.inr (.inl (0, 2688))) ∧ lay (o + 3) = some (.inr (.inl (0, 336))) ∧ lay (o + 4) = some (.inr (.inl (0, 337))) ∧ lay (o + 5) = some (.inr (.inl (0, 64))) ∧ lay (o + 6) = some (.inr (.inl (0, 64))) ∧ lay (o + 7) = some (.inr (.inl (0, 2696))) ∧ lay (o + 8) = some (.inr (.inl (0, 392))) := by
  have h := layq (P := fun o => decide (o + 8 ≤ layN) && (decide (o ≠ 0) && decide (lay (o + 1) = some (.inr (.inl (0, 8)))) && decide (lay (o + 2) = some (.inr (.inl (0, 2688)))) && decide (lay (o + 3) = some (.inr (.inl (0, 336)))) && decide (lay (o + 4) = some (.inr (.inl (0, 337)))) && decide (lay (o + 5) = some (.inr (.inl (0, 64)))) && decide (lay (o + 6) = some (.inr (.inl (0, 64)))) && decide (lay (o + 7) = some (.inr (.inl (0, 2696)))) && decide (lay (o + 8) = some (.inr (.inl (0, 392)))))) (by decide +kernel) ho
  simp only [Bool.and_eq_true, decide_eq_true_eq] at h
  obtain ⟨h1, ⟨⟨⟨⟨⟨⟨⟨⟨h2, g1⟩, g2⟩, g3⟩, g4⟩, g5⟩, g6⟩, g7⟩, g8⟩⟩ := h
  exact ⟨h1, h2, g1, g2, g3, g4, g5, g6, g7, g8⟩
theorem ssX1 {o : Nat} (ho : isK o 1) : ssum (o + 8) = ssum o + 6585 := of_decide_eq_true (layq (P := fun o => decide (ssum (o + 8) = ssum o + 6585)) (by decide +kernel) ho)
def rgX1 : List (Nat × Nat) := [(0, 12), (0, 11), (0, 10), (0, 9), (0, 8), (0, 7), (0, 6), (0, 5)]
def rfX1 : List (Nat × Nat × Int) := [(0, 4, 0), (0, 3, 0), (0, 2, 0), (0, 1, 0), (0, 0, 0)]
def mkX1 (o : Nat) (M : CM) : CM := (o + 8, (o, 12) :: (o, 11) :: (o, 10) :: (o, 9) :: (o, 8) :: (o, 7) :: (o, 6) :: (o, 5) :: M.2.1, (o, 4, 0) :: (o, 3, 0) :: (o, 2, 0) :: (o, 1, 0) :: (o, 0, 0) :: M.2.2)
theorem gk_mk1 {M : CM} {o k o2 : Nat} (h : gL M.2.1 o k = true) : gL (mkX1 o2 M).2.1 o k = true := (gk_app h : gL ((rgX1.map fun q => (o2 + q.1, q.2)) ++ M.2.1) o k = true)
theorem cfrX1 {o : Nat} {M : CM} (hM : M.1 = o) (h : cfresh M) : cfresh (mkX1 o M) := (cfresh_app (o := o) (n := 8) (Gs := rgX1) (Fs := rfX1) h (by omega) (by decide +kernel) (by decide +kernel) : _)
theorem mcI1 : Cond.code yX1_init cX1_init 1 none ∈ xw_T ∧ Cond.initialized yX1_init.cls ∈ xw_T ∧ Cond.instanceMethod yX1_init ∈ xw_T := ⟨(xinT 386 (by decide +kernel) (by decide +kernel)), (xinT 124 (by decide +kernel) (by decide +kernel)), (xinT 385 (by decide +kernel) (by decide +kernel))⟩
set_option maxHeartbeats 2000000 in
set_option maxRecDepth 100000 in
theorem ccX1 {o : Nat} {M : CM} (ho : isK o 1) (hM : M.1 = o) (hfr : cfresh M) : xCC yX1_init cX1_init 1 1 20 8 (6585) [vR o] M (mkX1 o M) := by
  obtain ⟨n, Gm, Fm⟩ := M
  obtain rfl : n = o := hM
  have hl := layX1 ho
  obtain ⟨hlN, ho0, l1, l2, l3, l4, l5, l6, l7, l8⟩ := hl
  have hss := ssX1 ho
  refine xcc_of (n1 := n + 8) (by decide +kernel) rfl (Nat.le_of_ble_eq_true rfl) (fun v hv => by rcases List.mem_cons.mp hv with rfl | hv <;> first | trivial | cases hv) hfr (show n ≤ layN by omega) (show n + 8 - n = 8 by omega) (sub_of hss) (fun p l e R s m args below meth c D ad cA base C hret hnm => ?_)
  clear hss
  refine cx_aload_n C (j := 0) dX1_init_0 rfl rfl (by omega) ?_
  refine cx_objInit C dX1_init_1 (xinT 387 (by decide +kernel) (by decide +kernel)) oi_inst oi_code (by omega) (Nat.le_of_ble_eq_true rfl) (Nat.le_of_ble_eq_true rfl) (Nat.le_of_ble_eq_true rfl) ?_
  refine cx_aload_n C (j := 0) dX1_init_4 rfl rfl (by omega) ?_
  refine cx_null C dX1_init_5 ?_
  refine cx_putN C (ty := .object "OnePair$Valley") dX1_init_6 fcX1_9 ⟨_, _, _, rfl, rfl, by decide +kernel, rfl⟩ hnm ho (show n ≤ n by omega) (Or.inl ⟨_, rfl⟩) ?_
  refine cx_aload_n C (j := 0) dX1_init_9 rfl rfl (by omega) ?_
  refine cx_null C dX1_init_10 ?_
  refine cx_putN C (ty := .object "OnePair$Claims") dX1_init_11 fcX1_15 ⟨_, _, _, rfl, rfl, by decide +kernel, rfl⟩ hnm ho (show n ≤ n by omega) (Or.inl ⟨_, rfl⟩) ?_
  refine cx_aload_n C (j := 0) dX1_init_14 rfl rfl (by omega) ?_
  refine cx_iconst C dX1_init_15 (cin rfl) ?_
  refine cx_putI C dX1_init_16 fcX1_19 ⟨_, _, _, rfl, rfl, by decide +kernel, rfl⟩ hnm ho (show n ≤ n by omega) ?_
  refine cx_aload_n C (j := 0) dX1_init_19 rfl rfl (by omega) ?_
  refine cx_iconst C dX1_init_20 (cin rfl) ?_
  refine cx_putI C dX1_init_21 fcX1_23 ⟨_, _, _, rfl, rfl, by decide +kernel, rfl⟩ hnm ho (show n ≤ n by omega) ?_
  refine cx_aload_n C (j := 0) dX1_init_24 rfl rfl (by omega) ?_
  refine cx_iconst C dX1_init_25 (cin rfl) ?_
  refine cx_putI C dX1_init_26 fcX1_26 ⟨_, _, _, rfl, rfl, by decide +kernel, rfl⟩ hnm ho (show n ≤ n by omega) ?_
  refine cx_aload_n C (j := 0) dX1_init_29 rfl rfl (by omega) ?_
  refine cx_bipush C dX1_init_30 rfl (cin rfl) ?_
  refine cx_newa C dX1_init_32 l1 rfl (Or.inl ⟨rfl, rfl⟩) (xinT 186 (by decide +kernel) (by decide +kernel)) rfl (Nat.le_of_ble_eq_true rfl) (show n + 1 ≤ n + 8 by omega) ?_
  refine cx_putR C (ty := .array .int) dX1_init_34 fcX1_29 ⟨_, _, _, rfl, rfl, by decide +kernel, rfl⟩ hnm ho (show n ≤ n + 1 by omega) (Or.inr ⟨_, rfl⟩) rfl ?_
  refine cx_aload_n C (j := 0) dX1_init_37 rfl rfl (by omega) ?_
  refine cx_sipush C dX1_init_38 rfl (cin rfl) ?_
  refine cx_newa C dX1_init_41 l2 rfl (Or.inl ⟨rfl, rfl⟩) (xinT 186 (by decide +kernel) (by decide +kernel)) rfl (Nat.le_of_ble_eq_true rfl) (show n + 2 ≤ n + 8 by omega) ?_
  refine cx_putR C (ty := .array .int) dX1_init_43 fcX1_33 ⟨_, _, _, rfl, rfl, by decide +kernel, rfl⟩ hnm ho (show n ≤ n + 2 by omega) (Or.inr ⟨_, rfl⟩) rfl ?_
  refine cx_aload_n C (j := 0) dX1_init_46 rfl rfl (by omega) ?_
  refine cx_sipush C dX1_init_47 rfl (cin rfl) ?_
  refine cx_newa C dX1_init_50 l3 rfl (Or.inl ⟨rfl, rfl⟩) (xinT 186 (by decide +kernel) (by decide +kernel)) rfl (Nat.le_of_ble_eq_true rfl) (show n + 3 ≤ n + 8 by omega) ?_
  refine cx_putR C (ty := .array .int) dX1_init_52 fcX1_36 ⟨_, _, _, rfl, rfl, by decide +kernel, rfl⟩ hnm ho (show n ≤ n + 3 by omega) (Or.inr ⟨_, rfl⟩) rfl ?_
  refine cx_aload_n C (j := 0) dX1_init_55 rfl rfl (by omega) ?_
  refine cx_sipush C dX1_init_56 rfl (cin rfl) ?_
  refine cx_newa C dX1_init_59 l4 rfl (Or.inl ⟨rfl, rfl⟩) (xinT 186 (by decide +kernel) (by decide +kernel)) rfl (Nat.le_of_ble_eq_true rfl) (show n + 4 ≤ n + 8 by omega) ?_
  refine cx_putR C (ty := .array .int) dX1_init_61 fcX1_39 ⟨_, _, _, rfl, rfl, by decide +kernel, rfl⟩ hnm ho (show n ≤ n + 4 by omega) (Or.inr ⟨_, rfl⟩) rfl ?_
  refine cx_aload_n C (j := 0) dX1_init_64 rfl rfl (by omega) ?_
  refine cx_bipush C dX1_init_65 rfl (cin rfl) ?_
  refine cx_newa C dX1_init_67 l5 rfl (Or.inl ⟨rfl, rfl⟩) (xinT 186 (by decide +kernel) (by decide +kernel)) rfl (Nat.le_of_ble_eq_true rfl) (show n + 5 ≤ n + 8 by omega) ?_
  refine cx_putR C (ty := .array .int) dX1_init_69 fcX1_42 ⟨_, _, _, rfl, rfl, by decide +kernel, rfl⟩ hnm ho (show n ≤ n + 5 by omega) (Or.inr ⟨_, rfl⟩) rfl ?_
  refine cx_aload_n C (j := 0) dX1_init_72 rfl rfl (by omega) ?_
  refine cx_bipush C dX1_init_73 rfl (cin rfl) ?_
  refine cx_newa C dX1_init_75 l6 rfl (Or.inl ⟨rfl, rfl⟩) (xinT 186 (by decide +kernel) (by decide +kernel)) rfl (Nat.le_of_ble_eq_true rfl) (show n + 6 ≤ n + 8 by omega) ?_
  refine cx_putR C (ty := .array .int) dX1_init_77 fcX1_45 ⟨_, _, _, rfl, rfl, by decide +kernel, rfl⟩ hnm ho (show n ≤ n + 6 by omega) (Or.inr ⟨_, rfl⟩) rfl ?_
  refine cx_aload_n C (j := 0) dX1_init_80 rfl rfl (by omega) ?_
  refine cx_sipush C dX1_init_81 rfl (cin rfl) ?_
  refine cx_newa C dX1_init_84 l7 rfl (Or.inl ⟨rfl, rfl⟩) (xinT 186 (by decide +kernel) (by decide +kernel)) rfl (Nat.le_of_ble_eq_true rfl) (show n + 7 ≤ n + 8 by omega) ?_
  refine cx_putR C (ty := .array .int) dX1_init_86 fcX1_48 ⟨_, _, _, rfl, rfl, by decide +kernel, rfl⟩ hnm ho (show n ≤ n + 7 by omega) (Or.inr ⟨_, rfl⟩) rfl ?_
  refine cx_aload_n C (j := 0) dX1_init_89 rfl rfl (by omega) ?_
  refine cx_sipush C dX1_init_90 rfl (cin rfl) ?_
  refine cx_newa C dX1_init_93 l8 rfl (Or.inl ⟨rfl, rfl⟩) (xinT 186 (by decide +kernel) (by decide +kernel)) rfl (Nat.le_of_ble_eq_true rfl) (show n + 8 ≤ n + 8 by omega) ?_
  refine cx_putR C (ty := .array .int) dX1_init_95 fcX1_51 ⟨_, _, _, rfl, rfl, by decide +kernel, rfl⟩ hnm ho (show n ≤ n + 8 by omega) (Or.inr ⟨_, rfl⟩) rfl ?_
  exact cx_return C dX1_init_98 hret rfl
theorem dX6_init_0 : decode cX6_init 0 = .ok (.aload_n 0, 1) := by decide +kernel
theorem dX6_init_1 : decode cX6_init 1 = .ok (.invokespecial 3, 3) := by decide +kernel
theorem dX6_init_4 : decode cX6_init 4 = .ok (.aload_n 0, 1) := by decide +kernel
theorem dX6_init_5 : decode cX6_init 5 = .ok (.sipush 336, 3) := by decide +kernel
theorem dX6_init_8 : decode cX6_init 8 = .ok (.newarray .int, 2) := by decide +kernel
theorem dX6_init_10 : decode cX6_init 10 = .ok (.putfield 9, 3) := by decide +kernel
theorem dX6_init_13 : decode cX6_init 13 = .ok (.aload_n 0, 1) := by decide +kernel
theorem dX6_init_14 : decode cX6_init 14 = .ok (.sipush 336, 3) := by decide +kernel
theorem dX6_init_17 : decode cX6_init 17 = .ok (.newarray .int, 2) := by decide +kernel
theorem dX6_init_19 : decode cX6_init 19 = .ok (.putfield 15, 3) := by decide +kernel
theorem dX6_init_22 : decode cX6_init 22 = .ok (.aload_n 0, 1) := by decide +kernel
theorem dX6_init_23 : decode cX6_init 23 = .ok (.sipush 336, 3) := by decide +kernel
theorem dX6_init_26 : decode cX6_init 26 = .ok (.newarray .int, 2) := by decide +kernel
theorem dX6_init_28 : decode cX6_init 28 = .ok (.putfield 18, 3) := by decide +kernel
theorem dX6_init_31 : decode cX6_init 31 = .ok (.aload_n 0, 1) := by decide +kernel
theorem dX6_init_32 : decode cX6_init 32 = .ok (.sipush 336, 3) := by decide +kernel
theorem dX6_init_35 : decode cX6_init 35 = .ok (.newarray .int, 2) := by decide +kernel
theorem dX6_init_37 : decode cX6_init 37 = .ok (.putfield 21, 3) := by decide +kernel
theorem dX6_init_40 : decode cX6_init 40 = .ok (.aload_n 0, 1) := by decide +kernel
theorem dX6_init_41 : decode cX6_init 41 = .ok (.iconst (-1), 1) := by decide +kernel
theorem dX6_init_42 : decode cX6_init 42 = .ok (.putfield 24, 3) := by decide +kernel
theorem dX6_init_45 : decode cX6_init 45 = .ok (.aload_n 0, 1) := by decide +kernel
theorem dX6_init_46 : decode cX6_init 46 = .ok (.sipush 392, 3) := by decide +kernel
theorem dX6_init_49 : decode cX6_init 49 = .ok (.newarray .long, 2) := by decide +kernel
theorem dX6_init_51 : decode cX6_init 51 = .ok (.putfield 28, 3) := by decide +kernel
theorem dX6_init_54 : decode cX6_init 54 = .ok (.return_, 1) := by decide +kernel
theorem fcX6_9 : xFld RX6 9 6 0 2 1 := ⟨_, _, _, rfl, Nat.le_of_ble_eq_true rfl, rfl, (xinT 439 (by decide +kernel) (by decide +kernel)), rfl⟩
theorem fcX6_15 : xFld RX6 15 6 1 2 2 := ⟨_, _, _, rfl, Nat.le_of_ble_eq_true rfl, rfl, (xinT 441 (by decide +kernel) (by decide +kernel)), rfl⟩
theorem fcX6_18 : xFld RX6 18 6 2 2 3 := ⟨_, _, _, rfl, Nat.le_of_ble_eq_true rfl, rfl, (xinT 443 (by decide +kernel) (by decide +kernel)), rfl⟩
theorem fcX6_21 : xFld RX6 21 6 3 2 4 := ⟨_, _, _, rfl, Nat.le_of_ble_eq_true rfl, rfl, (xinT 445 (by decide +kernel) (by decide +kernel)), rfl⟩
theorem fcX6_24 : xFld RX6 24 6 4 0 0 := ⟨_, _, _, rfl, Nat.le_of_ble_eq_true rfl, rfl, (xinT 447 (by decide +kernel) (by decide +kernel)), rfl⟩
theorem fcX6_28 : xFld RX6 28 6 5 2 5 := ⟨_, _, _, rfl, Nat.le_of_ble_eq_true rfl, rfl, (xinT 449 (by decide +kernel) (by decide +kernel)), rfl⟩
theorem layX6 {o : Nat} (ho : isK o 6) : o + 5 ≤ layN ∧ o ≠ 0 ∧ lay (o + 1) = some (.inr (.inl (0, 336))) ∧ lay (o + 2) = some (.inr (.inl (0, 336))) ∧ lay (o + 3) = some (.inr (.inl (0, 336))) ∧ lay (o + 4) = some (.inr (.inl (0, 336))) ∧ lay (o + 5) = some (.inr (.inl (3, 392))) := by
  have h := layq (P := fun o => decide (o + 5 ≤ layN) && (decide (o ≠ 0) && decide (lay (o + 1) = some (.inr (.inl (0, 336)))) && decide (lay (o + 2) = some (.inr (.inl (0, 336)))) && decide (lay (o + 3) = some (.inr (.inl (0, 336)))) && decide (lay (o + 4) = some (.inr (.inl (0, 336)))) && decide (lay (o + 5) = some (.inr (.inl (3, 392)))))) (by decide +kernel) ho
  simp only [Bool.and_eq_true, decide_eq_true_eq] at h
  obtain ⟨h1, ⟨⟨⟨⟨⟨h2, g1⟩, g2⟩, g3⟩, g4⟩, g5⟩⟩ := h
  exact ⟨h1, h2, g1, g2, g3, g4, g5⟩
theorem ssX6 {o : Nat} (ho : isK o 6) : ssum (o + 5) = ssum o + 1736 := of_decide_eq_true (layq (P := fun o => decide (ssum (o + 5) = ssum o + 1736)) (by decide +kernel) ho)
def rgX6 : List (Nat × Nat) := [(0, 5), (0, 3), (0, 2), (0, 1), (0, 0)]
def rfX6 : List (Nat × Nat × Int) := [(0, 4, -1)]
def mkX6 (o : Nat) (M : CM) : CM := (o + 5, (o, 5) :: (o, 3) :: (o, 2) :: (o, 1) :: (o, 0) :: M.2.1, (o, 4, -1) :: M.2.2)
theorem gk_mk6 {M : CM} {o k o2 : Nat} (h : gL M.2.1 o k = true) : gL (mkX6 o2 M).2.1 o k = true := (gk_app h : gL ((rgX6.map fun q => (o2 + q.1, q.2)) ++ M.2.1) o k = true)
theorem cfrX6 {o : Nat} {M : CM} (hM : M.1 = o) (h : cfresh M) : cfresh (mkX6 o M) := (cfresh_app (o := o) (n := 5) (Gs := rgX6) (Fs := rfX6) h (by omega) (by decide +kernel) (by decide +kernel) : _)
theorem mcI6 : Cond.code yX6_init cX6_init 1 none ∈ xw_T ∧ Cond.initialized yX6_init.cls ∈ xw_T ∧ Cond.instanceMethod yX6_init ∈ xw_T := ⟨(xinT 437 (by decide +kernel) (by decide +kernel)), (xinT 125 (by decide +kernel) (by decide +kernel)), (xinT 436 (by decide +kernel) (by decide +kernel))⟩
set_option maxHeartbeats 2000000 in
set_option maxRecDepth 100000 in
theorem ccX6 {o : Nat} {M : CM} (ho : isK o 6) (hM : M.1 = o) (hfr : cfresh M) : xCC yX6_init cX6_init 1 1 20 5 (1736) [vR o] M (mkX6 o M) := by
  obtain ⟨n, Gm, Fm⟩ := M
  obtain rfl : n = o := hM
  have hl := layX6 ho
  obtain ⟨hlN, ho0, l1, l2, l3, l4, l5⟩ := hl
  have hss := ssX6 ho
  refine xcc_of (n1 := n + 5) (by decide +kernel) rfl (Nat.le_of_ble_eq_true rfl) (fun v hv => by rcases List.mem_cons.mp hv with rfl | hv <;> first | trivial | cases hv) hfr (show n ≤ layN by omega) (show n + 5 - n = 5 by omega) (sub_of hss) (fun p l e R s m args below meth c D ad cA base C hret hnm => ?_)
  clear hss
  refine cx_aload_n C (j := 0) dX6_init_0 rfl rfl (by omega) ?_
  refine cx_objInit C dX6_init_1 (xinT 438 (by decide +kernel) (by decide +kernel)) oi_inst oi_code (by omega) (Nat.le_of_ble_eq_true rfl) (Nat.le_of_ble_eq_true rfl) (Nat.le_of_ble_eq_true rfl) ?_
  refine cx_aload_n C (j := 0) dX6_init_4 rfl rfl (by omega) ?_
  refine cx_sipush C dX6_init_5 rfl (cin rfl) ?_
  refine cx_newa C dX6_init_8 l1 rfl (Or.inl ⟨rfl, rfl⟩) (xinT 186 (by decide +kernel) (by decide +kernel)) rfl (Nat.le_of_ble_eq_true rfl) (show n + 1 ≤ n + 5 by omega) ?_
  refine cx_putR C (ty := .array .int) dX6_init_10 fcX6_9 ⟨_, _, _, rfl, rfl, by decide +kernel, rfl⟩ hnm ho (show n ≤ n + 1 by omega) (Or.inr ⟨_, rfl⟩) rfl ?_
  refine cx_aload_n C (j := 0) dX6_init_13 rfl rfl (by omega) ?_
  refine cx_sipush C dX6_init_14 rfl (cin rfl) ?_
  refine cx_newa C dX6_init_17 l2 rfl (Or.inl ⟨rfl, rfl⟩) (xinT 186 (by decide +kernel) (by decide +kernel)) rfl (Nat.le_of_ble_eq_true rfl) (show n + 2 ≤ n + 5 by omega) ?_
  refine cx_putR C (ty := .array .int) dX6_init_19 fcX6_15 ⟨_, _, _, rfl, rfl, by decide +kernel, rfl⟩ hnm ho (show n ≤ n + 2 by omega) (Or.inr ⟨_, rfl⟩) rfl ?_
  refine cx_aload_n C (j := 0) dX6_init_22 rfl rfl (by omega) ?_
  refine cx_sipush C dX6_init_23 rfl (cin rfl) ?_
  refine cx_newa C dX6_init_26 l3 rfl (Or.inl ⟨rfl, rfl⟩) (xinT 186 (by decide +kernel) (by decide +kernel)) rfl (Nat.le_of_ble_eq_true rfl) (show n + 3 ≤ n + 5 by omega) ?_
  refine cx_putR C (ty := .array .int) dX6_init_28 fcX6_18 ⟨_, _, _, rfl, rfl, by decide +kernel, rfl⟩ hnm ho (show n ≤ n + 3 by omega) (Or.inr ⟨_, rfl⟩) rfl ?_
  refine cx_aload_n C (j := 0) dX6_init_31 rfl rfl (by omega) ?_
  refine cx_sipush C dX6_init_32 rfl (cin rfl) ?_
  refine cx_newa C dX6_init_35 l4 rfl (Or.inl ⟨rfl, rfl⟩) (xinT 186 (by decide +kernel) (by decide +kernel)) rfl (Nat.le_of_ble_eq_true rfl) (show n + 4 ≤ n + 5 by omega) ?_
  refine cx_putR C (ty := .array .int) dX6_init_37 fcX6_21 ⟨_, _, _, rfl, rfl, by decide +kernel, rfl⟩ hnm ho (show n ≤ n + 4 by omega) (Or.inr ⟨_, rfl⟩) rfl ?_
  refine cx_aload_n C (j := 0) dX6_init_40 rfl rfl (by omega) ?_
  refine cx_iconst C dX6_init_41 (cin rfl) ?_
  refine cx_putI C dX6_init_42 fcX6_24 ⟨_, _, _, rfl, rfl, by decide +kernel, rfl⟩ hnm ho (show n ≤ n + 4 by omega) ?_
  refine cx_aload_n C (j := 0) dX6_init_45 rfl rfl (by omega) ?_
  refine cx_sipush C dX6_init_46 rfl (cin rfl) ?_
  refine cx_newa C dX6_init_49 l5 rfl (Or.inr (Or.inr (Or.inr ⟨rfl, rfl⟩))) (xinT 463 (by decide +kernel) (by decide +kernel)) rfl (Nat.le_of_ble_eq_true rfl) (show n + 5 ≤ n + 5 by omega) ?_
  refine cx_putR C (ty := .array .long) dX6_init_51 fcX6_28 ⟨_, _, _, rfl, rfl, by decide +kernel, rfl⟩ hnm ho (show n ≤ n + 5 by omega) (Or.inr ⟨_, rfl⟩) rfl ?_
  exact cx_return C dX6_init_54 hret rfl
theorem dX5_init_0 : decode cX5_init 0 = .ok (.aload_n 0, 1) := by decide +kernel
theorem dX5_init_1 : decode cX5_init 1 = .ok (.invokespecial 3, 3) := by decide +kernel
theorem dX5_init_4 : decode cX5_init 4 = .ok (.aload_n 0, 1) := by decide +kernel
theorem dX5_init_5 : decode cX5_init 5 = .ok (.iconst (-1), 1) := by decide +kernel
theorem dX5_init_6 : decode cX5_init 6 = .ok (.putfield 9, 3) := by decide +kernel
theorem dX5_init_9 : decode cX5_init 9 = .ok (.aload_n 0, 1) := by decide +kernel
theorem dX5_init_10 : decode cX5_init 10 = .ok (.iconst (-1), 1) := by decide +kernel
theorem dX5_init_11 : decode cX5_init 11 = .ok (.putfield 15, 3) := by decide +kernel
theorem dX5_init_14 : decode cX5_init 14 = .ok (.aload_n 0, 1) := by decide +kernel
theorem dX5_init_15 : decode cX5_init 15 = .ok (.iconst 0, 1) := by decide +kernel
theorem dX5_init_16 : decode cX5_init 16 = .ok (.putfield 18, 3) := by decide +kernel
theorem dX5_init_19 : decode cX5_init 19 = .ok (.aload_n 0, 1) := by decide +kernel
theorem dX5_init_20 : decode cX5_init 20 = .ok (.iconst 0, 1) := by decide +kernel
theorem dX5_init_21 : decode cX5_init 21 = .ok (.putfield 21, 3) := by decide +kernel
theorem dX5_init_24 : decode cX5_init 24 = .ok (.aload_n 0, 1) := by decide +kernel
theorem dX5_init_25 : decode cX5_init 25 = .ok (.bipush 48, 2) := by decide +kernel
theorem dX5_init_27 : decode cX5_init 27 = .ok (.newarray .int, 2) := by decide +kernel
theorem dX5_init_29 : decode cX5_init 29 = .ok (.putfield 24, 3) := by decide +kernel
theorem dX5_init_32 : decode cX5_init 32 = .ok (.return_, 1) := by decide +kernel
theorem fcX5_9 : xFld RX5 9 5 0 0 0 := ⟨_, _, _, rfl, Nat.le_of_ble_eq_true rfl, rfl, (xinT 470 (by decide +kernel) (by decide +kernel)), rfl⟩
theorem fcX5_15 : xFld RX5 15 5 1 0 0 := ⟨_, _, _, rfl, Nat.le_of_ble_eq_true rfl, rfl, (xinT 472 (by decide +kernel) (by decide +kernel)), rfl⟩
theorem fcX5_18 : xFld RX5 18 5 2 0 0 := ⟨_, _, _, rfl, Nat.le_of_ble_eq_true rfl, rfl, (xinT 474 (by decide +kernel) (by decide +kernel)), rfl⟩
theorem fcX5_21 : xFld RX5 21 5 3 0 0 := ⟨_, _, _, rfl, Nat.le_of_ble_eq_true rfl, rfl, (xinT 476 (by decide +kernel) (by decide +kernel)), rfl⟩
theorem fcX5_24 : xFld RX5 24 5 4 2 1 := ⟨_, _, _, rfl, Nat.le_of_ble_eq_true rfl, rfl, (xinT 478 (by decide +kernel) (by decide +kernel)), rfl⟩
theorem layX5 {o : Nat} (ho : isK o 5) : o + 1 ≤ layN ∧ o ≠ 0 ∧ lay (o + 1) = some (.inr (.inl (0, 48))) := by
  have h := layq (P := fun o => decide (o + 1 ≤ layN) && (decide (o ≠ 0) && decide (lay (o + 1) = some (.inr (.inl (0, 48)))))) (by decide +kernel) ho
  simp only [Bool.and_eq_true, decide_eq_true_eq] at h
  obtain ⟨h1, ⟨h2, g1⟩⟩ := h
  exact ⟨h1, h2, g1⟩
theorem ssX5 {o : Nat} (ho : isK o 5) : ssum (o + 1) = ssum o + 48 := of_decide_eq_true (layq (P := fun o => decide (ssum (o + 1) = ssum o + 48)) (by decide +kernel) ho)
def rgX5 : List (Nat × Nat) := [(0, 4)]
def rfX5 : List (Nat × Nat × Int) := [(0, 3, 0), (0, 2, 0), (0, 1, -1), (0, 0, -1)]
def mkX5 (o : Nat) (M : CM) : CM := (o + 1, (o, 4) :: M.2.1, (o, 3, 0) :: (o, 2, 0) :: (o, 1, -1) :: (o, 0, -1) :: M.2.2)
theorem gk_mk5 {M : CM} {o k o2 : Nat} (h : gL M.2.1 o k = true) : gL (mkX5 o2 M).2.1 o k = true := (gk_app h : gL ((rgX5.map fun q => (o2 + q.1, q.2)) ++ M.2.1) o k = true)
theorem cfrX5 {o : Nat} {M : CM} (hM : M.1 = o) (h : cfresh M) : cfresh (mkX5 o M) := (cfresh_app (o := o) (n := 1) (Gs := rgX5) (Fs := rfX5) h (by omega) (by decide +kernel) (by decide +kernel) : _)
theorem mcI5 : Cond.code yX5_init cX5_init 1 none ∈ xw_T ∧ Cond.initialized yX5_init.cls ∈ xw_T ∧ Cond.instanceMethod yX5_init ∈ xw_T := ⟨(xinT 468 (by decide +kernel) (by decide +kernel)), (xinT 126 (by decide +kernel) (by decide +kernel)), (xinT 467 (by decide +kernel) (by decide +kernel))⟩
set_option maxHeartbeats 2000000 in
set_option maxRecDepth 100000 in
theorem ccX5 {o : Nat} {M : CM} (ho : isK o 5) (hM : M.1 = o) (hfr : cfresh M) : xCC yX5_init cX5_init 1 1 20 1 (48) [vR o] M (mkX5 o M) := by
  obtain ⟨n, Gm, Fm⟩ := M
  obtain rfl : n = o := hM
  have hl := layX5 ho
  obtain ⟨hlN, ho0, l1⟩ := hl
  have hss := ssX5 ho
  refine xcc_of (n1 := n + 1) (by decide +kernel) rfl (Nat.le_of_ble_eq_true rfl) (fun v hv => by rcases List.mem_cons.mp hv with rfl | hv <;> first | trivial | cases hv) hfr (show n ≤ layN by omega) (show n + 1 - n = 1 by omega) (sub_of hss) (fun p l e R s m args below meth c D ad cA base C hret hnm => ?_)
  clear hss
  refine cx_aload_n C (j := 0) dX5_init_0 rfl rfl (by omega) ?_
  refine cx_objInit C dX5_init_1 (xinT 469 (by decide +kernel) (by decide +kernel)) oi_inst oi_code (by omega) (Nat.le_of_ble_eq_true rfl) (Nat.le_of_ble_eq_true rfl) (Nat.le_of_ble_eq_true rfl) ?_
  refine cx_aload_n C (j := 0) dX5_init_4 rfl rfl (by omega) ?_
  refine cx_iconst C dX5_init_5 (cin rfl) ?_
  refine cx_putI C dX5_init_6 fcX5_9 ⟨_, _, _, rfl, rfl, by decide +kernel, rfl⟩ hnm ho (show n ≤ n by omega) ?_
  refine cx_aload_n C (j := 0) dX5_init_9 rfl rfl (by omega) ?_
  refine cx_iconst C dX5_init_10 (cin rfl) ?_
  refine cx_putI C dX5_init_11 fcX5_15 ⟨_, _, _, rfl, rfl, by decide +kernel, rfl⟩ hnm ho (show n ≤ n by omega) ?_
  refine cx_aload_n C (j := 0) dX5_init_14 rfl rfl (by omega) ?_
  refine cx_iconst C dX5_init_15 (cin rfl) ?_
  refine cx_putI C dX5_init_16 fcX5_18 ⟨_, _, _, rfl, rfl, by decide +kernel, rfl⟩ hnm ho (show n ≤ n by omega) ?_
  refine cx_aload_n C (j := 0) dX5_init_19 rfl rfl (by omega) ?_
  refine cx_iconst C dX5_init_20 (cin rfl) ?_
  refine cx_putI C dX5_init_21 fcX5_21 ⟨_, _, _, rfl, rfl, by decide +kernel, rfl⟩ hnm ho (show n ≤ n by omega) ?_
  refine cx_aload_n C (j := 0) dX5_init_24 rfl rfl (by omega) ?_
  refine cx_bipush C dX5_init_25 rfl (cin rfl) ?_
  refine cx_newa C dX5_init_27 l1 rfl (Or.inl ⟨rfl, rfl⟩) (xinT 186 (by decide +kernel) (by decide +kernel)) rfl (Nat.le_of_ble_eq_true rfl) (show n + 1 ≤ n + 1 by omega) ?_
  refine cx_putR C (ty := .array .int) dX5_init_29 fcX5_24 ⟨_, _, _, rfl, rfl, by decide +kernel, rfl⟩ hnm ho (show n ≤ n + 1 by omega) (Or.inr ⟨_, rfl⟩) rfl ?_
  exact cx_return C dX5_init_32 hret rfl
theorem dX10_init_0 : decode cX10_init 0 = .ok (.aload_n 0, 1) := by decide +kernel
theorem dX10_init_1 : decode cX10_init 1 = .ok (.invokespecial 1, 3) := by decide +kernel
theorem dX10_init_4 : decode cX10_init 4 = .ok (.aload_n 0, 1) := by decide +kernel
theorem dX10_init_5 : decode cX10_init 5 = .ok (.sipush 5268, 3) := by decide +kernel
theorem dX10_init_8 : decode cX10_init 8 = .ok (.newarray .int, 2) := by decide +kernel
theorem dX10_init_10 : decode cX10_init 10 = .ok (.putfield 7, 3) := by decide +kernel
theorem dX10_init_13 : decode cX10_init 13 = .ok (.aload_n 0, 1) := by decide +kernel
theorem dX10_init_14 : decode cX10_init 14 = .ok (.iconst 3, 1) := by decide +kernel
theorem dX10_init_15 : decode cX10_init 15 = .ok (.newarray .boolean, 2) := by decide +kernel
theorem dX10_init_17 : decode cX10_init 17 = .ok (.putfield 13, 3) := by decide +kernel
theorem dX10_init_20 : decode cX10_init 20 = .ok (.aload_n 0, 1) := by decide +kernel
theorem dX10_init_21 : decode cX10_init 21 = .ok (.sipush 200, 3) := by decide +kernel
theorem dX10_init_24 : decode cX10_init 24 = .ok (.newarray .int, 2) := by decide +kernel
theorem dX10_init_26 : decode cX10_init 26 = .ok (.putfield 17, 3) := by decide +kernel
theorem dX10_init_29 : decode cX10_init 29 = .ok (.aload_n 0, 1) := by decide +kernel
theorem dX10_init_30 : decode cX10_init 30 = .ok (.iconst (-1), 1) := by decide +kernel
theorem dX10_init_31 : decode cX10_init 31 = .ok (.putfield 20, 3) := by decide +kernel
theorem dX10_init_34 : decode cX10_init 34 = .ok (.aload_n 0, 1) := by decide +kernel
theorem dX10_init_35 : decode cX10_init 35 = .ok (.iconst (-1), 1) := by decide +kernel
theorem dX10_init_36 : decode cX10_init 36 = .ok (.putfield 24, 3) := by decide +kernel
theorem dX10_init_39 : decode cX10_init 39 = .ok (.aload_n 0, 1) := by decide +kernel
theorem dX10_init_40 : decode cX10_init 40 = .ok (.bipush 48, 2) := by decide +kernel
theorem dX10_init_42 : decode cX10_init 42 = .ok (.newarray .int, 2) := by decide +kernel
theorem dX10_init_44 : decode cX10_init 44 = .ok (.putfield 27, 3) := by decide +kernel
theorem dX10_init_47 : decode cX10_init 47 = .ok (.aload_n 0, 1) := by decide +kernel
theorem dX10_init_48 : decode cX10_init 48 = .ok (.sipush 336, 3) := by decide +kernel
theorem dX10_init_51 : decode cX10_init 51 = .ok (.newarray .int, 2) := by decide +kernel
theorem dX10_init_53 : decode cX10_init 53 = .ok (.putfield 30, 3) := by decide +kernel
theorem dX10_init_56 : decode cX10_init 56 = .ok (.aload_n 0, 1) := by decide +kernel
theorem dX10_init_57 : decode cX10_init 57 = .ok (.sipush 336, 3) := by decide +kernel
theorem dX10_init_60 : decode cX10_init 60 = .ok (.newarray .int, 2) := by decide +kernel
theorem dX10_init_62 : decode cX10_init 62 = .ok (.putfield 33, 3) := by decide +kernel
theorem dX10_init_65 : decode cX10_init 65 = .ok (.aload_n 0, 1) := by decide +kernel
theorem dX10_init_66 : decode cX10_init 66 = .ok (.bipush 8, 2) := by decide +kernel
theorem dX10_init_68 : decode cX10_init 68 = .ok (.newarray .int, 2) := by decide +kernel
theorem dX10_init_70 : decode cX10_init 70 = .ok (.putfield 36, 3) := by decide +kernel
theorem dX10_init_73 : decode cX10_init 73 = .ok (.aload_n 0, 1) := by decide +kernel
theorem dX10_init_74 : decode cX10_init 74 = .ok (.bipush 8, 2) := by decide +kernel
theorem dX10_init_76 : decode cX10_init 76 = .ok (.newarray .boolean, 2) := by decide +kernel
theorem dX10_init_78 : decode cX10_init 78 = .ok (.putfield 39, 3) := by decide +kernel
theorem dX10_init_81 : decode cX10_init 81 = .ok (.aload_n 0, 1) := by decide +kernel
theorem dX10_init_82 : decode cX10_init 82 = .ok (.bipush 30, 2) := by decide +kernel
theorem dX10_init_84 : decode cX10_init 84 = .ok (.newarray .boolean, 2) := by decide +kernel
theorem dX10_init_86 : decode cX10_init 86 = .ok (.putfield 42, 3) := by decide +kernel
theorem dX10_init_89 : decode cX10_init 89 = .ok (.aload_n 0, 1) := by decide +kernel
theorem dX10_init_90 : decode cX10_init 90 = .ok (.sipush 2696, 3) := by decide +kernel
theorem dX10_init_93 : decode cX10_init 93 = .ok (.newarray .int, 2) := by decide +kernel
theorem dX10_init_95 : decode cX10_init 95 = .ok (.putfield 45, 3) := by decide +kernel
theorem dX10_init_98 : decode cX10_init 98 = .ok (.aload_n 0, 1) := by decide +kernel
theorem dX10_init_99 : decode cX10_init 99 = .ok (.sipush 2696, 3) := by decide +kernel
theorem dX10_init_102 : decode cX10_init 102 = .ok (.newarray .int, 2) := by decide +kernel
theorem dX10_init_104 : decode cX10_init 104 = .ok (.putfield 48, 3) := by decide +kernel
theorem dX10_init_107 : decode cX10_init 107 = .ok (.aload_n 0, 1) := by decide +kernel
theorem dX10_init_108 : decode cX10_init 108 = .ok (.iconst 1, 1) := by decide +kernel
theorem dX10_init_109 : decode cX10_init 109 = .ok (.putfield 51, 3) := by decide +kernel
theorem dX10_init_112 : decode cX10_init 112 = .ok (.aload_n 0, 1) := by decide +kernel
theorem dX10_init_113 : decode cX10_init 113 = .ok (.iconst (-1), 1) := by decide +kernel
theorem dX10_init_114 : decode cX10_init 114 = .ok (.putfield 55, 3) := by decide +kernel
theorem dX10_init_117 : decode cX10_init 117 = .ok (.aload_n 0, 1) := by decide +kernel
theorem dX10_init_118 : decode cX10_init 118 = .ok (.sipush 336, 3) := by decide +kernel
theorem dX10_init_121 : decode cX10_init 121 = .ok (.newarray .int, 2) := by decide +kernel
theorem dX10_init_123 : decode cX10_init 123 = .ok (.putfield 58, 3) := by decide +kernel
theorem dX10_init_126 : decode cX10_init 126 = .ok (.aload_n 0, 1) := by decide +kernel
theorem dX10_init_127 : decode cX10_init 127 = .ok (.sipush 2696, 3) := by decide +kernel
theorem dX10_init_130 : decode cX10_init 130 = .ok (.newarray .long, 2) := by decide +kernel
theorem dX10_init_132 : decode cX10_init 132 = .ok (.putfield 61, 3) := by decide +kernel
theorem dX10_init_135 : decode cX10_init 135 = .ok (.aload_n 0, 1) := by decide +kernel
theorem dX10_init_136 : decode cX10_init 136 = .ok (.bipush 48, 2) := by decide +kernel
theorem dX10_init_138 : decode cX10_init 138 = .ok (.newarray .int, 2) := by decide +kernel
theorem dX10_init_140 : decode cX10_init 140 = .ok (.putfield 65, 3) := by decide +kernel
theorem dX10_init_143 : decode cX10_init 143 = .ok (.aload_n 0, 1) := by decide +kernel
theorem dX10_init_144 : decode cX10_init 144 = .ok (.getfield 7, 3) := by decide +kernel
theorem dX10_init_147 : decode cX10_init 147 = .ok (.bipush 8, 2) := by decide +kernel
theorem dX10_init_149 : decode cX10_init 149 = .ok (.iconst (-1), 1) := by decide +kernel
theorem dX10_init_150 : decode cX10_init 150 = .ok (.iastore, 1) := by decide +kernel
theorem dX10_init_151 : decode cX10_init 151 = .ok (.return_, 1) := by decide +kernel
theorem fcX10_7 : xFld RX10 7 10 0 2 1 := ⟨_, _, _, rfl, Nat.le_of_ble_eq_true rfl, rfl, (xinT 1327 (by decide +kernel) (by decide +kernel)), rfl⟩
theorem fcX10_13 : xFld RX10 13 10 1 2 2 := ⟨_, _, _, rfl, Nat.le_of_ble_eq_true rfl, rfl, (xinT 1328 (by decide +kernel) (by decide +kernel)), rfl⟩
theorem fcX10_17 : xFld RX10 17 10 9 2 3 := ⟨_, _, _, rfl, Nat.le_of_ble_eq_true rfl, rfl, (xinT 1336 (by decide +kernel) (by decide +kernel)), rfl⟩
theorem fcX10_20 : xFld RX10 20 10 11 0 0 := ⟨_, _, _, rfl, Nat.le_of_ble_eq_true rfl, rfl, (xinT 1338 (by decide +kernel) (by decide +kernel)), rfl⟩
theorem fcX10_24 : xFld RX10 24 10 13 0 0 := ⟨_, _, _, rfl, Nat.le_of_ble_eq_true rfl, rfl, (xinT 1340 (by decide +kernel) (by decide +kernel)), rfl⟩
theorem fcX10_27 : xFld RX10 27 10 14 2 4 := ⟨_, _, _, rfl, Nat.le_of_ble_eq_true rfl, rfl, (xinT 1341 (by decide +kernel) (by decide +kernel)), rfl⟩
theorem fcX10_30 : xFld RX10 30 10 17 2 5 := ⟨_, _, _, rfl, Nat.le_of_ble_eq_true rfl, rfl, (xinT 1344 (by decide +kernel) (by decide +kernel)), rfl⟩
theorem fcX10_33 : xFld RX10 33 10 18 2 6 := ⟨_, _, _, rfl, Nat.le_of_ble_eq_true rfl, rfl, (xinT 1345 (by decide +kernel) (by decide +kernel)), rfl⟩
theorem fcX10_36 : xFld RX10 36 10 19 2 7 := ⟨_, _, _, rfl, Nat.le_of_ble_eq_true rfl, rfl, (xinT 1346 (by decide +kernel) (by decide +kernel)), rfl⟩
theorem fcX10_39 : xFld RX10 39 10 20 2 8 := ⟨_, _, _, rfl, Nat.le_of_ble_eq_true rfl, rfl, (xinT 1347 (by decide +kernel) (by decide +kernel)), rfl⟩
theorem fcX10_42 : xFld RX10 42 10 21 2 9 := ⟨_, _, _, rfl, Nat.le_of_ble_eq_true rfl, rfl, (xinT 1348 (by decide +kernel) (by decide +kernel)), rfl⟩
theorem fcX10_45 : xFld RX10 45 10 24 2 10 := ⟨_, _, _, rfl, Nat.le_of_ble_eq_true rfl, rfl, (xinT 1351 (by decide +kernel) (by decide +kernel)), rfl⟩
theorem fcX10_48 : xFld RX10 48 10 25 2 11 := ⟨_, _, _, rfl, Nat.le_of_ble_eq_true rfl, rfl, (xinT 1352 (by decide +kernel) (by decide +kernel)), rfl⟩
theorem fcX10_51 : xFld RX10 51 10 29 0 0 := ⟨_, _, _, rfl, Nat.le_of_ble_eq_true rfl, rfl, (xinT 1356 (by decide +kernel) (by decide +kernel)), rfl⟩
theorem fcX10_55 : xFld RX10 55 10 32 0 0 := ⟨_, _, _, rfl, Nat.le_of_ble_eq_true rfl, rfl, (xinT 1359 (by decide +kernel) (by decide +kernel)), rfl⟩
theorem fcX10_58 : xFld RX10 58 10 45 2 12 := ⟨_, _, _, rfl, Nat.le_of_ble_eq_true rfl, rfl, (xinT 1372 (by decide +kernel) (by decide +kernel)), rfl⟩
theorem fcX10_61 : xFld RX10 61 10 46 2 13 := ⟨_, _, _, rfl, Nat.le_of_ble_eq_true rfl, rfl, (xinT 1373 (by decide +kernel) (by decide +kernel)), rfl⟩
theorem fcX10_65 : xFld RX10 65 10 47 2 14 := ⟨_, _, _, rfl, Nat.le_of_ble_eq_true rfl, rfl, (xinT 1374 (by decide +kernel) (by decide +kernel)), rfl⟩
theorem layX10 {o : Nat} (ho : isK o 10) : o + 14 ≤ layN ∧ o ≠ 0 ∧ lay (o + 1) = some (.inr (.inl (0, 5268))) ∧ lay (o + 2) = some (.inr (.inl (2, 3))) ∧ lay (o + 3) = some (.inr (.inl (0, 200))) ∧ lay (o + 4) = some (.inr (.inl (0, 48))) ∧ lay (o + 5) = some (.inr (.inl (0, 336))) ∧ lay (o + 6) = some (.inr (.inl (0, 336))) ∧ lay (o + 7) = some (.inr (.inl (0, 8))) ∧ lay (o + 8) = some (.inr (.inl (2, 8))) ∧ lay (o + 9) = some (.inr (.inl (2, 30))) ∧ lay (o + 10) = some (.inr (.inl (0, 2696))) ∧ lay (o + 11) = some (.inr (.inl (0, 2696))) ∧ lay (o + 12) = some (.inr (.inl (0, 336))) ∧ lay (o + 13) = some (.inr (.inl (3, 2696))) ∧ lay (o + 14) = some (.inr (.inl (0, 48))) := by
  have h := layq (P := fun o => decide (o + 14 ≤ layN) && (decide (o ≠ 0) && decide (lay (o + 1) = some (.inr (.inl (0, 5268)))) && decide (lay (o + 2) = some (.inr (.inl (2, 3)))) && decide (lay (o + 3) = some (.inr (.inl (0, 200)))) && decide (lay (o + 4) = some (.inr (.inl (0, 48)))) && decide (lay (o + 5) = some (.inr (.inl (0, 336)))) && decide (lay (o + 6) = some (.inr (.inl (0, 336)))) && decide (lay (o + 7) = some (.inr (.inl (0, 8)))) && decide (lay (o + 8) = some (.inr (.inl (2, 8)))) && decide (lay (o + 9) = some (.inr (.inl (2, 30)))) && decide (lay (o + 10) = some (.inr (.inl (0, 2696)))) && decide (lay (o + 11) = some (.inr (.inl (0, 2696)))) && decide (lay (o + 12) = some (.inr (.inl (0, 336)))) && decide (lay (o + 13) = some (.inr (.inl (3, 2696)))) && decide (lay (o + 14) = some (.inr (.inl (0, 48)))))) (by decide +kernel) ho
  simp only [Bool.and_eq_true, decide_eq_true_eq] at h
  obtain ⟨h1, ⟨⟨⟨⟨⟨⟨⟨⟨⟨⟨⟨⟨⟨⟨h2, g1⟩, g2⟩, g3⟩, g4⟩, g5⟩, g6⟩, g7⟩, g8⟩, g9⟩, g10⟩, g11⟩, g12⟩, g13⟩, g14⟩⟩ := h
  exact ⟨h1, h2, g1, g2, g3, g4, g5, g6, g7, g8, g9, g10, g11, g12, g13, g14⟩
theorem ssX10 {o : Nat} (ho : isK o 10) : ssum (o + 14) = ssum o + 14709 := of_decide_eq_true (layq (P := fun o => decide (ssum (o + 14) = ssum o + 14709)) (by decide +kernel) ho)
def rgX10 : List (Nat × Nat) := [(0, 47), (0, 46), (0, 45), (0, 25), (0, 24), (0, 21), (0, 20), (0, 19), (0, 18), (0, 17), (0, 14), (0, 9), (0, 1), (0, 0)]
def rfX10 : List (Nat × Nat × Int) := [(1, 8, -1), (0, 32, -1), (0, 29, 1), (0, 13, -1), (0, 11, -1)]
def mkX10 (o : Nat) (M : CM) : CM := (o + 14, (o, 47) :: (o, 46) :: (o, 45) :: (o, 25) :: (o, 24) :: (o, 21) :: (o, 20) :: (o, 19) :: (o, 18) :: (o, 17) :: (o, 14) :: (o, 9) :: (o, 1) :: (o, 0) :: M.2.1, (o + 1, 8, -1) :: (o, 32, -1) :: (o, 29, 1) :: (o, 13, -1) :: (o, 11, -1) :: M.2.2)
theorem gk_mk10 {M : CM} {o k o2 : Nat} (h : gL M.2.1 o k = true) : gL (mkX10 o2 M).2.1 o k = true := (gk_app h : gL ((rgX10.map fun q => (o2 + q.1, q.2)) ++ M.2.1) o k = true)
theorem cfrX10 {o : Nat} {M : CM} (hM : M.1 = o) (h : cfresh M) : cfresh (mkX10 o M) := (cfresh_app (o := o) (n := 14) (Gs := rgX10) (Fs := rfX10) h (by omega) (by decide +kernel) (by decide +kernel) : _)
theorem mcI10 : Cond.code yX10_init cX10_init 1 none ∈ xw_T ∧ Cond.initialized yX10_init.cls ∈ xw_T ∧ Cond.instanceMethod yX10_init ∈ xw_T := ⟨(xinT 1325 (by decide +kernel) (by decide +kernel)), (xinT 127 (by decide +kernel) (by decide +kernel)), (xinT 1324 (by decide +kernel) (by decide +kernel))⟩
set_option maxHeartbeats 2000000 in
set_option maxRecDepth 100000 in
theorem ccX10 {o : Nat} {M : CM} (ho : isK o 10) (hM : M.1 = o) (hfr : cfresh M) : xCC yX10_init cX10_init 1 1 20 14 (14709) [vR o] M (mkX10 o M) := by
  obtain ⟨n, Gm, Fm⟩ := M
  obtain rfl : n = o := hM
  have hl := layX10 ho
  obtain ⟨hlN, ho0, l1, l2, l3, l4, l5, l6, l7, l8, l9, l10, l11, l12, l13, l14⟩ := hl
  have hss := ssX10 ho
  refine xcc_of (n1 := n + 14) (by decide +kernel) rfl (Nat.le_of_ble_eq_true rfl) (fun v hv => by rcases List.mem_cons.mp hv with rfl | hv <;> first | trivial | cases hv) hfr (show n ≤ layN by omega) (show n + 14 - n = 14 by omega) (sub_of hss) (fun p l e R s m args below meth c D ad cA base C hret hnm => ?_)
  clear hss
  refine cx_aload_n C (j := 0) dX10_init_0 rfl rfl (by omega) ?_
  refine cx_objInit C dX10_init_1 (xinT 1326 (by decide +kernel) (by decide +kernel)) oi_inst oi_code (by omega) (Nat.le_of_ble_eq_true rfl) (Nat.le_of_ble_eq_true rfl) (Nat.le_of_ble_eq_true rfl) ?_
  refine cx_aload_n C (j := 0) dX10_init_4 rfl rfl (by omega) ?_
  refine cx_sipush C dX10_init_5 rfl (cin rfl) ?_
  refine cx_newa C dX10_init_8 l1 rfl (Or.inl ⟨rfl, rfl⟩) (xinT 186 (by decide +kernel) (by decide +kernel)) rfl (Nat.le_of_ble_eq_true rfl) (show n + 1 ≤ n + 14 by omega) ?_
  refine cx_putR C (ty := .array .int) dX10_init_10 fcX10_7 ⟨_, _, _, rfl, rfl, by decide +kernel, rfl⟩ hnm ho (show n ≤ n + 1 by omega) (Or.inr ⟨_, rfl⟩) rfl ?_
  refine cx_aload_n C (j := 0) dX10_init_13 rfl rfl (by omega) ?_
  refine cx_iconst C dX10_init_14 (cin rfl) ?_
  refine cx_newa C dX10_init_15 l2 rfl (Or.inr (Or.inr (Or.inl ⟨rfl, rfl⟩))) (xinT 322 (by decide +kernel) (by decide +kernel)) rfl (Nat.le_of_ble_eq_true rfl) (show n + 2 ≤ n + 14 by omega) ?_
  refine cx_putR C (ty := .array .boolean) dX10_init_17 fcX10_13 ⟨_, _, _, rfl, rfl, by decide +kernel, rfl⟩ hnm ho (show n ≤ n + 2 by omega) (Or.inr ⟨_, rfl⟩) rfl ?_
  refine cx_aload_n C (j := 0) dX10_init_20 rfl rfl (by omega) ?_
  refine cx_sipush C dX10_init_21 rfl (cin rfl) ?_
  refine cx_newa C dX10_init_24 l3 rfl (Or.inl ⟨rfl, rfl⟩) (xinT 186 (by decide +kernel) (by decide +kernel)) rfl (Nat.le_of_ble_eq_true rfl) (show n + 3 ≤ n + 14 by omega) ?_
  refine cx_putR C (ty := .array .int) dX10_init_26 fcX10_17 ⟨_, _, _, rfl, rfl, by decide +kernel, rfl⟩ hnm ho (show n ≤ n + 3 by omega) (Or.inr ⟨_, rfl⟩) rfl ?_
  refine cx_aload_n C (j := 0) dX10_init_29 rfl rfl (by omega) ?_
  refine cx_iconst C dX10_init_30 (cin rfl) ?_
  refine cx_putI C dX10_init_31 fcX10_20 ⟨_, _, _, rfl, rfl, by decide +kernel, rfl⟩ hnm ho (show n ≤ n + 3 by omega) ?_
  refine cx_aload_n C (j := 0) dX10_init_34 rfl rfl (by omega) ?_
  refine cx_iconst C dX10_init_35 (cin rfl) ?_
  refine cx_putI C dX10_init_36 fcX10_24 ⟨_, _, _, rfl, rfl, by decide +kernel, rfl⟩ hnm ho (show n ≤ n + 3 by omega) ?_
  refine cx_aload_n C (j := 0) dX10_init_39 rfl rfl (by omega) ?_
  refine cx_bipush C dX10_init_40 rfl (cin rfl) ?_
  refine cx_newa C dX10_init_42 l4 rfl (Or.inl ⟨rfl, rfl⟩) (xinT 186 (by decide +kernel) (by decide +kernel)) rfl (Nat.le_of_ble_eq_true rfl) (show n + 4 ≤ n + 14 by omega) ?_
  refine cx_putR C (ty := .array .int) dX10_init_44 fcX10_27 ⟨_, _, _, rfl, rfl, by decide +kernel, rfl⟩ hnm ho (show n ≤ n + 4 by omega) (Or.inr ⟨_, rfl⟩) rfl ?_
  refine cx_aload_n C (j := 0) dX10_init_47 rfl rfl (by omega) ?_
  refine cx_sipush C dX10_init_48 rfl (cin rfl) ?_
  refine cx_newa C dX10_init_51 l5 rfl (Or.inl ⟨rfl, rfl⟩) (xinT 186 (by decide +kernel) (by decide +kernel)) rfl (Nat.le_of_ble_eq_true rfl) (show n + 5 ≤ n + 14 by omega) ?_
  refine cx_putR C (ty := .array .int) dX10_init_53 fcX10_30 ⟨_, _, _, rfl, rfl, by decide +kernel, rfl⟩ hnm ho (show n ≤ n + 5 by omega) (Or.inr ⟨_, rfl⟩) rfl ?_
  refine cx_aload_n C (j := 0) dX10_init_56 rfl rfl (by omega) ?_
  refine cx_sipush C dX10_init_57 rfl (cin rfl) ?_
  refine cx_newa C dX10_init_60 l6 rfl (Or.inl ⟨rfl, rfl⟩) (xinT 186 (by decide +kernel) (by decide +kernel)) rfl (Nat.le_of_ble_eq_true rfl) (show n + 6 ≤ n + 14 by omega) ?_
  refine cx_putR C (ty := .array .int) dX10_init_62 fcX10_33 ⟨_, _, _, rfl, rfl, by decide +kernel, rfl⟩ hnm ho (show n ≤ n + 6 by omega) (Or.inr ⟨_, rfl⟩) rfl ?_
  refine cx_aload_n C (j := 0) dX10_init_65 rfl rfl (by omega) ?_
  refine cx_bipush C dX10_init_66 rfl (cin rfl) ?_
  refine cx_newa C dX10_init_68 l7 rfl (Or.inl ⟨rfl, rfl⟩) (xinT 186 (by decide +kernel) (by decide +kernel)) rfl (Nat.le_of_ble_eq_true rfl) (show n + 7 ≤ n + 14 by omega) ?_
  refine cx_putR C (ty := .array .int) dX10_init_70 fcX10_36 ⟨_, _, _, rfl, rfl, by decide +kernel, rfl⟩ hnm ho (show n ≤ n + 7 by omega) (Or.inr ⟨_, rfl⟩) rfl ?_
  refine cx_aload_n C (j := 0) dX10_init_73 rfl rfl (by omega) ?_
  refine cx_bipush C dX10_init_74 rfl (cin rfl) ?_
  refine cx_newa C dX10_init_76 l8 rfl (Or.inr (Or.inr (Or.inl ⟨rfl, rfl⟩))) (xinT 322 (by decide +kernel) (by decide +kernel)) rfl (Nat.le_of_ble_eq_true rfl) (show n + 8 ≤ n + 14 by omega) ?_
  refine cx_putR C (ty := .array .boolean) dX10_init_78 fcX10_39 ⟨_, _, _, rfl, rfl, by decide +kernel, rfl⟩ hnm ho (show n ≤ n + 8 by omega) (Or.inr ⟨_, rfl⟩) rfl ?_
  refine cx_aload_n C (j := 0) dX10_init_81 rfl rfl (by omega) ?_
  refine cx_bipush C dX10_init_82 rfl (cin rfl) ?_
  refine cx_newa C dX10_init_84 l9 rfl (Or.inr (Or.inr (Or.inl ⟨rfl, rfl⟩))) (xinT 322 (by decide +kernel) (by decide +kernel)) rfl (Nat.le_of_ble_eq_true rfl) (show n + 9 ≤ n + 14 by omega) ?_
  refine cx_putR C (ty := .array .boolean) dX10_init_86 fcX10_42 ⟨_, _, _, rfl, rfl, by decide +kernel, rfl⟩ hnm ho (show n ≤ n + 9 by omega) (Or.inr ⟨_, rfl⟩) rfl ?_
  refine cx_aload_n C (j := 0) dX10_init_89 rfl rfl (by omega) ?_
  refine cx_sipush C dX10_init_90 rfl (cin rfl) ?_
  refine cx_newa C dX10_init_93 l10 rfl (Or.inl ⟨rfl, rfl⟩) (xinT 186 (by decide +kernel) (by decide +kernel)) rfl (Nat.le_of_ble_eq_true rfl) (show n + 10 ≤ n + 14 by omega) ?_
  refine cx_putR C (ty := .array .int) dX10_init_95 fcX10_45 ⟨_, _, _, rfl, rfl, by decide +kernel, rfl⟩ hnm ho (show n ≤ n + 10 by omega) (Or.inr ⟨_, rfl⟩) rfl ?_
  refine cx_aload_n C (j := 0) dX10_init_98 rfl rfl (by omega) ?_
  refine cx_sipush C dX10_init_99 rfl (cin rfl) ?_
  refine cx_newa C dX10_init_102 l11 rfl (Or.inl ⟨rfl, rfl⟩) (xinT 186 (by decide +kernel) (by decide +kernel)) rfl (Nat.le_of_ble_eq_true rfl) (show n + 11 ≤ n + 14 by omega) ?_
  refine cx_putR C (ty := .array .int) dX10_init_104 fcX10_48 ⟨_, _, _, rfl, rfl, by decide +kernel, rfl⟩ hnm ho (show n ≤ n + 11 by omega) (Or.inr ⟨_, rfl⟩) rfl ?_
  refine cx_aload_n C (j := 0) dX10_init_107 rfl rfl (by omega) ?_
  refine cx_iconst C dX10_init_108 (cin rfl) ?_
  refine cx_putZ C dX10_init_109 fcX10_51 ⟨_, _, _, rfl, rfl, by decide +kernel, rfl⟩ hnm ho (show n ≤ n + 11 by omega) (Or.inr rfl) ?_
  refine cx_aload_n C (j := 0) dX10_init_112 rfl rfl (by omega) ?_
  refine cx_iconst C dX10_init_113 (cin rfl) ?_
  refine cx_putI C dX10_init_114 fcX10_55 ⟨_, _, _, rfl, rfl, by decide +kernel, rfl⟩ hnm ho (show n ≤ n + 11 by omega) ?_
  refine cx_aload_n C (j := 0) dX10_init_117 rfl rfl (by omega) ?_
  refine cx_sipush C dX10_init_118 rfl (cin rfl) ?_
  refine cx_newa C dX10_init_121 l12 rfl (Or.inl ⟨rfl, rfl⟩) (xinT 186 (by decide +kernel) (by decide +kernel)) rfl (Nat.le_of_ble_eq_true rfl) (show n + 12 ≤ n + 14 by omega) ?_
  refine cx_putR C (ty := .array .int) dX10_init_123 fcX10_58 ⟨_, _, _, rfl, rfl, by decide +kernel, rfl⟩ hnm ho (show n ≤ n + 12 by omega) (Or.inr ⟨_, rfl⟩) rfl ?_
  refine cx_aload_n C (j := 0) dX10_init_126 rfl rfl (by omega) ?_
  refine cx_sipush C dX10_init_127 rfl (cin rfl) ?_
  refine cx_newa C dX10_init_130 l13 rfl (Or.inr (Or.inr (Or.inr ⟨rfl, rfl⟩))) (xinT 463 (by decide +kernel) (by decide +kernel)) rfl (Nat.le_of_ble_eq_true rfl) (show n + 13 ≤ n + 14 by omega) ?_
  refine cx_putR C (ty := .array .long) dX10_init_132 fcX10_61 ⟨_, _, _, rfl, rfl, by decide +kernel, rfl⟩ hnm ho (show n ≤ n + 13 by omega) (Or.inr ⟨_, rfl⟩) rfl ?_
  refine cx_aload_n C (j := 0) dX10_init_135 rfl rfl (by omega) ?_
  refine cx_bipush C dX10_init_136 rfl (cin rfl) ?_
  refine cx_newa C dX10_init_138 l14 rfl (Or.inl ⟨rfl, rfl⟩) (xinT 186 (by decide +kernel) (by decide +kernel)) rfl (Nat.le_of_ble_eq_true rfl) (show n + 14 ≤ n + 14 by omega) ?_
  refine cx_putR C (ty := .array .int) dX10_init_140 fcX10_65 ⟨_, _, _, rfl, rfl, by decide +kernel, rfl⟩ hnm ho (show n ≤ n + 14 by omega) (Or.inr ⟨_, rfl⟩) rfl ?_
  refine cx_aload_n C (j := 0) dX10_init_143 rfl rfl (by omega) ?_
  refine cx_getR C dX10_init_144 fcX10_7 ho (show n ≤ n + 14 by omega) (gk_gs (gk_al (gk_gs (gk_al (gk_gs (gk_al (gk_fs (gk_fs (gk_gs (gk_al (gk_gs (gk_al (gk_gs (gk_al (gk_gs (gk_al (gk_gs (gk_al (gk_gs (gk_al (gk_gs (gk_al (gk_gs (gk_al (gk_fs (gk_fs (gk_gs (gk_al (gk_gs (gk_al (gs_on _ _ _))))))))))))))))))))))))))))))) ?_
  refine cx_bipush C dX10_init_147 rfl (cin rfl) ?_
  refine cx_iconst C dX10_init_149 (cin rfl) ?_
  refine cx_iastore C dX10_init_150 (by unfold isA; rw [l1]; rfl) (show n + 1 ≤ n + 14 by omega) (by decide) (by unfold alen; rw [l1]; decide) ?_
  exact cx_return C dX10_init_151 hret rfl
