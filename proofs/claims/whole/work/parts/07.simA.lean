def XWP (p : Program) (l : Launch) (e : Env) (R : Room) (s : State) (m : MethodId) (args : Array Value) (below : List Frame) (meth : Method) (c : Code) (Z : XZ) (D : va_G) (ad : Nat → Nat) (cA : Nat → ClassId) (Q : State → Prop) : Nat → List (Nat × PV) → List PV → Mem → Prop := fun pc ls st F =>
  ∀ (H : Heap) (locs : List Loc) (lsA : Array Slot), mok F → (∀ q ∈ ls, okV q.2) → (∀ v ∈ st, okV v) → va_P D vwCl (xWs ad cA F) H → va_D (xA ad) (xWs ad cA F) → va_S (xA ad) s.heap H locs → lv_has lsA Z.2.2.2.1 (ls.map (cvp ad)) →
    W p l e R s m args below meth c H locs 0 0 Q (F0 m pc lsA (st.map (cv ad)))
def XCx (p : Program) (R : Room) (s : State) (m : MethodId) (args : Array Value) (meth : Method) (c : Code) (cc : ByteArray) (Z : XZ) (D : va_G) (ad : Nat → Nat) (cA : Nat → ClassId) : Prop :=
  p.tables.exec = Jvm.exec ∧ c.code = cc ∧ c.maxLocals = Z.2.2.2.1 ∧ s.vm.findClass Z.1 = some m.cls ∧ (∀ w ∈ xw_T, w.before args s = true) ∧ va_K D vwCl (xTys cA) s ∧ xEnv ad s ∧ meth.locks = false ∧ meth.sig.returnType = Z.2.2.2.2.1 ∧ R.frames = Z.2.1 ∧ R.locals = Z.2.2.1
section XS
variable {p : Program} {l : Launch} {e : Env} {R : Room} {s : State} {m : MethodId} {args : Array Value} {below : List Frame} {meth : Method} {c : Code} {Q : State → Prop} {cc : ByteArray} {Z : XZ} {D : va_G} {ad : Nat → Nat} {cA : Nat → ClassId}
theorem x_iload (C : XCx p R s m args meth c cc Z D ad cA) : xr_iload cc Z (XWP p l e R s m args below meth c Z D ad cA Q) := by
  intro pc ls st F k j x hd hj h H locs lsA hm hl hs hP hD hS hL
  refine lv_iload C.1 C.2.1 hd (xl_get hL hj) ?_
  exact h H locs lsA hm hl (st_cons (xl_ok hl hj) hs) hP hD hS hL
theorem x_iload_n (C : XCx p R s m args meth c cc Z D ad cA) : xr_iload_n cc Z (XWP p l e R s m args below meth c Z D ad cA Q) := by
  intro pc ls st F k i j x hd hi hj h H locs lsA hm hl hs hP hD hS hL
  refine lv_iload_n C.1 C.2.1 hd hi (xl_get hL hj) ?_
  exact h H locs lsA hm hl (st_cons (xl_ok hl hj) hs) hP hD hS hL
theorem x_lload (C : XCx p R s m args meth c cc Z D ad cA) : xr_lload cc Z (XWP p l e R s m args below meth c Z D ad cA Q) := by
  intro pc ls st F k j x hd hj h H locs lsA hm hl hs hP hD hS hL
  refine lv_lload C.1 C.2.1 hd (xl_get hL hj) ?_
  exact h H locs lsA hm hl (st_cons (xl_ok hl hj) hs) hP hD hS hL
theorem x_lload_n (C : XCx p R s m args meth c cc Z D ad cA) : xr_lload_n cc Z (XWP p l e R s m args below meth c Z D ad cA Q) := by
  intro pc ls st F k i j x hd hi hj h H locs lsA hm hl hs hP hD hS hL
  refine lv_lload_n C.1 C.2.1 hd hi (xl_get hL hj) ?_
  exact h H locs lsA hm hl (st_cons (xl_ok hl hj) hs) hP hD hS hL
theorem x_aload (C : XCx p R s m args meth c cc Z D ad cA) : xr_aload cc Z (XWP p l e R s m args below meth c Z D ad cA Q) := by
  intro pc ls st F k j x hd hj h H locs lsA hm hl hs hP hD hS hL
  have hg := xl_get hL hj
  have h2 := h H locs lsA hm hl (st_cons trivial hs) hP hD hS hL
  by_cases hx : x = 0
  · subst hx
    exact lv_aloadN C.1 C.2.1 hd hg h2
  · rw [cv_R hx] at hg
    rw [List.map_cons, cv_R hx] at h2
    exact lv_aload C.1 C.2.1 hd hg h2
theorem x_aload_n (C : XCx p R s m args meth c cc Z D ad cA) : xr_aload_n cc Z (XWP p l e R s m args below meth c Z D ad cA Q) := by
  intro pc ls st F k i j x hd hi hj h H locs lsA hm hl hs hP hD hS hL
  have hg := xl_get hL hj
  have h2 := h H locs lsA hm hl (st_cons trivial hs) hP hD hS hL
  by_cases hx : x = 0
  · subst hx
    exact lv_aload_nN C.1 C.2.1 hd hi hg h2
  · rw [cv_R hx] at hg
    rw [List.map_cons, cv_R hx] at h2
    exact lv_aload_n C.1 C.2.1 hd hi hg h2
theorem x_istore (C : XCx p R s m args meth c cc Z D ad cA) : xr_istore cc Z (XWP p l e R s m args below meth c Z D ad cA Q) := by
  intro pc ls st F k x ls' hd hn hl' h H locs lsA hm hl hs hP hD hS hL
  subst hl'
  refine lv_istore C.1 C.2.1 hd hL hn (lset_map ad ls k (vI x)).symm (fun lsA hL => ?_)
  exact h H locs lsA hm (lset_ok hl (st_hd hs)) (st_tl hs) hP hD hS hL
theorem x_istore_n (C : XCx p R s m args meth c cc Z D ad cA) : xr_istore_n cc Z (XWP p l e R s m args below meth c Z D ad cA Q) := by
  intro pc ls st F k i x ls' hd hi hn hl' h H locs lsA hm hl hs hP hD hS hL
  subst hl'
  refine lv_istore_n C.1 C.2.1 hd hi hL hn (lset_map ad ls i (vI x)).symm (fun lsA hL => ?_)
  exact h H locs lsA hm (lset_ok hl (st_hd hs)) (st_tl hs) hP hD hS hL
theorem x_astore (C : XCx p R s m args meth c cc Z D ad cA) : xr_astore cc Z (XWP p l e R s m args below meth c Z D ad cA Q) := by
  intro pc ls st F k x ls' hd hn hl' h H locs lsA hm hl hs hP hD hS hL
  subst hl'
  have h1 := lset_map ad ls k (vR x)
  have h2 : ∀ lsA, lv_has lsA Z.2.2.2.1 ((lset ls k (vR x)).map (cvp ad)) → _ := fun lsA hL => h H locs lsA hm (lset_ok hl trivial) (st_tl hs) hP hD hS hL
  by_cases hx : x = 0
  · subst hx
    exact lv_astoreN C.1 C.2.1 hd hL hn h1.symm h2
  · rw [cv_R hx] at h1
    show W _ _ _ _ _ _ _ _ _ _ _ _ _ _ _ (F0 m pc lsA (cv ad (vR x) :: st.map (cv ad)))
    rw [cv_R hx]
    exact lv_astore C.1 C.2.1 hd hL hn h1.symm h2
theorem x_astore_n (C : XCx p R s m args meth c cc Z D ad cA) : xr_astore_n cc Z (XWP p l e R s m args below meth c Z D ad cA Q) := by
  intro pc ls st F k i x ls' hd hi hn hl' h H locs lsA hm hl hs hP hD hS hL
  subst hl'
  have h1 := lset_map ad ls i (vR x)
  have h2 : ∀ lsA, lv_has lsA Z.2.2.2.1 ((lset ls i (vR x)).map (cvp ad)) → _ := fun lsA hL => h H locs lsA hm (lset_ok hl trivial) (st_tl hs) hP hD hS hL
  by_cases hx : x = 0
  · subst hx
    exact lv_astore_nN C.1 C.2.1 hd hi hL hn h1.symm h2
  · rw [cv_R hx] at h1
    show W _ _ _ _ _ _ _ _ _ _ _ _ _ _ _ (F0 m pc lsA (cv ad (vR x) :: st.map (cv ad)))
    rw [cv_R hx]
    exact lv_astore_n C.1 C.2.1 hd hi hL hn h1.symm h2
theorem x_lstore (C : XCx p R s m args meth c cc Z D ad cA) : xr_lstore cc Z (XWP p l e R s m args below meth c Z D ad cA Q) := by
  intro pc ls st F k x ls' hd hn hl' h H locs lsA hm hl hs hP hD hS hL
  subst hl'
  refine lv_lstore C.1 C.2.1 hd hL hn (lset2_map ad ls k (vL x)).symm (fun lsA hL => ?_)
  exact h H locs lsA hm (lset2_ok hl (st_hd hs)) (st_tl hs) hP hD hS hL
theorem x_lstore_n (C : XCx p R s m args meth c cc Z D ad cA) : xr_lstore_n cc Z (XWP p l e R s m args below meth c Z D ad cA Q) := by
  intro pc ls st F k i x ls' hd hi hn hl' h H locs lsA hm hl hs hP hD hS hL
  subst hl'
  refine lv_lstore_n C.1 C.2.1 hd hi hL hn (lset2_map ad ls i (vL x)).symm (fun lsA hL => ?_)
  exact h H locs lsA hm (lset2_ok hl (st_hd hs)) (st_tl hs) hP hD hS hL
theorem x_iinc (C : XCx p R s m args meth c cc Z D ad cA) : xr_iinc cc Z (XWP p l e R s m args below meth c Z D ad cA Q) := by
  intro pc ls st F k j n x ls' hd hj hn hl' h H locs lsA hm hl hs hP hD hS hL
  subst hl'
  refine lv_iinc C.1 C.2.1 hd hL (k := j) (x := Int32.ofInt x) (by rw [List.getElem?_map, hj]; rfl) (i32_add x n) hn ((lset_map ad ls k (vI (xw (x + n)))).trans (by rw [show cv ad (vI (xw (x + n))) = Value.int (Int32.ofInt (xw (x + n))) from rfl])).symm (fun lsA hL => ?_)
  exact h H locs lsA hm (lset_ok hl (xw_in _)) hs hP hD hS hL
theorem x_bipush (C : XCx p R s m args meth c cc Z D ad cA) : xr_bipush cc Z (XWP p l e R s m args below meth c Z D ad cA Q) := by
  intro pc ls st F n hd hv hn h H locs lsA hm hl hs hP hD hS hL
  refine lv_bipush C.1 C.2.1 hd hv ?_
  exact h H locs lsA hm hl (st_cons hn hs) hP hD hS hL
theorem x_sipush (C : XCx p R s m args meth c cc Z D ad cA) : xr_sipush cc Z (XWP p l e R s m args below meth c Z D ad cA Q) := by
  intro pc ls st F n hd hv hn h H locs lsA hm hl hs hP hD hS hL
  refine lv_sipush C.1 C.2.1 hd hv ?_
  exact h H locs lsA hm hl (st_cons hn hs) hP hD hS hL
theorem x_iconst (C : XCx p R s m args meth c cc Z D ad cA) : xr_iconst cc Z (XWP p l e R s m args below meth c Z D ad cA Q) := by
  intro pc ls st F n hd hn h H locs lsA hm hl hs hP hD hS hL
  refine lv_iconst C.1 C.2.1 hd rfl ?_
  exact h H locs lsA hm hl (st_cons hn hs) hP hD hS hL
theorem x_ldc (C : XCx p R s m args meth c cc Z D ad cA) : xr_ldc cc Z (XWP p l e R s m args below meth c Z D ad cA Q) := by
  intro pc ls st F i n hd hv hn h H locs lsA hm hl hs hP hD hS hL
  refine lv_ldc C.1 C.2.1 C.2.2.2.1 (C.2.2.2.2.1 _ hv) hd ?_
  exact h H locs lsA hm hl (st_cons hn hs) hP hD hS hL
theorem x_ldcw (C : XCx p R s m args meth c cc Z D ad cA) : xr_ldcw cc Z (XWP p l e R s m args below meth c Z D ad cA Q) := by
  intro pc ls st F i n hd hv hn h H locs lsA hm hl hs hP hD hS hL
  refine lv_ldcw C.1 C.2.1 C.2.2.2.1 (C.2.2.2.2.1 _ hv) hd ?_
  exact h H locs lsA hm hl (st_cons hn hs) hP hD hS hL
theorem x_lconst (C : XCx p R s m args meth c cc Z D ad cA) : xr_lconst cc Z (XWP p l e R s m args below meth c Z D ad cA Q) := by
  intro pc ls st F n z hd hv hn h H locs lsA hm hl hs hP hD hS hL
  refine lv_lconst C.1 C.2.1 hd hv ?_
  exact h H locs lsA hm hl (st_cons hn hs) hP hD hS hL
theorem x_ldc2 (C : XCx p R s m args meth c cc Z D ad cA) : xr_ldc2 cc Z (XWP p l e R s m args below meth c Z D ad cA Q) := by
  intro pc ls st F i z hd hv hn h H locs lsA hm hl hs hP hD hS hL
  refine lv_ldc2 C.1 C.2.1 C.2.2.2.1 (C.2.2.2.2.1 _ hv) hd ?_
  exact h H locs lsA hm hl (st_cons hn hs) hP hD hS hL
theorem x_iadd (C : XCx p R s m args meth c cc Z D ad cA) : xr_iadd cc Z (XWP p l e R s m args below meth c Z D ad cA Q) := by
  intro pc ls st F a b hd h H locs lsA hm hl hs hP hD hS hL
  refine lv_iadd C.1 C.2.1 hd ?_
  rw [i32_add]
  exact h H locs lsA hm hl (st_cons (xw_in _) (st_tl (st_tl hs))) hP hD hS hL
theorem x_isub (C : XCx p R s m args meth c cc Z D ad cA) : xr_isub cc Z (XWP p l e R s m args below meth c Z D ad cA Q) := by
  intro pc ls st F a b hd h H locs lsA hm hl hs hP hD hS hL
  refine lv_isub C.1 C.2.1 hd ?_
  rw [i32_sub]
  exact h H locs lsA hm hl (st_cons (xw_in _) (st_tl (st_tl hs))) hP hD hS hL
theorem x_imul (C : XCx p R s m args meth c cc Z D ad cA) : xr_imul cc Z (XWP p l e R s m args below meth c Z D ad cA Q) := by
  intro pc ls st F a b hd h H locs lsA hm hl hs hP hD hS hL
  refine lv_imul C.1 C.2.1 hd ?_
  rw [i32_mul]
  exact h H locs lsA hm hl (st_cons (xw_in _) (st_tl (st_tl hs))) hP hD hS hL
theorem x_iand (C : XCx p R s m args meth c cc Z D ad cA) : xr_iand cc Z (XWP p l e R s m args below meth c Z D ad cA Q) := by
  intro pc ls st F a b hd h H locs lsA hm hl hs hP hD hS hL
  refine lv_iand C.1 C.2.1 hd ?_
  have h2 := h H locs lsA hm hl (st_cons (i32_in _) (st_tl (st_tl hs))) hP hD hS hL
  rw [List.map_cons, show cv ad (vI (xand a b)) = Value.int (Int32.ofInt (xand a b)) from rfl, show Int32.ofInt (xand a b) = _ from i32_ofToInt _] at h2
  exact h2
theorem x_ior (C : XCx p R s m args meth c cc Z D ad cA) : xr_ior cc Z (XWP p l e R s m args below meth c Z D ad cA Q) := by
  intro pc ls st F a b hd h H locs lsA hm hl hs hP hD hS hL
  refine lv_ior C.1 C.2.1 hd ?_
  have h2 := h H locs lsA hm hl (st_cons (i32_in _) (st_tl (st_tl hs))) hP hD hS hL
  rw [List.map_cons, show cv ad (vI (xor_ a b)) = Value.int (Int32.ofInt (xor_ a b)) from rfl, show Int32.ofInt (xor_ a b) = _ from i32_ofToInt _] at h2
  exact h2
theorem x_ishl (C : XCx p R s m args meth c cc Z D ad cA) : xr_ishl cc Z (XWP p l e R s m args below meth c Z D ad cA Q) := by
  intro pc ls st F a b hd h H locs lsA hm hl hs hP hD hS hL
  refine lv_ishl C.1 C.2.1 hd ?_
  have h2 := h H locs lsA hm hl (st_cons (i32_in _) (st_tl (st_tl hs))) hP hD hS hL
  rw [List.map_cons, show cv ad (vI (xshl a b)) = Value.int (Int32.ofInt (xshl a b)) from rfl, show Int32.ofInt (xshl a b) = _ from i32_ofToInt _] at h2
  exact h2
theorem x_ishr (C : XCx p R s m args meth c cc Z D ad cA) : xr_ishr cc Z (XWP p l e R s m args below meth c Z D ad cA Q) := by
  intro pc ls st F a b hd h H locs lsA hm hl hs hP hD hS hL
  refine lv_ishr C.1 C.2.1 hd ?_
  have h2 := h H locs lsA hm hl (st_cons (i32_in _) (st_tl (st_tl hs))) hP hD hS hL
  rw [List.map_cons, show cv ad (vI (xshr a b)) = Value.int (Int32.ofInt (xshr a b)) from rfl, show Int32.ofInt (xshr a b) = _ from i32_ofToInt _] at h2
  exact h2
theorem x_iushr (C : XCx p R s m args meth c cc Z D ad cA) : xr_iushr cc Z (XWP p l e R s m args below meth c Z D ad cA Q) := by
  intro pc ls st F a b hd h H locs lsA hm hl hs hP hD hS hL
  refine lv_iushr C.1 C.2.1 hd (i32_ofToInt _).symm ?_
  exact h H locs lsA hm hl (st_cons (i32_in _) (st_tl (st_tl hs))) hP hD hS hL
theorem x_i2b (C : XCx p R s m args meth c cc Z D ad cA) : xr_i2b cc Z (XWP p l e R s m args below meth c Z D ad cA Q) := by
  intro pc ls st F a hd h H locs lsA hm hl hs hP hD hS hL
  refine lv_i2b C.1 C.2.1 hd (i32_ofToInt _).symm ?_
  exact h H locs lsA hm hl (st_cons (i32_in _) (st_tl hs)) hP hD hS hL
theorem x_idiv (C : XCx p R s m args meth c cc Z D ad cA) : xr_idiv cc Z (XWP p l e R s m args below meth c Z D ad cA Q) := by
  intro pc ls st F a b hd hb h H locs lsA hm hl hs hP hD hS hL
  have ha := st_hd (st_tl hs)
  have hb2 := st_hd hs
  refine lv_idiv C.1 C.2.1 hd (fun z => hb ((i32_eq hb2 in32_0).mp (z.trans i32_zero))) ?_
  rw [i32_div ha hb2]
  exact h H locs lsA hm hl (st_cons (xw_in _) (st_tl (st_tl hs))) hP hD hS hL
theorem x_irem (C : XCx p R s m args meth c cc Z D ad cA) : xr_irem cc Z (XWP p l e R s m args below meth c Z D ad cA Q) := by
  intro pc ls st F a b hd hb h H locs lsA hm hl hs hP hD hS hL
  have ha : in32 a := st_hd (st_tl hs)
  have hb2 : in32 b := st_hd hs
  refine lv_irem C.1 C.2.1 hd (fun z => hb ((i32_eq hb2 in32_0).mp (z.trans i32_zero))) ?_
  rw [i32_rem ha hb2]
  refine h H locs lsA hm hl (st_cons ?_ (st_tl (st_tl hs))) hP hD hS hL
  have h1 := Int.tmod_lt_of_pos (a := a) (b := b)
  show in32 (a.tmod b)
  have h3 : (a.tmod b).natAbs ≤ a.natAbs := by rw [Int.natAbs_tmod]; exact Nat.mod_le _ _
  have h6 : a ≤ 0 → a.tmod b ≤ 0 := fun q => by have h7 := Int.tmod_nonneg b (show 0 ≤ -a by omega); rw [Int.neg_tmod] at h7; omega
  have h5 : 0 ≤ a → 0 ≤ a.tmod b := fun q => Int.tmod_nonneg b q
  unfold in32 at *
  omega
theorem x_ineg (C : XCx p R s m args meth c cc Z D ad cA) : xr_ineg cc Z (XWP p l e R s m args below meth c Z D ad cA Q) := by
  intro pc ls st F a hd h H locs lsA hm hl hs hP hD hS hL
  refine lv_ineg C.1 C.2.1 hd ?_
  rw [i32_neg]
  exact h H locs lsA hm hl (st_cons (xw_in _) (st_tl hs)) hP hD hS hL
theorem i64_add (a b : Int) : Int64.ofInt a + Int64.ofInt b = Int64.ofInt (xwl (a + b)) := by
  apply Int64.toInt_inj.mp
  rw [Int64.toInt_add, i64_toInt, i64_toInt, i64_toInt, ← xwl_bmod]
  unfold xwl; omega
theorem i64_lt {a b : Int} (ha : in64 a) (hb : in64 b) : Int64.ofInt a < Int64.ofInt b ↔ a < b := by
  rw [Int64.lt_iff_toInt_lt, i64_toInt' ha, i64_toInt' hb]
theorem i64_eq {a b : Int} (ha : in64 a) (hb : in64 b) : Int64.ofInt a = Int64.ofInt b ↔ a = b := by
  rw [← Int64.toInt_inj, i64_toInt' ha, i64_toInt' hb]
theorem x_ladd (C : XCx p R s m args meth c cc Z D ad cA) : xr_ladd cc Z (XWP p l e R s m args below meth c Z D ad cA Q) := by
  intro pc ls st F a b hd h H locs lsA hm hl hs hP hD hS hL
  refine lv_ladd C.1 C.2.1 hd ?_
  rw [i64_add]
  exact h H locs lsA hm hl (st_cons (xwl_in _) (st_tl (st_tl hs))) hP hD hS hL
theorem x_icmp_eq (C : XCx p R s m args meth c cc Z D ad cA) : xr_icmp_eq cc Z (XWP p l e R s m args below meth c Z D ad cA Q) := by
  intro pc ls st F a b off tgt hd ht kt kf H locs lsA hm hl hs hP hD hS hL
  have ha : in32 a := st_hd (st_tl hs)
  have hb : in32 b := st_hd hs
  have hq := (i32_eq ha hb)
  exact lv_icmp_eq C.1 C.2.1 hd ht (fun z => kt (hq.mp z) H locs lsA hm hl (st_tl (st_tl hs)) hP hD hS hL) (fun z => kf (fun z2 => z (hq.mpr z2)) H locs lsA hm hl (st_tl (st_tl hs)) hP hD hS hL)
theorem x_icmp_lt (C : XCx p R s m args meth c cc Z D ad cA) : xr_icmp_lt cc Z (XWP p l e R s m args below meth c Z D ad cA Q) := by
  intro pc ls st F a b off tgt hd ht kt kf H locs lsA hm hl hs hP hD hS hL
  have ha : in32 a := st_hd (st_tl hs)
  have hb : in32 b := st_hd hs
  have hq := (i32_lt ha hb)
  exact lv_icmp_lt C.1 C.2.1 hd ht (fun z => kt (hq.mp z) H locs lsA hm hl (st_tl (st_tl hs)) hP hD hS hL) (fun z => kf (fun z2 => z (hq.mpr z2)) H locs lsA hm hl (st_tl (st_tl hs)) hP hD hS hL)
theorem x_icmp_le (C : XCx p R s m args meth c cc Z D ad cA) : xr_icmp_le cc Z (XWP p l e R s m args below meth c Z D ad cA Q) := by
  intro pc ls st F a b off tgt hd ht kt kf H locs lsA hm hl hs hP hD hS hL
  have ha : in32 a := st_hd (st_tl hs)
  have hb : in32 b := st_hd hs
  have hq := (i32_le ha hb)
  exact lv_icmp_le C.1 C.2.1 hd ht (fun z => kt (hq.mp z) H locs lsA hm hl (st_tl (st_tl hs)) hP hD hS hL) (fun z => kf (fun z2 => z (hq.mpr z2)) H locs lsA hm hl (st_tl (st_tl hs)) hP hD hS hL)
theorem x_icmp_ge (C : XCx p R s m args meth c cc Z D ad cA) : xr_icmp_ge cc Z (XWP p l e R s m args below meth c Z D ad cA Q) := by
  intro pc ls st F a b off tgt hd ht kt kf H locs lsA hm hl hs hP hD hS hL
  have ha : in32 a := st_hd (st_tl hs)
  have hb : in32 b := st_hd hs
  have hq := (i32_le hb ha)
  exact lv_icmp_ge C.1 C.2.1 hd ht (fun z => kt (hq.mp z) H locs lsA hm hl (st_tl (st_tl hs)) hP hD hS hL) (fun z => kf (fun z2 => z (hq.mpr z2)) H locs lsA hm hl (st_tl (st_tl hs)) hP hD hS hL)
theorem x_icmp_gt (C : XCx p R s m args meth c cc Z D ad cA) : xr_icmp_gt cc Z (XWP p l e R s m args below meth c Z D ad cA Q) := by
  intro pc ls st F a b off tgt hd ht kt kf H locs lsA hm hl hs hP hD hS hL
  have ha : in32 a := st_hd (st_tl hs)
  have hb : in32 b := st_hd hs
  have hq := (i32_lt hb ha)
  exact lv_icmp_gt C.1 C.2.1 hd ht (fun z => kt (hq.mp z) H locs lsA hm hl (st_tl (st_tl hs)) hP hD hS hL) (fun z => kf (fun z2 => z (hq.mpr z2)) H locs lsA hm hl (st_tl (st_tl hs)) hP hD hS hL)
theorem x_icmp_ne (C : XCx p R s m args meth c cc Z D ad cA) : xr_icmp_ne cc Z (XWP p l e R s m args below meth c Z D ad cA Q) := by
  intro pc ls st F a b off tgt hd ht kt kf H locs lsA hm hl hs hP hD hS hL
  have ha : in32 a := st_hd (st_tl hs)
  have hb : in32 b := st_hd hs
  have hq := (not_congr (i32_eq ha hb))
  exact lv_icmp_ne C.1 C.2.1 hd ht (fun z => kt (hq.mp z) H locs lsA hm hl (st_tl (st_tl hs)) hP hD hS hL) (fun z => kf (fun z2 => hq.mpr z2 z) H locs lsA hm hl (st_tl (st_tl hs)) hP hD hS hL)
theorem x_if_eq (C : XCx p R s m args meth c cc Z D ad cA) : xr_if_eq cc Z (XWP p l e R s m args below meth c Z D ad cA Q) := by
  intro pc ls st F a off tgt hd ht kt kf H locs lsA hm hl hs hP hD hS hL
  have ha : in32 a := st_hd hs
  have hq := (i32_eq ha in32_0)
  rw [← i32_zero] at hq
  exact lv_if_eq C.1 C.2.1 hd ht (fun z => kt (hq.mp z) H locs lsA hm hl (st_tl hs) hP hD hS hL) (fun z => kf (fun z2 => z (hq.mpr z2)) H locs lsA hm hl (st_tl hs) hP hD hS hL)
theorem x_if_lt (C : XCx p R s m args meth c cc Z D ad cA) : xr_if_lt cc Z (XWP p l e R s m args below meth c Z D ad cA Q) := by
  intro pc ls st F a off tgt hd ht kt kf H locs lsA hm hl hs hP hD hS hL
  have ha : in32 a := st_hd hs
  have hq := (i32_lt ha in32_0)
  rw [← i32_zero] at hq
  exact lv_if_lt C.1 C.2.1 hd ht (fun z => kt (hq.mp z) H locs lsA hm hl (st_tl hs) hP hD hS hL) (fun z => kf (fun z2 => z (hq.mpr z2)) H locs lsA hm hl (st_tl hs) hP hD hS hL)
theorem x_if_le (C : XCx p R s m args meth c cc Z D ad cA) : xr_if_le cc Z (XWP p l e R s m args below meth c Z D ad cA Q) := by
  intro pc ls st F a off tgt hd ht kt kf H locs lsA hm hl hs hP hD hS hL
  have ha : in32 a := st_hd hs
  have hq := (i32_le ha in32_0)
  rw [← i32_zero] at hq
  exact lv_if_le C.1 C.2.1 hd ht (fun z => kt (hq.mp z) H locs lsA hm hl (st_tl hs) hP hD hS hL) (fun z => kf (fun z2 => z (hq.mpr z2)) H locs lsA hm hl (st_tl hs) hP hD hS hL)
theorem x_if_ge (C : XCx p R s m args meth c cc Z D ad cA) : xr_if_ge cc Z (XWP p l e R s m args below meth c Z D ad cA Q) := by
  intro pc ls st F a off tgt hd ht kt kf H locs lsA hm hl hs hP hD hS hL
  have ha : in32 a := st_hd hs
  have hq := (i32_le in32_0 ha)
  rw [← i32_zero] at hq
  exact lv_if_ge C.1 C.2.1 hd ht (fun z => kt (hq.mp z) H locs lsA hm hl (st_tl hs) hP hD hS hL) (fun z => kf (fun z2 => z (hq.mpr z2)) H locs lsA hm hl (st_tl hs) hP hD hS hL)
theorem x_if_gt (C : XCx p R s m args meth c cc Z D ad cA) : xr_if_gt cc Z (XWP p l e R s m args below meth c Z D ad cA Q) := by
  intro pc ls st F a off tgt hd ht kt kf H locs lsA hm hl hs hP hD hS hL
  have ha : in32 a := st_hd hs
  have hq := (i32_lt in32_0 ha)
  rw [← i32_zero] at hq
  exact lv_if_gt C.1 C.2.1 hd ht (fun z => kt (hq.mp z) H locs lsA hm hl (st_tl hs) hP hD hS hL) (fun z => kf (fun z2 => z (hq.mpr z2)) H locs lsA hm hl (st_tl hs) hP hD hS hL)
theorem x_if_ne (C : XCx p R s m args meth c cc Z D ad cA) : xr_if_ne cc Z (XWP p l e R s m args below meth c Z D ad cA Q) := by
  intro pc ls st F a off tgt hd ht kt kf H locs lsA hm hl hs hP hD hS hL
  have ha : in32 a := st_hd hs
  have hq := (not_congr (i32_eq ha in32_0))
  rw [← i32_zero] at hq
  exact lv_if_ne C.1 C.2.1 hd ht (fun z => kt (hq.mp z) H locs lsA hm hl (st_tl hs) hP hD hS hL) (fun z => kf (fun z2 => hq.mpr z2 z) H locs lsA hm hl (st_tl hs) hP hD hS hL)
theorem x_goto (C : XCx p R s m args meth c cc Z D ad cA) : xr_goto cc Z (XWP p l e R s m args below meth c Z D ad cA Q) := by
  intro pc ls st F off tgt hd ht h H locs lsA hm hl hs hP hD hS hL
  exact lv_goto C.1 C.2.1 hd ht (h H locs lsA hm hl hs hP hD hS hL)
theorem x_tabIn (C : XCx p R s m args meth c cc Z D ad cA) : xr_tabIn cc Z (XWP p l e R s m args below meth c Z D ad cA Q) := by
  intro pc ls st F a dflt lo hi offs len off tgt hd h1 h2 ho ht h H locs lsA hm hl hs hP hD hS hL
  have ha : in32 a := st_hd hs
  have e := i32_toInt' ha
  exact lv_tableIn C.1 C.2.1 hd (by rw [e]; exact h1) (by rw [e]; exact h2) (by rw [e]; exact ho) ht (h H locs lsA hm hl (st_tl hs) hP hD hS hL)
theorem x_tabOut (C : XCx p R s m args meth c cc Z D ad cA) : xr_tabOut cc Z (XWP p l e R s m args below meth c Z D ad cA Q) := by
  intro pc ls st F a dflt lo hi offs len tgt hd h1 ht h H locs lsA hm hl hs hP hD hS hL
  have ha : in32 a := st_hd hs
  have e := i32_toInt' ha
  exact lv_tableOut C.1 C.2.1 hd (by rw [e]; exact h1) ht (h H locs lsA hm hl (st_tl hs) hP hD hS hL)
theorem x_ifnull (C : XCx p R s m args meth c cc Z D ad cA) : xr_ifnull cc Z (XWP p l e R s m args below meth c Z D ad cA Q) := by
  intro pc ls st F o off tgt hd ht kt kf H locs lsA hm hl hs hP hD hS hL
  by_cases hx : o = 0
  · subst hx
    exact lv_ifnullN C.1 C.2.1 hd ht (kt rfl H locs lsA hm hl (st_tl hs) hP hD hS hL)
  · show W _ _ _ _ _ _ _ _ _ _ _ _ _ _ _ (F0 m pc lsA (cv ad (vR o) :: st.map (cv ad)))
    rw [cv_R hx]
    exact lv_ifnull C.1 C.2.1 hd (kf hx H locs lsA hm hl (st_tl hs) hP hD hS hL)
theorem x_ifnonnull (C : XCx p R s m args meth c cc Z D ad cA) : xr_ifnonnull cc Z (XWP p l e R s m args below meth c Z D ad cA Q) := by
  intro pc ls st F o off tgt hd ht kt kf H locs lsA hm hl hs hP hD hS hL
  by_cases hx : o = 0
  · subst hx
    exact lv_ifnonnullN C.1 C.2.1 hd (kf rfl H locs lsA hm hl (st_tl hs) hP hD hS hL)
  · show W _ _ _ _ _ _ _ _ _ _ _ _ _ _ _ (F0 m pc lsA (cv ad (vR o) :: st.map (cv ad)))
    rw [cv_R hx]
    exact lv_ifnonnull C.1 C.2.1 hd ht (kt hx H locs lsA hm hl (st_tl hs) hP hD hS hL)
theorem x_null (C : XCx p R s m args meth c cc Z D ad cA) : xr_null cc Z (XWP p l e R s m args below meth c Z D ad cA Q) := by
  intro pc ls st F hd h H locs lsA hm hl hs hP hD hS hL
  exact lv_null C.1 C.2.1 hd (h H locs lsA hm hl (st_cons trivial hs) hP hD hS hL)
theorem x_dup (C : XCx p R s m args meth c cc Z D ad cA) : xr_dup cc Z (XWP p l e R s m args below meth c Z D ad cA Q) := by
  intro pc ls st F v hd hc h H locs lsA hm hl hs hP hD hS hL
  exact lv_dup C.1 C.2.1 hd ((xcat_cv ad v).trans hc) (h H locs lsA hm hl (st_cons (st_hd hs) hs) hP hD hS hL)
theorem x_dup2 (C : XCx p R s m args meth c cc Z D ad cA) : xr_dup2 cc Z (XWP p l e R s m args below meth c Z D ad cA Q) := by
  intro pc ls st F v u hd hc hc2 h H locs lsA hm hl hs hP hD hS hL
  exact lv_dup2_11 C.1 C.2.1 hd ((xcat_cv ad v).trans hc) ((xcat_cv ad u).trans hc2) (h H locs lsA hm hl (st_cons (st_hd hs) (st_cons (st_hd (st_tl hs)) hs)) hP hD hS hL)
theorem x_pop (C : XCx p R s m args meth c cc Z D ad cA) : xr_pop cc Z (XWP p l e R s m args below meth c Z D ad cA Q) := by
  intro pc ls st F v hd hc h H locs lsA hm hl hs hP hD hS hL
  exact lv_pop C.1 C.2.1 hd ((xcat_cv ad v).trans hc) (h H locs lsA hm hl (st_tl hs) hP hD hS hL)
theorem x_sub (C : XCx p R s m args meth c cc Z D ad cA) : xr_sub cc Z (XWP p l e R s m args below meth c Z D ad cA Q) := by
  intro pc ls st F ks ls' hl' h H locs lsA hm hl hs hP hD hS hL
  have h1 : (ls'.map (cvp ad)) = lv_pick (ls.map (cvp ad)) ks := by
    subst hl'
    unfold lpick lv_pick
    rw [List.map_filterMap]
    congr 1
    funext k
    rw [List.getElem?_map]
  refine h H locs lsA hm (fun q hq => ?_) hs hP hD hS (lv_sub hL ks h1.symm)
  subst hl'
  obtain ⟨i, -, hi⟩ := List.mem_filterMap.mp hq
  exact hl q (List.mem_of_getElem? hi)
end XS
