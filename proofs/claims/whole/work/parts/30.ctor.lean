/-! ===== the making of the cells: ids are made one behind the other ===== -/
def kslots : KD → Nat
  | .inl (ci, _) => (cfd ci).length
  | .inr (.inl (_, n)) => n
  | .inr (.inr (_, n, _, _)) => n
def ssum (n : Nat) : Nat := ((layT.take n).map kslots).sum
theorem ssum_succ {n : Nat} {k : KD} (h : lay (n + 1) = some k) : ssum (n + 1) = ssum n + kslots k := by
  have h1 : layT[n]? = some k := h
  unfold ssum
  rw [List.take_add_one, h1]
  simp
theorem ssum_le {a b : Nat} (h : a ≤ b) : ssum a ≤ ssum b := by
  unfold ssum
  have h1 : layT.take b = layT.take a ++ (layT.drop a).take (b - a) := by rw [← List.take_add, Nat.add_sub_cancel' h]
  rw [h1, List.map_append, List.sum_append]
  omega
abbrev CM : Type := Nat × List (Nat × Nat) × List (Nat × Nat × Int)
def fL : List (Nat × Nat × Int) → Mem
  | [] => fun _ _ => 0
  | (o, k, v) :: r => mset (fL r) o k v
def gL (L : List (Nat × Nat)) (o k : Nat) : Bool := L.contains (o, k)
def c_al (M : CM) : CM := (M.1 + 1, M.2.1, M.2.2)
def c_gs (M : CM) (o k : Nat) : CM := (M.1, (o, k) :: M.2.1, M.2.2)
def c_fs (M : CM) (o k : Nat) (v : Int) : CM := (M.1, M.2.1, (o, k, v) :: M.2.2)
theorem gL_cons (L : List (Nat × Nat)) (o k o' k' : Nat) : gL ((o, k) :: L) o' k' = (decide (o' = o ∧ k' = k) || gL L o' k') := by
  unfold gL
  rw [List.contains_cons]
  congr 1
  by_cases h : o' = o ∧ k' = k
  · obtain ⟨rfl, rfl⟩ := h; simp
  · simp only [h, decide_false]
    rw [beq_eq_false_iff_ne]
    intro e
    cases e
    exact h ⟨rfl, rfl⟩
def cfresh (M : CM) : Prop := ∀ o k, M.1 < o → gL M.2.1 o k = false ∧ fL M.2.2 o k = 0
def xfvG (ad : Nat → Nat) (M : CM) (o : Nat) (cs : List Int) (k : Nat) (q : Nat × Nat) : Value := match q.1 with
  | 0 => .int (Int32.ofInt (fL M.2.2 o k))
  | 1 => .int (Int32.ofInt (if gL M.2.1 o k = true then cs.getD q.2 0 else 0))
  | 2 => if gL M.2.1 o k = true then .ref (ad (o + q.2)) else .null
  | _ => if (fL M.2.2 o k).toNat = 0 then .null else .ref (ad (fL M.2.2 o k).toNat)
def xfsG (ad : Nat → Nat) (M : CM) (o : Nat) (cs : List Int) (ci : Nat) : List Value := (cfd ci).mapIdx fun k q => xfvG ad M o cs k q
def xekG (ad : Nat → Nat) (cA : Nat → ClassId) (M : CM) (o : Nat) : KD → va_E
  | .inl (ci, cs) => .inr (ci, xfsG ad M o cs ci)
  | .inr (.inl (t, n)) => .inl (cA t, n, if t = 3 then .inr (.inl fun k => Int64.ofInt (fL M.2.2 o k)) else .inl fun k => Int32.ofInt (fL M.2.2 o k))
  | .inr (.inr (ci, n, b, s)) => .inl (cA (10 + ci), n, .inr (.inr (.inr (.inr fun i => if gL M.2.1 o i = true then some (ad (o + b + s * i)) else none))))
def xeG (ad : Nat → Nat) (cA : Nat → ClassId) (M : CM) (o : Nat) : va_E := match lay o with
  | some k => xekG ad cA M o k
  | none => .inr (0, [])
def xWsN (ad : Nat → Nat) (cA : Nat → ClassId) (M : CM) (n : Nat) : va_W := (List.range n).map fun i => (ad (i + 1), xeG ad cA M (i + 1))
def xWsG (ad : Nat → Nat) (cA : Nat → ClassId) (M : CM) : va_W := xWsN ad cA M M.1
theorem xWsG_at (ad : Nat → Nat) (cA : Nat → ClassId) (M : CM) {o : Nat} {k : KD} (h : lay o = some k) (ho : o ≤ M.1) : (xWsG ad cA M)[o - 1]? = some (ad o, xekG ad cA M o k) := by
  have h1 := lay_le h
  unfold xWsG xWsN
  rw [List.getElem?_map, List.getElem?_range (by omega)]
  show some (ad (o - 1 + 1), xeG ad cA M (o - 1 + 1)) = _
  rw [Nat.sub_add_cancel h1.1]
  unfold xeG
  rw [h]
theorem xekG_off {ad : Nat → Nat} {cA : Nat → ClassId} {M M' : CM} {o : Nat} (h : ∀ k, fL M'.2.2 o k = fL M.2.2 o k ∧ gL M'.2.1 o k = gL M.2.1 o k) (kd : KD) : xekG ad cA M' o kd = xekG ad cA M o kd := by
  rcases kd with ⟨ci, cs⟩ | ⟨t, n⟩ | ⟨ci, n, b, s⟩
  · show Sum.inr (ci, xfsG ad M' o cs ci) = Sum.inr (ci, xfsG ad M o cs ci)
    have : xfsG ad M' o cs ci = xfsG ad M o cs ci := by
      unfold xfsG
      congr 1
      funext k q
      unfold xfvG
      rw [(h k).1, (h k).2]
    rw [this]
  · unfold xekG
    simp only [(h _).1]
  · unfold xekG
    simp only [(h _).2]
theorem xWsG_set {ad : Nat → Nat} {cA : Nat → ClassId} {M M' : CM} {o : Nat} {kd : KD} {e : va_E} (ho : lay o = some kd) (hn : o ≤ M.1) (hM : M'.1 = M.1) (h : ∀ o' k, o' ≠ o → fL M'.2.2 o' k = fL M.2.2 o' k ∧ gL M'.2.1 o' k = gL M.2.1 o' k) (he : e = xekG ad cA M' o kd) : (xWsG ad cA M).set (o - 1) (ad o, e) = xWsG ad cA M' := by
  subst he
  have h1 := lay_le ho
  apply List.ext_getElem?
  intro i
  rw [List.getElem?_set]
  by_cases hi : o - 1 = i
  · subst hi
    rw [if_pos rfl, xWsG_at ad cA M' ho (by omega), if_pos (by unfold xWsG xWsN; rw [List.length_map, List.length_range]; omega)]
  · rw [if_neg hi]
    unfold xWsG xWsN
    rw [hM, List.getElem?_map, List.getElem?_map]
    by_cases hN : i < M.1
    · rw [List.getElem?_range hN]
      show some (ad (i + 1), xeG ad cA M (i + 1)) = some (ad (i + 1), xeG ad cA M' (i + 1))
      have : xeG ad cA M (i + 1) = xeG ad cA M' (i + 1) := by
        unfold xeG
        cases lay (i + 1) with
        | none => rfl
        | some kd => exact (xekG_off (fun k => h (i + 1) k (by omega)) kd).symm
      rw [this]
    · rw [List.getElem?_eq_none (by rw [List.length_range]; omega)]; rfl
theorem xWsG_al {ad : Nat → Nat} {cA : Nat → ClassId} {M : CM} {kd : KD} (h : lay (M.1 + 1) = some kd) : xWsG ad cA (c_al M) = xWsG ad cA M ++ [(ad (M.1 + 1), xekG ad cA M (M.1 + 1) kd)] := by
  unfold xWsG xWsN
  show (List.range (M.1 + 1)).map _ = _
  rw [List.range_succ, List.map_append]
  have e : ∀ o, xeG ad cA (c_al M) o = xeG ad cA M o := fun o => by
    unfold xeG
    cases lay o with
    | none => rfl
    | some k => exact xekG_off (fun _ => ⟨rfl, rfl⟩) k
  simp only [e]
  congr 1
  show [(ad (M.1 + 1), xeG ad cA M (M.1 + 1))] = _
  unfold xeG
  rw [h]
theorem xfsG_get {ad : Nat → Nat} {M : CM} {o : Nat} {cs : List Int} {ci k : Nat} {q : Nat × Nat} (h : (cfd ci)[k]? = some q) : (xfsG ad M o cs ci)[k]? = some (xfvG ad M o cs k q) := by
  unfold xfsG
  rw [List.getElem?_mapIdx, h]; rfl
theorem xfsG_len (ad : Nat → Nat) (M : CM) (o : Nat) (cs : List Int) (ci : Nat) : (xfsG ad M o cs ci).length = (cfd ci).length := by unfold xfsG; rw [List.length_mapIdx]
theorem xfsG_set {ad : Nat → Nat} {M M' : CM} {o : Nat} {cs : List Int} {ci k : Nat} {q : Nat × Nat} {v : Value} (hq : (cfd ci)[k]? = some q) (h : ∀ k', k' ≠ k → fL M'.2.2 o k' = fL M.2.2 o k' ∧ gL M'.2.1 o k' = gL M.2.1 o k') (hv : xfvG ad M' o cs k q = v) : (xfsG ad M o cs ci).set k v = xfsG ad M' o cs ci := by
  apply List.ext_getElem?
  intro i
  rw [List.getElem?_set, xfsG_len]
  by_cases hi : k = i
  · subst hi
    rw [if_pos rfl, xfsG_get hq, hv, if_pos (List.getElem?_eq_some_iff.mp hq).1]
  · rw [if_neg hi]
    unfold xfsG
    rw [List.getElem?_mapIdx, List.getElem?_mapIdx]
    cases (cfd ci)[i]? with
    | none => rfl
    | some q' =>
      show some (xfvG ad M o cs i q') = some (xfvG ad M' o cs i q')
      have h2 := h i (fun e => hi e.symm)
      unfold xfvG
      rw [h2.1, h2.2]
theorem fs_off (M : CM) (o k : Nat) (v : Int) (o' k' : Nat) (h : ¬ (o' = o ∧ k' = k)) : fL (c_fs M o k v).2.2 o' k' = fL M.2.2 o' k' ∧ gL (c_fs M o k v).2.1 o' k' = gL M.2.1 o' k' := ⟨mset_ne (fL M.2.2) v h, rfl⟩
theorem gs_off (M : CM) (o k : Nat) (o' k' : Nat) (h : ¬ (o' = o ∧ k' = k)) : fL (c_gs M o k).2.2 o' k' = fL M.2.2 o' k' ∧ gL (c_gs M o k).2.1 o' k' = gL M.2.1 o' k' := ⟨rfl, by show gL ((o, k) :: M.2.1) o' k' = _; rw [gL_cons]; simp [h]⟩
theorem gs_on (M : CM) (o k : Nat) : gL (c_gs M o k).2.1 o k = true := by show gL ((o, k) :: M.2.1) o k = true; rw [gL_cons]; simp
theorem cfresh_al {M : CM} (h : cfresh M) : cfresh (c_al M) := fun o k ho => h o k (by have : (c_al M).1 = M.1 + 1 := rfl; omega)
theorem cfresh_fs {M : CM} (h : cfresh M) {o k : Nat} {v : Int} (ho : o ≤ M.1) : cfresh (c_fs M o k v) := fun o' k' ho' => by
  have h1 : M.1 < o' := ho'
  obtain ⟨e1, e2⟩ := fs_off M o k v o' k' (fun e => by omega)
  rw [e1, e2]; exact h o' k' h1
theorem cfresh_gs {M : CM} (h : cfresh M) {o k : Nat} (ho : o ≤ M.1) : cfresh (c_gs M o k) := fun o' k' ho' => by
  have h1 : M.1 < o' := ho'
  obtain ⟨e1, e2⟩ := gs_off M o k o' k' (fun e => by omega)
  rw [e1, e2]; exact h o' k' h1
def xAd (ad : Nat → Nat) (base : Nat) : Prop := ∀ i, i < layN → ad (i + 1) = base + i
theorem xWsG_D {ad : Nat → Nat} {base : Nat} (ha : xAd ad base) (cA : Nat → ClassId) {M : CM} (hM : M.1 ≤ layN) : va_D (xA ad) (xWsG ad cA M) := by
  have hg : ∀ (k : Nat) (q : Nat × va_E), (xWsG ad cA M)[k]? = some q → k < M.1 ∧ q.1 = ad (k + 1) := by
    intro k q hk
    unfold xWsG xWsN at hk
    rw [List.getElem?_map] at hk
    by_cases h : k < M.1
    · rw [List.getElem?_range h] at hk
      cases hk
      exact ⟨h, rfl⟩
    · rw [List.getElem?_eq_none (by rw [List.length_range]; omega)] at hk
      cases hk
  refine ⟨fun i j p q hi hj hpq => ?_, fun k q hk => ?_⟩
  · obtain ⟨h1, h2⟩ := hg i p hi
    obtain ⟨h3, h4⟩ := hg j q hj
    rw [h2, h4, ha i (by omega), ha j (by omega)] at hpq
    omega
  · obtain ⟨h1, h2⟩ := hg k q hk
    have h3 : k < layT.length := by have : layT.length = layN := by decide +kernel
                                    omega
    exact ⟨k + 1, layT[k], List.getElem?_eq_getElem h3, h2⟩
def xAO (U : State) : Prop := va_AO "OnePair$Valley" U ∧ va_AO "OnePair$Sheet" U ∧ va_AO "OnePair$Told" U
theorem xAO.moved {u U : State} (hvm : u.vm.Alike U.vm) (h : xAO u) : xAO U := ⟨va_AO.moved hvm h.1, va_AO.moved hvm h.2.1, va_AO.moved hvm h.2.2⟩
def xPcC (D : va_G) (ad : Nat → Nat) (cA : Nat → ClassId) (base : Nat) (As : List PV) (M : CM) : Array Value → State → Prop := fun v U =>
  v = (As.map (cv ad)).toArray ∧ U.heap.size = base + M.1 ∧ va_P D vwCl (xWsG ad cA M) U.heap ∧ va_K D vwCl (xTys cA) U ∧ xAO U
def xQcC (D : va_G) (ad : Nat → Nat) (cA : Nat → ClassId) (base : Nat) (M : CM) : Array Value → State → Outcome → State → Prop := fun _ st oc t =>
  (oc = .returned none ∧ t.heap.size = base + M.1 ∧ va_P D vwCl (xWsG ad cA M) t.heap) ∧ va_F (xA ad) st t
/-- a constructor's contract -/
def xCC (y : MethodName) (cc : ByteArray) (nL : Nat) (fr lo mc ms : Nat) (As : List PV) (M M' : CM) : Prop :=
  ∀ (l : Launch) (D : va_G) (ad : Nat → Nat) (cA : Nat → ClassId) (base : Nat), xAd ad base →
    Met l y (Cond.code y cc nL none :: xw_T) { frames := fr, cells := mc, slots := ms, locals := lo } (xPcC D ad cA base As M) (xQcC D ad cA base M') mc ms (xA ad)
def XCP (p : Program) (l : Launch) (e : Env) (R : Room) (s : State) (m : MethodId) (args : Array Value) (below : List Frame) (meth : Method) (c : Code) (nL n0 base : Nat) (D : va_G) (ad : Nat → Nat) (cA : Nat → ClassId) (Q : State → Prop) : Nat → List (Nat × PV) → List PV → CM → Prop := fun pc ls st M =>
  ∀ (H : Heap) (locs : List Loc) (lsA : Array Slot), (∀ q ∈ ls, okV q.2) → (∀ v ∈ st, okV v) → cfresh M → M.1 ≤ layN → n0 ≤ M.1 → H.size = base + M.1 → va_P D vwCl (xWsG ad cA M) H → va_S (xA ad) s.heap H locs → lv_has lsA nL (ls.map (cvp ad)) →
    W p l e R s m args below meth c H locs (M.1 - n0) (ssum M.1 - ssum n0) Q (F0 m pc lsA (st.map (cv ad)))
/-- what stands all through such a walk: own: the class's name, n1: the ids that may be made in all -/
def XCX (p : Program) (R : Room) (s : State) (m : MethodId) (args : Array Value) (meth : Method) (c : Code) (cc : ByteArray) (own : String) (fr lo nL n0 n1 base : Nat) (D : va_G) (ad : Nat → Nat) (cA : Nat → ClassId) : Prop :=
  p.tables.exec = Jvm.exec ∧ c.code = cc ∧ c.maxLocals = nL ∧ s.vm.findClass own = some m.cls ∧ (∀ w ∈ xw_T, w.before args s = true) ∧ va_K D vwCl (xTys cA) s ∧ xAd ad base ∧ meth.locks = false ∧ R.frames = fr ∧ R.locals = lo ∧ n1 - n0 ≤ R.cells ∧ ssum n1 - ssum n0 ≤ R.slots ∧ s.heap.size ≤ base + n0 ∧ xAO s
section XC
variable {p : Program} {l : Launch} {e : Env} {R : Room} {s : State} {m : MethodId} {args : Array Value} {below : List Frame} {meth : Method} {c : Code} {Q : State → Prop} {cc : ByteArray} {own : String} {fr lo nL n0 n1 base : Nat} {D : va_G} {ad : Nat → Nat} {cA : Nat → ClassId}
theorem cx_iload (C : XCX p R s m args meth c cc own fr lo nL n0 n1 base D ad cA) {pc : Nat} {ls : List (Nat × PV)} {st : List PV} {M : CM} {k j : Nat} {x : Int} (hd : decode cc pc = .ok (.iload k, 2)) (hj : ls[j]? = some (k, vI x)) (h : XCP p l e R s m args below meth c nL n0 base D ad cA Q (pc + 2) ls (vI x :: st) M) : XCP p l e R s m args below meth c nL n0 base D ad cA Q pc ls st M := by
  intro H locs lsA hl hs hfr hn hn0 hz hP hS hL
  refine lv_iload C.1 C.2.1 hd (xl_get hL hj) ?_
  exact h H locs lsA hl (st_cons (xl_ok hl hj) hs) hfr hn hn0 hz hP hS hL
theorem cx_iload_n (C : XCX p R s m args meth c cc own fr lo nL n0 n1 base D ad cA) {pc : Nat} {ls : List (Nat × PV)} {st : List PV} {M : CM} {k : Fin 4} {i j : Nat} {x : Int} (hd : decode cc pc = .ok (.iload_n k, 1)) (hi : (k : Nat) = i) (hj : ls[j]? = some (i, vI x)) (h : XCP p l e R s m args below meth c nL n0 base D ad cA Q (pc + 1) ls (vI x :: st) M) : XCP p l e R s m args below meth c nL n0 base D ad cA Q pc ls st M := by
  intro H locs lsA hl hs hfr hn hn0 hz hP hS hL
  refine lv_iload_n C.1 C.2.1 hd hi (xl_get hL hj) ?_
  exact h H locs lsA hl (st_cons (xl_ok hl hj) hs) hfr hn hn0 hz hP hS hL
theorem cx_aload_n (C : XCX p R s m args meth c cc own fr lo nL n0 n1 base D ad cA) {pc : Nat} {ls : List (Nat × PV)} {st : List PV} {M : CM} {k : Fin 4} {i j x : Nat} (hd : decode cc pc = .ok (.aload_n k, 1)) (hi : (k : Nat) = i) (hj : ls[j]? = some (i, vR x)) (hx : x ≠ 0) (h : XCP p l e R s m args below meth c nL n0 base D ad cA Q (pc + 1) ls (vR x :: st) M) : XCP p l e R s m args below meth c nL n0 base D ad cA Q pc ls st M := by
  intro H locs lsA hl hs hfr hn hn0 hz hP hS hL
  have hg := xl_get hL hj
  have h2 := h H locs lsA hl (st_cons trivial hs) hfr hn hn0 hz hP hS hL
  rw [cv_R hx] at hg
  rw [List.map_cons, cv_R hx] at h2
  exact lv_aload_n C.1 C.2.1 hd hi hg h2
theorem cx_istore_n (C : XCX p R s m args meth c cc own fr lo nL n0 n1 base D ad cA) {pc : Nat} {ls : List (Nat × PV)} {st : List PV} {M : CM} {k : Fin 4} {i : Nat} {x : Int} {ls' : List (Nat × PV)} (hd : decode cc pc = .ok (.istore_n k, 1)) (hi : (k : Nat) = i) (hn1 : i < nL) (hl1 : lset ls i (vI x) = ls') (h : XCP p l e R s m args below meth c nL n0 base D ad cA Q (pc + 1) ls' st M) : XCP p l e R s m args below meth c nL n0 base D ad cA Q pc ls (vI x :: st) M := by
  intro H locs lsA hl hs hfr hn hn0 hz hP hS hL
  subst hl1
  refine lv_istore_n C.1 C.2.1 hd hi hL hn1 (lset_map ad ls i (vI x)).symm (fun lsA hL => ?_)
  exact h H locs lsA (lset_ok hl (st_hd hs)) (st_tl hs) hfr hn hn0 hz hP hS hL
theorem cx_astore_n (C : XCX p R s m args meth c cc own fr lo nL n0 n1 base D ad cA) {pc : Nat} {ls : List (Nat × PV)} {st : List PV} {M : CM} {k : Fin 4} {i x : Nat} {ls' : List (Nat × PV)} (hd : decode cc pc = .ok (.astore_n k, 1)) (hi : (k : Nat) = i) (hn1 : i < nL) (hl1 : lset ls i (vR x) = ls') (hx : x ≠ 0) (h : XCP p l e R s m args below meth c nL n0 base D ad cA Q (pc + 1) ls' st M) : XCP p l e R s m args below meth c nL n0 base D ad cA Q pc ls (vR x :: st) M := by
  intro H locs lsA hl hs hfr hn hn0 hz hP hS hL
  subst hl1
  have h1 := lset_map ad ls i (vR x)
  rw [cv_R hx] at h1
  show W _ _ _ _ _ _ _ _ _ _ _ _ _ _ _ (F0 m pc lsA (cv ad (vR x) :: st.map (cv ad)))
  rw [cv_R hx]
  refine lv_astore_n C.1 C.2.1 hd hi hL hn1 h1.symm (fun lsA hL => ?_)
  exact h H locs lsA (lset_ok hl trivial) (st_tl hs) hfr hn hn0 hz hP hS hL
theorem cx_iinc (C : XCX p R s m args meth c cc own fr lo nL n0 n1 base D ad cA) {pc : Nat} {ls : List (Nat × PV)} {st : List PV} {M : CM} {k j : Nat} {n : Int} {x : Int} {ls' : List (Nat × PV)} (hd : decode cc pc = .ok (.iinc k n, 3)) (hj : ls[j]? = some (k, vI x)) (hn1 : k < nL) (hl1 : lset ls k (vI (xw (x + n))) = ls') (h : XCP p l e R s m args below meth c nL n0 base D ad cA Q (pc + 3) ls' st M) : XCP p l e R s m args below meth c nL n0 base D ad cA Q pc ls st M := by
  intro H locs lsA hl hs hfr hn hn0 hz hP hS hL
  subst hl1
  refine lv_iinc C.1 C.2.1 hd hL (k := j) (x := Int32.ofInt x) (by rw [List.getElem?_map, hj]; rfl) (i32_add x n) hn1 ((lset_map ad ls k (vI (xw (x + n)))).trans (by rw [show cv ad (vI (xw (x + n))) = Value.int (Int32.ofInt (xw (x + n))) from rfl])).symm (fun lsA hL => ?_)
  exact h H locs lsA (lset_ok hl (xw_in _)) hs hfr hn hn0 hz hP hS hL
theorem cx_iconst (C : XCX p R s m args meth c cc own fr lo nL n0 n1 base D ad cA) {pc : Nat} {ls : List (Nat × PV)} {st : List PV} {M : CM} {n : Int} (hd : decode cc pc = .ok (.iconst n, 1)) (hn1 : in32 n) (h : XCP p l e R s m args below meth c nL n0 base D ad cA Q (pc + 1) ls (vI n :: st) M) : XCP p l e R s m args below meth c nL n0 base D ad cA Q pc ls st M := by
  intro H locs lsA hl hs hfr hn hn0 hz hP hS hL
  refine lv_iconst C.1 C.2.1 hd rfl ?_
  exact h H locs lsA hl (st_cons hn1 hs) hfr hn hn0 hz hP hS hL
theorem cx_bipush (C : XCX p R s m args meth c cc own fr lo nL n0 n1 base D ad cA) {pc : Nat} {ls : List (Nat × PV)} {st : List PV} {M : CM} {n : Int} (hd : decode cc pc = .ok (.bipush n, 2)) (hv : (Int8.ofInt n).toInt32 = Int32.ofInt n) (hn1 : in32 n) (h : XCP p l e R s m args below meth c nL n0 base D ad cA Q (pc + 2) ls (vI n :: st) M) : XCP p l e R s m args below meth c nL n0 base D ad cA Q pc ls st M := by
  intro H locs lsA hl hs hfr hn hn0 hz hP hS hL
  refine lv_bipush C.1 C.2.1 hd hv ?_
  exact h H locs lsA hl (st_cons hn1 hs) hfr hn hn0 hz hP hS hL
theorem cx_sipush (C : XCX p R s m args meth c cc own fr lo nL n0 n1 base D ad cA) {pc : Nat} {ls : List (Nat × PV)} {st : List PV} {M : CM} {n : Int} (hd : decode cc pc = .ok (.sipush n, 3)) (hv : (Int16.ofInt n).toInt32 = Int32.ofInt n) (hn1 : in32 n) (h : XCP p l e R s m args below meth c nL n0 base D ad cA Q (pc + 3) ls (vI n :: st) M) : XCP p l e R s m args below meth c nL n0 base D ad cA Q pc ls st M := by
  intro H locs lsA hl hs hfr hn hn0 hz hP hS hL
  refine lv_sipush C.1 C.2.1 hd hv ?_
  exact h H locs lsA hl (st_cons hn1 hs) hfr hn hn0 hz hP hS hL
theorem cx_null (C : XCX p R s m args meth c cc own fr lo nL n0 n1 base D ad cA) {pc : Nat} {ls : List (Nat × PV)} {st : List PV} {M : CM}  (hd : decode cc pc = .ok (.aconst_null, 1)) (h : XCP p l e R s m args below meth c nL n0 base D ad cA Q (pc + 1) ls (vR 0 :: st) M) : XCP p l e R s m args below meth c nL n0 base D ad cA Q pc ls st M := by
  intro H locs lsA hl hs hfr hn hn0 hz hP hS hL
  exact lv_null C.1 C.2.1 hd (h H locs lsA hl (st_cons trivial hs) hfr hn hn0 hz hP hS hL)
theorem cx_imul (C : XCX p R s m args meth c cc own fr lo nL n0 n1 base D ad cA) {pc : Nat} {ls : List (Nat × PV)} {st : List PV} {M : CM} {a b : Int} (hd : decode cc pc = .ok (.imul, 1)) (h : XCP p l e R s m args below meth c nL n0 base D ad cA Q (pc + 1) ls (vI (xw (a * b)) :: st) M) : XCP p l e R s m args below meth c nL n0 base D ad cA Q pc ls (vI b :: vI a :: st) M := by
  intro H locs lsA hl hs hfr hn hn0 hz hP hS hL
  refine lv_imul C.1 C.2.1 hd ?_
  rw [i32_mul]
  exact h H locs lsA hl (st_cons (xw_in _) (st_tl (st_tl hs))) hfr hn hn0 hz hP hS hL
theorem cx_dup (C : XCX p R s m args meth c cc own fr lo nL n0 n1 base D ad cA) {pc : Nat} {ls : List (Nat × PV)} {st : List PV} {M : CM} {v : PV} (hd : decode cc pc = .ok (.dup, 1)) (hc : xcat v = 1) (h : XCP p l e R s m args below meth c nL n0 base D ad cA Q (pc + 1) ls (v :: v :: st) M) : XCP p l e R s m args below meth c nL n0 base D ad cA Q pc ls (v :: st) M := by
  intro H locs lsA hl hs hfr hn hn0 hz hP hS hL
  exact lv_dup C.1 C.2.1 hd ((xcat_cv ad v).trans hc) (h H locs lsA hl (st_cons (st_hd hs) hs) hfr hn hn0 hz hP hS hL)
theorem cx_goto (C : XCX p R s m args meth c cc own fr lo nL n0 n1 base D ad cA) {pc : Nat} {ls : List (Nat × PV)} {st : List PV} {M : CM} {off : Int} {tgt : Nat} (hd : decode cc pc = .ok (.goto off, 3)) (ht : (pc : Int) + off = (tgt : Int)) (h : XCP p l e R s m args below meth c nL n0 base D ad cA Q tgt ls st M) : XCP p l e R s m args below meth c nL n0 base D ad cA Q pc ls st M := by
  intro H locs lsA hl hs hfr hn hn0 hz hP hS hL
  exact lv_goto C.1 C.2.1 hd ht (h H locs lsA hl hs hfr hn hn0 hz hP hS hL)
theorem cx_icmp_geT (C : XCX p R s m args meth c cc own fr lo nL n0 n1 base D ad cA) {pc : Nat} {ls : List (Nat × PV)} {st : List PV} {M : CM} {a b : Int} {off : Int} {tgt : Nat} (hd : decode cc pc = .ok (.if_icmp .ge off, 3)) (ht : (pc : Int) + off = (tgt : Int)) (hab : b ≤ a) (h : XCP p l e R s m args below meth c nL n0 base D ad cA Q tgt ls st M) : XCP p l e R s m args below meth c nL n0 base D ad cA Q pc ls (vI b :: vI a :: st) M := by
  intro H locs lsA hl hs hfr hn hn0 hz hP hS hL
  have ha : in32 a := st_hd (st_tl hs)
  have hb : in32 b := st_hd hs
  exact lv_icmp_ge C.1 C.2.1 hd ht (fun _ => h H locs lsA hl (st_tl (st_tl hs)) hfr hn hn0 hz hP hS hL) (fun z => absurd ((i32_le hb ha).mpr hab) z)
theorem cx_icmp_geF (C : XCX p R s m args meth c cc own fr lo nL n0 n1 base D ad cA) {pc : Nat} {ls : List (Nat × PV)} {st : List PV} {M : CM} {a b : Int} {off : Int} {tgt : Nat} (hd : decode cc pc = .ok (.if_icmp .ge off, 3)) (ht : (pc : Int) + off = (tgt : Int)) (hab : ¬ b ≤ a) (h : XCP p l e R s m args below meth c nL n0 base D ad cA Q (pc + 3) ls st M) : XCP p l e R s m args below meth c nL n0 base D ad cA Q pc ls (vI b :: vI a :: st) M := by
  intro H locs lsA hl hs hfr hn hn0 hz hP hS hL
  have ha : in32 a := st_hd (st_tl hs)
  have hb : in32 b := st_hd hs
  exact lv_icmp_ge C.1 C.2.1 hd ht (fun z => absurd ((i32_le hb ha).mp z) hab) (fun _ => h H locs lsA hl (st_tl (st_tl hs)) hfr hn hn0 hz hP hS hL)
theorem cx_mmax (C : XCX p R s m args meth c cc own fr lo nL n0 n1 base D ad cA) {pc : Nat} {ls : List (Nat × PV)} {st : List PV} {M : CM} {idx : Nat} {a b : Int} (hd : decode cc pc = .ok (.invokestatic idx, 3)) (hmm : xMath own fr lo idx Lib.Math.max.name) (hw : xcats st ≤ 8) (hM : M.1 ≤ n1) (h : XCP p l e R s m args below meth c nL n0 base D ad cA Q (pc + 3) ls (vI (xmax a b) :: st) M) : XCP p l e R s m args below meth c nL n0 base D ad cA Q pc ls (vI b :: vI a :: st) M := by
  intro H locs lsA hl hs hfr hn hn0 hz hP hS hL
  obtain ⟨hlink, hm1, hm2⟩ := hmm
  have ha : in32 a := st_hd (st_tl hs)
  have hb : in32 b := st_hd hs
  have h2 := h H locs lsA hl (st_cons (by show in32 (xmax a b); unfold xmax; split; exact hb; exact ha) (st_tl (st_tl hs))) hfr hn hn0 hz hP hS hL
  have e : (if Int32.ofInt a < Int32.ofInt b then Int32.ofInt b else Int32.ofInt a) = Int32.ofInt (xmax a b) := by
    unfold xmax
    by_cases hab : a < b
    · rw [if_pos hab, if_pos ((i32_lt ha hb).mpr hab)]
    · rw [if_neg hab, if_neg (fun z => hab ((i32_lt ha hb).mp z))]
  rw [List.map_cons, show cv ad (vI (xmax a b)) = Value.int (Int32.ofInt (xmax a b)) from rfl, ← e] at h2
  have h5 := ssum_le hM
  have h6 := C.2.2.2.2.2.2.2.2.2.2.1
  have h7 := C.2.2.2.2.2.2.2.2.2.2.2.1
  exact va_mmax C.1 C.2.1 (C.2.2.1.trans hL.1.symm) C.2.2.2.1 (C.2.2.2.2.1 _ hlink) (C.2.2.2.2.1 _ mm_max.1) (C.2.2.2.2.1 _ mm_max.2.1) (C.2.2.2.2.1 _ mm_max.2.2) (by rw [C.2.2.2.2.2.2.2.2.1]; exact hm1) (by rw [C.2.2.2.2.2.2.2.2.2.1, xcats_map]; omega) (by omega) (by omega) hd h2
end XC
def tag0 (ci j : Nat) : Value := if ((cfd ci).getD j (0, 0)).1 = 2 ∨ ((cfd ci).getD j (0, 0)).1 = 3 then .null else .int 0
theorem tag_def : ∀ ci, ci < 11 → ∀ j, j < (cfd ci).length → defaultValue (tyAll ci j) = tag0 ci j ∧ ((cfd ci).getD j (0, 0)).1 < 4 := by decide +kernel
theorem cfd_len {ci : Nat} {C : String} {T : u_T} {N : Nat} (h : vwCl[ci]? = some (C, T, N)) : (cfd ci).length = N ∧ ci < 11 := by
  match ci, h with
  | 0, h => cases h; exact ⟨rfl, by omega⟩
  | 1, h => cases h; exact ⟨rfl, by omega⟩
  | 2, h => cases h; exact ⟨rfl, by omega⟩
  | 3, h => cases h; exact ⟨rfl, by omega⟩
  | 4, h => cases h; exact ⟨rfl, by omega⟩
  | 5, h => cases h; exact ⟨rfl, by omega⟩
  | 6, h => cases h; exact ⟨rfl, by omega⟩
  | 7, h => cases h; exact ⟨rfl, by omega⟩
  | 8, h => cases h; exact ⟨rfl, by omega⟩
  | 9, h => cases h; exact ⟨rfl, by omega⟩
  | 10, h => cases h; exact ⟨rfl, by omega⟩
  | n + 11, h => cases h
theorem xfv_fresh {ad : Nat → Nat} {M : CM} (hf : cfresh M) {o : Nat} (ho : M.1 < o) (cs : List Int) {ci j : Nat} (hci : ci < 11) (hj : j < (cfd ci).length) : defaultValue (tyAll ci j) = vp_V (xfsG ad M o cs ci) j := by
  obtain ⟨h1, h2⟩ := tag_def ci hci j hj
  obtain ⟨q, hq⟩ : ∃ q, (cfd ci)[j]? = some q := ⟨_, List.getElem?_eq_getElem hj⟩
  have h3 : vp_V (xfsG ad M o cs ci) j = xfvG ad M o cs j q := by
    unfold vp_V
    rw [List.getD_eq_getElem?_getD, xfsG_get hq]; rfl
  have h4 : (cfd ci).getD j (0, 0) = q := by rw [List.getD_eq_getElem?_getD, hq]; rfl
  rw [h1, h3]
  unfold tag0
  rw [h4] at h2 ⊢
  obtain ⟨g1, g2⟩ := hf o j ho
  obtain ⟨t, d⟩ := q
  have h5 : t < 4 := h2
  unfold xfvG
  rw [g1, g2]
  match t, h5 with
  | 0, _ => rfl
  | 1, _ => rfl
  | 2, _ => rfl
  | 3, _ => rfl
theorem va_S.grow {A : Nat → Prop} {H0 H H1 : Heap} {locs : List Loc} (hS : va_S A H0 H locs) (z : H1.size = H.size + 1) (o1 : ∀ q, q < H.size → H1[q]? = H[q]?) : va_S A H0 H1 locs :=
  ⟨Nat.le_trans hS.1 (by omega), fun x h1 h2 => (o1 x (Nat.lt_of_lt_of_le h1 hS.1)).trans (hS.2.1 x h1 h2), hS.2.2⟩
theorem xP_al {D : va_G} {ad : Nat → Nat} {cA : Nat → ClassId} {M : CM} {kd : KD} {H H1 : Heap} (hP : va_P D vwCl (xWsG ad cA M) H) (o1 : ∀ q, q < H.size → H1[q]? = H[q]?) (h : lay (M.1 + 1) = some kd) (hc : va_at D vwCl (ad (M.1 + 1), xekG ad cA M (M.1 + 1) kd) H1) : va_P D vwCl (xWsG ad cA (c_al M)) H1 := by
  rw [xWsG_al h]
  refine (hP.kept (fun k x hx => o1 x.1 ((hP k x hx).lt))).app (fun k x hx => ?_)
  have hz : k < 1 := (List.getElem?_eq_some_iff.mp hx).1
  rw [show k = 0 by omega] at hx
  cases hx
  exact hc
theorem ad_ne {ad : Nat → Nat} {base n : Nat} (ha : xAd ad base) (hn : n < layN) : ad (n + 1) = base + n := ha n hn
section XC2
variable {p : Program} {l : Launch} {e : Env} {R : Room} {s : State} {m : MethodId} {args : Array Value} {below : List Frame} {meth : Method} {c : Code} {Q : State → Prop} {cc : ByteArray} {own : String} {fr lo nL n0 n1 base : Nat} {D : va_G} {ad : Nat → Nat} {cA : Nat → ClassId}
theorem cx_new (C : XCX p R s m args meth c cc own fr lo nL n0 n1 base D ad cA) {pc : Nat} {ls : List (Nat × PV)} {st : List PV} {M : CM} {idx ci N : Nat} {cs : List Int} {C0 : String} {T : u_T} (hd : decode cc pc = .ok (.new idx, 3)) (hlay : lay (M.1 + 1) = some (.inl (ci, cs))) (hcl : Cond.classLink own idx C0 ∈ xw_T) (hins : Cond.instantiable C0 N ∈ xw_T) (hini : Cond.initialized C0 ∈ xw_T) (hc : vwCl[ci]? = some (C0, T, N)) (hM : M.1 + 1 ≤ n1) (h : XCP p l e R s m args below meth c nL n0 base D ad cA Q (pc + 3) ls (vR (M.1 + 1) :: st) (c_al M)) : XCP p l e R s m args below meth c nL n0 base D ad cA Q pc ls st M := by
  intro H locs lsA hl hs hfr hn hn0 hz hP hS hL
  have h5 := ssum_le hM
  have h6 := C.2.2.2.2.2.2.2.2.2.2.1
  have h7 := C.2.2.2.2.2.2.2.2.2.2.2.1
  have h8 := ssum_succ hlay
  have h9 := ssum_le hn0
  have hlN := (lay_le hlay).2
  have hadz := ad_ne C.2.2.2.2.2.2.1 (show M.1 < layN by omega)
  obtain ⟨hlen, hci⟩ := cfd_len hc
  have hks : kslots (.inl (ci, cs)) = N := hlen
  have hKn := (C.2.2.2.2.2.1).1 ci _ hc
  have hin := cl_in hc
  refine W.newcK C.1 C.2.1 C.2.2.2.1 (C.2.2.2.2.1 _ hcl) (C.2.2.2.2.1 _ hins) (C.2.2.2.2.1 _ hini) rfl hd (by omega) (by omega) hKn.2.1 rfl fun H1 kC hkC e1 z1 o1 => ?_
  have hat : va_at D vwCl (ad (M.1 + 1), xekG ad cA M (M.1 + 1) (.inl (ci, cs))) H1 := by
    refine ⟨_, hc, ?_⟩
    rw [show ad (M.1 + 1) = H.size by omega]
    exact (u_born (tyAll ci) C.2.2.2.2.1 hin.1 hKn hkC e1 hin.2.1).to (fun j hj => xfv_fresh hfr (by omega) cs hci (by omega))
  have h2 := h H1 locs lsA hl (st_cons trivial hs) (cfresh_al hfr) (by show M.1 + 1 ≤ layN; omega) (by show n0 ≤ M.1 + 1; omega) (by show H1.size = base + (M.1 + 1); omega) (xP_al hP o1 hlay hat) (hS.grow z1 o1) hL
  have e1 : (c_al M).1 - n0 = M.1 - n0 + 1 := by show M.1 + 1 - n0 = _; omega
  have e2 : ssum (c_al M).1 - ssum n0 = ssum M.1 - ssum n0 + kslots (.inl (ci, cs)) := by show ssum (M.1 + 1) - ssum n0 = _; omega
  rw [e1, e2] at h2
  rw [List.map_cons, cv_R (by omega), show ad (M.1 + 1) = H.size by omega, hks] at h2
  exact h2
theorem cx_newa (C : XCX p R s m args meth c cc own fr lo nL n0 n1 base D ad cA) {pc : Nat} {ls : List (Nat × PV)} {st : List PV} {M : CM} {at_ : ArrayType} {t N : Nat} {n : Int} {ty : FieldType} (hd : decode cc pc = .ok (.newarray at_, 2)) (hlay : lay (M.1 + 1) = some (.inr (.inl (t, N)))) (hty : newarray.typeOf at_ = ty) (htt : (t = 0 ∧ ty = .int) ∨ (t = 1 ∧ ty = .byte) ∨ (t = 2 ∧ ty = .boolean) ∨ (t = 3 ∧ ty = .long)) (harr : Cond.arrayClass ty ∈ xw_T) (hnN : n = (N : Int)) (hN : N < 100000) (hM : M.1 + 1 ≤ n1) (h : XCP p l e R s m args below meth c nL n0 base D ad cA Q (pc + 2) ls (vR (M.1 + 1) :: st) (c_al M)) : XCP p l e R s m args below meth c nL n0 base D ad cA Q pc ls (vI n :: st) M := by
  intro H locs lsA hl hs hfr hn hn0 hz hP hS hL
  have h5 := ssum_le hM
  have h6 := C.2.2.2.2.2.2.2.2.2.2.1
  have h7 := C.2.2.2.2.2.2.2.2.2.2.2.1
  have h8 := ssum_succ hlay
  have h9 := ssum_le hn0
  have hlN := (lay_le hlay).2
  have hadz := ad_ne C.2.2.2.2.2.2.1 (show M.1 < layN by omega)
  subst hty
  have hi : in32 n := st_hd hs
  have ecl := cl_of (by omega) hi
  have hks : kslots (.inr (.inl (t, N))) = N := rfl
  have hcb : componentBytes (newarray.typeOf at_) ≤ 8 := by cases at_ <;> decide
  refine va_newaK C.1 C.2.1 (C.2.2.2.2.1 _ harr) rfl hd rfl (fun z => by rw [i32_zero] at z; have := (i32_lt hi in32_0).mp z; omega) (N := N) (by rw [ecl]; omega) (Nat.le_trans (Nat.mul_le_mul_left _ hcb) (by omega)) (by omega) (by omega) rfl fun H1 cA' e1 z1 o1 hAr hNm => ?_
  have hat : va_at D vwCl (ad (M.1 + 1), xekG ad cA M (M.1 + 1) (.inr (.inl (t, N)))) H1 := by
    rw [show ad (M.1 + 1) = H.size by omega]
    have hz : ∀ k, fL M.2.2 (M.1 + 1) k = 0 := fun k => (hfr (M.1 + 1) k (by omega)).2
    have hcA : ∀ i : Nat, (xTys cA)[i]? = some (cA t, newarray.typeOf at_) → cA t = cA' := by
      intro i hi2
      have h3 := ((C.2.2.2.2.2.1).2 i _ hi2).2
      have h4 : s.vm.findClass ("[" ++ (newarray.typeOf at_).toString) = some (cA t) := by
        revert h3
        cases at_ <;> exact fun z => z
      exact Option.some.inj (h4.symm.trans hNm)
    show H1[H.size]? = some (vp_cell (cA t) (N, if t = 3 then .inr (.inl fun k => Int64.ofInt (fL M.2.2 (M.1 + 1) k)) else .inl fun k => Int32.ofInt (fL M.2.2 (M.1 + 1) k)))
    simp only [hz]
    rcases htt with ⟨rfl, q⟩ | ⟨rfl, q⟩ | ⟨rfl, q⟩ | ⟨rfl, q⟩
    · rw [hcA 0 (by rw [q]; rfl), e1, q]; rfl
    · rw [hcA 1 (by rw [q]; rfl), e1, q]; rfl
    · rw [hcA 2 (by rw [q]; rfl), e1, q]; rfl
    · rw [hcA 3 (by rw [q]; rfl), e1, q]; rfl
  have h2 := h H1 locs lsA hl (st_cons trivial (st_tl hs)) (cfresh_al hfr) (by show M.1 + 1 ≤ layN; omega) (by show n0 ≤ M.1 + 1; omega) (by show H1.size = base + (M.1 + 1); omega) (xP_al hP o1 hlay hat) (hS.grow z1 o1) hL
  have e1 : (c_al M).1 - n0 = M.1 - n0 + 1 := by show M.1 + 1 - n0 = _; omega
  have e2 : ssum (c_al M).1 - ssum n0 = ssum M.1 - ssum n0 + kslots (.inr (.inl (t, N))) := by show ssum (M.1 + 1) - ssum n0 = _; omega
  rw [e1, e2] at h2
  rw [List.map_cons, cv_R (by omega), show ad (M.1 + 1) = H.size by omega, hks] at h2
  exact h2
theorem cx_newq (C : XCX p R s m args meth c cc own fr lo nL n0 n1 base D ad cA) {pc : Nat} {ls : List (Nat × PV)} {st : List PV} {M : CM} {idx ci N b sp : Nat} {n : Int} {C0 : String} (hd : decode cc pc = .ok (.anewarray idx, 3)) (hlay : lay (M.1 + 1) = some (.inr (.inr (ci, N, b, sp)))) (hC0 : (ci = 7 ∧ C0 = "OnePair$Valley") ∨ (ci = 3 ∧ C0 = "OnePair$Sheet") ∨ (ci = 4 ∧ C0 = "OnePair$Told")) (hcl : Cond.classLink own idx C0 ∈ xw_T) (hov : (Cond.arrayOver (.object C0)).before args s = true) (hnN : n = (N : Int)) (hN : N < 100000) (hM : M.1 + 1 ≤ n1) (h : XCP p l e R s m args below meth c nL n0 base D ad cA Q (pc + 3) ls (vR (M.1 + 1) :: st) (c_al M)) : XCP p l e R s m args below meth c nL n0 base D ad cA Q pc ls (vI n :: st) M := by
  intro H locs lsA hl hs hfr hn hn0 hz hP hS hL
  have h5 := ssum_le hM
  have h6 := C.2.2.2.2.2.2.2.2.2.2.1
  have h7 := C.2.2.2.2.2.2.2.2.2.2.2.1
  have h8 := ssum_succ hlay
  have h9 := ssum_le hn0
  have hlN := (lay_le hlay).2
  have hadz := ad_ne C.2.2.2.2.2.2.1 (show M.1 < layN by omega)
  have hi : in32 n := st_hd hs
  have ecl := cl_of (by omega) hi
  have hks : kslots (.inr (.inr (ci, N, b, sp))) = N := rfl
  refine W.anew C.1 C.2.1 C.2.2.2.1 (C.2.2.2.2.1 _ hcl) (va_AO.use (va_AO.of hov)) rfl hd rfl (fun z => by rw [i32_zero] at z; have := (i32_lt hi in32_0).mp z; omega) (by rw [ecl]; omega) (by omega) (by rw [ecl]; omega) fun cA' kA comp f1 f2 f3 f4 => ?_
  generalize hH1 : H.push ({ cls := cA', slots := Array.replicate (Int32.ofInt n).toNatClampNeg .null, vm := .none } : Cell) = H1
  have z1 : H1.size = H.size + 1 := by rw [← hH1, Array.size_push]
  have e1 : H1[H.size]? = some (arrV cA' (Int32.ofInt n).toNatClampNeg (fun _ => .null)) := by rw [← hH1, Array.getElem?_push_size, ← arrV_new]
  have o1 : ∀ q : Nat, q < H.size → H1[q]? = H[q]? := fun q hq => by rw [← hH1, Array.getElem?_push, if_neg (Nat.ne_of_lt hq)]
  rw [ecl, show n.toNat = N by omega] at e1
  have hat : va_at D vwCl (ad (M.1 + 1), xekG ad cA M (M.1 + 1) (.inr (.inr (ci, N, b, sp)))) H1 := by
    rw [show ad (M.1 + 1) = H.size by omega]
    have hz : ∀ k, gL M.2.1 (M.1 + 1) k = false := fun k => (hfr (M.1 + 1) k (by omega)).1
    have hcA : ∀ i : Nat, (xTys cA)[i]? = some (cA (10 + ci), FieldType.object C0) → cA (10 + ci) = cA' := by
      intro i hi2
      obtain ⟨kA2, comp2, g1, g2, g3, g4⟩ := ((C.2.2.2.2.2.1).2 i _ hi2).2
      exact Option.some.inj (g4.symm.trans f1)
    show H1[H.size]? = some (vp_cell (cA (10 + ci)) (N, .inr (.inr (.inr (.inr fun i => if gL M.2.1 (M.1 + 1) i = true then some (ad (M.1 + 1 + b + sp * i)) else none)))))
    have hfun : (fun i => if gL M.2.1 (M.1 + 1) i = true then some (ad (M.1 + 1 + b + sp * i)) else none) = (fun _ => (none : Option Nat)) := by
      funext i
      rw [hz i]; rfl
    rw [hfun]
    rcases hC0 with ⟨rfl, q⟩ | ⟨rfl, q⟩ | ⟨rfl, q⟩
    · rw [hcA 4 (by rw [q]; rfl), e1]; rfl
    · rw [hcA 5 (by rw [q]; rfl), e1]; rfl
    · rw [hcA 6 (by rw [q]; rfl), e1]; rfl
  have h2 := h H1 locs lsA hl (st_cons trivial (st_tl hs)) (cfresh_al hfr) (by show M.1 + 1 ≤ layN; omega) (by show n0 ≤ M.1 + 1; omega) (by show H1.size = base + (M.1 + 1); omega) (xP_al hP o1 hlay hat) (hS.grow z1 o1) hL
  have e1 : (c_al M).1 - n0 = M.1 - n0 + 1 := by show M.1 + 1 - n0 = _; omega
  have e2 : ssum (c_al M).1 - ssum n0 = ssum M.1 - ssum n0 + kslots (.inr (.inr (ci, N, b, sp))) := by show ssum (M.1 + 1) - ssum n0 = _; omega
  rw [e1, e2] at h2
  rw [List.map_cons, cv_R (by omega), show ad (M.1 + 1) = H.size by omega, hks] at h2
  rw [ecl, show n.toNat = N by omega]
  exact h2
theorem cx_getC (C : XCX p R s m args meth c cc own fr lo nL n0 n1 base D ad cA) {pc : Nat} {ls : List (Nat × PV)} {st : List PV} {M : CM} {o idx ci k d : Nat}  (hd : decode cc pc = .ok (.getfield idx, 3)) (hf : xFld own idx ci k 1 d) (hk : isK o ci) (ho : o ≤ M.1) (hg : gL M.2.1 o k = true) (h : XCP p l e R s m args below meth c nL n0 base D ad cA Q (pc + 3) ls (vI (cst o d) :: st) M) : XCP p l e R s m args below meth c nL n0 base D ad cA Q pc ls (vR o :: st) M := by
  intro H locs lsA hl hs hfr hn hn0 hz hP hS hL
  obtain ⟨C', T, N, hc', hkN, hCC, hw, hq⟩ := hf
  obtain ⟨cs, hlay⟩ := isK_cs hk
  show W _ _ _ _ _ _ _ _ _ _ _ _ _ _ _ (F0 m pc lsA (cv ad (vR o) :: st.map (cv ad)))
  rw [cv_R (lay_ne0 hlay)]
  refine va_get C.1 C.2.1 (ref := C') C.2.2.2.2.1 (cl_in hc').1 C.2.2.2.1 C.2.2.2.2.2.1 hP (o - 1) (xWsG_at ad cA M hlay ho) hc' k hkN (C.2.2.2.2.1 _ hw) (fun x hx => hCC ▸ hx) (xfsG_get hq) hd ?_
  have h2 := h H locs lsA hl (st_cons (cst_in _ _) (st_tl hs)) hfr hn hn0 hz hP hS hL
  rw [List.map_cons, show cv ad (vI (cst o d)) = Value.int (Int32.ofInt (cst o d)) from rfl, show cst o d = cs.getD d 0 from by unfold cst; rw [hlay]] at h2
  show W _ _ _ _ _ _ _ _ _ _ _ _ _ _ _ (F0 m (pc + 3) lsA (Value.int (Int32.ofInt (if gL M.2.1 o k = true then cs.getD d 0 else 0)) :: st.map (cv ad)))
  rw [if_pos hg]
  exact h2
theorem cx_getR (C : XCX p R s m args meth c cc own fr lo nL n0 n1 base D ad cA) {pc : Nat} {ls : List (Nat × PV)} {st : List PV} {M : CM} {o idx ci k d : Nat}  (hd : decode cc pc = .ok (.getfield idx, 3)) (hf : xFld own idx ci k 2 d) (hk : isK o ci) (ho : o ≤ M.1) (hg : gL M.2.1 o k = true) (h : XCP p l e R s m args below meth c nL n0 base D ad cA Q (pc + 3) ls (vR (o + d) :: st) M) : XCP p l e R s m args below meth c nL n0 base D ad cA Q pc ls (vR o :: st) M := by
  intro H locs lsA hl hs hfr hn hn0 hz hP hS hL
  obtain ⟨C', T, N, hc', hkN, hCC, hw, hq⟩ := hf
  obtain ⟨cs, hlay⟩ := isK_cs hk
  show W _ _ _ _ _ _ _ _ _ _ _ _ _ _ _ (F0 m pc lsA (cv ad (vR o) :: st.map (cv ad)))
  rw [cv_R (lay_ne0 hlay)]
  refine va_get C.1 C.2.1 (ref := C') C.2.2.2.2.1 (cl_in hc').1 C.2.2.2.1 C.2.2.2.2.2.1 hP (o - 1) (xWsG_at ad cA M hlay ho) hc' k hkN (C.2.2.2.2.1 _ hw) (fun x hx => hCC ▸ hx) (xfsG_get hq) hd ?_
  have h2 := h H locs lsA hl (st_cons trivial (st_tl hs)) hfr hn hn0 hz hP hS hL
  rw [List.map_cons, cv_R (by have := lay_le hlay; omega)] at h2
  show W _ _ _ _ _ _ _ _ _ _ _ _ _ _ _ (F0 m (pc + 3) lsA ((if gL M.2.1 o k = true then Value.ref (ad (o + d)) else .null) :: st.map (cv ad)))
  rw [if_pos hg]
  exact h2
theorem cput_core (C : XCX p R s m args meth c cc own fr lo nL n0 n1 base D ad cA) {pc : Nat} {lsA : Array Slot} {rest : List Value} {M M2 : CM} {H : Heap} {locs : List Loc} {cells slots : Nat} {o idx ci k d t : Nat} {v : Value} {ty : FieldType} (fin : Bool)
    (hP : va_P D vwCl (xWsG ad cA M) H) (hS : va_S (xA ad) s.heap H locs) (hn : M.1 ≤ layN) (hd : decode cc pc = .ok (.putfield idx, 3)) (hf : xFld own idx ci k t d)
    (hp : ∃ C T N, vwCl[ci]? = some (C, T, N) ∧ (T k).2.2.2 = fin ∧ parseFieldDescriptor (T k).2.2.1 = some ty ∧ C = own) (hnm : meth.name = "<init>") (hk : isK o ci) (ho : o ≤ M.1) (hnar : narrow ty v = v) (hfit : fits ty v = true)
    (hM2 : M2.1 = M.1) (hoff : ∀ o' k', ¬ (o' = o ∧ k' = k) → fL M2.2.2 o' k' = fL M.2.2 o' k' ∧ gL M2.2.1 o' k' = gL M.2.1 o' k') (hv : ∀ cs, lay o = some (.inl (ci, cs)) → xfvG ad M2 o cs k (t, d) = v)
    (kk : ∀ (H1 : Heap) (locs1 : List Loc), H1.size = H.size → va_P D vwCl (xWsG ad cA M2) H1 → va_S (xA ad) s.heap H1 locs1 → W p l e R s m args below meth c H1 locs1 cells slots Q (F0 m (pc + 3) lsA rest)) : W p l e R s m args below meth c H locs cells slots Q (F0 m pc lsA (v :: .ref (ad o) :: rest)) := by
  obtain ⟨C', T, N, hc', hkN, hCC, hw, hq⟩ := hf
  obtain ⟨C2, T2, N2, hc2, hfin, hty2, hown2⟩ := hp
  rw [hc'] at hc2; cases hc2
  obtain ⟨cs, hlay⟩ := isK_cs hk
  have hin := cl_in hc'
  have hD := xWsG_D C.2.2.2.2.2.2.1 cA hn
  have he := xWsG_at ad cA M hlay ho
  obtain ⟨r, h1, cell, q1, q2, q3, q4⟩ := hP (o - 1) _ he
  have hr : r = (C', T, N) := Option.some.inj (h1.symm.trans hc')
  subst hr
  obtain ⟨hSl, hfc, kC, hkC, hkind⟩ := C.2.2.2.2.2.1.1 ci _ hc'
  obtain ⟨cf, kf, fi, f, hi, hsl⟩ := hSl k hkN
  have hlys := u_lays C.2.2.2.2.1 hin.1 hkN
  have hst := (u_facts hfc hkC hlys hi).1
  have hsame := hi
  rw [hCC] at hsame
  have hap := va_apart (own := own) C.2.2.2.2.1 hin.1 (tyAll ci) hin.2.1 hin.2.2 C.2.2.2.2.2.1 hc'
  have fin_ : ∀ H' : Heap, H'[ad o]? = some (cell.setSlot ((D.2 ci) k) v) → H'.size = H.size → (∀ q, q ≠ ad o → H'[q]? = H[q]?) → W p l e R s m args below meth c H' (locs ++ [⟨ad o, f.slot⟩]) cells slots Q (F0 m (pc + 3) lsA rest) := by
    intro H' e1 e2 e3
    refine kk H' _ e2 ?_ (hS.put e2 e3 ⟨o, _, hlay, rfl⟩)
    have h9 := hP.set hD he (e := .inr (ci, (xfsG ad M o cs ci).set k v)) ⟨_, hc', t_OB.to (V := updV (vp_V (xfsG ad M o cs ci)) k v) ⟨_, e1, q2, q3, t_set q4 hap hkN v⟩ (fun j _ => vp_updV_set (by rw [xfsG_len]; exact (List.getElem?_eq_some_iff.mp hq).1) v j)⟩ e3
    have hset : (xWsG ad cA M).set (o - 1) (ad o, .inr (ci, (xfsG ad M o cs ci).set k v)) = xWsG ad cA M2 := by
      refine xWsG_set hlay ho hM2 (fun o' k' hne => hoff o' k' (fun q => hne q.1)) ?_
      show (Sum.inr (ci, (xfsG ad M o cs ci).set k v) : va_E) = Sum.inr (ci, xfsG ad M2 o cs ci)
      rw [xfsG_set (M' := M2) hq (fun k' hk' => hoff o k' (fun q => hk' q.2)) (hv cs hlay)]
    rw [hset] at h9
    exact h9
  have hly := C.2.2.2.2.1 _ (hin.1 _ (u_in_lay hkN))
  unfold u_lay at hly
  cases fin with
  | false =>
    rw [if_neg (by rw [hfin]; decide)] at hly
    have h6 := u_store hfc hkC hkind hly hi hty2 hnar hfit
    refine W.putK C.1 C.2.1 (f := f) ⟨C.2.2.2.1, C.2.2.2.2.1 _ hw, ⟨_, _, _, hsame⟩, hst⟩ (by rw [q2]; exact h6) q1 q3 (by rw [hsl]; exact k2_hasslot (q4 k hkN)) rfl rfl hd fun H' e1 e2 e3 => ?_
    rw [hsl] at e1
    exact fin_ H' e1 e2 e3
  | true =>
    rw [if_pos hfin] at hly
    have hcf : m.cls = cf := by
      obtain ⟨_, _, c', _, _, _, -, -, hf', -, -, -, hown3, -⟩ := Cond.laysFinal_spec hly
      have e1 : c' = cf := by have := hi.symm.trans hf'; simp at this; exact this.1.symm
      rw [hCC, hown2] at hown3
      rw [← e1]; exact Option.some.inj (C.2.2.2.1.symm.trans hown3)
    have h6 := u_fits hfc hkC hkind (Or.inr hly) hi hty2 hnar hfit
    refine W.putFinK C.1 C.2.1 C.2.2.2.1 (C.2.2.2.2.1 _ hw) hsame hst hcf hnm (by rw [q2]; exact h6) q1 q3 (by rw [hsl]; exact k2_hasslot (q4 k hkN)) rfl rfl hd fun H' e1 e2 e3 => ?_
    rw [hsl] at e1
    exact fin_ H' e1 e2 e3
theorem cx_putI (C : XCX p R s m args meth c cc own fr lo nL n0 n1 base D ad cA) {pc : Nat} {ls : List (Nat × PV)} {st : List PV} {M : CM} {o idx ci k d : Nat} {x : Int} (hd : decode cc pc = .ok (.putfield idx, 3)) (hf : xFld own idx ci k 0 d) (hp : ∃ C T N, vwCl[ci]? = some (C, T, N) ∧ (T k).2.2.2 = false ∧ parseFieldDescriptor (T k).2.2.1 = some .int ∧ C = own) (hnm : meth.name = "<init>") (hk : isK o ci) (ho : o ≤ M.1) (h : XCP p l e R s m args below meth c nL n0 base D ad cA Q (pc + 3) ls st (c_fs M o k x)) : XCP p l e R s m args below meth c nL n0 base D ad cA Q pc ls (vI x :: vR o :: st) M := by
  intro H locs lsA hl hs hfr hn hn0 hz hP hS hL
  have hne0 : o ≠ 0 := by obtain ⟨cs, hlay⟩ := isK_cs hk; exact lay_ne0 hlay
  show W _ _ _ _ _ _ _ _ _ _ _ _ _ _ _ (F0 m pc lsA (Value.int (Int32.ofInt x) :: cv ad (vR o) :: st.map (cv ad)))
  rw [cv_R hne0]
  exact cput_core (M2 := c_fs M o k x) C false hP hS hn hd hf hp hnm hk ho rfl rfl rfl (fs_off M o k x) (fun cs _ => by show Value.int (Int32.ofInt (mset (fL M.2.2) o k x o k)) = _; rw [mset_eq]) (fun H1 locs1 z1 hP1 hS1 => h H1 locs1 lsA hl (st_tl (st_tl hs)) (cfresh_fs hfr ho) hn hn0 (by rw [z1]; exact hz) hP1 hS1 hL)
theorem cx_putZ (C : XCX p R s m args meth c cc own fr lo nL n0 n1 base D ad cA) {pc : Nat} {ls : List (Nat × PV)} {st : List PV} {M : CM} {o idx ci k d : Nat} {x : Int} (hd : decode cc pc = .ok (.putfield idx, 3)) (hf : xFld own idx ci k 0 d) (hp : ∃ C T N, vwCl[ci]? = some (C, T, N) ∧ (T k).2.2.2 = false ∧ parseFieldDescriptor (T k).2.2.1 = some .boolean ∧ C = own) (hnm : meth.name = "<init>") (hk : isK o ci) (ho : o ≤ M.1) (hx : x = 0 ∨ x = 1) (h : XCP p l e R s m args below meth c nL n0 base D ad cA Q (pc + 3) ls st (c_fs M o k x)) : XCP p l e R s m args below meth c nL n0 base D ad cA Q pc ls (vI x :: vR o :: st) M := by
  intro H locs lsA hl hs hfr hn hn0 hz hP hS hL
  have hne0 : o ≠ 0 := by obtain ⟨cs, hlay⟩ := isK_cs hk; exact lay_ne0 hlay
  show W _ _ _ _ _ _ _ _ _ _ _ _ _ _ _ (F0 m pc lsA (Value.int (Int32.ofInt x) :: cv ad (vR o) :: st.map (cv ad)))
  rw [cv_R hne0]
  exact cput_core (M2 := c_fs M o k x) C false hP hS hn hd hf hp hnm hk ho (by rcases hx with rfl | rfl <;> rfl) (by rcases hx with rfl | rfl <;> rfl) rfl (fs_off M o k x) (fun cs _ => by show Value.int (Int32.ofInt (mset (fL M.2.2) o k x o k)) = _; rw [mset_eq]) (fun H1 locs1 z1 hP1 hS1 => h H1 locs1 lsA hl (st_tl (st_tl hs)) (cfresh_fs hfr ho) hn hn0 (by rw [z1]; exact hz) hP1 hS1 hL)
theorem cx_putC (C : XCX p R s m args meth c cc own fr lo nL n0 n1 base D ad cA) {pc : Nat} {ls : List (Nat × PV)} {st : List PV} {M : CM} {o idx ci k d : Nat} {x : Int} (hd : decode cc pc = .ok (.putfield idx, 3)) (hf : xFld own idx ci k 1 d) (hp : ∃ C T N, vwCl[ci]? = some (C, T, N) ∧ (T k).2.2.2 = true ∧ parseFieldDescriptor (T k).2.2.1 = some .int ∧ C = own) (hnm : meth.name = "<init>") (hk : isK o ci) (ho : o ≤ M.1) (hx : x = cst o d) (h : XCP p l e R s m args below meth c nL n0 base D ad cA Q (pc + 3) ls st (c_gs M o k)) : XCP p l e R s m args below meth c nL n0 base D ad cA Q pc ls (vI x :: vR o :: st) M := by
  intro H locs lsA hl hs hfr hn hn0 hz hP hS hL
  have hne0 : o ≠ 0 := by obtain ⟨cs, hlay⟩ := isK_cs hk; exact lay_ne0 hlay
  show W _ _ _ _ _ _ _ _ _ _ _ _ _ _ _ (F0 m pc lsA (Value.int (Int32.ofInt x) :: cv ad (vR o) :: st.map (cv ad)))
  rw [cv_R hne0]
  exact cput_core (M2 := c_gs M o k) C true hP hS hn hd hf hp hnm hk ho rfl rfl rfl (gs_off M o k) (fun cs hlay => by show Value.int (Int32.ofInt (if gL (c_gs M o k).2.1 o k = true then cs.getD d 0 else 0)) = _; rw [if_pos (gs_on M o k), hx]; unfold cst; rw [hlay]) (fun H1 locs1 z1 hP1 hS1 => h H1 locs1 lsA hl (st_tl (st_tl hs)) (cfresh_gs hfr ho) hn hn0 (by rw [z1]; exact hz) hP1 hS1 hL)
theorem cx_putR (C : XCX p R s m args meth c cc own fr lo nL n0 n1 base D ad cA) {pc : Nat} {ls : List (Nat × PV)} {st : List PV} {M : CM} {o idx ci k d : Nat} {r : Nat} {ty : FieldType} (hd : decode cc pc = .ok (.putfield idx, 3)) (hf : xFld own idx ci k 2 d) (hp : ∃ C T N, vwCl[ci]? = some (C, T, N) ∧ (T k).2.2.2 = true ∧ parseFieldDescriptor (T k).2.2.1 = some ty ∧ C = own) (hnm : meth.name = "<init>") (hk : isK o ci) (ho : o ≤ M.1) (hty : (∃ C, ty = .object C) ∨ ∃ t, ty = .array t) (hr : r = o + d) (h : XCP p l e R s m args below meth c nL n0 base D ad cA Q (pc + 3) ls st (c_gs M o k)) : XCP p l e R s m args below meth c nL n0 base D ad cA Q pc ls (vR r :: vR o :: st) M := by
  intro H locs lsA hl hs hfr hn hn0 hz hP hS hL
  have hne0 : o ≠ 0 := by obtain ⟨cs, hlay⟩ := isK_cs hk; exact lay_ne0 hlay
  show W _ _ _ _ _ _ _ _ _ _ _ _ _ _ _ (F0 m pc lsA (cv ad (vR r) :: cv ad (vR o) :: st.map (cv ad)))
  rw [cv_R hne0]
  exact cput_core (M2 := c_gs M o k) C true hP hS hn hd hf hp hnm hk ho (by rw [cv_R (by omega)]; rcases hty with ⟨_, rfl⟩ | ⟨_, rfl⟩ <;> rfl) (by rw [cv_R (by omega)]; rcases hty with ⟨_, rfl⟩ | ⟨_, rfl⟩ <;> rfl) rfl (gs_off M o k) (fun cs hlay => by show (if gL (c_gs M o k).2.1 o k = true then Value.ref (ad (o + d)) else .null) = _; rw [if_pos (gs_on M o k), cv_R (by omega), hr]) (fun H1 locs1 z1 hP1 hS1 => h H1 locs1 lsA hl (st_tl (st_tl hs)) (cfresh_gs hfr ho) hn hn0 (by rw [z1]; exact hz) hP1 hS1 hL)
theorem cx_putN (C : XCX p R s m args meth c cc own fr lo nL n0 n1 base D ad cA) {pc : Nat} {ls : List (Nat × PV)} {st : List PV} {M : CM} {o idx ci k d : Nat} {ty : FieldType} (hd : decode cc pc = .ok (.putfield idx, 3)) (hf : xFld own idx ci k 3 d) (hp : ∃ C T N, vwCl[ci]? = some (C, T, N) ∧ (T k).2.2.2 = false ∧ parseFieldDescriptor (T k).2.2.1 = some ty ∧ C = own) (hnm : meth.name = "<init>") (hk : isK o ci) (ho : o ≤ M.1) (hty : (∃ C, ty = .object C) ∨ ∃ t, ty = .array t) (h : XCP p l e R s m args below meth c nL n0 base D ad cA Q (pc + 3) ls st (c_fs M o k 0)) : XCP p l e R s m args below meth c nL n0 base D ad cA Q pc ls (vR 0 :: vR o :: st) M := by
  intro H locs lsA hl hs hfr hn hn0 hz hP hS hL
  have hne0 : o ≠ 0 := by obtain ⟨cs, hlay⟩ := isK_cs hk; exact lay_ne0 hlay
  show W _ _ _ _ _ _ _ _ _ _ _ _ _ _ _ (F0 m pc lsA (Value.null :: cv ad (vR o) :: st.map (cv ad)))
  rw [cv_R hne0]
  exact cput_core (M2 := c_fs M o k 0) C false hP hS hn hd hf hp hnm hk ho (by rcases hty with ⟨_, rfl⟩ | ⟨_, rfl⟩ <;> rfl) (by rcases hty with ⟨_, rfl⟩ | ⟨_, rfl⟩ <;> rfl) rfl (fs_off M o k 0) (fun cs _ => by show (if (mset (fL M.2.2) o k 0 o k).toNat = 0 then Value.null else _) = _; rw [mset_eq]; rfl) (fun H1 locs1 z1 hP1 hS1 => h H1 locs1 lsA hl (st_tl (st_tl hs)) (cfresh_fs hfr ho) hn hn0 (by rw [z1]; exact hz) hP1 hS1 hL)
theorem cx_iastore (C : XCX p R s m args meth c cc own fr lo nL n0 n1 base D ad cA) {pc : Nat} {ls : List (Nat × PV)} {st : List PV} {M : CM} {o : Nat} {i x : Int} (hd : decode cc pc = .ok (.iastore, 1)) (ha : isA o 0) (ho : o ≤ M.1) (h0 : 0 ≤ i) (h1 : i < (alen o : Int)) (h : XCP p l e R s m args below meth c nL n0 base D ad cA Q (pc + 1) ls st (c_fs M o i.toNat x)) : XCP p l e R s m args below meth c nL n0 base D ad cA Q pc ls (vI x :: vI i :: vR o :: st) M := by
  intro H locs lsA hl hs hfr hn hn0 hz hP hS hL
  have hlay := isA_n ha
  have hi : in32 i := st_hd (st_tl hs)
  have ecl := cl_of h0 hi
  have hin := vpin_of h0 hi h1
  show W _ _ _ _ _ _ _ _ _ _ _ _ _ _ _ (F0 m pc lsA (Value.int (Int32.ofInt x) :: Value.int (Int32.ofInt i) :: cv ad (vR o) :: st.map (cv ad)))
  rw [cv_R (lay_ne0 hlay)]
  have he := xWsG_at ad cA M hlay ho
  have hD := xWsG_D C.2.2.2.2.2.2.1 cA hn
  refine W.iast C.1 C.2.1 (hP (o - 1) _ he) (((C.2.2.2.2.2.1).2 0 _ rfl).1 (alen o) (fun j => .int (Int32.ofInt (fL M.2.2 o j)))) (fun q => by cases q) (by show ¬ (Int32.ofInt i < 0 ∨ (arrV _ _ _).slots.size ≤ _); rw [arrV_size]; exact hin) rfl rfl hd fun H1 e z oq => ?_
  rw [ecl] at e
  have h9 := hP.set hD he (e := xekG ad cA (c_fs M o i.toNat x) o (.inr (.inl (0, alen o)))) (by
    show H1[ad o]? = some (vp_cell (cA 0) (alen o, .inl fun k => Int32.ofInt (mset (fL M.2.2) o i.toNat x o k)))
    rw [e]
    show some ((arrV (cA 0) (alen o) (fun j => .int (Int32.ofInt (fL M.2.2 o j)))).setSlot i.toNat (.int (Int32.ofInt x))) = some (arrV (cA 0) (alen o) (fun k => .int (Int32.ofInt (mset (fL M.2.2) o i.toNat x o k))))
    rw [arrV_store]
    congr 2
    funext q
    by_cases hq : q = i.toNat
    · subst hq; simp [updV, mset_eq]
    · simp [updV, hq, mset]) oq
  rw [xWsG_set (M' := c_fs M o i.toNat x) hlay ho rfl (fun o' k' hne => fs_off M o i.toNat x o' k' (fun q => hne q.1)) rfl] at h9
  exact h H1 _ lsA hl (st_tl (st_tl (st_tl hs))) (cfresh_fs hfr ho) hn hn0 (by rw [z]; exact hz) h9 (hS.put z oq ⟨o, _, hlay, rfl⟩) hL
theorem cx_aastore (C : XCX p R s m args meth c cc own fr lo nL n0 n1 base D ad cA) {pc : Nat} {ls : List (Nat × PV)} {st : List PV} {M : CM} {o ci cj r : Nat} {i : Int} {C0 : String} {T : u_T} {N : Nat} (hd : decode cc pc = .ok (.aastore, 1)) (ha : isRA o ci) (ho : o ≤ M.1) (h0 : 0 ≤ i) (h1 : i < (alen o : Int)) (hr : r = aref o i.toNat) (hk : isK r ci) (hrn : r ≤ M.1) (hc : vwCl[ci]? = some (C0, T, N)) (hci : ∃ t0 : Nat, (xTys cA)[t0]? = some (cA (10 + ci), .object C0)) (h : XCP p l e R s m args below meth c nL n0 base D ad cA Q (pc + 1) ls st (c_gs M o i.toNat)) : XCP p l e R s m args below meth c nL n0 base D ad cA Q pc ls (vR r :: vI i :: vR o :: st) M := by
  intro H locs lsA hl hs hfr hn hn0 hz hP hS hL
  obtain ⟨b, sp, hlay, har⟩ := isRA_n ha
  obtain ⟨cs, hlr⟩ := isK_cs hk
  have hi : in32 i := st_hd (st_tl hs)
  have ecl := cl_of h0 hi
  have hin := vpin_of h0 hi h1
  show W _ _ _ _ _ _ _ _ _ _ _ _ _ _ _ (F0 m pc lsA (cv ad (vR r) :: Value.int (Int32.ofInt i) :: cv ad (vR o) :: st.map (cv ad)))
  rw [cv_R (lay_ne0 hlay), cv_R (lay_ne0 hlr)]
  have he := xWsG_at ad cA M hlay ho
  have hD := xWsG_D C.2.2.2.2.2.2.1 cA hn
  obtain ⟨r', hr', cellV, g1, g2, g3, -⟩ := hP (r - 1) _ (xWsG_at ad cA M hlr hrn)
  have hr2 : r' = (C0, T, N) := Option.some.inj (hr'.symm.trans hc)
  subst hr2
  have hcls := ((C.2.2.2.2.2.1).1 ci _ hc).2
  obtain ⟨t0, ht0⟩ := hci
  obtain ⟨kA, comp, k1, k2, k3, -⟩ := ((C.2.2.2.2.2.1).2 t0 _ ht0).2
  have hcomp : comp = D.1 ci := Option.some.inj (k3.symm.trans hcls.1)
  subst hcomp
  obtain ⟨kC, hkC, -⟩ := hcls.2
  refine W.aast C.1 C.2.1 (hP (o - 1) _ he) (fun q h => by cases h) (fun h => by cases h) k1 k2 rfl hkC ⟨fun q => hin (Or.inl q), by show (Int32.ofInt i).toNatClampNeg < (arrV (cA (10 + ci)) (alen o) _).slots.size; rw [arrV_size, ecl]; omega⟩ g1 (fun q h => by rw [g3] at h; cases h) (by rw [g2]; exact hkC) (by rw [g2]; exact va_assign hcls) rfl rfl hd fun H1 e z oq => ?_
  rw [ecl] at e
  have h9 := hP.set hD he (e := xekG ad cA (c_gs M o i.toNat) o (.inr (.inr (ci, alen o, b, sp)))) (by
    show H1[ad o]? = some (vp_cell (cA (10 + ci)) (alen o, .inr (.inr (.inr (.inr fun k => if gL ((o, i.toNat) :: M.2.1) o k = true then some (ad (o + b + sp * k)) else none)))))
    rw [e]
    show some ((arrV (cA (10 + ci)) (alen o) (fun j => va_rf (if gL M.2.1 o j = true then some (ad (o + b + sp * j)) else none))).setSlot i.toNat (.ref (ad r))) = some (arrV (cA (10 + ci)) (alen o) (fun k => va_rf (if gL ((o, i.toNat) :: M.2.1) o k = true then some (ad (o + b + sp * k)) else none)))
    rw [arrV_store]
    congr 2
    funext q
    rw [gL_cons]
    by_cases hq : q = i.toNat
    · subst hq
      rw [hr, har]
      simp [updV, va_rf]
    · simp [updV, hq]) oq
  rw [xWsG_set (M' := c_gs M o i.toNat) hlay ho rfl (fun o' k' hne => gs_off M o i.toNat o' k' (fun q => hne q.1)) rfl] at h9
  exact h H1 _ lsA hl (st_tl (st_tl (st_tl hs))) (cfresh_gs hfr ho) hn hn0 (by rw [z]; exact hz) h9 (hS.put z oq ⟨o, _, hlay, rfl⟩) hL
theorem cx_objInit (C : XCX p R s m args meth c cc own fr lo nL n0 n1 base D ad cA) {pc : Nat} {ls : List (Nat × PV)} {st : List PV} {M : CM} {o idx : Nat} (hd : decode cc pc = .ok (.invokespecial idx, 3)) (hlink : Cond.methodLink own idx objectInit ∈ xw_T) (hin0 : Cond.instanceMethod objectInit ∈ xw_T) (hcd : Cond.code objectInit ⟨#[0xb1]⟩ 1 none ∈ xw_T) (ho : o ≠ 0) (hw : xcats st ≤ 8) (hfr1 : 1 ≤ fr) (hlo1 : 20 ≤ lo) (h : XCP p l e R s m args below meth c nL n0 base D ad cA Q (pc + 3) ls st M) : XCP p l e R s m args below meth c nL n0 base D ad cA Q pc ls (vR o :: st) M := by
  intro H locs lsA hl hs hfr hn hn0 hz hP hS hL
  show W _ _ _ _ _ _ _ _ _ _ _ _ _ _ _ (F0 m pc lsA (cv ad (vR o) :: st.map (cv ad)))
  rw [cv_R ho]
  refine W.objInit C.1 C.2.1 C.2.2.2.1 (C.2.2.2.2.1 _ hlink) (C.2.2.2.2.1 _ hin0) (C.2.2.2.2.1 _ hcd) rfl (hL.1.trans C.2.2.1.symm) rfl hd (by rw [C.2.2.2.2.2.2.2.2.1]; exact hfr1) (by rw [C.2.2.2.2.2.2.2.2.2.1]; show 2 * 0 + _ + 12 ≤ lo; rw [xcats_map]; omega) ?_
  exact h H locs lsA hl (st_tl hs) hfr hn hn0 hz hP hS hL
theorem cblind (D : va_G) (ad : Nat → Nat) (cA : Nat → ClassId) (base : Nat) (As : List PV) (M : CM) : FrameBlind (xPcC D ad cA base As M) := by
  intro a U g mk ⟨h1, h2, h3, h4, h5⟩
  exact ⟨h1, h2, h3, va_K.moved (u := U) (U := U.calling g mk a) (Vm.Alike.refl U.vm) h4, xAO.moved (u := U) (U := U.calling g mk a) (Vm.Alike.refl U.vm) h5⟩
theorem cx_callI' (C : XCX p R s m args meth c cc own fr lo nL n0 n1 base D ad cA) {pc : Nat} {ls : List (Nat × PV)} {st : List PV} {M : CM} {o idx n : Nat} {y : MethodName} {cc' : ByteArray} {nL' fr' lo' mc ms : Nat} {As rest : List PV} {M1 : CM} (hd : decode cc pc = .ok (.invokespecial idx, 3)) (hct : cfresh M → xCC y cc' nL' fr' lo' mc ms (vR o :: As) M M1) (hfr1 : fr' + 1 ≤ fr) (hlo1 : 8 + (nL' + 11) + lo' ≤ lo) (hcode : Cond.code y cc' nL' none ∈ xw_T) (hlink : Cond.methodLink own idx y ∈ xw_T) (hini : Cond.initialized y.cls ∈ xw_T) (hin0 : Cond.instanceMethod y ∈ xw_T) (hyn : y.name = "<init>") (hy : y.cls ≠ "java/lang/invoke/MethodHandle" ∧ y.cls ≠ "java/lang/invoke/VarHandle" ∧ (parseMethodDescriptor y.desc).map (fun d => d.parameters.length) = some n) (ho : o ≠ 0) (hn2 : As.length = n) (hst : st = As.reverse ++ vR o :: rest) (hw : xcats rest ≤ 8) (hM1 : M1.1 = M.1 + mc) (hMs : ssum M1.1 = ssum M.1 + ms) (hML : M1.1 ≤ layN) (hM : M1.1 ≤ n1) (hfr2 : cfresh M → cfresh M1) (h : XCP p l e R s m args below meth c nL n0 base D ad cA Q (pc + 3) ls rest M1) : XCP p l e R s m args below meth c nL n0 base D ad cA Q pc ls st M := by
  intro H locs lsA hl hs hfr hn hn0 hz hP hS hL
  subst hst
  have hMet := hct hfr l D ad cA base C.2.2.2.2.2.2.1
  have h5 := ssum_le hM
  have h9 := ssum_le hn0
  have h6 := C.2.2.2.2.2.2.2.2.2.2.1
  have h7 := C.2.2.2.2.2.2.2.2.2.2.2.1
  have hcv : (vR o :: As).map (cv ad) = Value.ref (ad o) :: As.map (cv ad) := by rw [List.map_cons, cv_R ho]
  have hCB : CallB R s args own idx y cc' nL' none (Cond.code y cc' nL' none :: xw_T) { frames := fr', cells := mc, slots := ms, locals := lo' } mc ms n :=
    callB_of n C.2.2.2.2.1 (xgood hcode) rfl rfl rfl (C.2.2.2.2.1 _ hini) (C.2.2.2.2.1 _ hlink) hy ⟨by show fr' + 1 ≤ R.frames; rw [C.2.2.2.2.2.2.2.2.1]; exact hfr1, by show 8 + (nL' + 11) + lo' ≤ R.locals; rw [C.2.2.2.2.2.2.2.2.2.1]; exact hlo1⟩
  have hrun := va_runI (locs := locs) (below := below) (meth := meth) (e := e) (cells := M.1 - n0) (slots := ssum M.1 - ssum n0) (As := As.map (cv ad)) (rest := rest.map (cv ad)) (b := ad o) (g := F0 m pc lsA ((As.reverse ++ vR o :: rest).map (cv ad))) (H := H) ⟨C.1, C.2.1, C.2.2.1, C.2.2.2.1, C.2.2.2.2.1⟩ hMet ⟨hCB, hyn, C.2.2.2.2.1 _ hin0⟩
    ⟨cblind D ad cA base _ M, fun U hU hW => ⟨by rw [hcv], by rw [hU]; exact hz, by rw [hU]; exact hP, va_K.moved hW.alike C.2.2.2.2.2.1, xAO.moved hW.alike C.2.2.2.2.2.2.2.2.2.2.2.2.2⟩⟩
    rfl (by rw [List.length_map]; exact hn2) hL.1 (by show (As.reverse ++ vR o :: rest).map (cv ad) = _; rw [List.map_append, revmap, List.map_cons, cv_R ho]) (by show 2 * 0 + _ ≤ 8; rw [xcats_map]; omega) hd ⟨by omega, by omega⟩
  intro T hT X
  obtain ⟨v, st₀, t, T', L, h0, X', hL2, e1, e2, ⟨⟨hv, hz1, hP1⟩, hzz, hkk⟩, stt⟩ := hrun T hT X
  cases hv
  rw [h0] at hzz hkk
  have hS' : va_S (xA ad) s.heap T'.heap (locs ++ L) := ⟨Nat.le_trans hS.1 (by rw [e1]; exact hzz), fun q h1 h2 => by rw [e1, hkk q (Nat.lt_of_lt_of_le h1 hS.1) h2]; exact hS.2.1 q h1 h2, fun q hq => by
      rcases List.mem_append.mp hq with h | h
      · exact hS.2.2 q h
      · exact hL2 q h⟩
  have h2 := h T'.heap (locs ++ L) lsA hl (fun u hu => hs u (List.mem_append_right _ (List.mem_cons_of_mem _ hu))) (hfr2 hfr) hML (by omega) (by rw [e1]; exact hz1) (by rw [e1]; exact hP1) hS' hL
  have q1 : M1.1 - n0 = M.1 - n0 + mc := by omega
  have q2 : ssum M1.1 - ssum n0 = ssum M.1 - ssum n0 + ms := by omega
  rw [q1, q2] at h2
  obtain ⟨t2, a1, b1⟩ := h2 T' rfl X'
  exact ⟨t2, stt t2 a1, b1⟩
theorem cx_return (C : XCX p R s m args meth c cc own fr lo nL n0 n1 base D ad cA) {pc : Nat} {ls : List (Nat × PV)} {M : CM} (hd : decode cc pc = .ok (.return_, 1)) (hr : meth.sig.returnType = none) (hM : M.1 = n1) : XCP p l e R s m args below meth c nL n0 base D ad cA (MQ below (xQcC D ad cA base M) args s (n1 - n0) (ssum n1 - ssum n0) (xA ad)) pc ls [] M := by
  subst hM
  intro H locs lsA hl hs hfr hn hn0 hz hP hS hL
  exact W.vret C.1 C.2.1 hr (fun t ht hW => ⟨⟨rfl, by rw [ht]; exact hz, by rw [ht]; exact hP⟩, hS.F ht⟩) hS.2.2 hd C.2.2.2.2.2.2.2.1
theorem gk_gs {M : CM} {o k o' k' : Nat} (h : gL M.2.1 o k = true) : gL (c_gs M o' k').2.1 o k = true := by show gL ((o', k') :: M.2.1) o k = true; rw [gL_cons, h, Bool.or_true]
theorem gk_fs {M : CM} {o k o' k' : Nat} {v : Int} (h : gL M.2.1 o k = true) : gL (c_fs M o' k' v).2.1 o k = true := h
theorem gk_al {M : CM} {o k : Nat} (h : gL M.2.1 o k = true) : gL (c_al M).2.1 o k = true := h
theorem gk_app {A L : List (Nat × Nat)} {o k : Nat} (h : gL L o k = true) : gL (A ++ L) o k = true := by
  unfold gL at *
  rw [List.contains_iff_mem] at *
  exact List.mem_append_right _ h
theorem xmax0 {a : Int} (h : 0 ≤ a) : xmax 0 a = a := by unfold xmax; split <;> omega
end XC2
