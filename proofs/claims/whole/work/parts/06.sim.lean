theorem xcat_cv (ad : Nat → Nat) (v : PV) : (cv ad v).category = xcat v := by
  rcases v with x | o | z
  · rfl
  · show (if o = 0 then Value.null else Value.ref (ad o)).category = 1
    split <;> rfl
  · rfl
theorem cv_R {ad : Nat → Nat} {o : Nat} (h : o ≠ 0) : cv ad (vR o) = .ref (ad o) := if_neg h
theorem cv_R0 {ad : Nat → Nat} : cv ad (vR 0) = .null := rfl
def cvp (ad : Nat → Nat) (q : Nat × PV) : Nat × Value := (q.1, cv ad q.2)
theorem lset_map (ad : Nat → Nat) (ls : List (Nat × PV)) (i : Nat) (v : PV) : (lset ls i v).map (cvp ad) = (i, cv ad v) :: (ls.map (cvp ad)).filter (fun q => !(q.1 == i) && !(q.1 + 1 == i && q.2.category == 2)) := by
  unfold lset
  rw [List.map_cons, List.filter_map]
  congr 2
  apply List.filter_congr
  intro q _
  simp [cvp, xcat_cv, Function.comp]
theorem lset2_map (ad : Nat → Nat) (ls : List (Nat × PV)) (i : Nat) (v : PV) : (lset2 ls i v).map (cvp ad) = (i, cv ad v) :: (ls.map (cvp ad)).filter (fun q => !(q.1 == i) && (!(q.1 == i + 1) && !(q.1 + 1 == i && q.2.category == 2))) := by
  unfold lset2
  rw [List.map_cons, List.filter_map]
  congr 2
  apply List.filter_congr
  intro q _
  simp [cvp, xcat_cv, Function.comp]
theorem lset_ok {ls : List (Nat × PV)} {i : Nat} {v : PV} (h : ∀ q ∈ ls, okV q.2) (hv : okV v) : ∀ q ∈ lset ls i v, okV q.2 := by
  intro q hq
  rcases List.mem_cons.mp hq with rfl | hq
  · exact hv
  · exact h q (List.mem_filter.mp hq).1
theorem lset2_ok {ls : List (Nat × PV)} {i : Nat} {v : PV} (h : ∀ q ∈ ls, okV q.2) (hv : okV v) : ∀ q ∈ lset2 ls i v, okV q.2 := by
  intro q hq
  rcases List.mem_cons.mp hq with rfl | hq
  · exact hv
  · exact h q (List.mem_filter.mp hq).1
theorem xl_get {ad : Nat → Nat} {lsA : Array Slot} {nL : Nat} {ls : List (Nat × PV)} (h : lv_has lsA nL (ls.map (cvp ad))) {j k : Nat} {v : PV} (hj : ls[j]? = some (k, v)) : lsA[k]? = some (.val (cv ad v)) :=
  lv_at h j (by rw [List.getElem?_map, hj]; rfl)
theorem xl_ok {ls : List (Nat × PV)} (h : ∀ q ∈ ls, okV q.2) {j k : Nat} {v : PV} (hj : ls[j]? = some (k, v)) : okV v := h _ (List.mem_of_getElem? hj)
theorem st_cons {v : PV} {st : List PV} (hv : okV v) (h : ∀ u ∈ st, okV u) : ∀ u ∈ v :: st, okV u := fun u hu => (List.mem_cons.mp hu).elim (fun e => e ▸ hv) (h u)
theorem st_hd {v : PV} {st : List PV} (h : ∀ u ∈ v :: st, okV u) : okV v := h v List.mem_cons_self
theorem st_tl {v : PV} {st : List PV} (h : ∀ u ∈ v :: st, okV u) : ∀ u ∈ st, okV u := fun u hu => h u (List.mem_cons_of_mem _ hu)
theorem layN_lt {o : Nat} {k : KD} (h : lay o = some k) : o - 1 < layN := by have := lay_le h; omega
theorem xWs_at (ad : Nat → Nat) (cA : Nat → ClassId) (F : Mem) {o : Nat} {k : KD} (h : lay o = some k) : (xWs ad cA F)[o - 1]? = some (ad o, xek ad cA F o k) := by
  have h1 := lay_le h
  unfold xWs
  rw [List.getElem?_map, List.getElem?_range (layN_lt h)]
  show some (ad (o - 1 + 1), xe ad cA F (o - 1 + 1)) = _
  rw [Nat.sub_add_cancel h1.1]
  unfold xe
  rw [h]
theorem lay_ne0 {o : Nat} {k : KD} (h : lay o = some k) : o ≠ 0 := fun e => by rw [e] at h; cases h
theorem xek_off {ad : Nat → Nat} {cA : Nat → ClassId} {F F' : Mem} {o : Nat} (h : ∀ k, F' o k = F o k) (kd : KD) : xek ad cA F' o kd = xek ad cA F o kd := by
  rcases kd with ⟨ci, cs⟩ | ⟨t, n⟩ | ⟨ci, n, b, s⟩
  · show Sum.inr (ci, xfs ad F' o cs ci) = Sum.inr (ci, xfs ad F o cs ci)
    have : xfs ad F' o cs ci = xfs ad F o cs ci := by
      unfold xfs
      congr 1
      funext k q
      unfold xfv
      rw [h k]
    rw [this]
  · unfold xek
    simp only [h]
  · rfl
theorem xWs_set {ad : Nat → Nat} {cA : Nat → ClassId} {F F' : Mem} {o : Nat} {kd : KD} {e : va_E} (ho : lay o = some kd) (h : ∀ o' k, o' ≠ o → F' o' k = F o' k) (he : e = xek ad cA F' o kd) : (xWs ad cA F).set (o - 1) (ad o, e) = xWs ad cA F' := by
  subst he
  have h1 := lay_le ho
  apply List.ext_getElem?
  intro i
  rw [List.getElem?_set]
  by_cases hi : o - 1 = i
  · subst hi
    rw [if_pos rfl, xWs_at ad cA F' ho, if_pos (by unfold xWs; rw [List.length_map, List.length_range]; exact layN_lt ho)]
  · rw [if_neg hi]
    unfold xWs
    rw [List.getElem?_map, List.getElem?_map]
    by_cases hN : i < layN
    · rw [List.getElem?_range hN]
      show some (ad (i + 1), xe ad cA F (i + 1)) = some (ad (i + 1), xe ad cA F' (i + 1))
      have : xe ad cA F (i + 1) = xe ad cA F' (i + 1) := by
        unfold xe
        cases lay (i + 1) with
        | none => rfl
        | some kd => exact (xek_off (fun k => h (i + 1) k (by omega)) kd).symm
      rw [this]
    · rw [List.getElem?_eq_none (by rw [List.length_range]; omega)]; rfl
theorem xfs_get {ad : Nat → Nat} {F : Mem} {o : Nat} {cs : List Int} {ci k : Nat} {q : Nat × Nat} (h : (cfd ci)[k]? = some q) : (xfs ad F o cs ci)[k]? = some (xfv ad F o cs k q) := by
  unfold xfs
  rw [List.getElem?_mapIdx, h]; rfl
theorem xfs_len (ad : Nat → Nat) (F : Mem) (o : Nat) (cs : List Int) (ci : Nat) : (xfs ad F o cs ci).length = (cfd ci).length := by unfold xfs; rw [List.length_mapIdx]
theorem xfs_set {ad : Nat → Nat} {F : Mem} {o : Nat} {cs : List Int} {ci k : Nat} {q : Nat × Nat} {x : Int} {v : Value} (hq : (cfd ci)[k]? = some q) (hv : xfv ad (mset F o k x) o cs k q = v) : (xfs ad F o cs ci).set k v = xfs ad (mset F o k x) o cs ci := by
  apply List.ext_getElem?
  intro i
  rw [List.getElem?_set, xfs_len]
  by_cases hi : k = i
  · subst hi
    rw [if_pos rfl, xfs_get hq, hv, if_pos (List.getElem?_eq_some_iff.mp hq).1]
  · rw [if_neg hi]
    unfold xfs
    rw [List.getElem?_mapIdx, List.getElem?_mapIdx]
    cases (cfd ci)[i]? with
    | none => rfl
    | some q' =>
      show some (xfv ad F o cs i q') = some (xfv ad (mset F o k x) o cs i q')
      unfold xfv
      rw [mset_ne F x (fun e => hi e.2.symm)]
theorem mset_off (F : Mem) (o k : Nat) (x : Int) : ∀ o' k', o' ≠ o → mset F o k x o' k' = F o' k' := fun o' k' h => mset_ne F x (fun e => h e.1)
/-! what the printed tables say of the classes -/
def tyAll (ci : Nat) : Nat → FieldType := match ci with
  | 0 => tyX0 | 1 => tyX1 | 2 => tyX2 | 3 => tyX3 | 4 => tyX4 | 5 => tyX5 | 6 => tyX6 | 7 => tyX7 | 8 => tyX8 | 9 => tyX9 | _ => tyX10
theorem xinT {w : Cond} (i : Nat) (h : lw_tbl[i]? = some w) (hg : goodWord w = true) : w ∈ xw_T := List.mem_filter.mpr ⟨List.mem_of_getElem? h, hg⟩
theorem xinL {ws : List Cond} (ps : List Nat) (hp : ws = ps.filterMap (fun i => lw_tbl[i]?)) (hg : ws.all goodWord = true) : ∀ w ∈ ws, w ∈ xw_T := by
  intro w hw
  have h1 := List.all_eq_true.mp hg w hw
  rw [hp] at hw
  obtain ⟨i, -, hi⟩ := List.mem_filterMap.mp hw
  exact xinT i hi h1
theorem uin0 : ∀ w ∈ u_ws RX0 TX0 7, w ∈ xw_T := xinL [341, 343, 345, 347, 349, 351, 353] (by decide +kernel) (by decide +kernel)
theorem uin1 : ∀ w ∈ u_ws RX1 TX1 13, w ∈ xw_T := xinL [406, 408, 410, 412, 414, 416, 418, 420, 422, 424, 426, 428, 430] (by decide +kernel) (by decide +kernel)
theorem uin2 : ∀ w ∈ u_ws RX2 TX2 13, w ∈ xw_T := xinL [295, 297, 299, 301, 303, 305, 307, 309, 311, 313, 315, 317, 319] (by decide +kernel) (by decide +kernel)
theorem uin3 : ∀ w ∈ u_ws RX3 TX3 4, w ∈ xw_T := xinL [176, 178, 180, 182] (by decide +kernel) (by decide +kernel)
theorem uin4 : ∀ w ∈ u_ws RX4 TX4 9, w ∈ xw_T := xinL [249, 251, 253, 255, 257, 259, 261, 263, 265] (by decide +kernel) (by decide +kernel)
theorem uin5 : ∀ w ∈ u_ws RX5 TX5 5, w ∈ xw_T := xinL [480, 482, 484, 486, 488] (by decide +kernel) (by decide +kernel)
theorem uin6 : ∀ w ∈ u_ws RX6 TX6 6, w ∈ xw_T := xinL [450, 452, 454, 456, 458, 460] (by decide +kernel) (by decide +kernel)
theorem uin7 : ∀ w ∈ u_ws RX7 TX7 7, w ∈ xw_T := xinL [219, 221, 223, 225, 227, 229, 231] (by decide +kernel) (by decide +kernel)
theorem uin8 : ∀ w ∈ u_ws RX8 TX8 5, w ∈ xw_T := xinL [371, 373, 375, 377, 379] (by decide +kernel) (by decide +kernel)
theorem uin9 : ∀ w ∈ u_ws RX9 TX9 10, w ∈ xw_T := xinL [501, 503, 505, 507, 509, 511, 513, 515, 517, 519] (by decide +kernel) (by decide +kernel)
theorem uin10 : ∀ w ∈ u_ws RX10 TX10 48, w ∈ xw_T := xinL [1375, 1377, 1379, 1381, 1383, 1385, 1387, 1389, 1391, 1393, 1395, 1397, 1399, 1401, 1403, 1405, 1407, 1409, 1411, 1413, 1415, 1417, 1419, 1421, 1423, 1425, 1427, 1429, 1431, 1433, 1435, 1437, 1439, 1441, 1443, 1445, 1447, 1449, 1451, 1453, 1455, 1457, 1459, 1461, 1463, 1465, 1467, 1469] (by decide +kernel) (by decide +kernel)
theorem cl_in {ci : Nat} {C : String} {T : u_T} {N : Nat} (h : vwCl[ci]? = some (C, T, N)) : (∀ w ∈ u_ws C T N, w ∈ xw_T) ∧ (∀ k, k < N → parseFieldDescriptor (T k).2.2.1 = some (tyAll ci k)) ∧ (∀ a, a < N → ∀ b, b < N → a ≠ b → (T a).2.1 ≠ (T b).2.1) := by
  match ci, h with
  | 0, h => cases h; exact ⟨uin0, tyX0_ok, nmX0⟩
  | 1, h => cases h; exact ⟨uin1, tyX1_ok, nmX1⟩
  | 2, h => cases h; exact ⟨uin2, tyX2_ok, nmX2⟩
  | 3, h => cases h; exact ⟨uin3, tyX3_ok, nmX3⟩
  | 4, h => cases h; exact ⟨uin4, tyX4_ok, nmX4⟩
  | 5, h => cases h; exact ⟨uin5, tyX5_ok, nmX5⟩
  | 6, h => cases h; exact ⟨uin6, tyX6_ok, nmX6⟩
  | 7, h => cases h; exact ⟨uin7, tyX7_ok, nmX7⟩
  | 8, h => cases h; exact ⟨uin8, tyX8_ok, nmX8⟩
  | 9, h => cases h; exact ⟨uin9, tyX9_ok, nmX9⟩
  | 10, h => cases h; exact ⟨uin10, tyX10_ok, nmX10⟩
  | n + 11, h => cases h
