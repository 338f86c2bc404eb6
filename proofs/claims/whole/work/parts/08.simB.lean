theorem mok_I {F : Mem} (hm : mok F) {o ci k d : Nat} {cs : List Int} (h : lay o = some (.inl (ci, cs))) (hq : (cfd ci)[k]? = some (0, d)) : in32 (F o k) := ((hm o _ h) k 0 d hq).1 rfl
theorem mok_M {F : Mem} (hm : mok F) {o ci k d : Nat} {cs : List Int} (h : lay o = some (.inl (ci, cs))) (hq : (cfd ci)[k]? = some (3, d)) : 0 ≤ F o k ∧ ((F o k).toNat = 0 ∨ xMut ci k (F o k).toNat) := ((hm o _ h) k 3 d hq).2 rfl
theorem mok_A {F : Mem} (hm : mok F) {o t n k : Nat} (h : lay o = some (.inr (.inl (t, n)))) (ht : t ≠ 3) (hk : k < n) : in32 (F o k) := by
  have h1 := (hm o _ h) k hk
  rw [if_neg ht] at h1
  exact h1
theorem mok_L {F : Mem} (hm : mok F) {o n k : Nat} (h : lay o = some (.inr (.inl (3, n)))) (hk : k < n) : in64 (F o k) := (hm o _ h) k hk
theorem mok_setO {F : Mem} (hm : mok F) {o ci k t d : Nat} {cs : List Int} {x : Int} (h : lay o = some (.inl (ci, cs))) (hq : (cfd ci)[k]? = some (t, d)) (hx : (t = 0 → in32 x) ∧ (t = 3 → 0 ≤ x ∧ (x.toNat = 0 ∨ xMut ci k x.toNat))) : mok (mset F o k x) := by
  intro o' kd hk
  have h0 := hm o' kd hk
  rcases kd with ⟨ci', cs'⟩ | ⟨t', n'⟩ | z
  · intro k' t' d' hq'
    by_cases he : o' = o ∧ k' = k
    · obtain ⟨rfl, rfl⟩ := he
      rw [h] at hk; cases hk
      rw [hq] at hq'; cases hq'
      rw [mset_eq]; exact hx
    · rw [mset_ne F x he]; exact h0 k' t' d' hq'
  · intro k' hk'
    rw [mset_ne F x (fun e => by rw [e.1, h] at hk; cases hk)]
    exact h0 k' hk'
  · trivial
theorem mok_setA {F : Mem} (hm : mok F) {o k t n : Nat} {x : Int} (h : lay o = some (.inr (.inl (t, n)))) (hx : if t = 3 then in64 x else in32 x) : mok (mset F o k x) := by
  intro o' kd hk
  have h0 := hm o' kd hk
  rcases kd with ⟨ci', cs'⟩ | ⟨t', n'⟩ | z
  · intro k' t' d' hq'
    rw [mset_ne F x (fun e => by rw [e.1, h] at hk; cases hk)]
    exact h0 k' t' d' hq'
  · intro k' hk'
    by_cases he : o' = o ∧ k' = k
    · obtain ⟨rfl, rfl⟩ := he
      rw [h] at hk; cases hk
      rw [mset_eq]; exact hx
    · rw [mset_ne F x he]; exact h0 k' hk'
  · trivial
theorem xWs_addr (ad : Nat → Nat) (cA : Nat → ClassId) (F F' : Mem) (k : Nat) (q : Nat × va_E) (h : (xWs ad cA F')[k]? = some q) : ∃ q', (xWs ad cA F)[k]? = some q' ∧ q'.1 = q.1 := by
  unfold xWs at *
  rw [List.getElem?_map] at *
  cases hr : (List.range layN)[k]? with
  | none => rw [hr] at h; cases h
  | some i => rw [hr] at h; cases h; exact ⟨_, rfl, rfl⟩
theorem xD_any {A : Nat → Prop} {ad : Nat → Nat} {cA : Nat → ClassId} {F : Mem} (F' : Mem) (h : va_D A (xWs ad cA F)) : va_D A (xWs ad cA F') := by
  refine ⟨fun i j q r hi hj hqr => ?_, fun k q hk => ?_⟩
  · obtain ⟨q', h1, h2⟩ := xWs_addr ad cA F F' i q hi
    obtain ⟨r', h3, h4⟩ := xWs_addr ad cA F F' j r hj
    exact h.1 i j q' r' h1 h3 (by rw [h2, h4]; exact hqr)
  · obtain ⟨q', h1, h2⟩ := xWs_addr ad cA F F' k q hk
    rw [← h2]; exact h.2 k q' h1
theorem xek_arr {ad : Nat → Nat} {cA : Nat → ClassId} {F : Mem} {o t n : Nat} (ht : t ≠ 3) : xek ad cA F o (.inr (.inl (t, n))) = .inl (cA t, n, .inl fun k => Int32.ofInt (F o k)) := by
  show (Sum.inl (cA t, n, if t = 3 then _ else _) : va_E) = _
  rw [if_neg ht]
theorem xWs_arr (ad : Nat → Nat) (cA : Nat → ClassId) (F : Mem) {o t : Nat} (h : isA o t) (ht : t ≠ 3) : (xWs ad cA F)[o - 1]? = some (ad o, .inl (cA t, alen o, .inl fun k => Int32.ofInt (F o k))) := by
  rw [xWs_at ad cA F (isA_n h), xek_arr ht]
theorem xWs_arrL (ad : Nat → Nat) (cA : Nat → ClassId) (F : Mem) {o : Nat} (h : isA o 3) : (xWs ad cA F)[o - 1]? = some (ad o, .inl (cA 3, alen o, .inr (.inl fun k => Int64.ofInt (F o k)))) := xWs_at ad cA F (isA_n h)
theorem xset_arr {ad : Nat → Nat} {cA : Nat → ClassId} {F : Mem} {o t k : Nat} {x : Int} {v : Int32} (h : isA o t) (ht : t ≠ 3) (hv : v = Int32.ofInt x) : (xWs ad cA F).set (o - 1) (ad o, .inl (cA t, alen o, .inl (upd (fun k => Int32.ofInt (F o k)) k v))) = xWs ad cA (mset F o k x) := by
  refine xWs_set (isA_n h) (mset_off F o k x) ?_
  rw [xek_arr ht, hv]
  congr 4
  funext j
  unfold upd
  by_cases hj : j = k
  · subst hj; rw [if_pos rfl, mset_eq]
  · rw [if_neg hj, mset_ne F x (fun e => hj e.2)]
theorem xset_arrL {ad : Nat → Nat} {cA : Nat → ClassId} {F : Mem} {o k : Nat} {x : Int} (h : isA o 3) : (xWs ad cA F).set (o - 1) (ad o, .inl (cA 3, alen o, .inr (.inl (vp_updL (fun k => Int64.ofInt (F o k)) k (Int64.ofInt x))))) = xWs ad cA (mset F o k x) := by
  refine xWs_set (isA_n h) (mset_off F o k x) ?_
  show (Sum.inl (cA 3, alen o, Sum.inr (Sum.inl _)) : va_E) = Sum.inl (cA 3, alen o, Sum.inr (Sum.inl _))
  congr 5
  funext j
  unfold vp_updL
  by_cases hj : j = k
  · subst hj; rw [if_pos rfl, mset_eq]
  · rw [if_neg hj, mset_ne F x (fun e => hj e.2)]
theorem xset_fld {ad : Nat → Nat} {cA : Nat → ClassId} {F : Mem} {o ci k t d : Nat} {cs : List Int} {x : Int} {v : Value} (h : lay o = some (.inl (ci, cs))) (hq : (cfd ci)[k]? = some (t, d)) (hv : xfv ad (mset F o k x) o cs k (t, d) = v) : (xWs ad cA F).set (o - 1) (ad o, .inr (ci, (xfs ad F o cs ci).set k v)) = xWs ad cA (mset F o k x) := by
  refine xWs_set h (mset_off F o k x) ?_
  show (Sum.inr (ci, (xfs ad F o cs ci).set k v) : va_E) = Sum.inr (ci, xfs ad (mset F o k x) o cs ci)
  rw [xfs_set hq hv]
section XS2
variable {p : Program} {l : Launch} {e : Env} {R : Room} {s : State} {m : MethodId} {args : Array Value} {below : List Frame} {meth : Method} {c : Code} {Q : State → Prop} {cc : ByteArray} {Z : XZ} {D : va_G} {ad : Nat → Nat} {cA : Nat → ClassId}
theorem x_getI (C : XCx p R s m args meth c cc Z D ad cA) : xr_getI cc Z (XWP p l e R s m args below meth c Z D ad cA Q) := by
  intro pc ls st F o idx ci k d hd hf hk h H locs lsA hm hl hs hP hD hS hL
  obtain ⟨C', T, N, hc', hkN, hCC, hw, hq⟩ := hf
  obtain ⟨cs, hlay⟩ := isK_cs hk
  show W _ _ _ _ _ _ _ _ _ _ _ _ _ _ _ (F0 m pc lsA (cv ad (vR o) :: st.map (cv ad)))
  rw [cv_R (lay_ne0 hlay)]
  refine va_get C.1 C.2.1 (ref := C') C.2.2.2.2.1 (cl_in hc').1 C.2.2.2.1 C.2.2.2.2.2.1 hP (o - 1) (xWs_at ad cA F hlay) hc' k hkN (C.2.2.2.2.1 _ hw) (fun x hx => hCC ▸ hx) (xfs_get hq) hd ?_
  exact h H locs lsA hm hl (st_cons (mok_I hm hlay hq) (st_tl hs)) hP hD hS hL
theorem x_getC (C : XCx p R s m args meth c cc Z D ad cA) : xr_getC cc Z (XWP p l e R s m args below meth c Z D ad cA Q) := by
  intro pc ls st F o idx ci k d hd hf hk hcst h H locs lsA hm hl hs hP hD hS hL
  obtain ⟨C', T, N, hc', hkN, hCC, hw, hq⟩ := hf
  obtain ⟨cs, hlay⟩ := isK_cs hk
  show W _ _ _ _ _ _ _ _ _ _ _ _ _ _ _ (F0 m pc lsA (cv ad (vR o) :: st.map (cv ad)))
  rw [cv_R (lay_ne0 hlay)]
  refine va_get C.1 C.2.1 (ref := C') C.2.2.2.2.1 (cl_in hc').1 C.2.2.2.1 C.2.2.2.2.2.1 hP (o - 1) (xWs_at ad cA F hlay) hc' k hkN (C.2.2.2.2.1 _ hw) (fun x hx => hCC ▸ hx) (xfs_get hq) hd ?_
  have h2 := h H locs lsA hm hl (st_cons hcst (st_tl hs)) hP hD hS hL
  rw [List.map_cons, show cv ad (vI (cst o d)) = Value.int (Int32.ofInt (cst o d)) from rfl, show cst o d = cs.getD d 0 from by unfold cst; rw [hlay]] at h2
  exact h2
theorem x_getR (C : XCx p R s m args meth c cc Z D ad cA) : xr_getR cc Z (XWP p l e R s m args below meth c Z D ad cA Q) := by
  intro pc ls st F o idx ci k d hd hf hk h H locs lsA hm hl hs hP hD hS hL
  obtain ⟨C', T, N, hc', hkN, hCC, hw, hq⟩ := hf
  obtain ⟨cs, hlay⟩ := isK_cs hk
  show W _ _ _ _ _ _ _ _ _ _ _ _ _ _ _ (F0 m pc lsA (cv ad (vR o) :: st.map (cv ad)))
  rw [cv_R (lay_ne0 hlay)]
  refine va_get C.1 C.2.1 (ref := C') C.2.2.2.2.1 (cl_in hc').1 C.2.2.2.1 C.2.2.2.2.2.1 hP (o - 1) (xWs_at ad cA F hlay) hc' k hkN (C.2.2.2.2.1 _ hw) (fun x hx => hCC ▸ hx) (xfs_get hq) hd ?_
  have h2 := h H locs lsA hm hl (st_cons trivial (st_tl hs)) hP hD hS hL
  rw [List.map_cons, cv_R (by have := lay_le hlay; omega)] at h2
  exact h2
theorem x_getM (C : XCx p R s m args meth c cc Z D ad cA) : xr_getM cc Z (XWP p l e R s m args below meth c Z D ad cA Q) := by
  intro pc ls st F o idx ci k d hd hf hk h H locs lsA hm hl hs hP hD hS hL
  obtain ⟨C', T, N, hc', hkN, hCC, hw, hq⟩ := hf
  obtain ⟨cs, hlay⟩ := isK_cs hk
  show W _ _ _ _ _ _ _ _ _ _ _ _ _ _ _ (F0 m pc lsA (cv ad (vR o) :: st.map (cv ad)))
  rw [cv_R (lay_ne0 hlay)]
  refine va_get C.1 C.2.1 (ref := C') C.2.2.2.2.1 (cl_in hc').1 C.2.2.2.1 C.2.2.2.2.2.1 hP (o - 1) (xWs_at ad cA F hlay) hc' k hkN (C.2.2.2.2.1 _ hw) (fun x hx => hCC ▸ hx) (xfs_get hq) hd ?_
  exact h (mok_M hm hlay hq).2 H locs lsA hm hl (st_cons trivial (st_tl hs)) hP hD hS hL
theorem x_putI (C : XCx p R s m args meth c cc Z D ad cA) : xr_putI cc Z (XWP p l e R s m args below meth c Z D ad cA Q) := by
  intro pc ls st F o idx ci k d x hd hf hp hk h H locs lsA hm hl hs hP hD hS hL
  obtain ⟨C', T, N, hc', hkN, hCC, hw, hq⟩ := hf
  obtain ⟨C2, T2, N2, hc2, hfin, hty2⟩ := hp
  rw [hc'] at hc2; cases hc2
  obtain ⟨cs, hlay⟩ := isK_cs hk
  have hin := cl_in hc'
  show W _ _ _ _ _ _ _ _ _ _ _ _ _ _ _ (F0 m pc lsA (Value.int (Int32.ofInt x) :: cv ad (vR o) :: st.map (cv ad)))
  rw [cv_R (lay_ne0 hlay)]
  refine va_put C.1 C.2.1 (ref := C') C.2.2.2.2.1 hin.1 (tyAll ci) hin.2.1 hin.2.2 C.2.2.2.1 C.2.2.2.2.2.1 hP hD hS (o - 1) (xWs_at ad cA F hlay) hc' k hkN (C.2.2.2.2.1 _ hw) (fun x hx => hCC ▸ hx) hfin hty2 rfl rfl (by rw [xfs_len]; exact (List.getElem?_eq_some_iff.mp hq).1) hd (fun H1 locs1 hP1 hD1 hS1 => ?_)
  have e : (xWs ad cA F).set (o - 1) (ad o, .inr (ci, (xfs ad F o cs ci).set k (.int (Int32.ofInt x)))) = xWs ad cA (mset F o k x) := xset_fld hlay hq (by show Value.int (Int32.ofInt (mset F o k x o k)) = _; rw [mset_eq])
  rw [e] at hP1 hD1
  exact h H1 locs1 lsA (mok_setO hm hlay hq ⟨fun _ => st_hd hs, fun z => by cases z⟩) hl (st_tl (st_tl hs)) hP1 hD1 hS1 hL
theorem x_putZ (C : XCx p R s m args meth c cc Z D ad cA) : xr_putZ cc Z (XWP p l e R s m args below meth c Z D ad cA Q) := by
  intro pc ls st F o idx ci k d x hd hf hp hk hx h H locs lsA hm hl hs hP hD hS hL
  obtain ⟨C', T, N, hc', hkN, hCC, hw, hq⟩ := hf
  obtain ⟨C2, T2, N2, hc2, hfin, hty2⟩ := hp
  rw [hc'] at hc2; cases hc2
  obtain ⟨cs, hlay⟩ := isK_cs hk
  have hin := cl_in hc'
  show W _ _ _ _ _ _ _ _ _ _ _ _ _ _ _ (F0 m pc lsA (Value.int (Int32.ofInt x) :: cv ad (vR o) :: st.map (cv ad)))
  rw [cv_R (lay_ne0 hlay)]
  have hnar : narrow .boolean (.int (Int32.ofInt x)) = .int (Int32.ofInt x) := by rcases hx with rfl | rfl <;> rfl
  have hfit : fits .boolean (.int (Int32.ofInt x)) = true := by rcases hx with rfl | rfl <;> rfl
  refine va_put C.1 C.2.1 (ref := C') C.2.2.2.2.1 hin.1 (tyAll ci) hin.2.1 hin.2.2 C.2.2.2.1 C.2.2.2.2.2.1 hP hD hS (o - 1) (xWs_at ad cA F hlay) hc' k hkN (C.2.2.2.2.1 _ hw) (fun x hx => hCC ▸ hx) hfin hty2 hnar hfit (by rw [xfs_len]; exact (List.getElem?_eq_some_iff.mp hq).1) hd (fun H1 locs1 hP1 hD1 hS1 => ?_)
  have e : (xWs ad cA F).set (o - 1) (ad o, .inr (ci, (xfs ad F o cs ci).set k (.int (Int32.ofInt x)))) = xWs ad cA (mset F o k x) := xset_fld hlay hq (by show Value.int (Int32.ofInt (mset F o k x o k)) = _; rw [mset_eq])
  rw [e] at hP1 hD1
  exact h H1 locs1 lsA (mok_setO hm hlay hq ⟨fun _ => st_hd hs, fun z => by cases z⟩) hl (st_tl (st_tl hs)) hP1 hD1 hS1 hL
theorem x_putM (C : XCx p R s m args meth c cc Z D ad cA) : xr_putM cc Z (XWP p l e R s m args below meth c Z D ad cA Q) := by
  intro pc ls st F o idx ci k d r ty hd hf hp hty hk hr h H locs lsA hm hl hs hP hD hS hL
  obtain ⟨C', T, N, hc', hkN, hCC, hw, hq⟩ := hf
  obtain ⟨C2, T2, N2, hc2, hfin, hty2⟩ := hp
  rw [hc'] at hc2; cases hc2
  obtain ⟨cs, hlay⟩ := isK_cs hk
  have hin := cl_in hc'
  show W _ _ _ _ _ _ _ _ _ _ _ _ _ _ _ (F0 m pc lsA (cv ad (vR r) :: cv ad (vR o) :: st.map (cv ad)))
  rw [cv_R (lay_ne0 hlay)]
  have hnar : narrow ty (cv ad (vR r)) = cv ad (vR r) := by
    show narrow ty (if r = 0 then _ else _) = if r = 0 then _ else _
    rcases hty with ⟨C, rfl⟩ | ⟨t, rfl⟩ <;> split <;> rfl
  have hfit : fits ty (cv ad (vR r)) = true := by
    show fits ty (if r = 0 then _ else _) = true
    rcases hty with ⟨C, rfl⟩ | ⟨t, rfl⟩ <;> split <;> rfl
  refine va_put C.1 C.2.1 (ref := C') C.2.2.2.2.1 hin.1 (tyAll ci) hin.2.1 hin.2.2 C.2.2.2.1 C.2.2.2.2.2.1 hP hD hS (o - 1) (xWs_at ad cA F hlay) hc' k hkN (C.2.2.2.2.1 _ hw) (fun x hx => hCC ▸ hx) hfin hty2 hnar hfit (by rw [xfs_len]; exact (List.getElem?_eq_some_iff.mp hq).1) hd (fun H1 locs1 hP1 hD1 hS1 => ?_)
  have e : (xWs ad cA F).set (o - 1) (ad o, .inr (ci, (xfs ad F o cs ci).set k (cv ad (vR r)))) = xWs ad cA (mset F o k (r : Int)) := xset_fld hlay hq (by show (if (mset F o k (r : Int) o k).toNat = 0 then _ else _) = _; rw [mset_eq, Int.toNat_natCast]; rfl)
  rw [e] at hP1 hD1
  exact h H1 locs1 lsA (mok_setO hm hlay hq ⟨fun z => absurd z (by decide), fun _ => ⟨Int.natCast_nonneg r, by rw [Int.toNat_natCast]; exact hr⟩⟩) hl (st_tl (st_tl hs)) hP1 hD1 hS1 hL
theorem x_iaload (C : XCx p R s m args meth c cc Z D ad cA) : xr_iaload cc Z (XWP p l e R s m args below meth c Z D ad cA Q) := by
  intro pc ls st F o i hd ha h0 h1 h H locs lsA hm hl hs hP hD hS hL
  have hn0 := lay_ne0 (isA_n ha)
  have hi : in32 i := st_hd hs
  have ecl := cl_of h0 hi
  show W _ _ _ _ _ _ _ _ _ _ _ _ _ _ _ (F0 m pc lsA (Value.int (Int32.ofInt i) :: cv ad (vR o) :: st.map (cv ad)))
  rw [cv_R hn0]
  refine va_iald C.1 C.2.1 C.2.2.2.2.2.1 hP (o - 1) 0 (xWs_arr ad cA F ha (by decide)) rfl (vpin_of h0 hi h1) hd ?_
  rw [ecl]
  exact h H locs lsA hm hl (st_cons (mok_A hm (isA_n ha) (by decide) (by omega)) (st_tl (st_tl hs))) hP hD hS hL
theorem x_baload (C : XCx p R s m args meth c cc Z D ad cA) : xr_baload cc Z (XWP p l e R s m args below meth c Z D ad cA Q) := by
  intro pc ls st F o i hd ha h0 h1 h H locs lsA hm hl hs hP hD hS hL
  have hn0 := lay_ne0 (isA_n ha)
  have hi : in32 i := st_hd hs
  have ecl := cl_of h0 hi
  show W _ _ _ _ _ _ _ _ _ _ _ _ _ _ _ (F0 m pc lsA (Value.int (Int32.ofInt i) :: cv ad (vR o) :: st.map (cv ad)))
  rw [cv_R hn0]
  refine va_bald C.1 C.2.1 C.2.2.2.2.2.1 hP (o - 1) 1 (xWs_arr ad cA F ha (by decide)) rfl (vpin_of h0 hi h1) hd ?_
  rw [ecl]
  exact h H locs lsA hm hl (st_cons (mok_A hm (isA_n ha) (by decide) (by omega)) (st_tl (st_tl hs))) hP hD hS hL
theorem x_zaload (C : XCx p R s m args meth c cc Z D ad cA) : xr_zaload cc Z (XWP p l e R s m args below meth c Z D ad cA Q) := by
  intro pc ls st F o i hd ha h0 h1 h H locs lsA hm hl hs hP hD hS hL
  have hn0 := lay_ne0 (isA_n ha)
  have hi : in32 i := st_hd hs
  have ecl := cl_of h0 hi
  show W _ _ _ _ _ _ _ _ _ _ _ _ _ _ _ (F0 m pc lsA (Value.int (Int32.ofInt i) :: cv ad (vR o) :: st.map (cv ad)))
  rw [cv_R hn0]
  refine va_zald C.1 C.2.1 C.2.2.2.2.2.1 hP (o - 1) 2 (xWs_arr ad cA F ha (by decide)) rfl (vpin_of h0 hi h1) hd ?_
  rw [ecl]
  exact h H locs lsA hm hl (st_cons (mok_A hm (isA_n ha) (by decide) (by omega)) (st_tl (st_tl hs))) hP hD hS hL
theorem x_laload (C : XCx p R s m args meth c cc Z D ad cA) : xr_laload cc Z (XWP p l e R s m args below meth c Z D ad cA Q) := by
  intro pc ls st F o i hd ha h0 h1 h H locs lsA hm hl hs hP hD hS hL
  have hn0 := lay_ne0 (isA_n ha)
  have hi : in32 i := st_hd hs
  have ecl := cl_of h0 hi
  show W _ _ _ _ _ _ _ _ _ _ _ _ _ _ _ (F0 m pc lsA (Value.int (Int32.ofInt i) :: cv ad (vR o) :: st.map (cv ad)))
  rw [cv_R hn0]
  refine va_lald C.1 C.2.1 C.2.2.2.2.2.1 hP (o - 1) 3 (xWs_arrL ad cA F ha) rfl (vpin_of h0 hi h1) hd ?_
  rw [ecl]
  exact h H locs lsA hm hl (st_cons (mok_L hm (isA_n ha) (by omega)) (st_tl (st_tl hs))) hP hD hS hL
theorem x_iastore (C : XCx p R s m args meth c cc Z D ad cA) : xr_iastore cc Z (XWP p l e R s m args below meth c Z D ad cA Q) := by
  intro pc ls st F o i x hd ha h0 h1 h H locs lsA hm hl hs hP hD hS hL
  have hn0 := lay_ne0 (isA_n ha)
  have hi : in32 i := st_hd (st_tl hs)
  have ecl := cl_of h0 hi
  show W _ _ _ _ _ _ _ _ _ _ _ _ _ _ _ (F0 m pc lsA (Value.int (Int32.ofInt x) :: Value.int (Int32.ofInt i) :: cv ad (vR o) :: st.map (cv ad)))
  rw [cv_R hn0]
  refine va_iast C.1 C.2.1 C.2.2.2.2.2.1 hP hD hS (o - 1) 0 (xWs_arr ad cA F ha (by decide)) rfl (vpin_of h0 hi h1) hd (fun H1 locs1 hP1 hD1 hS1 => ?_)
  rw [ecl, xset_arr (x := x) ha (by decide) rfl] at hP1 hD1
  exact h H1 locs1 lsA (mok_setA hm (isA_n ha) (st_hd hs)) hl (st_tl (st_tl (st_tl hs))) hP1 hD1 hS1 hL
theorem x_bastore (C : XCx p R s m args meth c cc Z D ad cA) : xr_bastore cc Z (XWP p l e R s m args below meth c Z D ad cA Q) := by
  intro pc ls st F o i x hd ha h0 h1 h H locs lsA hm hl hs hP hD hS hL
  have hn0 := lay_ne0 (isA_n ha)
  have hi : in32 i := st_hd (st_tl hs)
  have ecl := cl_of h0 hi
  show W _ _ _ _ _ _ _ _ _ _ _ _ _ _ _ (F0 m pc lsA (Value.int (Int32.ofInt x) :: Value.int (Int32.ofInt i) :: cv ad (vR o) :: st.map (cv ad)))
  rw [cv_R hn0]
  refine va_bast C.1 C.2.1 C.2.2.2.2.2.1 hP hD hS (o - 1) 1 (xWs_arr ad cA F ha (by decide)) rfl (vpin_of h0 hi h1) hd (fun H1 locs1 hP1 hD1 hS1 => ?_)
  rw [ecl, xset_arr (x := xi2b x) ha (by decide) (by rw [vp_nar_byte]; exact (i32_ofToInt _).symm)] at hP1 hD1
  exact h H1 locs1 lsA (mok_setA hm (isA_n ha) (i32_in _)) hl (st_tl (st_tl (st_tl hs))) hP1 hD1 hS1 hL
theorem x_zastore (C : XCx p R s m args meth c cc Z D ad cA) : xr_zastore cc Z (XWP p l e R s m args below meth c Z D ad cA Q) := by
  intro pc ls st F o i x hd ha h0 h1 hx h H locs lsA hm hl hs hP hD hS hL
  have hn0 := lay_ne0 (isA_n ha)
  have hi : in32 i := st_hd (st_tl hs)
  have ecl := cl_of h0 hi
  show W _ _ _ _ _ _ _ _ _ _ _ _ _ _ _ (F0 m pc lsA (Value.int (Int32.ofInt x) :: Value.int (Int32.ofInt i) :: cv ad (vR o) :: st.map (cv ad)))
  rw [cv_R hn0]
  refine va_zast C.1 C.2.1 C.2.2.2.2.2.1 hP hD hS (o - 1) 2 (xWs_arr ad cA F ha (by decide)) rfl (vpin_of h0 hi h1) hd (fun H1 locs1 hP1 hD1 hS1 => ?_)
  rw [ecl, xset_arr (x := x) ha (by decide) (by rcases hx with rfl | rfl <;> rfl)] at hP1 hD1
  exact h H1 locs1 lsA (mok_setA hm (isA_n ha) (st_hd hs)) hl (st_tl (st_tl (st_tl hs))) hP1 hD1 hS1 hL
theorem x_lastore (C : XCx p R s m args meth c cc Z D ad cA) : xr_lastore cc Z (XWP p l e R s m args below meth c Z D ad cA Q) := by
  intro pc ls st F o i x hd ha h0 h1 h H locs lsA hm hl hs hP hD hS hL
  have hn0 := lay_ne0 (isA_n ha)
  have hi : in32 i := st_hd (st_tl hs)
  have ecl := cl_of h0 hi
  show W _ _ _ _ _ _ _ _ _ _ _ _ _ _ _ (F0 m pc lsA (Value.long (Int64.ofInt x) :: Value.int (Int32.ofInt i) :: cv ad (vR o) :: st.map (cv ad)))
  rw [cv_R hn0]
  refine va_last C.1 C.2.1 C.2.2.2.2.2.1 hP hD hS (o - 1) 3 (xWs_arrL ad cA F ha) rfl (vpin_of h0 hi h1) hd (fun H1 locs1 hP1 hD1 hS1 => ?_)
  rw [ecl, xset_arrL ha] at hP1 hD1
  exact h H1 locs1 lsA (mok_setA hm (isA_n ha) (st_hd hs)) hl (st_tl (st_tl (st_tl hs))) hP1 hD1 hS1 hL
end XS2
