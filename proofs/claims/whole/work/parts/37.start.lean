/-! ===== the law's loop ===== -/
theorem law_loop {p : Program} {l : Launch} {e : Env} {s : State} {m : MethodId} {below : List Frame} {meth : Method} {c : Code} {b L : Nat} {xs : Nat → Int32} {D : va_G} {ad : Nat → Nat} {cA : Nat → ClassId} {RR : Mem → Prop} (C : LX p s m meth c b L xs D ad cA) (hp : ∀ i j, lawC RR i xs j) :
    ∀ (n i : Nat) (F : Mem), i ≤ L → L + 1 ≤ i + n → RR F → LWP p l e s m below meth c b D ad cA (lw_Z below #[Value.ref b] s) 18 i [] F := by
  obtain ⟨C1, C2, C3, C4, C5, C6, C7, hX, hbl, hbA, hLL, hr, hlocks, hA⟩ := id C
  intro n
  induction n with
  | zero => intro i F h1 h2; exact absurd h2 (by omega)
  | succ n ih =>
    intro i F hi hin hR H locs lsA hm hs hP hD hS hL
    refine lv_iload_n C1 C2 dL_law_18 rfl (lv_at hL 3 rfl) ?_
    refine lv_aload_n C1 C2 dL_law_19 rfl (lv_at hL 0 rfl) ?_
    refine va_slen C1 C2 hX hbl hbA hS dL_law_20 ?_
    refine lv_bipush (v := Int32.ofInt 9) C1 C2 dL_law_21 rfl ?_
    refine lv_isub C1 C2 dL_law_23 ?_
    have e0 : Int32.ofNat L - Int32.ofInt 9 = Int32.ofInt ((L : Int) - 9) := by
      rw [show Int32.ofNat L = Int32.ofInt (L : Int) from (Int32.ofInt_eq_ofNat ..).symm, i32_sub, xw_id (by unfold in32; omega)]
    rw [e0]
    refine lv_icmp_gt (tgt := 2446) C1 C2 dL_law_24 (by decide) (fun hc => ?_) (fun hc => ?_)
    · refine lv_iconst (v := 1) C1 C2 dL_law_2446 (by decide) ?_
      refine va_forget (fun q hq => hA _ (hS.2.2 q hq)) ?_
      exact lw_ret C1 C2 hr hlocks dL_law_2447
    · have hlt : i + 8 < L := by
        have h3 : ¬ ((L : Int) - 9 < (i : Int)) := fun z => hc ((i32_lt (by unfold in32; omega) (by unfold in32; omega)).mpr z)
        omega
      refine lv_aload_n C1 C2 dL_law_27 rfl (lv_at hL 0 rfl) ?_
      refine lv_iload_n C1 C2 dL_law_28 rfl (lv_at hL 3 rfl) ?_
      refine va_sld C1 C2 hX hbl hbA hS (vpin_of (by omega) (by unfold in32; omega) (by omega)) dL_law_29 ?_
      refine lv_bipush (v := Int32.ofInt 63) C1 C2 dL_law_30 rfl ?_
      refine lv_iand C1 C2 dL_law_32 ?_
      generalize hx : xs (Int32.ofInt (i : Int)).toNatClampNeg &&& Int32.ofInt 63 = x
      have e3 : Value.int x = cv ad (vI x.toInt) := by show _ = Value.int (Int32.ofInt _); rw [i32_ofToInt]
      rw [e3]
      refine law_sw C (i32_in _) hlt hR (hp i) (fun F' hR' => ?_) H locs lsA hm (st_cons (i32_in _) hs) hP hD hS hL
      intro H locs lsA hm hs hP hD hS hL
      refine lv_iinc (v := Int32.ofInt ((i + 9 : Nat) : Int)) (lv' := [(3, .int (Int32.ofInt ((i + 9 : Nat) : Int))), (0, .ref b), (1, .ref (ad 1)), (2, .ref (ad 173))]) C1 C2 dL_law_2440 hL (k := 3) rfl (by rw [i32_add, xw_id (by unfold in32; omega)]; rfl) (by decide) rfl (fun ls hl => ?_)
      refine lv_goto (tgt := 18) C1 C2 dL_law_2443 (by decide) ?_
      exact ih (i + 9) F' (by omega) (by omega) hR' H locs ls hm hs hP hD hS (lv_sub hl [1, 2, 3, 0] rfl)
/-! ===== the world at the start ===== -/
def flagsOK (M : CM) : Bool := (List.range (layN + 1)).all fun o => match lay o with
  | some (.inl (ci, _)) => (List.range (cfd ci).length).all fun k => match (cfd ci)[k]? with
    | some (t, _) => t == 0 || t == 3 || gL M.2.1 o k
    | none => true
  | some (.inr (.inr (_, n, _, _))) => (List.range n).all fun i => gL M.2.1 o i
  | _ => true
theorem arrV_ext {cI : ClassId} {N : Nat} {f g : Nat → Value} (h : ∀ j, j < N → f j = g j) : arrV cI N f = arrV cI N g := by
  unfold arrV
  congr 1
  congr 1
  funext j
  exact h j.val j.isLt
theorem xP_full {D : va_G} {ad : Nat → Nat} {cA : Nat → ClassId} {M : CM} {H : Heap} (hM : M.1 = layN) (hf : flagsOK M = true) (hP : va_P D vwCl (xWsG ad cA M) H) : va_P D vwCl (xWs ad cA (fL M.2.2)) H := by
  intro k q hq
  have hk : k < layN := by
    have h1 := (List.getElem?_eq_some_iff.mp hq).1
    unfold xWs at h1
    rw [List.length_map, List.length_range] at h1
    exact h1
  cases hl : lay (k + 1) with
  | none =>
    exfalso
    have h2 : layT.length = layN := by decide +kernel
    have h3 : layT[k]? = none := hl
    rw [List.getElem?_eq_none_iff] at h3
    omega
  | some kd =>
    have h1 := xWs_at ad cA (fL M.2.2) hl
    rw [Nat.add_sub_cancel] at h1
    rw [h1] at hq
    cases hq
    have h2 := xWsG_at ad cA M hl (by omega)
    rw [Nat.add_sub_cancel] at h2
    have h3 := hP k _ h2
    have h4 := lay_all (P := fun o => match lay o with
      | some (.inl (ci, _)) => (List.range (cfd ci).length).all fun k => match (cfd ci)[k]? with
        | some (t, _) => t == 0 || t == 3 || gL M.2.1 o k
        | none => true
      | some (.inr (.inr (_, n, _, _))) => (List.range n).all fun i => gL M.2.1 o i
      | _ => true) hf hl
    simp only [hl] at h4
    rcases kd with ⟨ci, cs⟩ | ⟨t, n⟩ | ⟨ci, n, b, sp⟩
    · have e : xfsG ad M (k + 1) cs ci = xfs ad (fL M.2.2) (k + 1) cs ci := by
        apply List.ext_getElem?
        intro i
        unfold xfsG xfs
        rw [List.getElem?_mapIdx, List.getElem?_mapIdx]
        cases hc : (cfd ci)[i]? with
        | none => rfl
        | some q =>
          have h5 := List.all_eq_true.mp h4 i (List.mem_range.mpr (List.getElem?_eq_some_iff.mp hc).1)
          obtain ⟨t, d⟩ := q
          simp only [hc] at h5
          show some (xfvG ad M (k + 1) cs i (t, d)) = some (xfv ad (fL M.2.2) (k + 1) cs i (t, d))
          congr 1
          unfold xfvG xfv
          match t, h5 with
          | 0, _ => rfl
          | 1, h5 =>
            have h6 : gL M.2.1 (k + 1) i = true := by simpa using h5
            simp only [h6, if_true]
          | 2, h5 =>
            have h6 : gL M.2.1 (k + 1) i = true := by simpa using h5
            simp only [h6, if_true]
          | t + 3, _ => rfl
      show va_at D vwCl (ad (k + 1), .inr (ci, xfs ad (fL M.2.2) (k + 1) cs ci)) H
      rw [← e]
      exact h3
    · exact h3
    · show H[ad (k + 1)]? = some (vp_cell _ (n, .inr (.inr (.inr (.inr _)))))
      have h5 : H[ad (k + 1)]? = some (vp_cell (cA (10 + ci)) (n, .inr (.inr (.inr (.inr fun i => if gL M.2.1 (k + 1) i = true then some (ad (k + 1 + b + sp * i)) else none))))) := h3
      rw [h5, vp_cell_q, vp_cell_q]
      congr 1
      apply arrV_ext
      intro j hj
      have h6 := List.all_eq_true.mp h4 j (List.mem_range.mpr hj)
      rw [if_pos h6]
theorem fL_mem : ∀ (Fs : List (Nat × Nat × Int)) (o k : Nat), fL Fs o k = 0 ∨ (o, k, fL Fs o k) ∈ Fs := by
  intro Fs
  induction Fs with
  | nil => intro o k; exact Or.inl rfl
  | cons q r ih =>
    intro o k
    obtain ⟨o', k', v⟩ := q
    show mset (fL r) o' k' v o k = 0 ∨ (o, k, mset (fL r) o' k' v o k) ∈ (o', k', v) :: r
    by_cases h : o = o' ∧ k = k'
    · obtain ⟨rfl, rfl⟩ := h
      rw [mset_eq]
      exact Or.inr List.mem_cons_self
    · rw [mset_ne _ _ h]
      rcases ih o k with h1 | h1
      · exact Or.inl h1
      · exact Or.inr (List.mem_cons_of_mem _ h1)
def memOK (Fs : List (Nat × Nat × Int)) : Bool := Fs.all fun q => decide (-128 ≤ q.2.2) && decide (q.2.2 < 128) && (decide (q.2.2 = 0) || match lay q.1 with
  | some (.inl (ci, _)) => match (cfd ci)[q.2.1]? with
    | some (t, _) => t != 3
    | none => true
  | _ => true)
theorem mok_fL {Fs : List (Nat × Nat × Int)} (h : memOK Fs = true) : mok (fL Fs) := by
  have hb : ∀ o k, -128 ≤ fL Fs o k ∧ fL Fs o k < 128 := by
    intro o k
    rcases fL_mem Fs o k with h1 | h1
    · omega
    · have h2 := List.all_eq_true.mp h _ h1
      simp only [Bool.and_eq_true, decide_eq_true_eq] at h2
      exact h2.1
  intro o kd hl
  rcases kd with ⟨ci, cs⟩ | ⟨t, n⟩ | ⟨ci, n, b, sp⟩
  · intro k t d hc
    refine ⟨fun _ => ?_, fun ht => ?_⟩
    · have := hb o k
      unfold in32; omega
    · subst ht
      have h0 : fL Fs o k = 0 := by
        rcases fL_mem Fs o k with h1 | h1
        · exact h1
        · have h2 := List.all_eq_true.mp h _ h1
          simp only [Bool.and_eq_true, Bool.or_eq_true, decide_eq_true_eq, hl, hc] at h2
          rcases h2.2 with h3 | h3
          · exact h3
          · exact absurd h3 (by decide)
      rw [h0]
      exact ⟨Int.le_refl _, Or.inl rfl⟩
  · intro k _
    have := hb o k
    show if t = 3 then _ else _
    split
    · unfold in64; omega
    · unfold in32; omega
  · trivial
theorem inst_in : ∀ (ci : Nat) (q : vw_C), vwCl[ci]? = some q → Cond.instantiable q.1 q.2.2 ∈ xw_T := by
  intro ci q h
  match ci, h with
  | 0, h => cases h; exact (xinT 324 (by decide +kernel) (by decide +kernel))
  | 1, h => cases h; exact (xinT 383 (by decide +kernel) (by decide +kernel))
  | 2, h => cases h; exact (xinT 270 (by decide +kernel) (by decide +kernel))
  | 3, h => cases h; exact (xinT 157 (by decide +kernel) (by decide +kernel))
  | 4, h => cases h; exact (xinT 142 (by decide +kernel) (by decide +kernel))
  | 5, h => cases h; exact (xinT 465 (by decide +kernel) (by decide +kernel))
  | 6, h => cases h; exact (xinT 434 (by decide +kernel) (by decide +kernel))
  | 7, h => cases h; exact (xinT 151 (by decide +kernel) (by decide +kernel))
  | 8, h => cases h; exact (xinT 357 (by decide +kernel) (by decide +kernel))
  | 9, h => cases h; exact (xinT 134 (by decide +kernel) (by decide +kernel))
  | 10, h => cases h; exact (xinT 1322 (by decide +kernel) (by decide +kernel))
  | n + 11, h => cases h
theorem arrP {args : Array Value} {s : State} {ty : FieldType} (h : (Cond.arrayClass ty).before args s = true) (hp : ∀ C, ty ≠ .object C) : ∃ c : ClassId, ArrOfT s c ty ∧ va_RA s c ty := by
  obtain ⟨c, k, comp, h1, h2, h3⟩ := Cond.arrayClass_spec h
  refine ⟨c, fun n z => ⟨fun k h => (by cases h), k, h2, comp, h3⟩, ?_⟩
  cases ty with
  | object C => exact absurd rfl (hp C)
  | _ => exact h1
theorem arrO {args : Array Value} {s : State} {C : String} (h : (Cond.arrayOver (.object C)).before args s = true) : ∃ c : ClassId, ArrOfT s c (.object C) ∧ va_RA s c (.object C) := by
  obtain ⟨comp, c, k, h1, -, h2, h3, h4⟩ := Cond.arrayOver_spec h
  exact ⟨c, fun n z => ⟨fun k h => (by cases h), k, h2, comp, h3⟩, k, comp, h2, h3, h1, h4⟩
theorem va_K0 {args : Array Value} {s : State} (hts0 : ∀ w ∈ lw_tbl, w.before args s = true) : xAO s ∧ ∃ (D : va_G) (cA : Nat → ClassId), va_K D vwCl (xTys cA) s := by
  have hts : ∀ w ∈ xw_T, w.before args s = true := fun w hw => hts0 w (List.mem_filter.mp hw).1
  have h0 : ∀ ci : Nat, ∃ d : ClassId × (Nat → Nat), ∀ q : vw_C, vwCl[ci]? = some q → u_Kn s q.1 q.2.1 q.2.2 d.1 d.2 := by
    intro ci
    cases h : vwCl[ci]? with
    | none => exact ⟨(0, fun _ => 0), fun q hq => by cases hq⟩
    | some q =>
      obtain ⟨C, T, N⟩ := q
      obtain ⟨c, iS, hk⟩ := u_known (C := C) (T := T) (N := N) (n := N) hts (cl_in h).1 (hts _ (inst_in ci _ h))
      exact ⟨(c, iS), fun q hq => by cases hq; exact hk⟩
  obtain ⟨d, hd⟩ := Classical.axiomOfChoice h0
  obtain ⟨a0, x0, y0⟩ := arrP (ty := .int) (hts _ (xinT 186 (by decide +kernel) (by decide +kernel))) (fun C h => by cases h)
  obtain ⟨a1, x1, y1⟩ := arrP (ty := .byte) (hts _ (xinT 185 (by decide +kernel) (by decide +kernel))) (fun C h => by cases h)
  obtain ⟨a2, x2, y2⟩ := arrP (ty := .boolean) (hts _ (xinT 322 (by decide +kernel) (by decide +kernel))) (fun C h => by cases h)
  obtain ⟨a3, x3, y3⟩ := arrP (ty := .long) (hts _ (xinT 463 (by decide +kernel) (by decide +kernel))) (fun C h => by cases h)
  obtain ⟨a17, x17, y17⟩ := arrO (C := "OnePair$Valley") (hts0 _ (List.mem_of_getElem? (i := 148) (by decide +kernel)))
  obtain ⟨a13, x13, y13⟩ := arrO (C := "OnePair$Sheet") (hts0 _ (List.mem_of_getElem? (i := 150) (by decide +kernel)))
  obtain ⟨a14, x14, y14⟩ := arrO (C := "OnePair$Told") (hts0 _ (List.mem_of_getElem? (i := 268) (by decide +kernel)))
  refine ⟨⟨va_AO.of (hts0 _ (List.mem_of_getElem? (i := 148) (by decide +kernel))), va_AO.of (hts0 _ (List.mem_of_getElem? (i := 150) (by decide +kernel))), va_AO.of (hts0 _ (List.mem_of_getElem? (i := 268) (by decide +kernel)))⟩, (fun k => (d k).1, fun k => (d k).2), fun n => match n with | 0 => a0 | 1 => a1 | 2 => a2 | 3 => a3 | 17 => a17 | 13 => a13 | _ => a14, fun ci q hq => hd ci q hq, fun k q hq => ?_⟩
  match k, hq with
  | 0, hq => cases hq; exact ⟨x0, y0⟩
  | 1, hq => cases hq; exact ⟨x1, y1⟩
  | 2, hq => cases hq; exact ⟨x2, y2⟩
  | 3, hq => cases hq; exact ⟨x3, y3⟩
  | 4, hq => cases hq; exact ⟨x17, y17⟩
  | 5, hq => cases hq; exact ⟨x13, y13⟩
  | 6, hq => cases hq; exact ⟨x14, y14⟩
  | n + 7, hq => cases hq
/-! strings -/
def kT (i : Nat) : Term := .string RX2 (strT.getD i (0, "")).1
theorem str_ne : (List.range nStr).all (fun i => (List.range nStr).all fun j => decide (i = j) || decide (strL.getD i 0 ≠ strL.getD j 0) || (List.range (strL.getD i 0)).any fun k => decide ((strB.getD i []).getD k 0 ≠ (strB.getD j []).getD k 0)) = true := by decide +kernel
theorem OF_fun {o n d : String} {v1 v2 : Value} {t : Nat} {A : Nat → Prop} {U : State} {H : Heap} (h1 : va_OF o n d v1 t A U H) (h2 : va_OF o n d v2 t A U H) : v1 = v2 := by
  obtain ⟨cf, k, i, f, cell, a1, -, a3, -, a5, -⟩ := h1
  obtain ⟨cf', k', i', f', cell', b1, -, b3, -, b5, -⟩ := h2
  rw [a1] at b1
  cases b1
  rw [a3] at b3
  cases b3
  rw [a5] at b5
  cases b5
  rfl
theorem str_env {args : Array Value} {s : State} (hg : ∀ c ∈ flatC (Jvm.Cond.and given_1 narrow_1), c.before args s = true) : ∃ adK adV : Nat → Nat, vk_S nStr strL strB adK adV (fun q => s.heap.size ≤ q) s s.heap ∧ ∀ i : Nat, i < nStr → (kT i).eval args s none [] s = some (.ref (adK i)) := by
  have hA : ∀ a : Nat, a < s.heap.size → ¬ (fun q => s.heap.size ≤ q) a := fun a h => Nat.not_le.mpr h
  have m1 : ∀ i, i < nStr → Cond.exactly (kT i) "java/lang/String" ∈ flatC (Jvm.Cond.and given_1 narrow_1) := by decide +kernel
  have m2 : ∀ i, i < nStr → Cond.eq (.field (kT i) "java/lang/String" "coder" "B") (.int 0) ∈ flatC (Jvm.Cond.and given_1 narrow_1) := by decide +kernel
  have m3 : ∀ i, i < nStr → Cond.arrayOf (.field (kT i) "java/lang/String" "value" "[B") .byte ∈ flatC (Jvm.Cond.and given_1 narrow_1) := by decide +kernel
  have m4 : ∀ i, i < nStr → Cond.eq (.length (.field (kT i) "java/lang/String" "value" "[B")) (.int (Int32.ofNat (strL.getD i 0))) ∈ flatC (Jvm.Cond.and given_1 narrow_1) := by decide +kernel
  have m5 : ∀ i, i < nStr → ∀ j, j < strL.getD i 0 → Cond.eq (.elem (.field (kT i) "java/lang/String" "value" "[B") (.int (Int32.ofNat j))) (.int ((strB.getD i []).getD j 0)) ∈ flatC (Jvm.Cond.and given_1 narrow_1) := by decide +kernel
  have m6 : ∀ i, i < nStr → strL.getD i 0 < 2 ^ 31 := by decide +kernel
  have h0 : ∀ i : Nat, ∃ q : Nat × Nat, i < nStr → (kT i).eval args s none [] s = some (.ref q.1) ∧ va_O "java/lang/String" q.1 (fun q => s.heap.size ≤ q) s s.heap ∧ va_OF "java/lang/String" "coder" "B" (.int 0) q.1 (fun q => s.heap.size ≤ q) s s.heap ∧ va_OF "java/lang/String" "value" "[B" (.ref q.2) q.1 (fun q => s.heap.size ≤ q) s s.heap ∧ va_T .byte q.2 (strL.getD i 0) (fun j => .int ((strB.getD i []).getD j 0)) (fun q => s.heap.size ≤ q) s s.heap := by
    intro i
    by_cases hi : i < nStr
    · obtain ⟨a, c, cell, kA, q1, q2, q3, q4, q5, q6, -⟩ := Cond.exactly_spec (args := args) (first := s) (o := none) (s := s) (idx := []) (hg _ (m1 i hi))
      obtain ⟨t, ht, hT⟩ := va_Tof (f := fun j => .int ((strB.getD i []).getD j 0)) (A := fun q => s.heap.size ≤ q) (m6 i hi) (hg _ (m3 i hi)) (va_eqt (hg _ (m4 i hi))) (fun j hj => va_eqt (hg _ (m5 i hi j hj))) hA
      refine ⟨(a, t), fun _ => ⟨q1, ⟨cell, q3, q5, ?_, hA a (Array.getElem?_eq_some_iff.mp q3).1⟩, vk_OFof q1 (va_eqt (hg _ (m2 i hi))) hA, vk_OFof q1 ht hA, hT⟩⟩
      rw [q6]; exact q2
    · exact ⟨(0, 0), fun h => absurd h hi⟩
  obtain ⟨f, hf⟩ := Classical.axiomOfChoice h0
  refine ⟨fun i => (f i).1, fun i => (f i).2, ⟨fun i hi => (hf i hi).2, fun i j hi hj he => ?_⟩, fun i hi => (hf i hi).1⟩
  obtain ⟨-, -, -, b1, c1⟩ := hf i hi
  obtain ⟨-, -, -, b2, c2⟩ := hf j hj
  have he : (f i).1 = (f j).1 := he
  rw [he] at b1
  have h1 := OF_fun b1 b2
  cases h1' : (f i).2 with
  | _ =>
  have h2 : (f i).2 = (f j).2 := by injection h1
  rw [h2] at c1
  obtain ⟨cell, d1, d2, d3, d4, d5, d6, -⟩ := c1
  obtain ⟨cell', e1, e2, e3, e4, e5, e6, -⟩ := c2
  rw [d1] at e1
  cases e1
  have h3 : strL.getD i 0 = strL.getD j 0 := by
    have g1 := m6 i hi
    have g2 := m6 j hj
    have g3 : Int32.ofNat (strL.getD i 0) = Int32.ofNat (strL.getD j 0) := d5.symm.trans e5
    have g4 := congrArg Int32.toInt g3
    have g5 : ∀ n : Nat, n < 2 ^ 31 → (Int32.ofNat n).toInt = (n : Int) := fun n hn => by
      rw [show Int32.ofNat n = Int32.ofInt (n : Int) from (Int32.ofInt_eq_ofNat ..).symm, i32_toInt' (by unfold in32; omega)]
    rw [g5 _ g1, g5 _ g2] at g4
    omega
  have h4 := List.all_eq_true.mp (List.all_eq_true.mp str_ne i (List.mem_range.mpr hi)) j (List.mem_range.mpr hj)
  simp only [Bool.or_eq_true, decide_eq_true_eq] at h4
  rcases h4 with (h4 | h4) | h4
  · exact h4
  · exact absurd h3 h4
  · obtain ⟨k, hk, hne⟩ := List.any_eq_true.mp h4
    have hk := List.mem_range.mp hk
    have g1 := d6 k hk
    have g2 := e6 k (by omega)
    rw [g1] at g2
    simp only [Option.some.injEq, Value.int.injEq] at g2
    exact absurd g2 (of_decide_eq_true hne)

theorem strref_in : ∀ (i : Nat) (e : Nat × String), strT[i]? = some e → Cond.stringRef RX2 e.1 e.2 ∈ lw_tbl := by
  intro i e h
  match i, h with
  | 0, h => cases h; exact (List.mem_of_getElem? (i := 596) (by decide +kernel))
  | 1, h => cases h; exact (List.mem_of_getElem? (i := 597) (by decide +kernel))
  | 2, h => cases h; exact (List.mem_of_getElem? (i := 598) (by decide +kernel))
  | 3, h => cases h; exact (List.mem_of_getElem? (i := 599) (by decide +kernel))
  | 4, h => cases h; exact (List.mem_of_getElem? (i := 600) (by decide +kernel))
  | 5, h => cases h; exact (List.mem_of_getElem? (i := 601) (by decide +kernel))
  | 6, h => cases h; exact (List.mem_of_getElem? (i := 602) (by decide +kernel))
  | 7, h => cases h; exact (List.mem_of_getElem? (i := 603) (by decide +kernel))
  | 8, h => cases h; exact (List.mem_of_getElem? (i := 604) (by decide +kernel))
  | 9, h => cases h; exact (List.mem_of_getElem? (i := 605) (by decide +kernel))
  | 10, h => cases h; exact (List.mem_of_getElem? (i := 606) (by decide +kernel))
  | 11, h => cases h; exact (List.mem_of_getElem? (i := 607) (by decide +kernel))
  | 12, h => cases h; exact (List.mem_of_getElem? (i := 608) (by decide +kernel))
  | 13, h => cases h; exact (List.mem_of_getElem? (i := 609) (by decide +kernel))
  | 14, h => cases h; exact (List.mem_of_getElem? (i := 610) (by decide +kernel))
  | 15, h => cases h; exact (List.mem_of_getElem? (i := 611) (by decide +kernel))
  | 16, h => cases h; exact (List.mem_of_getElem? (i := 612) (by decide +kernel))
  | 17, h => cases h; exact (List.mem_of_getElem? (i := 684) (by decide +kernel))
  | 18, h => cases h; exact (List.mem_of_getElem? (i := 685) (by decide +kernel))
  | 19, h => cases h; exact (List.mem_of_getElem? (i := 686) (by decide +kernel))
  | 20, h => cases h; exact (List.mem_of_getElem? (i := 687) (by decide +kernel))
  | 21, h => cases h; exact (List.mem_of_getElem? (i := 688) (by decide +kernel))
  | 22, h => cases h; exact (List.mem_of_getElem? (i := 689) (by decide +kernel))
  | 23, h => cases h; exact (List.mem_of_getElem? (i := 690) (by decide +kernel))
  | 24, h => cases h; exact (List.mem_of_getElem? (i := 691) (by decide +kernel))
  | 25, h => cases h; exact (List.mem_of_getElem? (i := 692) (by decide +kernel))
  | 26, h => cases h; exact (List.mem_of_getElem? (i := 693) (by decide +kernel))
  | 27, h => cases h; exact (List.mem_of_getElem? (i := 694) (by decide +kernel))
  | n + 28, h => cases h
theorem env0 {args : Array Value} {s : State} (hts : ∀ w ∈ lw_tbl, w.before args s = true) (hg : ∀ c ∈ flatC (Jvm.Cond.and given_1 narrow_1), c.before args s = true) (b : Nat) : ∃ ad : Nat → Nat, xAd ad s.heap.size ∧ ad 4000 = b ∧ (∀ q, xA ad q → s.heap.size ≤ q) ∧ xEnv ad s := by
  obtain ⟨adK, adV, hS, hK⟩ := str_env hg
  have hA : ∀ a : Nat, a < s.heap.size → ¬ (fun q => s.heap.size ≤ q) a := fun a h => Nat.not_le.mpr h
  have hC := va_Zof (A := fun q => s.heap.size ≤ q) (hts _ (List.mem_of_getElem? (i := 626) (by decide +kernel))) (hts _ (List.mem_of_getElem? (i := 128) (by decide +kernel))) (va_eqt (hg (.eq (.static "java/lang/String" "COMPACT_STRINGS" "Z") (.int 1)) (by decide +kernel))) hA
  have hF := va_Zqof (A := fun q => s.heap.size ≤ q) (hts _ (List.mem_of_getElem? (i := 642) (by decide +kernel))) (hts _ (List.mem_of_getElem? (i := 130) (by decide +kernel))) (hg (.isRef (.static "jdk/internal/util/Preconditions" "SIOOBE_FORMATTER" "Ljava/util/function/BiFunction;")) (by decide +kernel)) hA
  obtain ⟨t, hF⟩ : ∃ t : Nat, va_Z "jdk/internal/util/Preconditions" "SIOOBE_FORMATTER" "Ljava/util/function/BiFunction;" .null (fun q => s.heap.size ≤ q) s s.heap ∨ va_Z "jdk/internal/util/Preconditions" "SIOOBE_FORMATTER" "Ljava/util/function/BiFunction;" (.ref t) (fun q => s.heap.size ≤ q) s s.heap := by
    rcases hF with h | ⟨t, h⟩
    · exact ⟨0, Or.inl h⟩
    · exact ⟨t, Or.inr h⟩
  let ad : Nat → Nat := fun n => if n ≤ 187 then s.heap.size + (n - 1) else if n < 1000 then 0 else if n < 2000 then adK (n - 1000) else if n < 3000 then adV (n - 2000) else if n = 3000 then t else b
  have hnar : ∀ q, xA ad q → s.heap.size ≤ q := by
    rintro q ⟨o, k, ho, rfl⟩
    have this : o ≤ 187 := (lay_le ho).2
    show _ ≤ if o ≤ 187 then _ else _
    rw [if_pos this]
    omega
  have e1 : ∀ i, i < nStr → ad (1000 + i) = adK i := fun i hi => by
    have hi : i < 28 := hi
    show (if 1000 + i ≤ 187 then _ else _) = _
    rw [if_neg (by omega), if_neg (by omega), if_pos (by omega)]
    rw [Nat.add_sub_cancel_left]
  have e2 : ∀ i, i < nStr → ad (2000 + i) = adV i := fun i hi => by
    have hi : i < 28 := hi
    show (if 2000 + i ≤ 187 then _ else _) = _
    rw [if_neg (by omega), if_neg (by omega), if_neg (by omega), if_pos (by omega)]
    rw [Nat.add_sub_cancel_left]
  refine ⟨ad, fun i hi => ?_, rfl, hnar, ⟨fun i hi => ?_, fun i j hi hj he => ?_⟩, fun i e he => ?_, hC.narrow hnar, ?_⟩
  · have hi : i < 187 := hi
    show (if i + 1 ≤ 187 then _ else _) = _
    rw [if_pos (by omega)]
    rfl
  · have h1 := (hS.narrow hnar).1 i hi
    show va_O _ (ad (1000 + i)) _ _ _ ∧ va_OF _ _ _ _ (ad (1000 + i)) _ _ _ ∧ va_OF _ _ _ (.ref (ad (2000 + i))) (ad (1000 + i)) _ _ _ ∧ va_T _ (ad (2000 + i)) _ _ _ _ _
    rw [e1 i hi, e2 i hi]
    exact h1
  · have he : ad (1000 + i) = ad (1000 + j) := he
    rw [e1 i hi, e1 j hj] at he
    exact hS.2 i j hi hj he
  · have hi : i < nStr := (List.getElem?_eq_some_iff.mp he).1
    rw [e1 i hi]
    have h2 := hK i hi
    unfold kT at h2
    rw [List.getD_eq_getElem?_getD, he] at h2
    exact vk_R.of (hts _ (strref_in i e he)) h2
  · rcases hF with h | h
    · exact Or.inl (h.narrow hnar)
    · exact Or.inr (h.narrow hnar)
