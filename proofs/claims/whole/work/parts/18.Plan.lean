theorem dX1_open_0 : decode cX1_open 0 = .ok (.aload_n 0, 1) := by decide +kernel
theorem dX1_open_1 : decode cX1_open 1 = .ok (.aload_n 1, 1) := by decide +kernel
theorem dX1_open_2 : decode cX1_open 2 = .ok (.putfield 9, 3) := by decide +kernel
theorem dX1_open_5 : decode cX1_open 5 = .ok (.aload_n 0, 1) := by decide +kernel
theorem dX1_open_6 : decode cX1_open 6 = .ok (.aload_n 2, 1) := by decide +kernel
theorem dX1_open_7 : decode cX1_open 7 = .ok (.putfield 15, 3) := by decide +kernel
theorem dX1_open_10 : decode cX1_open 10 = .ok (.aload_n 0, 1) := by decide +kernel
theorem dX1_open_11 : decode cX1_open 11 = .ok (.iload_n 3, 1) := by decide +kernel
theorem dX1_open_12 : decode cX1_open 12 = .ok (.putfield 19, 3) := by decide +kernel
theorem dX1_open_15 : decode cX1_open 15 = .ok (.aload_n 0, 1) := by decide +kernel
theorem dX1_open_16 : decode cX1_open 16 = .ok (.iload 4, 2) := by decide +kernel
theorem dX1_open_18 : decode cX1_open 18 = .ok (.putfield 23, 3) := by decide +kernel
theorem dX1_open_21 : decode cX1_open 21 = .ok (.aload_n 0, 1) := by decide +kernel
theorem dX1_open_22 : decode cX1_open 22 = .ok (.aload_n 1, 1) := by decide +kernel
theorem dX1_open_23 : decode cX1_open 23 = .ok (.getfield 54, 3) := by decide +kernel
theorem dX1_open_26 : decode cX1_open 26 = .ok (.iload 4, 2) := by decide +kernel
theorem dX1_open_28 : decode cX1_open 28 = .ok (.imul, 1) := by decide +kernel
theorem dX1_open_29 : decode cX1_open 29 = .ok (.putfield 26, 3) := by decide +kernel
theorem dX1_open_32 : decode cX1_open 32 = .ok (.return_, 1) := by decide +kernel
def zX1_open (Qr : Option PV → Mem → Prop) : XZ := (RX1, 0, 0, 5, none, Qr)
noncomputable def fX1_open (o : Nat) (x1 : Nat) (x2 : Nat) (x3 : Int) (x4 : Int) (F : Mem) : Option Mem :=
  if x1 = 0 then none else
  some (mset (mset (mset (mset (mset F o 0 (x1 : Int)) o 1 (x2 : Int)) o 2 x3) o 3 x4) o 4 (xw (((mset (mset (mset (mset F o 0 (x1 : Int)) o 1 (x2 : Int)) o 2 x3) o 3 x4) x1 0) * x4)))
theorem fX1_open_ok {Qr : Option PV → Mem → Prop} : ∀ (o : Nat) (x1 : Nat) (x2 : Nat) (x3 : Int) (x4 : Int) (F : Mem) (res : Mem) (ho : isK o 1) (hx1 : x1 = 0 ∨ isK x1 7) (hx2 : x2 = 0 ∨ isK x2 0), fX1_open o x1 x2 x3 x4 F = some res → Qr none res → PR cX1_open (zX1_open Qr) 0 [(0, vR o), (1, vR x1), (2, vR x2), (3, vI x3), (4, vI x4)] [] F := by
  intro o x1 x2 x3 x4 F res ho hx1 hx2 h hq
  refine s_aload_n (j := 0) dX1_open_0 rfl rfl ?_
  refine s_aload_n (j := 1) dX1_open_1 rfl rfl ?_
  refine s_putM dX1_open_2 flX1_9 fpX1_0 (Or.inl ⟨_, rfl⟩) ho hx1 ?_
  refine s_aload_n (j := 0) dX1_open_5 rfl rfl ?_
  refine s_aload_n (j := 2) dX1_open_6 rfl rfl ?_
  refine s_putM dX1_open_7 flX1_15 fpX1_1 (Or.inl ⟨_, rfl⟩) ho hx2 ?_
  refine s_aload_n (j := 0) dX1_open_10 rfl rfl ?_
  refine s_iload_n (j := 3) dX1_open_11 rfl rfl ?_
  refine s_putI dX1_open_12 flX1_19 fpX1_2 ho ?_
  refine s_aload_n (j := 0) dX1_open_15 rfl rfl ?_
  refine s_iload (j := 4) dX1_open_16 rfl ?_
  refine s_putI dX1_open_18 flX1_23 fpX1_3 ho ?_
  refine s_aload_n (j := 0) dX1_open_21 rfl rfl ?_
  refine s_aload_n (j := 1) dX1_open_22 rfl rfl ?_
  obtain ⟨hn1, h⟩ := gdn h
  refine s_getI dX1_open_23 flX1_54 (hx1.resolve_left hn1) ?_
  refine s_iload (j := 4) dX1_open_26 rfl ?_
  refine s_imul dX1_open_28 ?_
  refine s_putI dX1_open_29 flX1_26 fpX1_4 ho ?_
  have h := Option.some.inj h
  subst h
  exact s_return dX1_open_32 rfl hq
def gX1_open : XG := fun As F r F' => ∃ o : Nat, ∃ x1 : Nat, ∃ x2 : Nat, ∃ x3 : Int, ∃ x4 : Int, ∃ res : Mem, As = [vR o, vR x1, vR x2, vI x3, vI x4] ∧ isK o 1 ∧ (x1 = 0 ∨ isK x1 7) ∧ (x2 = 0 ∨ isK x2 0) ∧ fX1_open o x1 x2 x3 x4 F = some res ∧ r = none ∧ F' = res
theorem ctX1_open : xCT yX1_open cX1_open 5 (none) 0 0 gX1_open := xmet (by decide +kernel) (fun As F r F' hg => by obtain ⟨o, x1, x2, x3, x4, res, rfl, ho, hx1, hx2, h, rfl, rfl⟩ := hg; exact Nat.le_of_ble_eq_true rfl) (fun As F r F' hg => by obtain ⟨o, x1, x2, x3, x4, res, rfl, ho, hx1, hx2, h, rfl, rfl⟩ := hg; exact fX1_open_ok o x1 x2 x3 x4 _ _ ho hx1 hx2 h ⟨rfl, rfl⟩)
theorem mcX1_open : Cond.code yX1_open cX1_open 5 (none) ∈ xw_T ∧ Cond.initialized yX1_open.cls ∈ xw_T ∧ Cond.instanceMethod yX1_open ∈ xw_T ∧ Cond.selects yX1_open.cls yX1_open yX1_open ∈ xw_T := ⟨(xinT 1009 (by decide +kernel) (by decide +kernel)), (xinT 124 (by decide +kernel) (by decide +kernel)), (xinT 1007 (by decide +kernel) (by decide +kernel)), (xinT 1008 (by decide +kernel) (by decide +kernel))⟩
theorem clX9_389 {fr lo : Nat} (h1 : 0 + 1 ≤ fr) (h2 : 8 + (5 + 11) + 0 ≤ lo) : xCall RX9 fr lo 0 389 1 4 gX1_open := ⟨_, _, _, _, _, _, ctX1_open, h1, h2, mcX1_open.1, (xinT 1006 (by decide +kernel) (by decide +kernel)), mcX1_open.2.1, ⟨by decide +kernel, by decide +kernel, by decide +kernel⟩, by rw [if_pos rfl]; exact ⟨mcX1_open.2.2.1, mcX1_open.2.2.2, _, _, rfl⟩⟩
theorem dX1_dropMusts_0 : decode cX1_dropMusts 0 = .ok (.iconst 0, 1) := by decide +kernel
theorem dX1_dropMusts_1 : decode cX1_dropMusts 1 = .ok (.istore_n 1, 1) := by decide +kernel
theorem dX1_dropMusts_2 : decode cX1_dropMusts 2 = .ok (.iload_n 1, 1) := by decide +kernel
theorem dX1_dropMusts_3 : decode cX1_dropMusts 3 = .ok (.aload_n 0, 1) := by decide +kernel
theorem dX1_dropMusts_4 : decode cX1_dropMusts 4 = .ok (.getfield 26, 3) := by decide +kernel
theorem dX1_dropMusts_7 : decode cX1_dropMusts 7 = .ok (.if_icmp .ge 16, 3) := by decide +kernel
theorem dX1_dropMusts_10 : decode cX1_dropMusts 10 = .ok (.aload_n 0, 1) := by decide +kernel
theorem dX1_dropMusts_11 : decode cX1_dropMusts 11 = .ok (.getfield 36, 3) := by decide +kernel
theorem dX1_dropMusts_14 : decode cX1_dropMusts 14 = .ok (.iload_n 1, 1) := by decide +kernel
theorem dX1_dropMusts_15 : decode cX1_dropMusts 15 = .ok (.iconst (-1), 1) := by decide +kernel
theorem dX1_dropMusts_16 : decode cX1_dropMusts 16 = .ok (.iastore, 1) := by decide +kernel
theorem dX1_dropMusts_17 : decode cX1_dropMusts 17 = .ok (.iinc 1 1, 3) := by decide +kernel
theorem dX1_dropMusts_20 : decode cX1_dropMusts 20 = .ok (.goto (-18), 3) := by decide +kernel
theorem dX1_dropMusts_23 : decode cX1_dropMusts 23 = .ok (.return_, 1) := by decide +kernel
def zX1_dropMusts (Qr : Option PV → Mem → Prop) : XZ := (RX1, 0, 0, 2, none, Qr)
noncomputable def fX1_dropMusts_b2 : Nat → Nat → Int → Mem → Option Mem
  | 0, _, _, _ => none
  | n + 1, o, x1, F =>
    if (F o 4) ≤ x1 then
      some F
    else
      if (0 : Int) ≤ x1 ∧ x1 < (alen (o + 3) : Int) then
        fX1_dropMusts_b2 n o (xw (x1 + 1)) (mset F (o + 3) x1.toNat (-1))
      else none
noncomputable def fX1_dropMusts (o : Nat) (F : Mem) : Option Mem :=
  fX1_dropMusts_b2 FU o 0 F
theorem fX1_dropMusts_b2_ok {Qr : Option PV → Mem → Prop}  : ∀ (n : Nat) (o : Nat) (x1 : Int) (F : Mem) (res : Mem) (ho : isK o 1), fX1_dropMusts_b2 n o x1 F = some res → Qr none res → PR cX1_dropMusts (zX1_dropMusts Qr) 2 [(0, vR o), (1, vI x1)] [] F := by
  intro n
  induction n with
  | zero => intro o x1 F res ho h hq; exact nomatch (show (none : Option _) = some _ from h)
  | succ n ih =>
    intro o x1 F res ho h hq
    refine s_iload_n (j := 1) dX1_dropMusts_2 rfl rfl ?_
    refine s_aload_n (j := 0) dX1_dropMusts_3 rfl rfl ?_
    refine s_getI dX1_dropMusts_4 flX1_26 ho ?_
    refine s_icmp_ge (tgt := 23) dX1_dropMusts_7 rfl (fun hc1 => ?_) (fun hc1 => ?_)
    · have h := ifp hc1 h
      have h := Option.some.inj h
      subst h
      exact s_return dX1_dropMusts_23 rfl hq
    · have h := ifn hc1 h
      refine s_aload_n (j := 0) dX1_dropMusts_10 rfl rfl ?_
      refine s_getR dX1_dropMusts_11 flX1_36 ho ?_
      refine s_iload_n (j := 1) dX1_dropMusts_14 rfl rfl ?_
      refine s_iconst dX1_dropMusts_15 (cin rfl) ?_
      obtain ⟨hb2, h⟩ := gd h
      refine s_iastore dX1_dropMusts_16 (trX1_7 ho) hb2.1 hb2.2 ?_
      refine s_iinc (ls' := [(1, vI (xw (x1 + 1))), (0, vR o)]) (j := 1) dX1_dropMusts_17 rfl (Nat.le_of_ble_eq_true rfl) rfl ?_
      refine s_goto (tgt := 2) dX1_dropMusts_20 rfl ?_
      exact s_sub (ks := [1, 0]) rfl (ih o (xw (x1 + 1)) (mset F (o + 3) x1.toNat (-1)) _ ho h hq)
theorem fX1_dropMusts_ok {Qr : Option PV → Mem → Prop} : ∀ (o : Nat) (F : Mem) (res : Mem) (ho : isK o 1), fX1_dropMusts o F = some res → Qr none res → PR cX1_dropMusts (zX1_dropMusts Qr) 0 [(0, vR o)] [] F := by
  intro o F res ho h hq
  refine s_iconst dX1_dropMusts_0 (cin rfl) ?_
  refine s_istore_n (ls' := [(1, vI 0), (0, vR o)]) dX1_dropMusts_1 rfl (Nat.le_of_ble_eq_true rfl) rfl ?_
  exact s_sub (ks := [1, 0]) rfl (fX1_dropMusts_b2_ok FU o 0 F _ ho h hq)
def gX1_dropMusts : XG := fun As F r F' => ∃ o : Nat, ∃ res : Mem, As = [vR o] ∧ isK o 1 ∧ fX1_dropMusts o F = some res ∧ r = none ∧ F' = res
theorem ctX1_dropMusts : xCT yX1_dropMusts cX1_dropMusts 2 (none) 0 0 gX1_dropMusts := xmet (by decide +kernel) (fun As F r F' hg => by obtain ⟨o, res, rfl, ho, h, rfl, rfl⟩ := hg; exact Nat.le_of_ble_eq_true rfl) (fun As F r F' hg => by obtain ⟨o, res, rfl, ho, h, rfl, rfl⟩ := hg; exact fX1_dropMusts_ok o _ _ ho h ⟨rfl, rfl⟩)
theorem mcX1_dropMusts : Cond.code yX1_dropMusts cX1_dropMusts 2 (none) ∈ xw_T ∧ Cond.initialized yX1_dropMusts.cls ∈ xw_T ∧ Cond.instanceMethod yX1_dropMusts ∈ xw_T ∧ Cond.selects yX1_dropMusts.cls yX1_dropMusts yX1_dropMusts ∈ xw_T := ⟨(xinT 1023 (by decide +kernel) (by decide +kernel)), (xinT 124 (by decide +kernel) (by decide +kernel)), (xinT 1021 (by decide +kernel) (by decide +kernel)), (xinT 1022 (by decide +kernel) (by decide +kernel))⟩
theorem clX1_64 {fr lo : Nat} (h1 : 0 + 1 ≤ fr) (h2 : 8 + (2 + 11) + 0 ≤ lo) : xCall RX1 fr lo 0 64 1 0 gX1_dropMusts := ⟨_, _, _, _, _, _, ctX1_dropMusts, h1, h2, mcX1_dropMusts.1, (xinT 1020 (by decide +kernel) (by decide +kernel)), mcX1_dropMusts.2.1, ⟨by decide +kernel, by decide +kernel, by decide +kernel⟩, by rw [if_pos rfl]; exact ⟨mcX1_dropMusts.2.2.1, mcX1_dropMusts.2.2.2, _, _, rfl⟩⟩
theorem clX9_300 {fr lo : Nat} (h1 : 0 + 1 ≤ fr) (h2 : 8 + (2 + 11) + 0 ≤ lo) : xCall RX9 fr lo 0 300 1 0 gX1_dropMusts := ⟨_, _, _, _, _, _, ctX1_dropMusts, h1, h2, mcX1_dropMusts.1, (xinT 1175 (by decide +kernel) (by decide +kernel)), mcX1_dropMusts.2.1, ⟨by decide +kernel, by decide +kernel, by decide +kernel⟩, by rw [if_pos rfl]; exact ⟨mcX1_dropMusts.2.2.1, mcX1_dropMusts.2.2.2, _, _, rfl⟩⟩
theorem dX1_gainIfHeld_0 : decode cX1_gainIfHeld 0 = .ok (.aload_n 0, 1) := by decide +kernel
theorem dX1_gainIfHeld_1 : decode cX1_gainIfHeld 1 = .ok (.getfield 9, 3) := by decide +kernel
theorem dX1_gainIfHeld_4 : decode cX1_gainIfHeld 4 = .ok (.aload_n 0, 1) := by decide +kernel
theorem dX1_gainIfHeld_5 : decode cX1_gainIfHeld 5 = .ok (.getfield 9, 3) := by decide +kernel
theorem dX1_gainIfHeld_8 : decode cX1_gainIfHeld 8 = .ok (.getfield 67, 3) := by decide +kernel
theorem dX1_gainIfHeld_11 : decode cX1_gainIfHeld 11 = .ok (.iload_n 2, 1) := by decide +kernel
theorem dX1_gainIfHeld_12 : decode cX1_gainIfHeld 12 = .ok (.iconst 1, 1) := by decide +kernel
theorem dX1_gainIfHeld_13 : decode cX1_gainIfHeld 13 = .ok (.invokevirtual 87, 3) := by decide +kernel
theorem dX1_gainIfHeld_16 : decode cX1_gainIfHeld 16 = .ok (.iload_n 1, 1) := by decide +kernel
theorem dX1_gainIfHeld_17 : decode cX1_gainIfHeld 17 = .ok (.invokevirtual 164, 3) := by decide +kernel
theorem dX1_gainIfHeld_20 : decode cX1_gainIfHeld 20 = .ok (.ifCond .eq 12, 3) := by decide +kernel
theorem dX1_gainIfHeld_23 : decode cX1_gainIfHeld 23 = .ok (.aload_n 0, 1) := by decide +kernel
theorem dX1_gainIfHeld_24 : decode cX1_gainIfHeld 24 = .ok (.getfield 29, 3) := by decide +kernel
theorem dX1_gainIfHeld_27 : decode cX1_gainIfHeld 27 = .ok (.iload_n 2, 1) := by decide +kernel
theorem dX1_gainIfHeld_28 : decode cX1_gainIfHeld 28 = .ok (.iaload, 1) := by decide +kernel
theorem dX1_gainIfHeld_29 : decode cX1_gainIfHeld 29 = .ok (.goto 4, 3) := by decide +kernel
theorem dX1_gainIfHeld_32 : decode cX1_gainIfHeld 32 = .ok (.iconst 0, 1) := by decide +kernel
theorem dX1_gainIfHeld_33 : decode cX1_gainIfHeld 33 = .ok (.ireturn, 1) := by decide +kernel
def zX1_gainIfHeld (Qr : Option PV → Mem → Prop) : XZ := (RX1, 1, 22, 3, some FieldType.int, Qr)
noncomputable def fX1_gainIfHeld (o : Nat) (x1 : Int) (x2 : Int) (F : Mem) : Option Int :=
  if (F o 0).toNat = 0 then none else
  (fX3_cell (((F o 0).toNat) + 1) x2 1 F).bind fun r4 =>
  if (F o 0).toNat = 0 then none else
  if (fX7_seesBy ((F o 0).toNat) r4 x1 F) = 0 then
    some 0
  else
    if (0 : Int) ≤ x2 ∧ x2 < (alen (o + 1) : Int) then
      some (F (o + 1) x2.toNat)
    else none
theorem fX1_gainIfHeld_ok {Qr : Option PV → Mem → Prop} : ∀ (o : Nat) (x1 : Int) (x2 : Int) (F : Mem) (res : Int) (ho : isK o 1), fX1_gainIfHeld o x1 x2 F = some res → Qr (some (vI res)) F → PR cX1_gainIfHeld (zX1_gainIfHeld Qr) 0 [(0, vR o), (1, vI x1), (2, vI x2)] [] F := by
  intro o x1 x2 F res ho h hq
  refine s_aload_n (j := 0) dX1_gainIfHeld_0 rfl rfl ?_
  refine s_getM dX1_gainIfHeld_1 flX1_9 ho (fun hm1 => ?_)
  have hm1 : _ = 0 ∨ isK ((F o 0).toNat) 7 := hm1
  refine s_aload_n (j := 0) dX1_gainIfHeld_4 rfl rfl ?_
  refine s_getM dX1_gainIfHeld_5 flX1_9 ho (fun hm2 => ?_)
  have hm2 : _ = 0 ∨ isK ((F o 0).toNat) 7 := hm2
  obtain ⟨hn3, h⟩ := gdn h
  refine s_getR dX1_gainIfHeld_8 flX1_67 (hm2.resolve_left hn3) ?_
  refine s_iload_n (j := 2) dX1_gainIfHeld_11 rfl rfl ?_
  refine s_iconst dX1_gainIfHeld_12 (cin rfl) ?_
  obtain ⟨r4, hv5, h⟩ := bnd h
  refine s_callV (As := [vI x2, vI 1]) (rest := [vR ((F o 0).toNat)]) (r := (some (vI r4))) (F' := F) dX1_gainIfHeld_13 (clX1_87 (Nat.le_of_ble_eq_true rfl) (Nat.le_of_ble_eq_true rfl)) (trX7_5 (hm2.resolve_left hn3)) rfl ⟨_, _, _, _, rfl, (trX7_5 (hm2.resolve_left hn3)), hv5, rfl, rfl⟩ rfl (Nat.le_of_ble_eq_true rfl) ?_
  refine s_iload_n (j := 1) dX1_gainIfHeld_16 rfl rfl ?_
  obtain ⟨hn6, h⟩ := gdn h
  refine s_callV (As := [vI r4, vI x1]) (rest := []) (r := (some (vI (fX7_seesBy ((F o 0).toNat) r4 x1 F)))) (F' := F) dX1_gainIfHeld_17 (clX1_164 (Nat.le_of_ble_eq_true rfl) (Nat.le_of_ble_eq_true rfl)) (hm1.resolve_left hn6) rfl ⟨_, _, _, _, rfl, (hm1.resolve_left hn6), rfl, rfl, rfl⟩ rfl (Nat.le_of_ble_eq_true rfl) ?_
  refine s_if_eq (tgt := 32) dX1_gainIfHeld_20 rfl (fun hc7 => ?_) (fun hc7 => ?_)
  · have h := ifp hc7 h
    refine s_iconst dX1_gainIfHeld_32 (cin rfl) ?_
    have h := Option.some.inj h
    subst h
    exact s_ireturn dX1_gainIfHeld_33 rfl hq
  · have h := ifn hc7 h
    refine s_aload_n (j := 0) dX1_gainIfHeld_23 rfl rfl ?_
    refine s_getR dX1_gainIfHeld_24 flX1_29 ho ?_
    refine s_iload_n (j := 2) dX1_gainIfHeld_27 rfl rfl ?_
    obtain ⟨hb8, h⟩ := gd h
    refine s_iaload dX1_gainIfHeld_28 (trX1_5 ho) hb8.1 hb8.2 ?_
    refine s_goto (tgt := 33) dX1_gainIfHeld_29 rfl ?_
    have h := Option.some.inj h
    subst h
    exact s_ireturn dX1_gainIfHeld_33 rfl hq
def gX1_gainIfHeld : XG := fun As F r F' => ∃ o : Nat, ∃ x1 : Int, ∃ x2 : Int, ∃ res : Int, As = [vR o, vI x1, vI x2] ∧ isK o 1 ∧ fX1_gainIfHeld o x1 x2 F = some res ∧ r = some (vI res) ∧ F' = F
theorem ctX1_gainIfHeld : xCT yX1_gainIfHeld cX1_gainIfHeld 3 (some FieldType.int) 1 22 gX1_gainIfHeld := xmet (by decide +kernel) (fun As F r F' hg => by obtain ⟨o, x1, x2, res, rfl, ho, h, rfl, rfl⟩ := hg; exact Nat.le_of_ble_eq_true rfl) (fun As F r F' hg => by obtain ⟨o, x1, x2, res, rfl, ho, h, rfl, rfl⟩ := hg; exact fX1_gainIfHeld_ok o x1 x2 _ _ ho h ⟨rfl, rfl⟩)
theorem mcX1_gainIfHeld : Cond.code yX1_gainIfHeld cX1_gainIfHeld 3 (some FieldType.int) ∈ xw_T ∧ Cond.initialized yX1_gainIfHeld.cls ∈ xw_T ∧ Cond.instanceMethod yX1_gainIfHeld ∈ xw_T ∧ Cond.selects yX1_gainIfHeld.cls yX1_gainIfHeld yX1_gainIfHeld ∈ xw_T := ⟨(xinT 1043 (by decide +kernel) (by decide +kernel)), (xinT 124 (by decide +kernel) (by decide +kernel)), (xinT 1042 (by decide +kernel) (by decide +kernel)), (xinT 28 (by decide +kernel) (by decide +kernel))⟩
theorem clX1_105 {fr lo : Nat} (h1 : 1 + 1 ≤ fr) (h2 : 8 + (3 + 11) + 22 ≤ lo) : xCall RX1 fr lo 0 105 1 2 gX1_gainIfHeld := ⟨_, _, _, _, _, _, ctX1_gainIfHeld, h1, h2, mcX1_gainIfHeld.1, (xinT 1040 (by decide +kernel) (by decide +kernel)), mcX1_gainIfHeld.2.1, ⟨by decide +kernel, by decide +kernel, by decide +kernel⟩, by rw [if_pos rfl]; exact ⟨mcX1_gainIfHeld.2.2.1, mcX1_gainIfHeld.2.2.2, _, _, rfl⟩⟩
theorem dX1_fillSlot_0 : decode cX1_fillSlot 0 = .ok (.aload_n 0, 1) := by decide +kernel
theorem dX1_fillSlot_1 : decode cX1_fillSlot 1 = .ok (.getfield 19, 3) := by decide +kernel
theorem dX1_fillSlot_4 : decode cX1_fillSlot 4 = .ok (.iload_n 1, 1) := by decide +kernel
theorem dX1_fillSlot_5 : decode cX1_fillSlot 5 = .ok (.iadd, 1) := by decide +kernel
theorem dX1_fillSlot_6 : decode cX1_fillSlot 6 = .ok (.bipush 7, 2) := by decide +kernel
theorem dX1_fillSlot_8 : decode cX1_fillSlot 8 = .ok (.irem, 1) := by decide +kernel
theorem dX1_fillSlot_9 : decode cX1_fillSlot 9 = .ok (.istore_n 3, 1) := by decide +kernel
theorem dX1_fillSlot_10 : decode cX1_fillSlot 10 = .ok (.iload_n 1, 1) := by decide +kernel
theorem dX1_fillSlot_11 : decode cX1_fillSlot 11 = .ok (.aload_n 0, 1) := by decide +kernel
theorem dX1_fillSlot_12 : decode cX1_fillSlot 12 = .ok (.getfield 9, 3) := by decide +kernel
theorem dX1_fillSlot_15 : decode cX1_fillSlot 15 = .ok (.getfield 54, 3) := by decide +kernel
theorem dX1_fillSlot_18 : decode cX1_fillSlot 18 = .ok (.imul, 1) := by decide +kernel
theorem dX1_fillSlot_19 : decode cX1_fillSlot 19 = .ok (.iload_n 2, 1) := by decide +kernel
theorem dX1_fillSlot_20 : decode cX1_fillSlot 20 = .ok (.iadd, 1) := by decide +kernel
theorem dX1_fillSlot_21 : decode cX1_fillSlot 21 = .ok (.bipush 8, 2) := by decide +kernel
theorem dX1_fillSlot_23 : decode cX1_fillSlot 23 = .ok (.imul, 1) := by decide +kernel
theorem dX1_fillSlot_24 : decode cX1_fillSlot 24 = .ok (.istore 4, 2) := by decide +kernel
theorem dX1_fillSlot_26 : decode cX1_fillSlot 26 = .ok (.iconst 0, 1) := by decide +kernel
theorem dX1_fillSlot_27 : decode cX1_fillSlot 27 = .ok (.istore 5, 2) := by decide +kernel
theorem dX1_fillSlot_29 : decode cX1_fillSlot 29 = .ok (.iload 5, 2) := by decide +kernel
theorem dX1_fillSlot_31 : decode cX1_fillSlot 31 = .ok (.aload_n 0, 1) := by decide +kernel
theorem dX1_fillSlot_32 : decode cX1_fillSlot 32 = .ok (.getfield 9, 3) := by decide +kernel
theorem dX1_fillSlot_35 : decode cX1_fillSlot 35 = .ok (.getfield 67, 3) := by decide +kernel
theorem dX1_fillSlot_38 : decode cX1_fillSlot 38 = .ok (.getfield 71, 3) := by decide +kernel
theorem dX1_fillSlot_41 : decode cX1_fillSlot 41 = .ok (.if_icmp .ge 44, 3) := by decide +kernel
theorem dX1_fillSlot_44 : decode cX1_fillSlot 44 = .ok (.aload_n 0, 1) := by decide +kernel
theorem dX1_fillSlot_45 : decode cX1_fillSlot 45 = .ok (.getfield 33, 3) := by decide +kernel
theorem dX1_fillSlot_48 : decode cX1_fillSlot 48 = .ok (.iload 4, 2) := by decide +kernel
theorem dX1_fillSlot_50 : decode cX1_fillSlot 50 = .ok (.iload 5, 2) := by decide +kernel
theorem dX1_fillSlot_52 : decode cX1_fillSlot 52 = .ok (.iadd, 1) := by decide +kernel
theorem dX1_fillSlot_53 : decode cX1_fillSlot 53 = .ok (.aload_n 0, 1) := by decide +kernel
theorem dX1_fillSlot_54 : decode cX1_fillSlot 54 = .ok (.getfield 15, 3) := by decide +kernel
theorem dX1_fillSlot_57 : decode cX1_fillSlot 57 = .ok (.iload_n 3, 1) := by decide +kernel
theorem dX1_fillSlot_58 : decode cX1_fillSlot 58 = .ok (.iload_n 2, 1) := by decide +kernel
theorem dX1_fillSlot_59 : decode cX1_fillSlot 59 = .ok (.iload 5, 2) := by decide +kernel
theorem dX1_fillSlot_61 : decode cX1_fillSlot 61 = .ok (.invokevirtual 99, 3) := by decide +kernel
theorem dX1_fillSlot_64 : decode cX1_fillSlot 64 = .ok (.ifCond .eq 13, 3) := by decide +kernel
theorem dX1_fillSlot_67 : decode cX1_fillSlot 67 = .ok (.aload_n 0, 1) := by decide +kernel
theorem dX1_fillSlot_68 : decode cX1_fillSlot 68 = .ok (.iload_n 2, 1) := by decide +kernel
theorem dX1_fillSlot_69 : decode cX1_fillSlot 69 = .ok (.iload 5, 2) := by decide +kernel
theorem dX1_fillSlot_71 : decode cX1_fillSlot 71 = .ok (.invokevirtual 105, 3) := by decide +kernel
theorem dX1_fillSlot_74 : decode cX1_fillSlot 74 = .ok (.goto 4, 3) := by decide +kernel
theorem dX1_fillSlot_77 : decode cX1_fillSlot 77 = .ok (.iconst 0, 1) := by decide +kernel
theorem dX1_fillSlot_78 : decode cX1_fillSlot 78 = .ok (.iastore, 1) := by decide +kernel
theorem dX1_fillSlot_79 : decode cX1_fillSlot 79 = .ok (.iinc 5 1, 3) := by decide +kernel
theorem dX1_fillSlot_82 : decode cX1_fillSlot 82 = .ok (.goto (-53), 3) := by decide +kernel
theorem dX1_fillSlot_85 : decode cX1_fillSlot 85 = .ok (.return_, 1) := by decide +kernel
def zX1_fillSlot (Qr : Option PV → Mem → Prop) : XZ := (RX1, 2, 44, 6, none, Qr)
noncomputable def fX1_fillSlot_b29 : Nat → Nat → Int → Int → Int → Int → Mem → Option Mem
  | 0, _, _, _, _, _, _ => none
  | n + 1, o, x2, x3, x4, x5, F =>
    if (F o 0).toNat = 0 then none else
    if (F (((F o 0).toNat) + 1) 3) ≤ x5 then
      some F
    else
      if (F o 1).toNat = 0 then none else
      (fX0_mayWork ((F o 1).toNat) x3 x2 x5 F).bind fun r6 =>
      if r6 = 0 then
        if (0 : Int) ≤ (xw (x4 + x5)) ∧ (xw (x4 + x5)) < (alen (o + 2) : Int) then
          fX1_fillSlot_b29 n o x2 x3 x4 (xw (x5 + 1)) (mset F (o + 2) (xw (x4 + x5)).toNat 0)
        else none
      else
        (fX1_gainIfHeld o x2 x5 F).bind fun r10 =>
        if (0 : Int) ≤ (xw (x4 + x5)) ∧ (xw (x4 + x5)) < (alen (o + 2) : Int) then
          fX1_fillSlot_b29 n o x2 x3 x4 (xw (x5 + 1)) (mset F (o + 2) (xw (x4 + x5)).toNat r10)
        else none
noncomputable def fX1_fillSlot (o : Nat) (x1 : Int) (x2 : Int) (F : Mem) : Option Mem :=
  if (F o 0).toNat = 0 then none else
  fX1_fillSlot_b29 FU o x2 (Int.tmod (xw ((F o 2) + x1)) 7) (xw ((xw ((xw (x1 * (F ((F o 0).toNat) 0))) + x2)) * 8)) 0 F
theorem fX1_fillSlot_b29_ok {Qr : Option PV → Mem → Prop}  : ∀ (n : Nat) (o : Nat) (x2 : Int) (x3 : Int) (x4 : Int) (x5 : Int) (F : Mem) (res : Mem) (ho : isK o 1), fX1_fillSlot_b29 n o x2 x3 x4 x5 F = some res → Qr none res → PR cX1_fillSlot (zX1_fillSlot Qr) 29 [(0, vR o), (2, vI x2), (3, vI x3), (4, vI x4), (5, vI x5)] [] F := by
  intro n
  induction n with
  | zero => intro o x2 x3 x4 x5 F res ho h hq; exact nomatch (show (none : Option _) = some _ from h)
  | succ n ih =>
    intro o x2 x3 x4 x5 F res ho h hq
    refine s_iload (j := 4) dX1_fillSlot_29 rfl ?_
    refine s_aload_n (j := 0) dX1_fillSlot_31 rfl rfl ?_
    refine s_getM dX1_fillSlot_32 flX1_9 ho (fun hm1 => ?_)
    have hm1 : _ = 0 ∨ isK ((F o 0).toNat) 7 := hm1
    obtain ⟨hn2, h⟩ := gdn h
    refine s_getR dX1_fillSlot_35 flX1_67 (hm1.resolve_left hn2) ?_
    refine s_getI dX1_fillSlot_38 flX1_71 (trX7_5 (hm1.resolve_left hn2)) ?_
    refine s_icmp_ge (tgt := 85) dX1_fillSlot_41 rfl (fun hc3 => ?_) (fun hc3 => ?_)
    · have h := ifp hc3 h
      have h := Option.some.inj h
      subst h
      exact s_return dX1_fillSlot_85 rfl hq
    · have h := ifn hc3 h
      refine s_aload_n (j := 0) dX1_fillSlot_44 rfl rfl ?_
      refine s_getR dX1_fillSlot_45 flX1_33 ho ?_
      refine s_iload (j := 3) dX1_fillSlot_48 rfl ?_
      refine s_iload (j := 4) dX1_fillSlot_50 rfl ?_
      refine s_iadd dX1_fillSlot_52 ?_
      refine s_aload_n (j := 0) dX1_fillSlot_53 rfl rfl ?_
      refine s_getM dX1_fillSlot_54 flX1_15 ho (fun hm4 => ?_)
      have hm4 : _ = 0 ∨ isK ((F o 1).toNat) 0 := hm4
      refine s_iload_n (j := 2) dX1_fillSlot_57 rfl rfl ?_
      refine s_iload_n (j := 1) dX1_fillSlot_58 rfl rfl ?_
      refine s_iload (j := 4) dX1_fillSlot_59 rfl ?_
      obtain ⟨hn5, h⟩ := gdn h
      obtain ⟨r6, hv7, h⟩ := bnd h
      refine s_callV (As := [vI x3, vI x2, vI x5]) (rest := [vI (xw (x4 + x5)), vR (o + 2)]) (r := (some (vI r6))) (F' := F) dX1_fillSlot_61 (clX1_99 (Nat.le_of_ble_eq_true rfl) (Nat.le_of_ble_eq_true rfl)) (hm4.resolve_left hn5) rfl ⟨_, _, _, _, _, rfl, (hm4.resolve_left hn5), hv7, rfl, rfl⟩ rfl (Nat.le_of_ble_eq_true rfl) ?_
      refine s_if_eq (tgt := 77) dX1_fillSlot_64 rfl (fun hc8 => ?_) (fun hc8 => ?_)
      · have h := ifp hc8 h
        refine s_iconst dX1_fillSlot_77 (cin rfl) ?_
        obtain ⟨hb9, h⟩ := gd h
        refine s_iastore dX1_fillSlot_78 (trX1_6 ho) hb9.1 hb9.2 ?_
        refine s_iinc (ls' := [(5, vI (xw (x5 + 1))), (0, vR o), (2, vI x2), (3, vI x3), (4, vI x4)]) (j := 4) dX1_fillSlot_79 rfl (Nat.le_of_ble_eq_true rfl) rfl ?_
        refine s_goto (tgt := 29) dX1_fillSlot_82 rfl ?_
        exact s_sub (ks := [1, 2, 3, 4, 0]) rfl (ih o x2 x3 x4 (xw (x5 + 1)) (mset F (o + 2) (xw (x4 + x5)).toNat 0) _ ho h hq)
      · have h := ifn hc8 h
        refine s_aload_n (j := 0) dX1_fillSlot_67 rfl rfl ?_
        refine s_iload_n (j := 1) dX1_fillSlot_68 rfl rfl ?_
        refine s_iload (j := 4) dX1_fillSlot_69 rfl ?_
        obtain ⟨r10, hv11, h⟩ := bnd h
        refine s_callV (As := [vI x2, vI x5]) (rest := [vI (xw (x4 + x5)), vR (o + 2)]) (r := (some (vI r10))) (F' := F) dX1_fillSlot_71 (clX1_105 (Nat.le_of_ble_eq_true rfl) (Nat.le_of_ble_eq_true rfl)) ho rfl ⟨_, _, _, _, rfl, ho, hv11, rfl, rfl⟩ rfl (Nat.le_of_ble_eq_true rfl) ?_
        refine s_goto (tgt := 78) dX1_fillSlot_74 rfl ?_
        obtain ⟨hb12, h⟩ := gd h
        refine s_iastore dX1_fillSlot_78 (trX1_6 ho) hb12.1 hb12.2 ?_
        refine s_iinc (ls' := [(5, vI (xw (x5 + 1))), (0, vR o), (2, vI x2), (3, vI x3), (4, vI x4)]) (j := 4) dX1_fillSlot_79 rfl (Nat.le_of_ble_eq_true rfl) rfl ?_
        refine s_goto (tgt := 29) dX1_fillSlot_82 rfl ?_
        exact s_sub (ks := [1, 2, 3, 4, 0]) rfl (ih o x2 x3 x4 (xw (x5 + 1)) (mset F (o + 2) (xw (x4 + x5)).toNat r10) _ ho h hq)
theorem fX1_fillSlot_ok {Qr : Option PV → Mem → Prop} : ∀ (o : Nat) (x1 : Int) (x2 : Int) (F : Mem) (res : Mem) (ho : isK o 1), fX1_fillSlot o x1 x2 F = some res → Qr none res → PR cX1_fillSlot (zX1_fillSlot Qr) 0 [(0, vR o), (1, vI x1), (2, vI x2)] [] F := by
  intro o x1 x2 F res ho h hq
  refine s_aload_n (j := 0) dX1_fillSlot_0 rfl rfl ?_
  refine s_getI dX1_fillSlot_1 flX1_19 ho ?_
  refine s_iload_n (j := 1) dX1_fillSlot_4 rfl rfl ?_
  refine s_iadd dX1_fillSlot_5 ?_
  refine s_bipush dX1_fillSlot_6 rfl (cin rfl) ?_
  refine s_irem dX1_fillSlot_8 (by decide) ?_
  refine s_istore_n (ls' := [(3, vI (Int.tmod (xw ((F o 2) + x1)) 7)), (0, vR o), (1, vI x1), (2, vI x2)]) dX1_fillSlot_9 rfl (Nat.le_of_ble_eq_true rfl) rfl ?_
  refine s_iload_n (j := 2) dX1_fillSlot_10 rfl rfl ?_
  refine s_aload_n (j := 1) dX1_fillSlot_11 rfl rfl ?_
  refine s_getM dX1_fillSlot_12 flX1_9 ho (fun hm1 => ?_)
  have hm1 : _ = 0 ∨ isK ((F o 0).toNat) 7 := hm1
  obtain ⟨hn2, h⟩ := gdn h
  refine s_getI dX1_fillSlot_15 flX1_54 (hm1.resolve_left hn2) ?_
  refine s_imul dX1_fillSlot_18 ?_
  refine s_iload_n (j := 3) dX1_fillSlot_19 rfl rfl ?_
  refine s_iadd dX1_fillSlot_20 ?_
  refine s_bipush dX1_fillSlot_21 rfl (cin rfl) ?_
  refine s_imul dX1_fillSlot_23 ?_
  refine s_istore dX1_fillSlot_24 (Nat.le_of_ble_eq_true rfl) rfl ?_
  refine s_iconst dX1_fillSlot_26 (cin rfl) ?_
  refine s_istore (ls' := [(5, vI 0), (4, vI (xw ((xw ((xw (x1 * (F ((F o 0).toNat) 0))) + x2)) * 8))), (3, vI (Int.tmod (xw ((F o 2) + x1)) 7)), (0, vR o), (1, vI x1), (2, vI x2)]) dX1_fillSlot_27 (Nat.le_of_ble_eq_true rfl) rfl ?_
  exact s_sub (ks := [3, 5, 2, 1, 0]) rfl (fX1_fillSlot_b29_ok FU o x2 (Int.tmod (xw ((F o 2) + x1)) 7) (xw ((xw ((xw (x1 * (F ((F o 0).toNat) 0))) + x2)) * 8)) 0 F _ ho h hq)
def gX1_fillSlot : XG := fun As F r F' => ∃ o : Nat, ∃ x1 : Int, ∃ x2 : Int, ∃ res : Mem, As = [vR o, vI x1, vI x2] ∧ isK o 1 ∧ fX1_fillSlot o x1 x2 F = some res ∧ r = none ∧ F' = res
theorem ctX1_fillSlot : xCT yX1_fillSlot cX1_fillSlot 6 (none) 2 44 gX1_fillSlot := xmet (by decide +kernel) (fun As F r F' hg => by obtain ⟨o, x1, x2, res, rfl, ho, h, rfl, rfl⟩ := hg; exact Nat.le_of_ble_eq_true rfl) (fun As F r F' hg => by obtain ⟨o, x1, x2, res, rfl, ho, h, rfl, rfl⟩ := hg; exact fX1_fillSlot_ok o x1 x2 _ _ ho h ⟨rfl, rfl⟩)
theorem mcX1_fillSlot : Cond.code yX1_fillSlot cX1_fillSlot 6 (none) ∈ xw_T ∧ Cond.initialized yX1_fillSlot.cls ∈ xw_T ∧ Cond.instanceMethod yX1_fillSlot ∈ xw_T ∧ Cond.selects yX1_fillSlot.cls yX1_fillSlot yX1_fillSlot ∈ xw_T := ⟨(xinT 1038 (by decide +kernel) (by decide +kernel)), (xinT 124 (by decide +kernel) (by decide +kernel)), (xinT 1037 (by decide +kernel) (by decide +kernel)), (xinT 27 (by decide +kernel) (by decide +kernel))⟩
theorem clX1_95 {fr lo : Nat} (h1 : 2 + 1 ≤ fr) (h2 : 8 + (6 + 11) + 44 ≤ lo) : xCall RX1 fr lo 0 95 1 2 gX1_fillSlot := ⟨_, _, _, _, _, _, ctX1_fillSlot, h1, h2, mcX1_fillSlot.1, (xinT 1035 (by decide +kernel) (by decide +kernel)), mcX1_fillSlot.2.1, ⟨by decide +kernel, by decide +kernel, by decide +kernel⟩, by rw [if_pos rfl]; exact ⟨mcX1_fillSlot.2.2.1, mcX1_fillSlot.2.2.2, _, _, rfl⟩⟩
theorem dX1_require_0 : decode cX1_require 0 = .ok (.iconst 0, 1) := by decide +kernel
theorem dX1_require_1 : decode cX1_require 1 = .ok (.iload_n 2, 1) := by decide +kernel
theorem dX1_require_2 : decode cX1_require 2 = .ok (.invokestatic 115, 3) := by decide +kernel
theorem dX1_require_5 : decode cX1_require 5 = .ok (.istore 4, 2) := by decide +kernel
theorem dX1_require_7 : decode cX1_require 7 = .ok (.iload 4, 2) := by decide +kernel
theorem dX1_require_9 : decode cX1_require 9 = .ok (.iload_n 3, 1) := by decide +kernel
theorem dX1_require_10 : decode cX1_require 10 = .ok (.if_icmp .ge 53, 3) := by decide +kernel
theorem dX1_require_13 : decode cX1_require 13 = .ok (.iload 4, 2) := by decide +kernel
theorem dX1_require_15 : decode cX1_require 15 = .ok (.aload_n 0, 1) := by decide +kernel
theorem dX1_require_16 : decode cX1_require 16 = .ok (.getfield 26, 3) := by decide +kernel
theorem dX1_require_19 : decode cX1_require 19 = .ok (.if_icmp .ge 44, 3) := by decide +kernel
theorem dX1_require_22 : decode cX1_require 22 = .ok (.aload_n 0, 1) := by decide +kernel
theorem dX1_require_23 : decode cX1_require 23 = .ok (.getfield 36, 3) := by decide +kernel
theorem dX1_require_26 : decode cX1_require 26 = .ok (.iload 4, 2) := by decide +kernel
theorem dX1_require_28 : decode cX1_require 28 = .ok (.aload_n 0, 1) := by decide +kernel
theorem dX1_require_29 : decode cX1_require 29 = .ok (.getfield 36, 3) := by decide +kernel
theorem dX1_require_32 : decode cX1_require 32 = .ok (.iload 4, 2) := by decide +kernel
theorem dX1_require_34 : decode cX1_require 34 = .ok (.iaload, 1) := by decide +kernel
theorem dX1_require_35 : decode cX1_require 35 = .ok (.iconst (-1), 1) := by decide +kernel
theorem dX1_require_36 : decode cX1_require 36 = .ok (.if_icmp .eq 14, 3) := by decide +kernel
theorem dX1_require_39 : decode cX1_require 39 = .ok (.aload_n 0, 1) := by decide +kernel
theorem dX1_require_40 : decode cX1_require 40 = .ok (.getfield 36, 3) := by decide +kernel
theorem dX1_require_43 : decode cX1_require 43 = .ok (.iload 4, 2) := by decide +kernel
theorem dX1_require_45 : decode cX1_require 45 = .ok (.iaload, 1) := by decide +kernel
theorem dX1_require_46 : decode cX1_require 46 = .ok (.iload_n 1, 1) := by decide +kernel
theorem dX1_require_47 : decode cX1_require 47 = .ok (.if_icmp .ne 7, 3) := by decide +kernel
theorem dX1_require_50 : decode cX1_require 50 = .ok (.iload_n 1, 1) := by decide +kernel
theorem dX1_require_51 : decode cX1_require 51 = .ok (.goto 5, 3) := by decide +kernel
theorem dX1_require_54 : decode cX1_require 54 = .ok (.bipush (-2), 2) := by decide +kernel
theorem dX1_require_56 : decode cX1_require 56 = .ok (.iastore, 1) := by decide +kernel
theorem dX1_require_57 : decode cX1_require 57 = .ok (.iinc 4 1, 3) := by decide +kernel
theorem dX1_require_60 : decode cX1_require 60 = .ok (.goto (-53), 3) := by decide +kernel
theorem dX1_require_63 : decode cX1_require 63 = .ok (.return_, 1) := by decide +kernel
def zX1_require (Qr : Option PV → Mem → Prop) : XZ := (RX1, 1, 40, 5, none, Qr)
noncomputable def fX1_require_b7 : Nat → Nat → Int → Int → Int → Mem → Option Mem
  | 0, _, _, _, _, _ => none
  | n + 1, o, x1, x3, x4, F =>
    if x3 ≤ x4 then
      some F
    else
      if (F o 4) ≤ x4 then
        some F
      else
        if (0 : Int) ≤ x4 ∧ x4 < (alen (o + 3) : Int) then
          if (F (o + 3) x4.toNat) = (-1) then
            if (0 : Int) ≤ x4 ∧ x4 < (alen (o + 3) : Int) then
              fX1_require_b7 n o x1 x3 (xw (x4 + 1)) (mset F (o + 3) x4.toNat x1)
            else none
          else
            if (0 : Int) ≤ x4 ∧ x4 < (alen (o + 3) : Int) then
              if (F (o + 3) x4.toNat) ≠ x1 then
                if (0 : Int) ≤ x4 ∧ x4 < (alen (o + 3) : Int) then
                  fX1_require_b7 n o x1 x3 (xw (x4 + 1)) (mset F (o + 3) x4.toNat (-2))
                else none
              else
                if (0 : Int) ≤ x4 ∧ x4 < (alen (o + 3) : Int) then
                  fX1_require_b7 n o x1 x3 (xw (x4 + 1)) (mset F (o + 3) x4.toNat x1)
                else none
            else none
        else none
noncomputable def fX1_require (o : Nat) (x1 : Int) (x2 : Int) (x3 : Int) (F : Mem) : Option Mem :=
  fX1_require_b7 FU o x1 x3 (xmax 0 x2) F
theorem fX1_require_b7_ok {Qr : Option PV → Mem → Prop}  : ∀ (n : Nat) (o : Nat) (x1 : Int) (x3 : Int) (x4 : Int) (F : Mem) (res : Mem) (ho : isK o 1), fX1_require_b7 n o x1 x3 x4 F = some res → Qr none res → PR cX1_require (zX1_require Qr) 7 [(0, vR o), (1, vI x1), (3, vI x3), (4, vI x4)] [] F := by
  intro n
  induction n with
  | zero => intro o x1 x3 x4 F res ho h hq; exact nomatch (show (none : Option _) = some _ from h)
  | succ n ih =>
    intro o x1 x3 x4 F res ho h hq
    refine s_iload (j := 3) dX1_require_7 rfl ?_
    refine s_iload_n (j := 2) dX1_require_9 rfl rfl ?_
    refine s_icmp_ge (tgt := 63) dX1_require_10 rfl (fun hc1 => ?_) (fun hc1 => ?_)
    · have h := ifp hc1 h
      have h := Option.some.inj h
      subst h
      exact s_return dX1_require_63 rfl hq
    · have h := ifn hc1 h
      refine s_iload (j := 3) dX1_require_13 rfl ?_
      refine s_aload_n (j := 0) dX1_require_15 rfl rfl ?_
      refine s_getI dX1_require_16 flX1_26 ho ?_
      refine s_icmp_ge (tgt := 63) dX1_require_19 rfl (fun hc2 => ?_) (fun hc2 => ?_)
      · have h := ifp hc2 h
        have h := Option.some.inj h
        subst h
        exact s_return dX1_require_63 rfl hq
      · have h := ifn hc2 h
        refine s_aload_n (j := 0) dX1_require_22 rfl rfl ?_
        refine s_getR dX1_require_23 flX1_36 ho ?_
        refine s_iload (j := 3) dX1_require_26 rfl ?_
        refine s_aload_n (j := 0) dX1_require_28 rfl rfl ?_
        refine s_getR dX1_require_29 flX1_36 ho ?_
        refine s_iload (j := 3) dX1_require_32 rfl ?_
        obtain ⟨hb3, h⟩ := gd h
        refine s_iaload dX1_require_34 (trX1_7 ho) hb3.1 hb3.2 ?_
        refine s_iconst dX1_require_35 (cin rfl) ?_
        refine s_icmp_eq (tgt := 50) dX1_require_36 rfl (fun hc4 => ?_) (fun hc4 => ?_)
        · have h := ifp hc4 h
          refine s_iload_n (j := 1) dX1_require_50 rfl rfl ?_
          refine s_goto (tgt := 56) dX1_require_51 rfl ?_
          obtain ⟨hb5, h⟩ := gd h
          refine s_iastore dX1_require_56 (trX1_7 ho) hb5.1 hb5.2 ?_
          refine s_iinc (ls' := [(4, vI (xw (x4 + 1))), (0, vR o), (1, vI x1), (3, vI x3)]) (j := 3) dX1_require_57 rfl (Nat.le_of_ble_eq_true rfl) rfl ?_
          refine s_goto (tgt := 7) dX1_require_60 rfl ?_
          exact s_sub (ks := [1, 2, 3, 0]) rfl (ih o x1 x3 (xw (x4 + 1)) (mset F (o + 3) x4.toNat x1) _ ho h hq)
        · have h := ifn hc4 h
          refine s_aload_n (j := 0) dX1_require_39 rfl rfl ?_
          refine s_getR dX1_require_40 flX1_36 ho ?_
          refine s_iload (j := 3) dX1_require_43 rfl ?_
          obtain ⟨hb6, h⟩ := gd h
          refine s_iaload dX1_require_45 (trX1_7 ho) hb6.1 hb6.2 ?_
          refine s_iload_n (j := 1) dX1_require_46 rfl rfl ?_
          refine s_icmp_ne (tgt := 54) dX1_require_47 rfl (fun hc7 => ?_) (fun hc7 => ?_)
          · have h := ifp hc7 h
            refine s_bipush dX1_require_54 rfl (cin rfl) ?_
            obtain ⟨hb8, h⟩ := gd h
            refine s_iastore dX1_require_56 (trX1_7 ho) hb8.1 hb8.2 ?_
            refine s_iinc (ls' := [(4, vI (xw (x4 + 1))), (0, vR o), (1, vI x1), (3, vI x3)]) (j := 3) dX1_require_57 rfl (Nat.le_of_ble_eq_true rfl) rfl ?_
            refine s_goto (tgt := 7) dX1_require_60 rfl ?_
            exact s_sub (ks := [1, 2, 3, 0]) rfl (ih o x1 x3 (xw (x4 + 1)) (mset F (o + 3) x4.toNat (-2)) _ ho h hq)
          · have h := ifn hc7 h
            refine s_iload_n (j := 1) dX1_require_50 rfl rfl ?_
            refine s_goto (tgt := 56) dX1_require_51 rfl ?_
            obtain ⟨hb9, h⟩ := gd h
            refine s_iastore dX1_require_56 (trX1_7 ho) hb9.1 hb9.2 ?_
            refine s_iinc (ls' := [(4, vI (xw (x4 + 1))), (0, vR o), (1, vI x1), (3, vI x3)]) (j := 3) dX1_require_57 rfl (Nat.le_of_ble_eq_true rfl) rfl ?_
            refine s_goto (tgt := 7) dX1_require_60 rfl ?_
            exact s_sub (ks := [1, 2, 3, 0]) rfl (ih o x1 x3 (xw (x4 + 1)) (mset F (o + 3) x4.toNat x1) _ ho h hq)
theorem fX1_require_ok {Qr : Option PV → Mem → Prop} : ∀ (o : Nat) (x1 : Int) (x2 : Int) (x3 : Int) (F : Mem) (res : Mem) (ho : isK o 1), fX1_require o x1 x2 x3 F = some res → Qr none res → PR cX1_require (zX1_require Qr) 0 [(0, vR o), (1, vI x1), (2, vI x2), (3, vI x3)] [] F := by
  intro o x1 x2 x3 F res ho h hq
  refine s_iconst dX1_require_0 (cin rfl) ?_
  refine s_iload_n (j := 2) dX1_require_1 rfl rfl ?_
  refine s_mmax dX1_require_2 mtX1_115 (Nat.le_of_ble_eq_true rfl) ?_
  refine s_istore (ls' := [(4, vI (xmax 0 x2)), (0, vR o), (1, vI x1), (2, vI x2), (3, vI x3)]) dX1_require_5 (Nat.le_of_ble_eq_true rfl) rfl ?_
  exact s_sub (ks := [1, 2, 4, 0]) rfl (fX1_require_b7_ok FU o x1 x3 (xmax 0 x2) F _ ho h hq)
def gX1_require : XG := fun As F r F' => ∃ o : Nat, ∃ x1 : Int, ∃ x2 : Int, ∃ x3 : Int, ∃ res : Mem, As = [vR o, vI x1, vI x2, vI x3] ∧ isK o 1 ∧ fX1_require o x1 x2 x3 F = some res ∧ r = none ∧ F' = res
theorem ctX1_require : xCT yX1_require cX1_require 5 (none) 1 40 gX1_require := xmet (by decide +kernel) (fun As F r F' hg => by obtain ⟨o, x1, x2, x3, res, rfl, ho, h, rfl, rfl⟩ := hg; exact Nat.le_of_ble_eq_true rfl) (fun As F r F' hg => by obtain ⟨o, x1, x2, x3, res, rfl, ho, h, rfl, rfl⟩ := hg; exact fX1_require_ok o x1 x2 x3 _ _ ho h ⟨rfl, rfl⟩)
theorem mcX1_require : Cond.code yX1_require cX1_require 5 (none) ∈ xw_T ∧ Cond.initialized yX1_require.cls ∈ xw_T ∧ Cond.instanceMethod yX1_require ∈ xw_T ∧ Cond.selects yX1_require.cls yX1_require yX1_require ∈ xw_T := ⟨(xinT 1033 (by decide +kernel) (by decide +kernel)), (xinT 124 (by decide +kernel) (by decide +kernel)), (xinT 1031 (by decide +kernel) (by decide +kernel)), (xinT 1032 (by decide +kernel) (by decide +kernel))⟩
theorem clX1_91 {fr lo : Nat} (h1 : 1 + 1 ≤ fr) (h2 : 8 + (5 + 11) + 40 ≤ lo) : xCall RX1 fr lo 0 91 1 3 gX1_require := ⟨_, _, _, _, _, _, ctX1_require, h1, h2, mcX1_require.1, (xinT 1030 (by decide +kernel) (by decide +kernel)), mcX1_require.2.1, ⟨by decide +kernel, by decide +kernel, by decide +kernel⟩, by rw [if_pos rfl]; exact ⟨mcX1_require.2.2.1, mcX1_require.2.2.2, _, _, rfl⟩⟩
theorem dX1_setPace_0 : decode cX1_setPace 0 = .ok (.iconst 0, 1) := by decide +kernel
theorem dX1_setPace_1 : decode cX1_setPace 1 = .ok (.istore_n 2, 1) := by decide +kernel
theorem dX1_setPace_2 : decode cX1_setPace 2 = .ok (.iload_n 2, 1) := by decide +kernel
theorem dX1_setPace_3 : decode cX1_setPace 3 = .ok (.aload_n 0, 1) := by decide +kernel
theorem dX1_setPace_4 : decode cX1_setPace 4 = .ok (.getfield 9, 3) := by decide +kernel
theorem dX1_setPace_7 : decode cX1_setPace 7 = .ok (.getfield 67, 3) := by decide +kernel
theorem dX1_setPace_10 : decode cX1_setPace 10 = .ok (.getfield 71, 3) := by decide +kernel
theorem dX1_setPace_13 : decode cX1_setPace 13 = .ok (.if_icmp .ge 72, 3) := by decide +kernel
theorem dX1_setPace_16 : decode cX1_setPace 16 = .ok (.iconst 0, 1) := by decide +kernel
theorem dX1_setPace_17 : decode cX1_setPace 17 = .ok (.istore_n 3, 1) := by decide +kernel
theorem dX1_setPace_18 : decode cX1_setPace 18 = .ok (.iload_n 3, 1) := by decide +kernel
theorem dX1_setPace_19 : decode cX1_setPace 19 = .ok (.aload_n 0, 1) := by decide +kernel
theorem dX1_setPace_20 : decode cX1_setPace 20 = .ok (.getfield 9, 3) := by decide +kernel
theorem dX1_setPace_23 : decode cX1_setPace 23 = .ok (.getfield 67, 3) := by decide +kernel
theorem dX1_setPace_26 : decode cX1_setPace 26 = .ok (.getfield 71, 3) := by decide +kernel
theorem dX1_setPace_29 : decode cX1_setPace 29 = .ok (.if_icmp .ge 50, 3) := by decide +kernel
theorem dX1_setPace_32 : decode cX1_setPace 32 = .ok (.aload_n 0, 1) := by decide +kernel
theorem dX1_setPace_33 : decode cX1_setPace 33 = .ok (.getfield 42, 3) := by decide +kernel
theorem dX1_setPace_36 : decode cX1_setPace 36 = .ok (.iload_n 2, 1) := by decide +kernel
theorem dX1_setPace_37 : decode cX1_setPace 37 = .ok (.bipush 8, 2) := by decide +kernel
theorem dX1_setPace_39 : decode cX1_setPace 39 = .ok (.imul, 1) := by decide +kernel
theorem dX1_setPace_40 : decode cX1_setPace 40 = .ok (.iload_n 3, 1) := by decide +kernel
theorem dX1_setPace_41 : decode cX1_setPace 41 = .ok (.iadd, 1) := by decide +kernel
theorem dX1_setPace_42 : decode cX1_setPace 42 = .ok (.aload_n 0, 1) := by decide +kernel
theorem dX1_setPace_43 : decode cX1_setPace 43 = .ok (.getfield 9, 3) := by decide +kernel
theorem dX1_setPace_46 : decode cX1_setPace 46 = .ok (.iload_n 2, 1) := by decide +kernel
theorem dX1_setPace_47 : decode cX1_setPace 47 = .ok (.iload_n 3, 1) := by decide +kernel
theorem dX1_setPace_48 : decode cX1_setPace 48 = .ok (.invokevirtual 108, 3) := by decide +kernel
theorem dX1_setPace_51 : decode cX1_setPace 51 = .ok (.iastore, 1) := by decide +kernel
theorem dX1_setPace_52 : decode cX1_setPace 52 = .ok (.aload_n 0, 1) := by decide +kernel
theorem dX1_setPace_53 : decode cX1_setPace 53 = .ok (.getfield 45, 3) := by decide +kernel
theorem dX1_setPace_56 : decode cX1_setPace 56 = .ok (.iload_n 2, 1) := by decide +kernel
theorem dX1_setPace_57 : decode cX1_setPace 57 = .ok (.bipush 8, 2) := by decide +kernel
theorem dX1_setPace_59 : decode cX1_setPace 59 = .ok (.imul, 1) := by decide +kernel
theorem dX1_setPace_60 : decode cX1_setPace 60 = .ok (.iload_n 3, 1) := by decide +kernel
theorem dX1_setPace_61 : decode cX1_setPace 61 = .ok (.iadd, 1) := by decide +kernel
theorem dX1_setPace_62 : decode cX1_setPace 62 = .ok (.aload_n 0, 1) := by decide +kernel
theorem dX1_setPace_63 : decode cX1_setPace 63 = .ok (.getfield 9, 3) := by decide +kernel
theorem dX1_setPace_66 : decode cX1_setPace 66 = .ok (.iload_n 2, 1) := by decide +kernel
theorem dX1_setPace_67 : decode cX1_setPace 67 = .ok (.iload_n 3, 1) := by decide +kernel
theorem dX1_setPace_68 : decode cX1_setPace 68 = .ok (.iload_n 1, 1) := by decide +kernel
theorem dX1_setPace_69 : decode cX1_setPace 69 = .ok (.invokevirtual 111, 3) := by decide +kernel
theorem dX1_setPace_72 : decode cX1_setPace 72 = .ok (.iastore, 1) := by decide +kernel
theorem dX1_setPace_73 : decode cX1_setPace 73 = .ok (.iinc 3 1, 3) := by decide +kernel
theorem dX1_setPace_76 : decode cX1_setPace 76 = .ok (.goto (-58), 3) := by decide +kernel
theorem dX1_setPace_79 : decode cX1_setPace 79 = .ok (.iinc 2 1, 3) := by decide +kernel
theorem dX1_setPace_82 : decode cX1_setPace 82 = .ok (.goto (-80), 3) := by decide +kernel
theorem dX1_setPace_85 : decode cX1_setPace 85 = .ok (.return_, 1) := by decide +kernel
def zX1_setPace (Qr : Option PV → Mem → Prop) : XZ := (RX1, 2, 64, 4, none, Qr)
noncomputable def fX1_setPace_b18 (k2 : Nat → Int → Int → Mem → Option Mem) : Nat → Nat → Int → Int → Int → Mem → Option Mem
  | 0, _, _, _, _, _ => none
  | n + 1, o, x1, x2, x3, F =>
    if (F o 0).toNat = 0 then none else
    if (F (((F o 0).toNat) + 1) 3) ≤ x3 then
      k2 o x1 (xw (x2 + 1)) F
    else
      if (F o 0).toNat = 0 then none else
      (fX7_stepsBetween ((F o 0).toNat) x2 x3 F).bind fun r6 =>
      if (0 : Int) ≤ (xw ((xw (x2 * 8)) + x3)) ∧ (xw ((xw (x2 * 8)) + x3)) < (alen (o + 5) : Int) then
        if ((mset F (o + 5) (xw ((xw (x2 * 8)) + x3)).toNat r6) o 0).toNat = 0 then none else
        (fX7_slotsBetween (((mset F (o + 5) (xw ((xw (x2 * 8)) + x3)).toNat r6) o 0).toNat) x2 x3 x1 (mset F (o + 5) (xw ((xw (x2 * 8)) + x3)).toNat r6)).bind fun r11 =>
        if (0 : Int) ≤ (xw ((xw (x2 * 8)) + x3)) ∧ (xw ((xw (x2 * 8)) + x3)) < (alen (o + 6) : Int) then
          fX1_setPace_b18 k2 n o x1 x2 (xw (x3 + 1)) (mset (mset F (o + 5) (xw ((xw (x2 * 8)) + x3)).toNat r6) (o + 6) (xw ((xw (x2 * 8)) + x3)).toNat r11)
        else none
      else none
noncomputable def fX1_setPace_b2 : Nat → Nat → Int → Int → Mem → Option Mem
  | 0, _, _, _, _ => none
  | n + 1, o, x1, x2, F =>
    if (F o 0).toNat = 0 then none else
    if (F (((F o 0).toNat) + 1) 3) ≤ x2 then
      some F
    else
      fX1_setPace_b18 (fX1_setPace_b2 n) FU o x1 x2 0 F
noncomputable def fX1_setPace (o : Nat) (x1 : Int) (F : Mem) : Option Mem :=
  fX1_setPace_b2 FU o x1 0 F
theorem fX1_setPace_b18_ok {Qr : Option PV → Mem → Prop}  (k2 : Nat → Int → Int → Mem → Option Mem) (hk2 : ∀ (o : Nat) (x1 : Int) (x2 : Int) (F : Mem) (res : Mem) (ho : isK o 1), k2 o x1 x2 F = some res → Qr none res → PR cX1_setPace (zX1_setPace Qr) 2 [(0, vR o), (1, vI x1), (2, vI x2)] [] F) : ∀ (n : Nat) (o : Nat) (x1 : Int) (x2 : Int) (x3 : Int) (F : Mem) (res : Mem) (ho : isK o 1), fX1_setPace_b18 k2 n o x1 x2 x3 F = some res → Qr none res → PR cX1_setPace (zX1_setPace Qr) 18 [(0, vR o), (1, vI x1), (2, vI x2), (3, vI x3)] [] F := by
  intro n
  induction n with
  | zero => intro o x1 x2 x3 F res ho h hq; exact nomatch (show (none : Option _) = some _ from h)
  | succ n ih =>
    intro o x1 x2 x3 F res ho h hq
    refine s_iload_n (j := 3) dX1_setPace_18 rfl rfl ?_
    refine s_aload_n (j := 0) dX1_setPace_19 rfl rfl ?_
    refine s_getM dX1_setPace_20 flX1_9 ho (fun hm1 => ?_)
    have hm1 : _ = 0 ∨ isK ((F o 0).toNat) 7 := hm1
    obtain ⟨hn2, h⟩ := gdn h
    refine s_getR dX1_setPace_23 flX1_67 (hm1.resolve_left hn2) ?_
    refine s_getI dX1_setPace_26 flX1_71 (trX7_5 (hm1.resolve_left hn2)) ?_
    refine s_icmp_ge (tgt := 79) dX1_setPace_29 rfl (fun hc3 => ?_) (fun hc3 => ?_)
    · have h := ifp hc3 h
      refine s_iinc (ls' := [(2, vI (xw (x2 + 1))), (0, vR o), (1, vI x1), (3, vI x3)]) (j := 2) dX1_setPace_79 rfl (Nat.le_of_ble_eq_true rfl) rfl ?_
      refine s_goto (tgt := 2) dX1_setPace_82 rfl ?_
      exact s_sub (ks := [1, 2, 0]) rfl (hk2 o x1 (xw (x2 + 1)) F _ ho h hq)
    · have h := ifn hc3 h
      refine s_aload_n (j := 0) dX1_setPace_32 rfl rfl ?_
      refine s_getR dX1_setPace_33 flX1_42 ho ?_
      refine s_iload_n (j := 2) dX1_setPace_36 rfl rfl ?_
      refine s_bipush dX1_setPace_37 rfl (cin rfl) ?_
      refine s_imul dX1_setPace_39 ?_
      refine s_iload_n (j := 3) dX1_setPace_40 rfl rfl ?_
      refine s_iadd dX1_setPace_41 ?_
      refine s_aload_n (j := 0) dX1_setPace_42 rfl rfl ?_
      refine s_getM dX1_setPace_43 flX1_9 ho (fun hm4 => ?_)
      have hm4 : _ = 0 ∨ isK ((F o 0).toNat) 7 := hm4
      refine s_iload_n (j := 2) dX1_setPace_46 rfl rfl ?_
      refine s_iload_n (j := 3) dX1_setPace_47 rfl rfl ?_
      obtain ⟨hn5, h⟩ := gdn h
      obtain ⟨r6, hv7, h⟩ := bnd h
      refine s_callV (As := [vI x2, vI x3]) (rest := [vI (xw ((xw (x2 * 8)) + x3)), vR (o + 5)]) (r := (some (vI r6))) (F' := F) dX1_setPace_48 (clX1_108 (Nat.le_of_ble_eq_true rfl) (Nat.le_of_ble_eq_true rfl)) (hm4.resolve_left hn5) rfl ⟨_, _, _, _, rfl, (hm4.resolve_left hn5), hv7, rfl, rfl⟩ rfl (Nat.le_of_ble_eq_true rfl) ?_
      obtain ⟨hb8, h⟩ := gd h
      refine s_iastore dX1_setPace_51 (trX1_9 ho) hb8.1 hb8.2 ?_
      refine s_aload_n (j := 0) dX1_setPace_52 rfl rfl ?_
      refine s_getR dX1_setPace_53 flX1_45 ho ?_
      refine s_iload_n (j := 2) dX1_setPace_56 rfl rfl ?_
      refine s_bipush dX1_setPace_57 rfl (cin rfl) ?_
      refine s_imul dX1_setPace_59 ?_
      refine s_iload_n (j := 3) dX1_setPace_60 rfl rfl ?_
      refine s_iadd dX1_setPace_61 ?_
      refine s_aload_n (j := 0) dX1_setPace_62 rfl rfl ?_
      refine s_getM dX1_setPace_63 flX1_9 ho (fun hm9 => ?_)
      have hm9 : _ = 0 ∨ isK (((mset F (o + 5) (xw ((xw (x2 * 8)) + x3)).toNat r6) o 0).toNat) 7 := hm9
      refine s_iload_n (j := 2) dX1_setPace_66 rfl rfl ?_
      refine s_iload_n (j := 3) dX1_setPace_67 rfl rfl ?_
      refine s_iload_n (j := 1) dX1_setPace_68 rfl rfl ?_
      obtain ⟨hn10, h⟩ := gdn h
      obtain ⟨r11, hv12, h⟩ := bnd h
      refine s_callV (As := [vI x2, vI x3, vI x1]) (rest := [vI (xw ((xw (x2 * 8)) + x3)), vR (o + 6)]) (r := (some (vI r11))) (F' := mset F (o + 5) (xw ((xw (x2 * 8)) + x3)).toNat r6) dX1_setPace_69 (clX1_111 (Nat.le_of_ble_eq_true rfl) (Nat.le_of_ble_eq_true rfl)) (hm9.resolve_left hn10) rfl ⟨_, _, _, _, _, rfl, (hm9.resolve_left hn10), hv12, rfl, rfl⟩ rfl (Nat.le_of_ble_eq_true rfl) ?_
      obtain ⟨hb13, h⟩ := gd h
      refine s_iastore dX1_setPace_72 (trX1_10 ho) hb13.1 hb13.2 ?_
      refine s_iinc (ls' := [(3, vI (xw (x3 + 1))), (0, vR o), (1, vI x1), (2, vI x2)]) (j := 3) dX1_setPace_73 rfl (Nat.le_of_ble_eq_true rfl) rfl ?_
      refine s_goto (tgt := 18) dX1_setPace_76 rfl ?_
      exact s_sub (ks := [1, 2, 3, 0]) rfl (ih o x1 x2 (xw (x3 + 1)) (mset (mset F (o + 5) (xw ((xw (x2 * 8)) + x3)).toNat r6) (o + 6) (xw ((xw (x2 * 8)) + x3)).toNat r11) _ ho h hq)
theorem fX1_setPace_b2_ok {Qr : Option PV → Mem → Prop}  : ∀ (n : Nat) (o : Nat) (x1 : Int) (x2 : Int) (F : Mem) (res : Mem) (ho : isK o 1), fX1_setPace_b2 n o x1 x2 F = some res → Qr none res → PR cX1_setPace (zX1_setPace Qr) 2 [(0, vR o), (1, vI x1), (2, vI x2)] [] F := by
  intro n
  induction n with
  | zero => intro o x1 x2 F res ho h hq; exact nomatch (show (none : Option _) = some _ from h)
  | succ n ih =>
    intro o x1 x2 F res ho h hq
    refine s_iload_n (j := 2) dX1_setPace_2 rfl rfl ?_
    refine s_aload_n (j := 0) dX1_setPace_3 rfl rfl ?_
    refine s_getM dX1_setPace_4 flX1_9 ho (fun hm1 => ?_)
    have hm1 : _ = 0 ∨ isK ((F o 0).toNat) 7 := hm1
    obtain ⟨hn2, h⟩ := gdn h
    refine s_getR dX1_setPace_7 flX1_67 (hm1.resolve_left hn2) ?_
    refine s_getI dX1_setPace_10 flX1_71 (trX7_5 (hm1.resolve_left hn2)) ?_
    refine s_icmp_ge (tgt := 85) dX1_setPace_13 rfl (fun hc3 => ?_) (fun hc3 => ?_)
    · have h := ifp hc3 h
      have h := Option.some.inj h
      subst h
      exact s_return dX1_setPace_85 rfl hq
    · have h := ifn hc3 h
      refine s_iconst dX1_setPace_16 (cin rfl) ?_
      refine s_istore_n (ls' := [(3, vI 0), (0, vR o), (1, vI x1), (2, vI x2)]) dX1_setPace_17 rfl (Nat.le_of_ble_eq_true rfl) rfl ?_
      exact s_sub (ks := [1, 2, 3, 0]) rfl (fX1_setPace_b18_ok (fX1_setPace_b2 n) ih FU o x1 x2 0 F _ ho h hq)
theorem fX1_setPace_ok {Qr : Option PV → Mem → Prop} : ∀ (o : Nat) (x1 : Int) (F : Mem) (res : Mem) (ho : isK o 1), fX1_setPace o x1 F = some res → Qr none res → PR cX1_setPace (zX1_setPace Qr) 0 [(0, vR o), (1, vI x1)] [] F := by
  intro o x1 F res ho h hq
  refine s_iconst dX1_setPace_0 (cin rfl) ?_
  refine s_istore_n (ls' := [(2, vI 0), (0, vR o), (1, vI x1)]) dX1_setPace_1 rfl (Nat.le_of_ble_eq_true rfl) rfl ?_
  exact s_sub (ks := [1, 2, 0]) rfl (fX1_setPace_b2_ok FU o x1 0 F _ ho h hq)
def gX1_setPace : XG := fun As F r F' => ∃ o : Nat, ∃ x1 : Int, ∃ res : Mem, As = [vR o, vI x1] ∧ isK o 1 ∧ fX1_setPace o x1 F = some res ∧ r = none ∧ F' = res
theorem ctX1_setPace : xCT yX1_setPace cX1_setPace 4 (none) 2 64 gX1_setPace := xmet (by decide +kernel) (fun As F r F' hg => by obtain ⟨o, x1, res, rfl, ho, h, rfl, rfl⟩ := hg; exact Nat.le_of_ble_eq_true rfl) (fun As F r F' hg => by obtain ⟨o, x1, res, rfl, ho, h, rfl, rfl⟩ := hg; exact fX1_setPace_ok o x1 _ _ ho h ⟨rfl, rfl⟩)
theorem mcX1_setPace : Cond.code yX1_setPace cX1_setPace 4 (none) ∈ xw_T ∧ Cond.initialized yX1_setPace.cls ∈ xw_T ∧ Cond.instanceMethod yX1_setPace ∈ xw_T ∧ Cond.selects yX1_setPace.cls yX1_setPace yX1_setPace ∈ xw_T := ⟨(xinT 1017 (by decide +kernel) (by decide +kernel)), (xinT 124 (by decide +kernel) (by decide +kernel)), (xinT 1015 (by decide +kernel) (by decide +kernel)), (xinT 1016 (by decide +kernel) (by decide +kernel))⟩
theorem clX1_60 {fr lo : Nat} (h1 : 2 + 1 ≤ fr) (h2 : 8 + (4 + 11) + 64 ≤ lo) : xCall RX1 fr lo 0 60 1 1 gX1_setPace := ⟨_, _, _, _, _, _, ctX1_setPace, h1, h2, mcX1_setPace.1, (xinT 1014 (by decide +kernel) (by decide +kernel)), mcX1_setPace.2.1, ⟨by decide +kernel, by decide +kernel, by decide +kernel⟩, by rw [if_pos rfl]; exact ⟨mcX1_setPace.2.2.1, mcX1_setPace.2.2.2, _, _, rfl⟩⟩
theorem dX1_fill_0 : decode cX1_fill 0 = .ok (.aload_n 0, 1) := by decide +kernel
theorem dX1_fill_1 : decode cX1_fill 1 = .ok (.aload_n 0, 1) := by decide +kernel
theorem dX1_fill_2 : decode cX1_fill 2 = .ok (.getfield 9, 3) := by decide +kernel
theorem dX1_fill_5 : decode cX1_fill 5 = .ok (.getfield 57, 3) := by decide +kernel
theorem dX1_fill_8 : decode cX1_fill 8 = .ok (.invokevirtual 60, 3) := by decide +kernel
theorem dX1_fill_11 : decode cX1_fill 11 = .ok (.aload_n 0, 1) := by decide +kernel
theorem dX1_fill_12 : decode cX1_fill 12 = .ok (.invokevirtual 64, 3) := by decide +kernel
theorem dX1_fill_15 : decode cX1_fill 15 = .ok (.iconst 0, 1) := by decide +kernel
theorem dX1_fill_16 : decode cX1_fill 16 = .ok (.istore_n 3, 1) := by decide +kernel
theorem dX1_fill_17 : decode cX1_fill 17 = .ok (.iload_n 3, 1) := by decide +kernel
theorem dX1_fill_18 : decode cX1_fill 18 = .ok (.aload_n 0, 1) := by decide +kernel
theorem dX1_fill_19 : decode cX1_fill 19 = .ok (.getfield 9, 3) := by decide +kernel
theorem dX1_fill_22 : decode cX1_fill 22 = .ok (.getfield 67, 3) := by decide +kernel
theorem dX1_fill_25 : decode cX1_fill 25 = .ok (.getfield 71, 3) := by decide +kernel
theorem dX1_fill_28 : decode cX1_fill 28 = .ok (.if_icmp .ge 60, 3) := by decide +kernel
theorem dX1_fill_31 : decode cX1_fill 31 = .ok (.aload_n 0, 1) := by decide +kernel
theorem dX1_fill_32 : decode cX1_fill 32 = .ok (.getfield 9, 3) := by decide +kernel
theorem dX1_fill_35 : decode cX1_fill 35 = .ok (.iload_n 3, 1) := by decide +kernel
theorem dX1_fill_36 : decode cX1_fill 36 = .ok (.invokevirtual 76, 3) := by decide +kernel
theorem dX1_fill_39 : decode cX1_fill 39 = .ok (.ifCond .ne 12, 3) := by decide +kernel
theorem dX1_fill_42 : decode cX1_fill 42 = .ok (.iload_n 2, 1) := by decide +kernel
theorem dX1_fill_43 : decode cX1_fill 43 = .ok (.iload_n 3, 1) := by decide +kernel
theorem dX1_fill_44 : decode cX1_fill 44 = .ok (.ishr, 1) := by decide +kernel
theorem dX1_fill_45 : decode cX1_fill 45 = .ok (.iconst 1, 1) := by decide +kernel
theorem dX1_fill_46 : decode cX1_fill 46 = .ok (.iand, 1) := by decide +kernel
theorem dX1_fill_47 : decode cX1_fill 47 = .ok (.iconst 1, 1) := by decide +kernel
theorem dX1_fill_48 : decode cX1_fill 48 = .ok (.if_icmp .ne 7, 3) := by decide +kernel
theorem dX1_fill_51 : decode cX1_fill 51 = .ok (.iconst 1, 1) := by decide +kernel
theorem dX1_fill_52 : decode cX1_fill 52 = .ok (.goto 4, 3) := by decide +kernel
theorem dX1_fill_55 : decode cX1_fill 55 = .ok (.iconst 0, 1) := by decide +kernel
theorem dX1_fill_56 : decode cX1_fill 56 = .ok (.istore 4, 2) := by decide +kernel
theorem dX1_fill_58 : decode cX1_fill 58 = .ok (.aload_n 0, 1) := by decide +kernel
theorem dX1_fill_59 : decode cX1_fill 59 = .ok (.getfield 29, 3) := by decide +kernel
theorem dX1_fill_62 : decode cX1_fill 62 = .ok (.iload_n 3, 1) := by decide +kernel
theorem dX1_fill_63 : decode cX1_fill 63 = .ok (.iload 4, 2) := by decide +kernel
theorem dX1_fill_65 : decode cX1_fill 65 = .ok (.ifCond .eq 7, 3) := by decide +kernel
theorem dX1_fill_68 : decode cX1_fill 68 = .ok (.iconst 0, 1) := by decide +kernel
theorem dX1_fill_69 : decode cX1_fill 69 = .ok (.goto 12, 3) := by decide +kernel
theorem dX1_fill_72 : decode cX1_fill 72 = .ok (.aload_n 0, 1) := by decide +kernel
theorem dX1_fill_73 : decode cX1_fill 73 = .ok (.getfield 9, 3) := by decide +kernel
theorem dX1_fill_76 : decode cX1_fill 76 = .ok (.iload_n 3, 1) := by decide +kernel
theorem dX1_fill_77 : decode cX1_fill 77 = .ok (.iload_n 1, 1) := by decide +kernel
theorem dX1_fill_78 : decode cX1_fill 78 = .ok (.invokevirtual 80, 3) := by decide +kernel
theorem dX1_fill_81 : decode cX1_fill 81 = .ok (.iastore, 1) := by decide +kernel
theorem dX1_fill_82 : decode cX1_fill 82 = .ok (.iinc 3 1, 3) := by decide +kernel
theorem dX1_fill_85 : decode cX1_fill 85 = .ok (.goto (-68), 3) := by decide +kernel
theorem dX1_fill_88 : decode cX1_fill 88 = .ok (.iconst 0, 1) := by decide +kernel
theorem dX1_fill_89 : decode cX1_fill 89 = .ok (.istore_n 3, 1) := by decide +kernel
theorem dX1_fill_90 : decode cX1_fill 90 = .ok (.iload_n 3, 1) := by decide +kernel
theorem dX1_fill_91 : decode cX1_fill 91 = .ok (.aload_n 0, 1) := by decide +kernel
theorem dX1_fill_92 : decode cX1_fill 92 = .ok (.getfield 23, 3) := by decide +kernel
theorem dX1_fill_95 : decode cX1_fill 95 = .ok (.if_icmp .ge 121, 3) := by decide +kernel
theorem dX1_fill_98 : decode cX1_fill 98 = .ok (.iconst 0, 1) := by decide +kernel
theorem dX1_fill_99 : decode cX1_fill 99 = .ok (.istore 4, 2) := by decide +kernel
theorem dX1_fill_101 : decode cX1_fill 101 = .ok (.iload 4, 2) := by decide +kernel
theorem dX1_fill_103 : decode cX1_fill 103 = .ok (.aload_n 0, 1) := by decide +kernel
theorem dX1_fill_104 : decode cX1_fill 104 = .ok (.getfield 9, 3) := by decide +kernel
theorem dX1_fill_107 : decode cX1_fill 107 = .ok (.getfield 84, 3) := by decide +kernel
theorem dX1_fill_110 : decode cX1_fill 110 = .ok (.getfield 71, 3) := by decide +kernel
theorem dX1_fill_113 : decode cX1_fill 113 = .ok (.if_icmp .ge 69, 3) := by decide +kernel
theorem dX1_fill_116 : decode cX1_fill 116 = .ok (.iload_n 3, 1) := by decide +kernel
theorem dX1_fill_117 : decode cX1_fill 117 = .ok (.aload_n 0, 1) := by decide +kernel
theorem dX1_fill_118 : decode cX1_fill 118 = .ok (.getfield 9, 3) := by decide +kernel
theorem dX1_fill_121 : decode cX1_fill 121 = .ok (.getfield 54, 3) := by decide +kernel
theorem dX1_fill_124 : decode cX1_fill 124 = .ok (.imul, 1) := by decide +kernel
theorem dX1_fill_125 : decode cX1_fill 125 = .ok (.istore 5, 2) := by decide +kernel
theorem dX1_fill_127 : decode cX1_fill 127 = .ok (.aload_n 0, 1) := by decide +kernel
theorem dX1_fill_128 : decode cX1_fill 128 = .ok (.aload_n 0, 1) := by decide +kernel
theorem dX1_fill_129 : decode cX1_fill 129 = .ok (.getfield 9, 3) := by decide +kernel
theorem dX1_fill_132 : decode cX1_fill 132 = .ok (.getfield 84, 3) := by decide +kernel
theorem dX1_fill_135 : decode cX1_fill 135 = .ok (.iload 4, 2) := by decide +kernel
theorem dX1_fill_137 : decode cX1_fill 137 = .ok (.iconst 0, 1) := by decide +kernel
theorem dX1_fill_138 : decode cX1_fill 138 = .ok (.invokevirtual 87, 3) := by decide +kernel
theorem dX1_fill_141 : decode cX1_fill 141 = .ok (.iload 5, 2) := by decide +kernel
theorem dX1_fill_143 : decode cX1_fill 143 = .ok (.aload_n 0, 1) := by decide +kernel
theorem dX1_fill_144 : decode cX1_fill 144 = .ok (.getfield 9, 3) := by decide +kernel
theorem dX1_fill_147 : decode cX1_fill 147 = .ok (.getfield 84, 3) := by decide +kernel
theorem dX1_fill_150 : decode cX1_fill 150 = .ok (.iload 4, 2) := by decide +kernel
theorem dX1_fill_152 : decode cX1_fill 152 = .ok (.iconst 1, 1) := by decide +kernel
theorem dX1_fill_153 : decode cX1_fill 153 = .ok (.invokevirtual 87, 3) := by decide +kernel
theorem dX1_fill_156 : decode cX1_fill 156 = .ok (.iadd, 1) := by decide +kernel
theorem dX1_fill_157 : decode cX1_fill 157 = .ok (.iload 5, 2) := by decide +kernel
theorem dX1_fill_159 : decode cX1_fill 159 = .ok (.aload_n 0, 1) := by decide +kernel
theorem dX1_fill_160 : decode cX1_fill 160 = .ok (.getfield 9, 3) := by decide +kernel
theorem dX1_fill_163 : decode cX1_fill 163 = .ok (.getfield 84, 3) := by decide +kernel
theorem dX1_fill_166 : decode cX1_fill 166 = .ok (.iload 4, 2) := by decide +kernel
theorem dX1_fill_168 : decode cX1_fill 168 = .ok (.iconst 2, 1) := by decide +kernel
theorem dX1_fill_169 : decode cX1_fill 169 = .ok (.invokevirtual 87, 3) := by decide +kernel
theorem dX1_fill_172 : decode cX1_fill 172 = .ok (.iadd, 1) := by decide +kernel
theorem dX1_fill_173 : decode cX1_fill 173 = .ok (.invokevirtual 91, 3) := by decide +kernel
theorem dX1_fill_176 : decode cX1_fill 176 = .ok (.iinc 4 1, 3) := by decide +kernel
theorem dX1_fill_179 : decode cX1_fill 179 = .ok (.goto (-78), 3) := by decide +kernel
theorem dX1_fill_182 : decode cX1_fill 182 = .ok (.iconst 0, 1) := by decide +kernel
theorem dX1_fill_183 : decode cX1_fill 183 = .ok (.istore 4, 2) := by decide +kernel
theorem dX1_fill_185 : decode cX1_fill 185 = .ok (.iload 4, 2) := by decide +kernel
theorem dX1_fill_187 : decode cX1_fill 187 = .ok (.aload_n 0, 1) := by decide +kernel
theorem dX1_fill_188 : decode cX1_fill 188 = .ok (.getfield 9, 3) := by decide +kernel
theorem dX1_fill_191 : decode cX1_fill 191 = .ok (.getfield 54, 3) := by decide +kernel
theorem dX1_fill_194 : decode cX1_fill 194 = .ok (.if_icmp .ge 16, 3) := by decide +kernel
theorem dX1_fill_197 : decode cX1_fill 197 = .ok (.aload_n 0, 1) := by decide +kernel
theorem dX1_fill_198 : decode cX1_fill 198 = .ok (.iload_n 3, 1) := by decide +kernel
theorem dX1_fill_199 : decode cX1_fill 199 = .ok (.iload 4, 2) := by decide +kernel
theorem dX1_fill_201 : decode cX1_fill 201 = .ok (.invokevirtual 95, 3) := by decide +kernel
theorem dX1_fill_204 : decode cX1_fill 204 = .ok (.iinc 4 1, 3) := by decide +kernel
theorem dX1_fill_207 : decode cX1_fill 207 = .ok (.goto (-22), 3) := by decide +kernel
theorem dX1_fill_210 : decode cX1_fill 210 = .ok (.iinc 3 1, 3) := by decide +kernel
theorem dX1_fill_213 : decode cX1_fill 213 = .ok (.goto (-123), 3) := by decide +kernel
theorem dX1_fill_216 : decode cX1_fill 216 = .ok (.return_, 1) := by decide +kernel
def zX1_fill (Qr : Option PV → Mem → Prop) : XZ := (RX1, 3, 87, 6, none, Qr)
noncomputable def fX1_fill_b185 (k90 : Nat → Int → Mem → Option Mem) : Nat → Nat → Int → Int → Mem → Option Mem
  | 0, _, _, _, _ => none
  | n + 1, o, x3, x4, F =>
    if (F o 0).toNat = 0 then none else
    if (F ((F o 0).toNat) 0) ≤ x4 then
      k90 o (xw (x3 + 1)) F
    else
      (fX1_fillSlot o x3 x4 F).bind fun q4 =>
      fX1_fill_b185 k90 n o x3 (xw (x4 + 1)) q4
noncomputable def fX1_fill_b101 (k90 : Nat → Int → Mem → Option Mem) : Nat → Nat → Int → Int → Mem → Option Mem
  | 0, _, _, _, _ => none
  | n + 1, o, x3, x4, F =>
    if (F o 0).toNat = 0 then none else
    if (F (((F o 0).toNat) + 3) 3) ≤ x4 then
      fX1_fill_b185 k90 FU o x3 0 F
    else
      if (F o 0).toNat = 0 then none else
      if (F o 0).toNat = 0 then none else
      (fX3_cell (((F o 0).toNat) + 3) x4 0 F).bind fun r8 =>
      if (F o 0).toNat = 0 then none else
      (fX3_cell (((F o 0).toNat) + 3) x4 1 F).bind fun r12 =>
      if (F o 0).toNat = 0 then none else
      (fX3_cell (((F o 0).toNat) + 3) x4 2 F).bind fun r16 =>
      (fX1_require o r8 (xw ((xw (x3 * (F ((F o 0).toNat) 0))) + r12)) (xw ((xw (x3 * (F ((F o 0).toNat) 0))) + r16)) F).bind fun q18 =>
      fX1_fill_b101 k90 n o x3 (xw (x4 + 1)) q18
noncomputable def fX1_fill_b90 : Nat → Nat → Int → Mem → Option Mem
  | 0, _, _, _ => none
  | n + 1, o, x3, F =>
    if (F o 3) ≤ x3 then
      some F
    else
      fX1_fill_b101 (fX1_fill_b90 n) FU o x3 0 F
noncomputable def fX1_fill_b56 (k17 : Nat → Int → Int → Int → Mem → Option Mem) (o : Nat) (x1 : Int) (x2 : Int) (x3 : Int) (s0 : Int) (F : Mem) : Option Mem :=
  if s0 = 0 then
    if (F o 0).toNat = 0 then none else
    (fX7_rateOf ((F o 0).toNat) x3 x1 F).bind fun r4 =>
    if (0 : Int) ≤ x3 ∧ x3 < (alen (o + 1) : Int) then
      k17 o x1 x2 (xw (x3 + 1)) (mset F (o + 1) x3.toNat r4)
    else none
  else
    if (0 : Int) ≤ x3 ∧ x3 < (alen (o + 1) : Int) then
      k17 o x1 x2 (xw (x3 + 1)) (mset F (o + 1) x3.toNat 0)
    else none
noncomputable def fX1_fill_b17 : Nat → Nat → Int → Int → Int → Mem → Option Mem
  | 0, _, _, _, _, _ => none
  | n + 1, o, x1, x2, x3, F =>
    if (F o 0).toNat = 0 then none else
    if (F (((F o 0).toNat) + 1) 3) ≤ x3 then
      fX1_fill_b90 FU o 0 F
    else
      if (F o 0).toNat = 0 then none else
      (fX7_isTouch ((F o 0).toNat) x3 F).bind fun r6 =>
      if r6 ≠ 0 then
        fX1_fill_b56 (fX1_fill_b17 n) o x1 x2 x3 1 F
      else
        if (xand (xshr x2 x3) 1) ≠ 1 then
          fX1_fill_b56 (fX1_fill_b17 n) o x1 x2 x3 0 F
        else
          fX1_fill_b56 (fX1_fill_b17 n) o x1 x2 x3 1 F
noncomputable def fX1_fill (o : Nat) (x1 : Int) (x2 : Int) (F : Mem) : Option Mem :=
  if (F o 0).toNat = 0 then none else
  (fX1_setPace o (F ((F o 0).toNat) 1) F).bind fun q3 =>
  (fX1_dropMusts o q3).bind fun q5 =>
  fX1_fill_b17 FU o x1 x2 0 q5
theorem fX1_fill_b185_ok {Qr : Option PV → Mem → Prop}  (k90 : Nat → Int → Mem → Option Mem) (hk90 : ∀ (o : Nat) (x3 : Int) (F : Mem) (res : Mem) (ho : isK o 1), k90 o x3 F = some res → Qr none res → PR cX1_fill (zX1_fill Qr) 90 [(0, vR o), (3, vI x3)] [] F) : ∀ (n : Nat) (o : Nat) (x3 : Int) (x4 : Int) (F : Mem) (res : Mem) (ho : isK o 1), fX1_fill_b185 k90 n o x3 x4 F = some res → Qr none res → PR cX1_fill (zX1_fill Qr) 185 [(0, vR o), (3, vI x3), (4, vI x4)] [] F := by
  intro n
  induction n with
  | zero => intro o x3 x4 F res ho h hq; exact nomatch (show (none : Option _) = some _ from h)
  | succ n ih =>
    intro o x3 x4 F res ho h hq
    refine s_iload (j := 2) dX1_fill_185 rfl ?_
    refine s_aload_n (j := 0) dX1_fill_187 rfl rfl ?_
    refine s_getM dX1_fill_188 flX1_9 ho (fun hm1 => ?_)
    have hm1 : _ = 0 ∨ isK ((F o 0).toNat) 7 := hm1
    obtain ⟨hn2, h⟩ := gdn h
    refine s_getI dX1_fill_191 flX1_54 (hm1.resolve_left hn2) ?_
    refine s_icmp_ge (tgt := 210) dX1_fill_194 rfl (fun hc3 => ?_) (fun hc3 => ?_)
    · have h := ifp hc3 h
      refine s_iinc (ls' := [(3, vI (xw (x3 + 1))), (0, vR o), (4, vI x4)]) (j := 1) dX1_fill_210 rfl (Nat.le_of_ble_eq_true rfl) rfl ?_
      refine s_goto (tgt := 90) dX1_fill_213 rfl ?_
      exact s_sub (ks := [1, 0]) rfl (hk90 o (xw (x3 + 1)) F _ ho h hq)
    · have h := ifn hc3 h
      refine s_aload_n (j := 0) dX1_fill_197 rfl rfl ?_
      refine s_iload_n (j := 1) dX1_fill_198 rfl rfl ?_
      refine s_iload (j := 2) dX1_fill_199 rfl ?_
      obtain ⟨q4, hv5, h⟩ := bnd h
      refine s_callV (As := [vI x3, vI x4]) (rest := []) (r := none) (F' := q4) dX1_fill_201 (clX1_95 (Nat.le_of_ble_eq_true rfl) (Nat.le_of_ble_eq_true rfl)) ho rfl ⟨_, _, _, _, rfl, ho, hv5, rfl, rfl⟩ rfl (Nat.le_of_ble_eq_true rfl) ?_
      refine s_iinc (ls' := [(4, vI (xw (x4 + 1))), (0, vR o), (3, vI x3)]) (j := 2) dX1_fill_204 rfl (Nat.le_of_ble_eq_true rfl) rfl ?_
      refine s_goto (tgt := 185) dX1_fill_207 rfl ?_
      exact s_sub (ks := [1, 2, 0]) rfl (ih o x3 (xw (x4 + 1)) q4 _ ho h hq)
theorem fX1_fill_b101_ok {Qr : Option PV → Mem → Prop}  (k90 : Nat → Int → Mem → Option Mem) (hk90 : ∀ (o : Nat) (x3 : Int) (F : Mem) (res : Mem) (ho : isK o 1), k90 o x3 F = some res → Qr none res → PR cX1_fill (zX1_fill Qr) 90 [(0, vR o), (3, vI x3)] [] F) : ∀ (n : Nat) (o : Nat) (x3 : Int) (x4 : Int) (F : Mem) (res : Mem) (ho : isK o 1), fX1_fill_b101 k90 n o x3 x4 F = some res → Qr none res → PR cX1_fill (zX1_fill Qr) 101 [(0, vR o), (3, vI x3), (4, vI x4)] [] F := by
  intro n
  induction n with
  | zero => intro o x3 x4 F res ho h hq; exact nomatch (show (none : Option _) = some _ from h)
  | succ n ih =>
    intro o x3 x4 F res ho h hq
    refine s_iload (j := 2) dX1_fill_101 rfl ?_
    refine s_aload_n (j := 0) dX1_fill_103 rfl rfl ?_
    refine s_getM dX1_fill_104 flX1_9 ho (fun hm1 => ?_)
    have hm1 : _ = 0 ∨ isK ((F o 0).toNat) 7 := hm1
    obtain ⟨hn2, h⟩ := gdn h
    refine s_getR dX1_fill_107 flX1_84 (hm1.resolve_left hn2) ?_
    refine s_getI dX1_fill_110 flX1_71 (trX7_6 (hm1.resolve_left hn2)) ?_
    refine s_icmp_ge (tgt := 182) dX1_fill_113 rfl (fun hc3 => ?_) (fun hc3 => ?_)
    · have h := ifp hc3 h
      refine s_iconst dX1_fill_182 (cin rfl) ?_
      refine s_istore (ls' := [(4, vI 0), (0, vR o), (3, vI x3)]) dX1_fill_183 (Nat.le_of_ble_eq_true rfl) rfl ?_
      exact s_sub (ks := [1, 2, 0]) rfl (fX1_fill_b185_ok k90 hk90 FU o x3 0 F _ ho h hq)
    · have h := ifn hc3 h
      refine s_iload_n (j := 1) dX1_fill_116 rfl rfl ?_
      refine s_aload_n (j := 0) dX1_fill_117 rfl rfl ?_
      refine s_getM dX1_fill_118 flX1_9 ho (fun hm4 => ?_)
      have hm4 : _ = 0 ∨ isK ((F o 0).toNat) 7 := hm4
      obtain ⟨hn5, h⟩ := gdn h
      refine s_getI dX1_fill_121 flX1_54 (hm4.resolve_left hn5) ?_
      refine s_imul dX1_fill_124 ?_
      refine s_istore (ls' := [(5, vI (xw (x3 * (F ((F o 0).toNat) 0)))), (0, vR o), (3, vI x3), (4, vI x4)]) dX1_fill_125 (Nat.le_of_ble_eq_true rfl) rfl ?_
      refine s_aload_n (j := 1) dX1_fill_127 rfl rfl ?_
      refine s_aload_n (j := 1) dX1_fill_128 rfl rfl ?_
      refine s_getM dX1_fill_129 flX1_9 ho (fun hm6 => ?_)
      have hm6 : _ = 0 ∨ isK ((F o 0).toNat) 7 := hm6
      obtain ⟨hn7, h⟩ := gdn h
      refine s_getR dX1_fill_132 flX1_84 (hm6.resolve_left hn7) ?_
      refine s_iload (j := 3) dX1_fill_135 rfl ?_
      refine s_iconst dX1_fill_137 (cin rfl) ?_
      obtain ⟨r8, hv9, h⟩ := bnd h
      refine s_callV (As := [vI x4, vI 0]) (rest := [vR o]) (r := (some (vI r8))) (F' := F) dX1_fill_138 (clX1_87 (Nat.le_of_ble_eq_true rfl) (Nat.le_of_ble_eq_true rfl)) (trX7_6 (hm6.resolve_left hn7)) rfl ⟨_, _, _, _, rfl, (trX7_6 (hm6.resolve_left hn7)), hv9, rfl, rfl⟩ rfl (Nat.le_of_ble_eq_true rfl) ?_
      refine s_iload (j := 0) dX1_fill_141 rfl ?_
      refine s_aload_n (j := 1) dX1_fill_143 rfl rfl ?_
      refine s_getM dX1_fill_144 flX1_9 ho (fun hm10 => ?_)
      have hm10 : _ = 0 ∨ isK ((F o 0).toNat) 7 := hm10
      obtain ⟨hn11, h⟩ := gdn h
      refine s_getR dX1_fill_147 flX1_84 (hm10.resolve_left hn11) ?_
      refine s_iload (j := 3) dX1_fill_150 rfl ?_
      refine s_iconst dX1_fill_152 (cin rfl) ?_
      obtain ⟨r12, hv13, h⟩ := bnd h
      refine s_callV (As := [vI x4, vI 1]) (rest := [vI (xw (x3 * (F ((F o 0).toNat) 0))), vI r8, vR o]) (r := (some (vI r12))) (F' := F) dX1_fill_153 (clX1_87 (Nat.le_of_ble_eq_true rfl) (Nat.le_of_ble_eq_true rfl)) (trX7_6 (hm10.resolve_left hn11)) rfl ⟨_, _, _, _, rfl, (trX7_6 (hm10.resolve_left hn11)), hv13, rfl, rfl⟩ rfl (Nat.le_of_ble_eq_true rfl) ?_
      refine s_iadd dX1_fill_156 ?_
      refine s_iload (j := 0) dX1_fill_157 rfl ?_
      refine s_aload_n (j := 1) dX1_fill_159 rfl rfl ?_
      refine s_getM dX1_fill_160 flX1_9 ho (fun hm14 => ?_)
      have hm14 : _ = 0 ∨ isK ((F o 0).toNat) 7 := hm14
      obtain ⟨hn15, h⟩ := gdn h
      refine s_getR dX1_fill_163 flX1_84 (hm14.resolve_left hn15) ?_
      refine s_iload (j := 3) dX1_fill_166 rfl ?_
      refine s_iconst dX1_fill_168 (cin rfl) ?_
      obtain ⟨r16, hv17, h⟩ := bnd h
      refine s_callV (As := [vI x4, vI 2]) (rest := [vI (xw (x3 * (F ((F o 0).toNat) 0))), vI (xw ((xw (x3 * (F ((F o 0).toNat) 0))) + r12)), vI r8, vR o]) (r := (some (vI r16))) (F' := F) dX1_fill_169 (clX1_87 (Nat.le_of_ble_eq_true rfl) (Nat.le_of_ble_eq_true rfl)) (trX7_6 (hm14.resolve_left hn15)) rfl ⟨_, _, _, _, rfl, (trX7_6 (hm14.resolve_left hn15)), hv17, rfl, rfl⟩ rfl (Nat.le_of_ble_eq_true rfl) ?_
      refine s_iadd dX1_fill_172 ?_
      obtain ⟨q18, hv19, h⟩ := bnd h
      refine s_callV (As := [vI r8, vI (xw ((xw (x3 * (F ((F o 0).toNat) 0))) + r12)), vI (xw ((xw (x3 * (F ((F o 0).toNat) 0))) + r16))]) (rest := []) (r := none) (F' := q18) dX1_fill_173 (clX1_91 (Nat.le_of_ble_eq_true rfl) (Nat.le_of_ble_eq_true rfl)) ho rfl ⟨_, _, _, _, _, rfl, ho, hv19, rfl, rfl⟩ rfl (Nat.le_of_ble_eq_true rfl) ?_
      refine s_iinc (j := 3) dX1_fill_176 rfl (Nat.le_of_ble_eq_true rfl) rfl ?_
      refine s_goto (tgt := 101) dX1_fill_179 rfl ?_
      exact s_sub (ks := [2, 3, 0]) rfl (ih o x3 (xw (x4 + 1)) q18 _ ho h hq)
theorem fX1_fill_b90_ok {Qr : Option PV → Mem → Prop}  : ∀ (n : Nat) (o : Nat) (x3 : Int) (F : Mem) (res : Mem) (ho : isK o 1), fX1_fill_b90 n o x3 F = some res → Qr none res → PR cX1_fill (zX1_fill Qr) 90 [(0, vR o), (3, vI x3)] [] F := by
  intro n
  induction n with
  | zero => intro o x3 F res ho h hq; exact nomatch (show (none : Option _) = some _ from h)
  | succ n ih =>
    intro o x3 F res ho h hq
    refine s_iload_n (j := 1) dX1_fill_90 rfl rfl ?_
    refine s_aload_n (j := 0) dX1_fill_91 rfl rfl ?_
    refine s_getI dX1_fill_92 flX1_23 ho ?_
    refine s_icmp_ge (tgt := 216) dX1_fill_95 rfl (fun hc1 => ?_) (fun hc1 => ?_)
    · have h := ifp hc1 h
      have h := Option.some.inj h
      subst h
      exact s_return dX1_fill_216 rfl hq
    · have h := ifn hc1 h
      refine s_iconst dX1_fill_98 (cin rfl) ?_
      refine s_istore (ls' := [(4, vI 0), (0, vR o), (3, vI x3)]) dX1_fill_99 (Nat.le_of_ble_eq_true rfl) rfl ?_
      exact s_sub (ks := [1, 2, 0]) rfl (fX1_fill_b101_ok (fX1_fill_b90 n) ih FU o x3 0 F _ ho h hq)
theorem fX1_fill_b56_ok {Qr : Option PV → Mem → Prop}  (k17 : Nat → Int → Int → Int → Mem → Option Mem) (hk17 : ∀ (o : Nat) (x1 : Int) (x2 : Int) (x3 : Int) (F : Mem) (res : Mem) (ho : isK o 1), k17 o x1 x2 x3 F = some res → Qr none res → PR cX1_fill (zX1_fill Qr) 17 [(0, vR o), (1, vI x1), (2, vI x2), (3, vI x3)] [] F) : ∀ (o : Nat) (x1 : Int) (x2 : Int) (x3 : Int) (s0 : Int) (F : Mem) (res : Mem) (ho : isK o 1), fX1_fill_b56 k17 o x1 x2 x3 s0 F = some res → Qr none res → PR cX1_fill (zX1_fill Qr) 56 [(0, vR o), (1, vI x1), (2, vI x2), (3, vI x3)] [vI s0] F := by
  intro o x1 x2 x3 s0 F res ho h hq
  refine s_istore (ls' := [(4, vI s0), (0, vR o), (1, vI x1), (2, vI x2), (3, vI x3)]) dX1_fill_56 (Nat.le_of_ble_eq_true rfl) rfl ?_
  refine s_aload_n (j := 1) dX1_fill_58 rfl rfl ?_
  refine s_getR dX1_fill_59 flX1_29 ho ?_
  refine s_iload_n (j := 4) dX1_fill_62 rfl rfl ?_
  refine s_iload (j := 0) dX1_fill_63 rfl ?_
  refine s_if_eq (tgt := 72) dX1_fill_65 rfl (fun hc1 => ?_) (fun hc1 => ?_)
  · have h := ifp hc1 h
    refine s_aload_n (j := 1) dX1_fill_72 rfl rfl ?_
    refine s_getM dX1_fill_73 flX1_9 ho (fun hm2 => ?_)
    have hm2 : _ = 0 ∨ isK ((F o 0).toNat) 7 := hm2
    refine s_iload_n (j := 4) dX1_fill_76 rfl rfl ?_
    refine s_iload_n (j := 2) dX1_fill_77 rfl rfl ?_
    obtain ⟨hn3, h⟩ := gdn h
    obtain ⟨r4, hv5, h⟩ := bnd h
    refine s_callV (As := [vI x3, vI x1]) (rest := [vI x3, vR (o + 1)]) (r := (some (vI r4))) (F' := F) dX1_fill_78 (clX1_80 (Nat.le_of_ble_eq_true rfl) (Nat.le_of_ble_eq_true rfl)) (hm2.resolve_left hn3) rfl ⟨_, _, _, _, rfl, (hm2.resolve_left hn3), hv5, rfl, rfl⟩ rfl (Nat.le_of_ble_eq_true rfl) ?_
    obtain ⟨hb6, h⟩ := gd h
    refine s_iastore dX1_fill_81 (trX1_5 ho) hb6.1 hb6.2 ?_
    refine s_iinc (ls' := [(3, vI (xw (x3 + 1))), (4, vI s0), (0, vR o), (1, vI x1), (2, vI x2)]) (j := 4) dX1_fill_82 rfl (Nat.le_of_ble_eq_true rfl) rfl ?_
    refine s_goto (tgt := 17) dX1_fill_85 rfl ?_
    exact s_sub (ks := [2, 3, 4, 0]) rfl (hk17 o x1 x2 (xw (x3 + 1)) (mset F (o + 1) x3.toNat r4) _ ho h hq)
  · have h := ifn hc1 h
    refine s_iconst dX1_fill_68 (cin rfl) ?_
    refine s_goto (tgt := 81) dX1_fill_69 rfl ?_
    obtain ⟨hb7, h⟩ := gd h
    refine s_iastore dX1_fill_81 (trX1_5 ho) hb7.1 hb7.2 ?_
    refine s_iinc (ls' := [(3, vI (xw (x3 + 1))), (4, vI s0), (0, vR o), (1, vI x1), (2, vI x2)]) (j := 4) dX1_fill_82 rfl (Nat.le_of_ble_eq_true rfl) rfl ?_
    refine s_goto (tgt := 17) dX1_fill_85 rfl ?_
    exact s_sub (ks := [2, 3, 4, 0]) rfl (hk17 o x1 x2 (xw (x3 + 1)) (mset F (o + 1) x3.toNat 0) _ ho h hq)
theorem fX1_fill_b17_ok {Qr : Option PV → Mem → Prop}  : ∀ (n : Nat) (o : Nat) (x1 : Int) (x2 : Int) (x3 : Int) (F : Mem) (res : Mem) (ho : isK o 1), fX1_fill_b17 n o x1 x2 x3 F = some res → Qr none res → PR cX1_fill (zX1_fill Qr) 17 [(0, vR o), (1, vI x1), (2, vI x2), (3, vI x3)] [] F := by
  intro n
  induction n with
  | zero => intro o x1 x2 x3 F res ho h hq; exact nomatch (show (none : Option _) = some _ from h)
  | succ n ih =>
    intro o x1 x2 x3 F res ho h hq
    refine s_iload_n (j := 3) dX1_fill_17 rfl rfl ?_
    refine s_aload_n (j := 0) dX1_fill_18 rfl rfl ?_
    refine s_getM dX1_fill_19 flX1_9 ho (fun hm1 => ?_)
    have hm1 : _ = 0 ∨ isK ((F o 0).toNat) 7 := hm1
    obtain ⟨hn2, h⟩ := gdn h
    refine s_getR dX1_fill_22 flX1_67 (hm1.resolve_left hn2) ?_
    refine s_getI dX1_fill_25 flX1_71 (trX7_5 (hm1.resolve_left hn2)) ?_
    refine s_icmp_ge (tgt := 88) dX1_fill_28 rfl (fun hc3 => ?_) (fun hc3 => ?_)
    · have h := ifp hc3 h
      refine s_iconst dX1_fill_88 (cin rfl) ?_
      refine s_istore_n (ls' := [(3, vI 0), (0, vR o), (1, vI x1), (2, vI x2)]) dX1_fill_89 rfl (Nat.le_of_ble_eq_true rfl) rfl ?_
      exact s_sub (ks := [1, 0]) rfl (fX1_fill_b90_ok FU o 0 F _ ho h hq)
    · have h := ifn hc3 h
      refine s_aload_n (j := 0) dX1_fill_31 rfl rfl ?_
      refine s_getM dX1_fill_32 flX1_9 ho (fun hm4 => ?_)
      have hm4 : _ = 0 ∨ isK ((F o 0).toNat) 7 := hm4
      refine s_iload_n (j := 3) dX1_fill_35 rfl rfl ?_
      obtain ⟨hn5, h⟩ := gdn h
      obtain ⟨r6, hv7, h⟩ := bnd h
      refine s_callV (As := [vI x3]) (rest := []) (r := (some (vI r6))) (F' := F) dX1_fill_36 (clX1_76 (Nat.le_of_ble_eq_true rfl) (Nat.le_of_ble_eq_true rfl)) (hm4.resolve_left hn5) rfl ⟨_, _, _, rfl, (hm4.resolve_left hn5), hv7, rfl, rfl⟩ rfl (Nat.le_of_ble_eq_true rfl) ?_
      refine s_if_ne (tgt := 51) dX1_fill_39 rfl (fun hc8 => ?_) (fun hc8 => ?_)
      · have h := ifp hc8 h
        refine s_iconst dX1_fill_51 (cin rfl) ?_
        refine s_goto (tgt := 56) dX1_fill_52 rfl ?_
        exact s_sub (ks := [0, 1, 2, 3]) rfl (fX1_fill_b56_ok (fX1_fill_b17 n) ih o x1 x2 x3 1 F _ ho h hq)
      · have h := ifn hc8 h
        refine s_iload_n (j := 2) dX1_fill_42 rfl rfl ?_
        refine s_iload_n (j := 3) dX1_fill_43 rfl rfl ?_
        refine s_ishr dX1_fill_44 ?_
        refine s_iconst dX1_fill_45 (cin rfl) ?_
        refine s_iand dX1_fill_46 ?_
        refine s_iconst dX1_fill_47 (cin rfl) ?_
        refine s_icmp_ne (tgt := 55) dX1_fill_48 rfl (fun hc9 => ?_) (fun hc9 => ?_)
        · have h := ifp hc9 h
          refine s_iconst dX1_fill_55 (cin rfl) ?_
          exact s_sub (ks := [0, 1, 2, 3]) rfl (fX1_fill_b56_ok (fX1_fill_b17 n) ih o x1 x2 x3 0 F _ ho h hq)
        · have h := ifn hc9 h
          refine s_iconst dX1_fill_51 (cin rfl) ?_
          refine s_goto (tgt := 56) dX1_fill_52 rfl ?_
          exact s_sub (ks := [0, 1, 2, 3]) rfl (fX1_fill_b56_ok (fX1_fill_b17 n) ih o x1 x2 x3 1 F _ ho h hq)
theorem fX1_fill_ok {Qr : Option PV → Mem → Prop} : ∀ (o : Nat) (x1 : Int) (x2 : Int) (F : Mem) (res : Mem) (ho : isK o 1), fX1_fill o x1 x2 F = some res → Qr none res → PR cX1_fill (zX1_fill Qr) 0 [(0, vR o), (1, vI x1), (2, vI x2)] [] F := by
  intro o x1 x2 F res ho h hq
  refine s_aload_n (j := 0) dX1_fill_0 rfl rfl ?_
  refine s_aload_n (j := 0) dX1_fill_1 rfl rfl ?_
  refine s_getM dX1_fill_2 flX1_9 ho (fun hm1 => ?_)
  have hm1 : _ = 0 ∨ isK ((F o 0).toNat) 7 := hm1
  obtain ⟨hn2, h⟩ := gdn h
  refine s_getI dX1_fill_5 flX1_57 (hm1.resolve_left hn2) ?_
  obtain ⟨q3, hv4, h⟩ := bnd h
  refine s_callV (As := [vI (F ((F o 0).toNat) 1)]) (rest := []) (r := none) (F' := q3) dX1_fill_8 (clX1_60 (Nat.le_of_ble_eq_true rfl) (Nat.le_of_ble_eq_true rfl)) ho rfl ⟨_, _, _, rfl, ho, hv4, rfl, rfl⟩ rfl (Nat.le_of_ble_eq_true rfl) ?_
  refine s_aload_n (j := 0) dX1_fill_11 rfl rfl ?_
  obtain ⟨q5, hv6, h⟩ := bnd h
  refine s_callV (As := []) (rest := []) (r := none) (F' := q5) dX1_fill_12 (clX1_64 (Nat.le_of_ble_eq_true rfl) (Nat.le_of_ble_eq_true rfl)) ho rfl ⟨_, _, rfl, ho, hv6, rfl, rfl⟩ rfl (Nat.le_of_ble_eq_true rfl) ?_
  refine s_iconst dX1_fill_15 (cin rfl) ?_
  refine s_istore_n (ls' := [(3, vI 0), (0, vR o), (1, vI x1), (2, vI x2)]) dX1_fill_16 rfl (Nat.le_of_ble_eq_true rfl) rfl ?_
  exact s_sub (ks := [1, 2, 3, 0]) rfl (fX1_fill_b17_ok FU o x1 x2 0 q5 _ ho h hq)
def gX1_fill : XG := fun As F r F' => ∃ o : Nat, ∃ x1 : Int, ∃ x2 : Int, ∃ res : Mem, As = [vR o, vI x1, vI x2] ∧ isK o 1 ∧ fX1_fill o x1 x2 F = some res ∧ r = none ∧ F' = res
theorem ctX1_fill : xCT yX1_fill cX1_fill 6 (none) 3 87 gX1_fill := xmet (by decide +kernel) (fun As F r F' hg => by obtain ⟨o, x1, x2, res, rfl, ho, h, rfl, rfl⟩ := hg; exact Nat.le_of_ble_eq_true rfl) (fun As F r F' hg => by obtain ⟨o, x1, x2, res, rfl, ho, h, rfl, rfl⟩ := hg; exact fX1_fill_ok o x1 x2 _ _ ho h ⟨rfl, rfl⟩)
theorem mcX1_fill : Cond.code yX1_fill cX1_fill 6 (none) ∈ xw_T ∧ Cond.initialized yX1_fill.cls ∈ xw_T ∧ Cond.instanceMethod yX1_fill ∈ xw_T ∧ Cond.selects yX1_fill.cls yX1_fill yX1_fill ∈ xw_T := ⟨(xinT 1013 (by decide +kernel) (by decide +kernel)), (xinT 124 (by decide +kernel) (by decide +kernel)), (xinT 1011 (by decide +kernel) (by decide +kernel)), (xinT 1012 (by decide +kernel) (by decide +kernel))⟩
theorem clX1_145 {fr lo : Nat} (h1 : 3 + 1 ≤ fr) (h2 : 8 + (6 + 11) + 87 ≤ lo) : xCall RX1 fr lo 0 145 1 2 gX1_fill := ⟨_, _, _, _, _, _, ctX1_fill, h1, h2, mcX1_fill.1, (xinT 1143 (by decide +kernel) (by decide +kernel)), mcX1_fill.2.1, ⟨by decide +kernel, by decide +kernel, by decide +kernel⟩, by rw [if_pos rfl]; exact ⟨mcX1_fill.2.2.1, mcX1_fill.2.2.2, _, _, rfl⟩⟩
theorem clX5_53 {fr lo : Nat} (h1 : 3 + 1 ≤ fr) (h2 : 8 + (6 + 11) + 87 ≤ lo) : xCall RX5 fr lo 0 53 1 2 gX1_fill := ⟨_, _, _, _, _, _, ctX1_fill, h1, h2, mcX1_fill.1, (xinT 1287 (by decide +kernel) (by decide +kernel)), mcX1_fill.2.1, ⟨by decide +kernel, by decide +kernel, by decide +kernel⟩, by rw [if_pos rfl]; exact ⟨mcX1_fill.2.2.1, mcX1_fill.2.2.2, _, _, rfl⟩⟩
theorem clX9_250 {fr lo : Nat} (h1 : 3 + 1 ≤ fr) (h2 : 8 + (6 + 11) + 87 ≤ lo) : xCall RX9 fr lo 0 250 1 2 gX1_fill := ⟨_, _, _, _, _, _, ctX1_fill, h1, h2, mcX1_fill.1, (xinT 1010 (by decide +kernel) (by decide +kernel)), mcX1_fill.2.1, ⟨by decide +kernel, by decide +kernel, by decide +kernel⟩, by rw [if_pos rfl]; exact ⟨mcX1_fill.2.2.1, mcX1_fill.2.2.2, _, _, rfl⟩⟩
theorem dX1_bar_0 : decode cX1_bar 0 = .ok (.iconst 0, 1) := by decide +kernel
theorem dX1_bar_1 : decode cX1_bar 1 = .ok (.iload_n 2, 1) := by decide +kernel
theorem dX1_bar_2 : decode cX1_bar 2 = .ok (.invokestatic 115, 3) := by decide +kernel
theorem dX1_bar_5 : decode cX1_bar 5 = .ok (.istore 4, 2) := by decide +kernel
theorem dX1_bar_7 : decode cX1_bar 7 = .ok (.iload 4, 2) := by decide +kernel
theorem dX1_bar_9 : decode cX1_bar 9 = .ok (.iload_n 3, 1) := by decide +kernel
theorem dX1_bar_10 : decode cX1_bar 10 = .ok (.if_icmp .ge 67, 3) := by decide +kernel
theorem dX1_bar_13 : decode cX1_bar 13 = .ok (.iload 4, 2) := by decide +kernel
theorem dX1_bar_15 : decode cX1_bar 15 = .ok (.aload_n 0, 1) := by decide +kernel
theorem dX1_bar_16 : decode cX1_bar 16 = .ok (.getfield 26, 3) := by decide +kernel
theorem dX1_bar_19 : decode cX1_bar 19 = .ok (.if_icmp .ge 58, 3) := by decide +kernel
theorem dX1_bar_22 : decode cX1_bar 22 = .ok (.iconst 0, 1) := by decide +kernel
theorem dX1_bar_23 : decode cX1_bar 23 = .ok (.istore 5, 2) := by decide +kernel
theorem dX1_bar_25 : decode cX1_bar 25 = .ok (.iload 5, 2) := by decide +kernel
theorem dX1_bar_27 : decode cX1_bar 27 = .ok (.aload_n 0, 1) := by decide +kernel
theorem dX1_bar_28 : decode cX1_bar 28 = .ok (.getfield 9, 3) := by decide +kernel
theorem dX1_bar_31 : decode cX1_bar 31 = .ok (.getfield 67, 3) := by decide +kernel
theorem dX1_bar_34 : decode cX1_bar 34 = .ok (.getfield 71, 3) := by decide +kernel
theorem dX1_bar_37 : decode cX1_bar 37 = .ok (.if_icmp .ge 34, 3) := by decide +kernel
theorem dX1_bar_40 : decode cX1_bar 40 = .ok (.iload_n 1, 1) := by decide +kernel
theorem dX1_bar_41 : decode cX1_bar 41 = .ok (.iconst (-1), 1) := by decide +kernel
theorem dX1_bar_42 : decode cX1_bar 42 = .ok (.if_icmp .eq 9, 3) := by decide +kernel
theorem dX1_bar_45 : decode cX1_bar 45 = .ok (.iload_n 1, 1) := by decide +kernel
theorem dX1_bar_46 : decode cX1_bar 46 = .ok (.iload 5, 2) := by decide +kernel
theorem dX1_bar_48 : decode cX1_bar 48 = .ok (.if_icmp .ne 17, 3) := by decide +kernel
theorem dX1_bar_51 : decode cX1_bar 51 = .ok (.aload_n 0, 1) := by decide +kernel
theorem dX1_bar_52 : decode cX1_bar 52 = .ok (.getfield 33, 3) := by decide +kernel
theorem dX1_bar_55 : decode cX1_bar 55 = .ok (.iload 4, 2) := by decide +kernel
theorem dX1_bar_57 : decode cX1_bar 57 = .ok (.bipush 8, 2) := by decide +kernel
theorem dX1_bar_59 : decode cX1_bar 59 = .ok (.imul, 1) := by decide +kernel
theorem dX1_bar_60 : decode cX1_bar 60 = .ok (.iload 5, 2) := by decide +kernel
theorem dX1_bar_62 : decode cX1_bar 62 = .ok (.iadd, 1) := by decide +kernel
theorem dX1_bar_63 : decode cX1_bar 63 = .ok (.iconst 0, 1) := by decide +kernel
theorem dX1_bar_64 : decode cX1_bar 64 = .ok (.iastore, 1) := by decide +kernel
theorem dX1_bar_65 : decode cX1_bar 65 = .ok (.iinc 5 1, 3) := by decide +kernel
theorem dX1_bar_68 : decode cX1_bar 68 = .ok (.goto (-43), 3) := by decide +kernel
theorem dX1_bar_71 : decode cX1_bar 71 = .ok (.iinc 4 1, 3) := by decide +kernel
theorem dX1_bar_74 : decode cX1_bar 74 = .ok (.goto (-67), 3) := by decide +kernel
theorem dX1_bar_77 : decode cX1_bar 77 = .ok (.return_, 1) := by decide +kernel
def zX1_bar (Qr : Option PV → Mem → Prop) : XZ := (RX1, 1, 40, 6, none, Qr)
noncomputable def fX1_bar_b25 (k7 : Nat → Int → Int → Int → Mem → Option Mem) : Nat → Nat → Int → Int → Int → Int → Mem → Option Mem
  | 0, _, _, _, _, _, _ => none
  | n + 1, o, x1, x3, x4, x5, F =>
    if (F o 0).toNat = 0 then none else
    if (F (((F o 0).toNat) + 1) 3) ≤ x5 then
      k7 o x1 x3 (xw (x4 + 1)) F
    else
      if x1 = (-1) then
        if (0 : Int) ≤ (xw ((xw (x4 * 8)) + x5)) ∧ (xw ((xw (x4 * 8)) + x5)) < (alen (o + 2) : Int) then
          fX1_bar_b25 k7 n o x1 x3 x4 (xw (x5 + 1)) (mset F (o + 2) (xw ((xw (x4 * 8)) + x5)).toNat 0)
        else none
      else
        if x1 ≠ x5 then
          fX1_bar_b25 k7 n o x1 x3 x4 (xw (x5 + 1)) F
        else
          if (0 : Int) ≤ (xw ((xw (x4 * 8)) + x5)) ∧ (xw ((xw (x4 * 8)) + x5)) < (alen (o + 2) : Int) then
            fX1_bar_b25 k7 n o x1 x3 x4 (xw (x5 + 1)) (mset F (o + 2) (xw ((xw (x4 * 8)) + x5)).toNat 0)
          else none
noncomputable def fX1_bar_b7 : Nat → Nat → Int → Int → Int → Mem → Option Mem
  | 0, _, _, _, _, _ => none
  | n + 1, o, x1, x3, x4, F =>
    if x3 ≤ x4 then
      some F
    else
      if (F o 4) ≤ x4 then
        some F
      else
        fX1_bar_b25 (fX1_bar_b7 n) FU o x1 x3 x4 0 F
noncomputable def fX1_bar (o : Nat) (x1 : Int) (x2 : Int) (x3 : Int) (F : Mem) : Option Mem :=
  fX1_bar_b7 FU o x1 x3 (xmax 0 x2) F
theorem fX1_bar_b25_ok {Qr : Option PV → Mem → Prop}  (k7 : Nat → Int → Int → Int → Mem → Option Mem) (hk7 : ∀ (o : Nat) (x1 : Int) (x3 : Int) (x4 : Int) (F : Mem) (res : Mem) (ho : isK o 1), k7 o x1 x3 x4 F = some res → Qr none res → PR cX1_bar (zX1_bar Qr) 7 [(0, vR o), (1, vI x1), (3, vI x3), (4, vI x4)] [] F) : ∀ (n : Nat) (o : Nat) (x1 : Int) (x3 : Int) (x4 : Int) (x5 : Int) (F : Mem) (res : Mem) (ho : isK o 1), fX1_bar_b25 k7 n o x1 x3 x4 x5 F = some res → Qr none res → PR cX1_bar (zX1_bar Qr) 25 [(0, vR o), (1, vI x1), (3, vI x3), (4, vI x4), (5, vI x5)] [] F := by
  intro n
  induction n with
  | zero => intro o x1 x3 x4 x5 F res ho h hq; exact nomatch (show (none : Option _) = some _ from h)
  | succ n ih =>
    intro o x1 x3 x4 x5 F res ho h hq
    refine s_iload (j := 4) dX1_bar_25 rfl ?_
    refine s_aload_n (j := 0) dX1_bar_27 rfl rfl ?_
    refine s_getM dX1_bar_28 flX1_9 ho (fun hm1 => ?_)
    have hm1 : _ = 0 ∨ isK ((F o 0).toNat) 7 := hm1
    obtain ⟨hn2, h⟩ := gdn h
    refine s_getR dX1_bar_31 flX1_67 (hm1.resolve_left hn2) ?_
    refine s_getI dX1_bar_34 flX1_71 (trX7_5 (hm1.resolve_left hn2)) ?_
    refine s_icmp_ge (tgt := 71) dX1_bar_37 rfl (fun hc3 => ?_) (fun hc3 => ?_)
    · have h := ifp hc3 h
      refine s_iinc (ls' := [(4, vI (xw (x4 + 1))), (0, vR o), (1, vI x1), (3, vI x3), (5, vI x5)]) (j := 3) dX1_bar_71 rfl (Nat.le_of_ble_eq_true rfl) rfl ?_
      refine s_goto (tgt := 7) dX1_bar_74 rfl ?_
      exact s_sub (ks := [1, 2, 3, 0]) rfl (hk7 o x1 x3 (xw (x4 + 1)) F _ ho h hq)
    · have h := ifn hc3 h
      refine s_iload_n (j := 1) dX1_bar_40 rfl rfl ?_
      refine s_iconst dX1_bar_41 (cin rfl) ?_
      refine s_icmp_eq (tgt := 51) dX1_bar_42 rfl (fun hc4 => ?_) (fun hc4 => ?_)
      · have h := ifp hc4 h
        refine s_aload_n (j := 0) dX1_bar_51 rfl rfl ?_
        refine s_getR dX1_bar_52 flX1_33 ho ?_
        refine s_iload (j := 3) dX1_bar_55 rfl ?_
        refine s_bipush dX1_bar_57 rfl (cin rfl) ?_
        refine s_imul dX1_bar_59 ?_
        refine s_iload (j := 4) dX1_bar_60 rfl ?_
        refine s_iadd dX1_bar_62 ?_
        refine s_iconst dX1_bar_63 (cin rfl) ?_
        obtain ⟨hb5, h⟩ := gd h
        refine s_iastore dX1_bar_64 (trX1_6 ho) hb5.1 hb5.2 ?_
        refine s_iinc (ls' := [(5, vI (xw (x5 + 1))), (0, vR o), (1, vI x1), (3, vI x3), (4, vI x4)]) (j := 4) dX1_bar_65 rfl (Nat.le_of_ble_eq_true rfl) rfl ?_
        refine s_goto (tgt := 25) dX1_bar_68 rfl ?_
        exact s_sub (ks := [1, 2, 3, 4, 0]) rfl (ih o x1 x3 x4 (xw (x5 + 1)) (mset F (o + 2) (xw ((xw (x4 * 8)) + x5)).toNat 0) _ ho h hq)
      · have h := ifn hc4 h
        refine s_iload_n (j := 1) dX1_bar_45 rfl rfl ?_
        refine s_iload (j := 4) dX1_bar_46 rfl ?_
        refine s_icmp_ne (tgt := 65) dX1_bar_48 rfl (fun hc6 => ?_) (fun hc6 => ?_)
        · have h := ifp hc6 h
          refine s_iinc (ls' := [(5, vI (xw (x5 + 1))), (0, vR o), (1, vI x1), (3, vI x3), (4, vI x4)]) (j := 4) dX1_bar_65 rfl (Nat.le_of_ble_eq_true rfl) rfl ?_
          refine s_goto (tgt := 25) dX1_bar_68 rfl ?_
          exact s_sub (ks := [1, 2, 3, 4, 0]) rfl (ih o x1 x3 x4 (xw (x5 + 1)) F _ ho h hq)
        · have h := ifn hc6 h
          refine s_aload_n (j := 0) dX1_bar_51 rfl rfl ?_
          refine s_getR dX1_bar_52 flX1_33 ho ?_
          refine s_iload (j := 3) dX1_bar_55 rfl ?_
          refine s_bipush dX1_bar_57 rfl (cin rfl) ?_
          refine s_imul dX1_bar_59 ?_
          refine s_iload (j := 4) dX1_bar_60 rfl ?_
          refine s_iadd dX1_bar_62 ?_
          refine s_iconst dX1_bar_63 (cin rfl) ?_
          obtain ⟨hb7, h⟩ := gd h
          refine s_iastore dX1_bar_64 (trX1_6 ho) hb7.1 hb7.2 ?_
          refine s_iinc (ls' := [(5, vI (xw (x5 + 1))), (0, vR o), (1, vI x1), (3, vI x3), (4, vI x4)]) (j := 4) dX1_bar_65 rfl (Nat.le_of_ble_eq_true rfl) rfl ?_
          refine s_goto (tgt := 25) dX1_bar_68 rfl ?_
          exact s_sub (ks := [1, 2, 3, 4, 0]) rfl (ih o x1 x3 x4 (xw (x5 + 1)) (mset F (o + 2) (xw ((xw (x4 * 8)) + x5)).toNat 0) _ ho h hq)
theorem fX1_bar_b7_ok {Qr : Option PV → Mem → Prop}  : ∀ (n : Nat) (o : Nat) (x1 : Int) (x3 : Int) (x4 : Int) (F : Mem) (res : Mem) (ho : isK o 1), fX1_bar_b7 n o x1 x3 x4 F = some res → Qr none res → PR cX1_bar (zX1_bar Qr) 7 [(0, vR o), (1, vI x1), (3, vI x3), (4, vI x4)] [] F := by
  intro n
  induction n with
  | zero => intro o x1 x3 x4 F res ho h hq; exact nomatch (show (none : Option _) = some _ from h)
  | succ n ih =>
    intro o x1 x3 x4 F res ho h hq
    refine s_iload (j := 3) dX1_bar_7 rfl ?_
    refine s_iload_n (j := 2) dX1_bar_9 rfl rfl ?_
    refine s_icmp_ge (tgt := 77) dX1_bar_10 rfl (fun hc1 => ?_) (fun hc1 => ?_)
    · have h := ifp hc1 h
      have h := Option.some.inj h
      subst h
      exact s_return dX1_bar_77 rfl hq
    · have h := ifn hc1 h
      refine s_iload (j := 3) dX1_bar_13 rfl ?_
      refine s_aload_n (j := 0) dX1_bar_15 rfl rfl ?_
      refine s_getI dX1_bar_16 flX1_26 ho ?_
      refine s_icmp_ge (tgt := 77) dX1_bar_19 rfl (fun hc2 => ?_) (fun hc2 => ?_)
      · have h := ifp hc2 h
        have h := Option.some.inj h
        subst h
        exact s_return dX1_bar_77 rfl hq
      · have h := ifn hc2 h
        refine s_iconst dX1_bar_22 (cin rfl) ?_
        refine s_istore (ls' := [(5, vI 0), (0, vR o), (1, vI x1), (3, vI x3), (4, vI x4)]) dX1_bar_23 (Nat.le_of_ble_eq_true rfl) rfl ?_
        exact s_sub (ks := [1, 2, 3, 4, 0]) rfl (fX1_bar_b25_ok (fX1_bar_b7 n) ih FU o x1 x3 x4 0 F _ ho h hq)
theorem fX1_bar_ok {Qr : Option PV → Mem → Prop} : ∀ (o : Nat) (x1 : Int) (x2 : Int) (x3 : Int) (F : Mem) (res : Mem) (ho : isK o 1), fX1_bar o x1 x2 x3 F = some res → Qr none res → PR cX1_bar (zX1_bar Qr) 0 [(0, vR o), (1, vI x1), (2, vI x2), (3, vI x3)] [] F := by
  intro o x1 x2 x3 F res ho h hq
  refine s_iconst dX1_bar_0 (cin rfl) ?_
  refine s_iload_n (j := 2) dX1_bar_1 rfl rfl ?_
  refine s_mmax dX1_bar_2 mtX1_115 (Nat.le_of_ble_eq_true rfl) ?_
  refine s_istore (ls' := [(4, vI (xmax 0 x2)), (0, vR o), (1, vI x1), (2, vI x2), (3, vI x3)]) dX1_bar_5 (Nat.le_of_ble_eq_true rfl) rfl ?_
  exact s_sub (ks := [1, 2, 4, 0]) rfl (fX1_bar_b7_ok FU o x1 x3 (xmax 0 x2) F _ ho h hq)
def gX1_bar : XG := fun As F r F' => ∃ o : Nat, ∃ x1 : Int, ∃ x2 : Int, ∃ x3 : Int, ∃ res : Mem, As = [vR o, vI x1, vI x2, vI x3] ∧ isK o 1 ∧ fX1_bar o x1 x2 x3 F = some res ∧ r = none ∧ F' = res
theorem ctX1_bar : xCT yX1_bar cX1_bar 6 (none) 1 40 gX1_bar := xmet (by decide +kernel) (fun As F r F' hg => by obtain ⟨o, x1, x2, x3, res, rfl, ho, h, rfl, rfl⟩ := hg; exact Nat.le_of_ble_eq_true rfl) (fun As F r F' hg => by obtain ⟨o, x1, x2, x3, res, rfl, ho, h, rfl, rfl⟩ := hg; exact fX1_bar_ok o x1 x2 x3 _ _ ho h ⟨rfl, rfl⟩)
theorem mcX1_bar : Cond.code yX1_bar cX1_bar 6 (none) ∈ xw_T ∧ Cond.initialized yX1_bar.cls ∈ xw_T ∧ Cond.instanceMethod yX1_bar ∈ xw_T ∧ Cond.selects yX1_bar.cls yX1_bar yX1_bar ∈ xw_T := ⟨(xinT 1147 (by decide +kernel) (by decide +kernel)), (xinT 124 (by decide +kernel) (by decide +kernel)), (xinT 1145 (by decide +kernel) (by decide +kernel)), (xinT 1146 (by decide +kernel) (by decide +kernel))⟩
theorem clX1_120 {fr lo : Nat} (h1 : 1 + 1 ≤ fr) (h2 : 8 + (6 + 11) + 40 ≤ lo) : xCall RX1 fr lo 0 120 1 3 gX1_bar := ⟨_, _, _, _, _, _, ctX1_bar, h1, h2, mcX1_bar.1, (xinT 1144 (by decide +kernel) (by decide +kernel)), mcX1_bar.2.1, ⟨by decide +kernel, by decide +kernel, by decide +kernel⟩, by rw [if_pos rfl]; exact ⟨mcX1_bar.2.2.1, mcX1_bar.2.2.2, _, _, rfl⟩⟩
theorem dX1_keepGainOfEyes_0 : decode cX1_keepGainOfEyes 0 = .ok (.iconst 0, 1) := by decide +kernel
theorem dX1_keepGainOfEyes_1 : decode cX1_keepGainOfEyes 1 = .ok (.istore_n 1, 1) := by decide +kernel
theorem dX1_keepGainOfEyes_2 : decode cX1_keepGainOfEyes 2 = .ok (.iload_n 1, 1) := by decide +kernel
theorem dX1_keepGainOfEyes_3 : decode cX1_keepGainOfEyes 3 = .ok (.aload_n 0, 1) := by decide +kernel
theorem dX1_keepGainOfEyes_4 : decode cX1_keepGainOfEyes 4 = .ok (.getfield 9, 3) := by decide +kernel
theorem dX1_keepGainOfEyes_7 : decode cX1_keepGainOfEyes 7 = .ok (.getfield 67, 3) := by decide +kernel
theorem dX1_keepGainOfEyes_10 : decode cX1_keepGainOfEyes 10 = .ok (.getfield 71, 3) := by decide +kernel
theorem dX1_keepGainOfEyes_13 : decode cX1_keepGainOfEyes 13 = .ok (.if_icmp .ge 35, 3) := by decide +kernel
theorem dX1_keepGainOfEyes_16 : decode cX1_keepGainOfEyes 16 = .ok (.aload_n 0, 1) := by decide +kernel
theorem dX1_keepGainOfEyes_17 : decode cX1_keepGainOfEyes 17 = .ok (.getfield 9, 3) := by decide +kernel
theorem dX1_keepGainOfEyes_20 : decode cX1_keepGainOfEyes 20 = .ok (.getfield 67, 3) := by decide +kernel
theorem dX1_keepGainOfEyes_23 : decode cX1_keepGainOfEyes 23 = .ok (.iload_n 1, 1) := by decide +kernel
theorem dX1_keepGainOfEyes_24 : decode cX1_keepGainOfEyes 24 = .ok (.iconst 1, 1) := by decide +kernel
theorem dX1_keepGainOfEyes_25 : decode cX1_keepGainOfEyes 25 = .ok (.invokevirtual 87, 3) := by decide +kernel
theorem dX1_keepGainOfEyes_28 : decode cX1_keepGainOfEyes 28 = .ok (.iconst 1, 1) := by decide +kernel
theorem dX1_keepGainOfEyes_29 : decode cX1_keepGainOfEyes 29 = .ok (.if_icmp .eq 13, 3) := by decide +kernel
theorem dX1_keepGainOfEyes_32 : decode cX1_keepGainOfEyes 32 = .ok (.aload_n 0, 1) := by decide +kernel
theorem dX1_keepGainOfEyes_33 : decode cX1_keepGainOfEyes 33 = .ok (.iload_n 1, 1) := by decide +kernel
theorem dX1_keepGainOfEyes_34 : decode cX1_keepGainOfEyes 34 = .ok (.iconst 0, 1) := by decide +kernel
theorem dX1_keepGainOfEyes_35 : decode cX1_keepGainOfEyes 35 = .ok (.aload_n 0, 1) := by decide +kernel
theorem dX1_keepGainOfEyes_36 : decode cX1_keepGainOfEyes 36 = .ok (.getfield 26, 3) := by decide +kernel
theorem dX1_keepGainOfEyes_39 : decode cX1_keepGainOfEyes 39 = .ok (.invokevirtual 120, 3) := by decide +kernel
theorem dX1_keepGainOfEyes_42 : decode cX1_keepGainOfEyes 42 = .ok (.iinc 1 1, 3) := by decide +kernel
theorem dX1_keepGainOfEyes_45 : decode cX1_keepGainOfEyes 45 = .ok (.goto (-43), 3) := by decide +kernel
theorem dX1_keepGainOfEyes_48 : decode cX1_keepGainOfEyes 48 = .ok (.return_, 1) := by decide +kernel
def zX1_keepGainOfEyes (Qr : Option PV → Mem → Prop) : XZ := (RX1, 2, 65, 2, none, Qr)
noncomputable def fX1_keepGainOfEyes_b2 : Nat → Nat → Int → Mem → Option Mem
  | 0, _, _, _ => none
  | n + 1, o, x1, F =>
    if (F o 0).toNat = 0 then none else
    if (F (((F o 0).toNat) + 1) 3) ≤ x1 then
      some F
    else
      if (F o 0).toNat = 0 then none else
      (fX3_cell (((F o 0).toNat) + 1) x1 1 F).bind fun r6 =>
      if r6 = 1 then
        fX1_keepGainOfEyes_b2 n o (xw (x1 + 1)) F
      else
        (fX1_bar o x1 0 (F o 4) F).bind fun q9 =>
        fX1_keepGainOfEyes_b2 n o (xw (x1 + 1)) q9
noncomputable def fX1_keepGainOfEyes (o : Nat) (F : Mem) : Option Mem :=
  fX1_keepGainOfEyes_b2 FU o 0 F
theorem fX1_keepGainOfEyes_b2_ok {Qr : Option PV → Mem → Prop}  : ∀ (n : Nat) (o : Nat) (x1 : Int) (F : Mem) (res : Mem) (ho : isK o 1), fX1_keepGainOfEyes_b2 n o x1 F = some res → Qr none res → PR cX1_keepGainOfEyes (zX1_keepGainOfEyes Qr) 2 [(0, vR o), (1, vI x1)] [] F := by
  intro n
  induction n with
  | zero => intro o x1 F res ho h hq; exact nomatch (show (none : Option _) = some _ from h)
  | succ n ih =>
    intro o x1 F res ho h hq
    refine s_iload_n (j := 1) dX1_keepGainOfEyes_2 rfl rfl ?_
    refine s_aload_n (j := 0) dX1_keepGainOfEyes_3 rfl rfl ?_
    refine s_getM dX1_keepGainOfEyes_4 flX1_9 ho (fun hm1 => ?_)
    have hm1 : _ = 0 ∨ isK ((F o 0).toNat) 7 := hm1
    obtain ⟨hn2, h⟩ := gdn h
    refine s_getR dX1_keepGainOfEyes_7 flX1_67 (hm1.resolve_left hn2) ?_
    refine s_getI dX1_keepGainOfEyes_10 flX1_71 (trX7_5 (hm1.resolve_left hn2)) ?_
    refine s_icmp_ge (tgt := 48) dX1_keepGainOfEyes_13 rfl (fun hc3 => ?_) (fun hc3 => ?_)
    · have h := ifp hc3 h
      have h := Option.some.inj h
      subst h
      exact s_return dX1_keepGainOfEyes_48 rfl hq
    · have h := ifn hc3 h
      refine s_aload_n (j := 0) dX1_keepGainOfEyes_16 rfl rfl ?_
      refine s_getM dX1_keepGainOfEyes_17 flX1_9 ho (fun hm4 => ?_)
      have hm4 : _ = 0 ∨ isK ((F o 0).toNat) 7 := hm4
      obtain ⟨hn5, h⟩ := gdn h
      refine s_getR dX1_keepGainOfEyes_20 flX1_67 (hm4.resolve_left hn5) ?_
      refine s_iload_n (j := 1) dX1_keepGainOfEyes_23 rfl rfl ?_
      refine s_iconst dX1_keepGainOfEyes_24 (cin rfl) ?_
      obtain ⟨r6, hv7, h⟩ := bnd h
      refine s_callV (As := [vI x1, vI 1]) (rest := []) (r := (some (vI r6))) (F' := F) dX1_keepGainOfEyes_25 (clX1_87 (Nat.le_of_ble_eq_true rfl) (Nat.le_of_ble_eq_true rfl)) (trX7_5 (hm4.resolve_left hn5)) rfl ⟨_, _, _, _, rfl, (trX7_5 (hm4.resolve_left hn5)), hv7, rfl, rfl⟩ rfl (Nat.le_of_ble_eq_true rfl) ?_
      refine s_iconst dX1_keepGainOfEyes_28 (cin rfl) ?_
      refine s_icmp_eq (tgt := 42) dX1_keepGainOfEyes_29 rfl (fun hc8 => ?_) (fun hc8 => ?_)
      · have h := ifp hc8 h
        refine s_iinc (ls' := [(1, vI (xw (x1 + 1))), (0, vR o)]) (j := 1) dX1_keepGainOfEyes_42 rfl (Nat.le_of_ble_eq_true rfl) rfl ?_
        refine s_goto (tgt := 2) dX1_keepGainOfEyes_45 rfl ?_
        exact s_sub (ks := [1, 0]) rfl (ih o (xw (x1 + 1)) F _ ho h hq)
      · have h := ifn hc8 h
        refine s_aload_n (j := 0) dX1_keepGainOfEyes_32 rfl rfl ?_
        refine s_iload_n (j := 1) dX1_keepGainOfEyes_33 rfl rfl ?_
        refine s_iconst dX1_keepGainOfEyes_34 (cin rfl) ?_
        refine s_aload_n (j := 0) dX1_keepGainOfEyes_35 rfl rfl ?_
        refine s_getI dX1_keepGainOfEyes_36 flX1_26 ho ?_
        obtain ⟨q9, hv10, h⟩ := bnd h
        refine s_callV (As := [vI x1, vI 0, vI (F o 4)]) (rest := []) (r := none) (F' := q9) dX1_keepGainOfEyes_39 (clX1_120 (Nat.le_of_ble_eq_true rfl) (Nat.le_of_ble_eq_true rfl)) ho rfl ⟨_, _, _, _, _, rfl, ho, hv10, rfl, rfl⟩ rfl (Nat.le_of_ble_eq_true rfl) ?_
        refine s_iinc (ls' := [(1, vI (xw (x1 + 1))), (0, vR o)]) (j := 1) dX1_keepGainOfEyes_42 rfl (Nat.le_of_ble_eq_true rfl) rfl ?_
        refine s_goto (tgt := 2) dX1_keepGainOfEyes_45 rfl ?_
        exact s_sub (ks := [1, 0]) rfl (ih o (xw (x1 + 1)) q9 _ ho h hq)
theorem fX1_keepGainOfEyes_ok {Qr : Option PV → Mem → Prop} : ∀ (o : Nat) (F : Mem) (res : Mem) (ho : isK o 1), fX1_keepGainOfEyes o F = some res → Qr none res → PR cX1_keepGainOfEyes (zX1_keepGainOfEyes Qr) 0 [(0, vR o)] [] F := by
  intro o F res ho h hq
  refine s_iconst dX1_keepGainOfEyes_0 (cin rfl) ?_
  refine s_istore_n (ls' := [(1, vI 0), (0, vR o)]) dX1_keepGainOfEyes_1 rfl (Nat.le_of_ble_eq_true rfl) rfl ?_
  exact s_sub (ks := [1, 0]) rfl (fX1_keepGainOfEyes_b2_ok FU o 0 F _ ho h hq)
def gX1_keepGainOfEyes : XG := fun As F r F' => ∃ o : Nat, ∃ res : Mem, As = [vR o] ∧ isK o 1 ∧ fX1_keepGainOfEyes o F = some res ∧ r = none ∧ F' = res
theorem ctX1_keepGainOfEyes : xCT yX1_keepGainOfEyes cX1_keepGainOfEyes 2 (none) 2 65 gX1_keepGainOfEyes := xmet (by decide +kernel) (fun As F r F' hg => by obtain ⟨o, res, rfl, ho, h, rfl, rfl⟩ := hg; exact Nat.le_of_ble_eq_true rfl) (fun As F r F' hg => by obtain ⟨o, res, rfl, ho, h, rfl, rfl⟩ := hg; exact fX1_keepGainOfEyes_ok o _ _ ho h ⟨rfl, rfl⟩)
theorem mcX1_keepGainOfEyes : Cond.code yX1_keepGainOfEyes cX1_keepGainOfEyes 2 (none) ∈ xw_T ∧ Cond.initialized yX1_keepGainOfEyes.cls ∈ xw_T ∧ Cond.instanceMethod yX1_keepGainOfEyes ∈ xw_T ∧ Cond.selects yX1_keepGainOfEyes.cls yX1_keepGainOfEyes yX1_keepGainOfEyes ∈ xw_T := ⟨(xinT 1179 (by decide +kernel) (by decide +kernel)), (xinT 124 (by decide +kernel) (by decide +kernel)), (xinT 1177 (by decide +kernel) (by decide +kernel)), (xinT 1178 (by decide +kernel) (by decide +kernel))⟩
theorem clX9_303 {fr lo : Nat} (h1 : 2 + 1 ≤ fr) (h2 : 8 + (2 + 11) + 65 ≤ lo) : xCall RX9 fr lo 0 303 1 0 gX1_keepGainOfEyes := ⟨_, _, _, _, _, _, ctX1_keepGainOfEyes, h1, h2, mcX1_keepGainOfEyes.1, (xinT 1176 (by decide +kernel) (by decide +kernel)), mcX1_keepGainOfEyes.2.1, ⟨by decide +kernel, by decide +kernel, by decide +kernel⟩, by rw [if_pos rfl]; exact ⟨mcX1_keepGainOfEyes.2.2.1, mcX1_keepGainOfEyes.2.2.2, _, _, rfl⟩⟩
theorem dX1_canStay_0 : decode cX1_canStay 0 = .ok (.aload_n 0, 1) := by decide +kernel
theorem dX1_canStay_1 : decode cX1_canStay 1 = .ok (.getfield 36, 3) := by decide +kernel
theorem dX1_canStay_4 : decode cX1_canStay 4 = .ok (.iload_n 1, 1) := by decide +kernel
theorem dX1_canStay_5 : decode cX1_canStay 5 = .ok (.iaload, 1) := by decide +kernel
theorem dX1_canStay_6 : decode cX1_canStay 6 = .ok (.iconst (-1), 1) := by decide +kernel
theorem dX1_canStay_7 : decode cX1_canStay 7 = .ok (.if_icmp .eq 13, 3) := by decide +kernel
theorem dX1_canStay_10 : decode cX1_canStay 10 = .ok (.aload_n 0, 1) := by decide +kernel
theorem dX1_canStay_11 : decode cX1_canStay 11 = .ok (.getfield 36, 3) := by decide +kernel
theorem dX1_canStay_14 : decode cX1_canStay 14 = .ok (.iload_n 1, 1) := by decide +kernel
theorem dX1_canStay_15 : decode cX1_canStay 15 = .ok (.iaload, 1) := by decide +kernel
theorem dX1_canStay_16 : decode cX1_canStay 16 = .ok (.iload_n 2, 1) := by decide +kernel
theorem dX1_canStay_17 : decode cX1_canStay 17 = .ok (.if_icmp .ne 7, 3) := by decide +kernel
theorem dX1_canStay_20 : decode cX1_canStay 20 = .ok (.iconst 1, 1) := by decide +kernel
theorem dX1_canStay_21 : decode cX1_canStay 21 = .ok (.goto 4, 3) := by decide +kernel
theorem dX1_canStay_24 : decode cX1_canStay 24 = .ok (.iconst 0, 1) := by decide +kernel
theorem dX1_canStay_25 : decode cX1_canStay 25 = .ok (.ireturn, 1) := by decide +kernel
def zX1_canStay (Qr : Option PV → Mem → Prop) : XZ := (RX1, 0, 0, 3, some FieldType.boolean, Qr)
noncomputable def fX1_canStay (o : Nat) (x1 : Int) (x2 : Int) (F : Mem) : Option Int :=
  if (0 : Int) ≤ x1 ∧ x1 < (alen (o + 3) : Int) then
    if (F (o + 3) x1.toNat) = (-1) then
      some 1
    else
      if (0 : Int) ≤ x1 ∧ x1 < (alen (o + 3) : Int) then
        if (F (o + 3) x1.toNat) ≠ x2 then
          some 0
        else
          some 1
      else none
  else none
theorem fX1_canStay_ok {Qr : Option PV → Mem → Prop} : ∀ (o : Nat) (x1 : Int) (x2 : Int) (F : Mem) (res : Int) (ho : isK o 1), fX1_canStay o x1 x2 F = some res → Qr (some (vI res)) F → PR cX1_canStay (zX1_canStay Qr) 0 [(0, vR o), (1, vI x1), (2, vI x2)] [] F := by
  intro o x1 x2 F res ho h hq
  refine s_aload_n (j := 0) dX1_canStay_0 rfl rfl ?_
  refine s_getR dX1_canStay_1 flX1_36 ho ?_
  refine s_iload_n (j := 1) dX1_canStay_4 rfl rfl ?_
  obtain ⟨hb1, h⟩ := gd h
  refine s_iaload dX1_canStay_5 (trX1_7 ho) hb1.1 hb1.2 ?_
  refine s_iconst dX1_canStay_6 (cin rfl) ?_
  refine s_icmp_eq (tgt := 20) dX1_canStay_7 rfl (fun hc2 => ?_) (fun hc2 => ?_)
  · have h := ifp hc2 h
    refine s_iconst dX1_canStay_20 (cin rfl) ?_
    refine s_goto (tgt := 25) dX1_canStay_21 rfl ?_
    have h := Option.some.inj h
    subst h
    exact s_zreturn dX1_canStay_25 rfl (Or.inr rfl) hq
  · have h := ifn hc2 h
    refine s_aload_n (j := 0) dX1_canStay_10 rfl rfl ?_
    refine s_getR dX1_canStay_11 flX1_36 ho ?_
    refine s_iload_n (j := 1) dX1_canStay_14 rfl rfl ?_
    obtain ⟨hb3, h⟩ := gd h
    refine s_iaload dX1_canStay_15 (trX1_7 ho) hb3.1 hb3.2 ?_
    refine s_iload_n (j := 2) dX1_canStay_16 rfl rfl ?_
    refine s_icmp_ne (tgt := 24) dX1_canStay_17 rfl (fun hc4 => ?_) (fun hc4 => ?_)
    · have h := ifp hc4 h
      refine s_iconst dX1_canStay_24 (cin rfl) ?_
      have h := Option.some.inj h
      subst h
      exact s_zreturn dX1_canStay_25 rfl (Or.inl rfl) hq
    · have h := ifn hc4 h
      refine s_iconst dX1_canStay_20 (cin rfl) ?_
      refine s_goto (tgt := 25) dX1_canStay_21 rfl ?_
      have h := Option.some.inj h
      subst h
      exact s_zreturn dX1_canStay_25 rfl (Or.inr rfl) hq
def gX1_canStay : XG := fun As F r F' => ∃ o : Nat, ∃ x1 : Int, ∃ x2 : Int, ∃ res : Int, As = [vR o, vI x1, vI x2] ∧ isK o 1 ∧ fX1_canStay o x1 x2 F = some res ∧ r = some (vI res) ∧ F' = F
theorem ctX1_canStay : xCT yX1_canStay cX1_canStay 3 (some FieldType.boolean) 0 0 gX1_canStay := xmet (by decide +kernel) (fun As F r F' hg => by obtain ⟨o, x1, x2, res, rfl, ho, h, rfl, rfl⟩ := hg; exact Nat.le_of_ble_eq_true rfl) (fun As F r F' hg => by obtain ⟨o, x1, x2, res, rfl, ho, h, rfl, rfl⟩ := hg; exact fX1_canStay_ok o x1 x2 _ _ ho h ⟨rfl, rfl⟩)
theorem mcX1_canStay : Cond.code yX1_canStay cX1_canStay 3 (some FieldType.boolean) ∈ xw_T ∧ Cond.initialized yX1_canStay.cls ∈ xw_T ∧ Cond.instanceMethod yX1_canStay ∈ xw_T ∧ Cond.selects yX1_canStay.cls yX1_canStay yX1_canStay ∈ xw_T := ⟨(xinT 1065 (by decide +kernel) (by decide +kernel)), (xinT 124 (by decide +kernel) (by decide +kernel)), (xinT 1064 (by decide +kernel) (by decide +kernel)), (xinT 31 (by decide +kernel) (by decide +kernel))⟩
theorem clX1_140 {fr lo : Nat} (h1 : 0 + 1 ≤ fr) (h2 : 8 + (3 + 11) + 0 ≤ lo) : xCall RX1 fr lo 0 140 1 2 gX1_canStay := ⟨_, _, _, _, _, _, ctX1_canStay, h1, h2, mcX1_canStay.1, (xinT 1062 (by decide +kernel) (by decide +kernel)), mcX1_canStay.2.1, ⟨by decide +kernel, by decide +kernel, by decide +kernel⟩, by rw [if_pos rfl]; exact ⟨mcX1_canStay.2.2.1, mcX1_canStay.2.2.2, _, _, rfl⟩⟩
theorem dX1_staying_0 : decode cX1_staying 0 = .ok (.aload_n 0, 1) := by decide +kernel
theorem dX1_staying_1 : decode cX1_staying 1 = .ok (.getfield 48, 3) := by decide +kernel
theorem dX1_staying_4 : decode cX1_staying 4 = .ok (.iload_n 1, 1) := by decide +kernel
theorem dX1_staying_5 : decode cX1_staying 5 = .ok (.iconst 1, 1) := by decide +kernel
theorem dX1_staying_6 : decode cX1_staying 6 = .ok (.iadd, 1) := by decide +kernel
theorem dX1_staying_7 : decode cX1_staying 7 = .ok (.bipush 8, 2) := by decide +kernel
theorem dX1_staying_9 : decode cX1_staying 9 = .ok (.imul, 1) := by decide +kernel
theorem dX1_staying_10 : decode cX1_staying 10 = .ok (.iload_n 2, 1) := by decide +kernel
theorem dX1_staying_11 : decode cX1_staying 11 = .ok (.iadd, 1) := by decide +kernel
theorem dX1_staying_12 : decode cX1_staying 12 = .ok (.iaload, 1) := by decide +kernel
theorem dX1_staying_13 : decode cX1_staying 13 = .ok (.istore_n 3, 1) := by decide +kernel
theorem dX1_staying_14 : decode cX1_staying 14 = .ok (.iload_n 3, 1) := by decide +kernel
theorem dX1_staying_15 : decode cX1_staying 15 = .ok (.ldc 126, 2) := by decide +kernel
theorem dX1_staying_17 : decode cX1_staying 17 = .ok (.if_icmp .eq 12, 3) := by decide +kernel
theorem dX1_staying_20 : decode cX1_staying 20 = .ok (.aload_n 0, 1) := by decide +kernel
theorem dX1_staying_21 : decode cX1_staying 21 = .ok (.iload_n 1, 1) := by decide +kernel
theorem dX1_staying_22 : decode cX1_staying 22 = .ok (.iload_n 2, 1) := by decide +kernel
theorem dX1_staying_23 : decode cX1_staying 23 = .ok (.invokevirtual 140, 3) := by decide +kernel
theorem dX1_staying_26 : decode cX1_staying 26 = .ok (.ifCond .ne 8, 3) := by decide +kernel
theorem dX1_staying_29 : decode cX1_staying 29 = .ok (.ldc 126, 2) := by decide +kernel
theorem dX1_staying_31 : decode cX1_staying 31 = .ok (.goto 19, 3) := by decide +kernel
theorem dX1_staying_34 : decode cX1_staying 34 = .ok (.iload_n 3, 1) := by decide +kernel
theorem dX1_staying_35 : decode cX1_staying 35 = .ok (.aload_n 0, 1) := by decide +kernel
theorem dX1_staying_36 : decode cX1_staying 36 = .ok (.getfield 33, 3) := by decide +kernel
theorem dX1_staying_39 : decode cX1_staying 39 = .ok (.iload_n 1, 1) := by decide +kernel
theorem dX1_staying_40 : decode cX1_staying 40 = .ok (.bipush 8, 2) := by decide +kernel
theorem dX1_staying_42 : decode cX1_staying 42 = .ok (.imul, 1) := by decide +kernel
theorem dX1_staying_43 : decode cX1_staying 43 = .ok (.iload_n 2, 1) := by decide +kernel
theorem dX1_staying_44 : decode cX1_staying 44 = .ok (.iadd, 1) := by decide +kernel
theorem dX1_staying_45 : decode cX1_staying 45 = .ok (.iaload, 1) := by decide +kernel
theorem dX1_staying_46 : decode cX1_staying 46 = .ok (.ldc 144, 2) := by decide +kernel
theorem dX1_staying_48 : decode cX1_staying 48 = .ok (.imul, 1) := by decide +kernel
theorem dX1_staying_49 : decode cX1_staying 49 = .ok (.iadd, 1) := by decide +kernel
theorem dX1_staying_50 : decode cX1_staying 50 = .ok (.ireturn, 1) := by decide +kernel
def zX1_staying (Qr : Option PV → Mem → Prop) : XZ := (RX1, 1, 22, 4, some FieldType.int, Qr)
noncomputable def fX1_staying (o : Nat) (x1 : Int) (x2 : Int) (F : Mem) : Option Int :=
  if (0 : Int) ≤ (xw ((xw ((xw (x1 + 1)) * 8)) + x2)) ∧ (xw ((xw ((xw (x1 + 1)) * 8)) + x2)) < (alen (o + 7) : Int) then
    if (F (o + 7) (xw ((xw ((xw (x1 + 1)) * 8)) + x2)).toNat) = (-1000000000) then
      some (-1000000000)
    else
      (fX1_canStay o x1 x2 F).bind fun r3 =>
      if r3 ≠ 0 then
        if (0 : Int) ≤ (xw ((xw (x1 * 8)) + x2)) ∧ (xw ((xw (x1 * 8)) + x2)) < (alen (o + 2) : Int) then
          some (xw ((F (o + 7) (xw ((xw ((xw (x1 + 1)) * 8)) + x2)).toNat) + (xw ((F (o + 2) (xw ((xw (x1 * 8)) + x2)).toNat) * 65536))))
        else none
      else
        some (-1000000000)
  else none
theorem fX1_staying_ok {Qr : Option PV → Mem → Prop} : ∀ (o : Nat) (x1 : Int) (x2 : Int) (F : Mem) (res : Int) (ho : isK o 1), fX1_staying o x1 x2 F = some res → Qr (some (vI res)) F → PR cX1_staying (zX1_staying Qr) 0 [(0, vR o), (1, vI x1), (2, vI x2)] [] F := by
  intro o x1 x2 F res ho h hq
  refine s_aload_n (j := 0) dX1_staying_0 rfl rfl ?_
  refine s_getR dX1_staying_1 flX1_48 ho ?_
  refine s_iload_n (j := 1) dX1_staying_4 rfl rfl ?_
  refine s_iconst dX1_staying_5 (cin rfl) ?_
  refine s_iadd dX1_staying_6 ?_
  refine s_bipush dX1_staying_7 rfl (cin rfl) ?_
  refine s_imul dX1_staying_9 ?_
  refine s_iload_n (j := 2) dX1_staying_10 rfl rfl ?_
  refine s_iadd dX1_staying_11 ?_
  obtain ⟨hb1, h⟩ := gd h
  refine s_iaload dX1_staying_12 (trX1_11 ho) hb1.1 hb1.2 ?_
  refine s_istore_n (ls' := [(3, vI (F (o + 7) (xw ((xw ((xw (x1 + 1)) * 8)) + x2)).toNat)), (0, vR o), (1, vI x1), (2, vI x2)]) dX1_staying_13 rfl (Nat.le_of_ble_eq_true rfl) rfl ?_
  refine s_iload_n (j := 0) dX1_staying_14 rfl rfl ?_
  refine s_ldc dX1_staying_15 kcX1_126 (cin rfl) ?_
  refine s_icmp_eq (tgt := 29) dX1_staying_17 rfl (fun hc2 => ?_) (fun hc2 => ?_)
  · have h := ifp hc2 h
    refine s_ldc dX1_staying_29 kcX1_126 (cin rfl) ?_
    refine s_goto (tgt := 50) dX1_staying_31 rfl ?_
    have h := Option.some.inj h
    subst h
    exact s_ireturn dX1_staying_50 rfl hq
  · have h := ifn hc2 h
    refine s_aload_n (j := 1) dX1_staying_20 rfl rfl ?_
    refine s_iload_n (j := 2) dX1_staying_21 rfl rfl ?_
    refine s_iload_n (j := 3) dX1_staying_22 rfl rfl ?_
    obtain ⟨r3, hv4, h⟩ := bnd h
    refine s_callV (As := [vI x1, vI x2]) (rest := []) (r := (some (vI r3))) (F' := F) dX1_staying_23 (clX1_140 (Nat.le_of_ble_eq_true rfl) (Nat.le_of_ble_eq_true rfl)) ho rfl ⟨_, _, _, _, rfl, ho, hv4, rfl, rfl⟩ rfl (Nat.le_of_ble_eq_true rfl) ?_
    refine s_if_ne (tgt := 34) dX1_staying_26 rfl (fun hc5 => ?_) (fun hc5 => ?_)
    · have h := ifp hc5 h
      refine s_iload_n (j := 0) dX1_staying_34 rfl rfl ?_
      refine s_aload_n (j := 1) dX1_staying_35 rfl rfl ?_
      refine s_getR dX1_staying_36 flX1_33 ho ?_
      refine s_iload_n (j := 2) dX1_staying_39 rfl rfl ?_
      refine s_bipush dX1_staying_40 rfl (cin rfl) ?_
      refine s_imul dX1_staying_42 ?_
      refine s_iload_n (j := 3) dX1_staying_43 rfl rfl ?_
      refine s_iadd dX1_staying_44 ?_
      obtain ⟨hb6, h⟩ := gd h
      refine s_iaload dX1_staying_45 (trX1_6 ho) hb6.1 hb6.2 ?_
      refine s_ldc dX1_staying_46 kcX1_144 (cin rfl) ?_
      refine s_imul dX1_staying_48 ?_
      refine s_iadd dX1_staying_49 ?_
      have h := Option.some.inj h
      subst h
      exact s_ireturn dX1_staying_50 rfl hq
    · have h := ifn hc5 h
      refine s_ldc dX1_staying_29 kcX1_126 (cin rfl) ?_
      refine s_goto (tgt := 50) dX1_staying_31 rfl ?_
      have h := Option.some.inj h
      subst h
      exact s_ireturn dX1_staying_50 rfl hq
def gX1_staying : XG := fun As F r F' => ∃ o : Nat, ∃ x1 : Int, ∃ x2 : Int, ∃ res : Int, As = [vR o, vI x1, vI x2] ∧ isK o 1 ∧ fX1_staying o x1 x2 F = some res ∧ r = some (vI res) ∧ F' = F
theorem ctX1_staying : xCT yX1_staying cX1_staying 4 (some FieldType.int) 1 22 gX1_staying := xmet (by decide +kernel) (fun As F r F' hg => by obtain ⟨o, x1, x2, res, rfl, ho, h, rfl, rfl⟩ := hg; exact Nat.le_of_ble_eq_true rfl) (fun As F r F' hg => by obtain ⟨o, x1, x2, res, rfl, ho, h, rfl, rfl⟩ := hg; exact fX1_staying_ok o x1 x2 _ _ ho h ⟨rfl, rfl⟩)
theorem mcX1_staying : Cond.code yX1_staying cX1_staying 4 (some FieldType.int) ∈ xw_T ∧ Cond.initialized yX1_staying.cls ∈ xw_T ∧ Cond.instanceMethod yX1_staying ∈ xw_T ∧ Cond.selects yX1_staying.cls yX1_staying yX1_staying ∈ xw_T := ⟨(xinT 1061 (by decide +kernel) (by decide +kernel)), (xinT 124 (by decide +kernel) (by decide +kernel)), (xinT 1059 (by decide +kernel) (by decide +kernel)), (xinT 1060 (by decide +kernel) (by decide +kernel))⟩
theorem clX1_137 {fr lo : Nat} (h1 : 1 + 1 ≤ fr) (h2 : 8 + (4 + 11) + 22 ≤ lo) : xCall RX1 fr lo 0 137 1 2 gX1_staying := ⟨_, _, _, _, _, _, ctX1_staying, h1, h2, mcX1_staying.1, (xinT 1058 (by decide +kernel) (by decide +kernel)), mcX1_staying.2.1, ⟨by decide +kernel, by decide +kernel, by decide +kernel⟩, by rw [if_pos rfl]; exact ⟨mcX1_staying.2.2.1, mcX1_staying.2.2.2, _, _, rfl⟩⟩
theorem clX6_65 {fr lo : Nat} (h1 : 1 + 1 ≤ fr) (h2 : 8 + (4 + 11) + 22 ≤ lo) : xCall RX6 fr lo 0 65 1 2 gX1_staying := ⟨_, _, _, _, _, _, ctX1_staying, h1, h2, mcX1_staying.1, (xinT 1089 (by decide +kernel) (by decide +kernel)), mcX1_staying.2.1, ⟨by decide +kernel, by decide +kernel, by decide +kernel⟩, by rw [if_pos rfl]; exact ⟨mcX1_staying.2.2.1, mcX1_staying.2.2.2, _, _, rfl⟩⟩
theorem dX1_bestFrom_0 : decode cX1_bestFrom 0 = .ok (.aload_n 0, 1) := by decide +kernel
theorem dX1_bestFrom_1 : decode cX1_bestFrom 1 = .ok (.iload_n 1, 1) := by decide +kernel
theorem dX1_bestFrom_2 : decode cX1_bestFrom 2 = .ok (.iload_n 2, 1) := by decide +kernel
theorem dX1_bestFrom_3 : decode cX1_bestFrom 3 = .ok (.invokevirtual 137, 3) := by decide +kernel
theorem dX1_bestFrom_6 : decode cX1_bestFrom 6 = .ok (.istore 4, 2) := by decide +kernel
theorem dX1_bestFrom_8 : decode cX1_bestFrom 8 = .ok (.iload_n 1, 1) := by decide +kernel
theorem dX1_bestFrom_9 : decode cX1_bestFrom 9 = .ok (.aload_n 0, 1) := by decide +kernel
theorem dX1_bestFrom_10 : decode cX1_bestFrom 10 = .ok (.getfield 39, 3) := by decide +kernel
theorem dX1_bestFrom_13 : decode cX1_bestFrom 13 = .ok (.iload_n 1, 1) := by decide +kernel
theorem dX1_bestFrom_14 : decode cX1_bestFrom 14 = .ok (.iaload, 1) := by decide +kernel
theorem dX1_bestFrom_15 : decode cX1_bestFrom 15 = .ok (.iadd, 1) := by decide +kernel
theorem dX1_bestFrom_16 : decode cX1_bestFrom 16 = .ok (.istore 5, 2) := by decide +kernel
theorem dX1_bestFrom_18 : decode cX1_bestFrom 18 = .ok (.iconst 0, 1) := by decide +kernel
theorem dX1_bestFrom_19 : decode cX1_bestFrom 19 = .ok (.istore 6, 2) := by decide +kernel
theorem dX1_bestFrom_21 : decode cX1_bestFrom 21 = .ok (.iload 6, 2) := by decide +kernel
theorem dX1_bestFrom_23 : decode cX1_bestFrom 23 = .ok (.iload_n 3, 1) := by decide +kernel
theorem dX1_bestFrom_24 : decode cX1_bestFrom 24 = .ok (.if_icmp .ge 82, 3) := by decide +kernel
theorem dX1_bestFrom_27 : decode cX1_bestFrom 27 = .ok (.iload_n 1, 1) := by decide +kernel
theorem dX1_bestFrom_28 : decode cX1_bestFrom 28 = .ok (.aload_n 0, 1) := by decide +kernel
theorem dX1_bestFrom_29 : decode cX1_bestFrom 29 = .ok (.getfield 45, 3) := by decide +kernel
theorem dX1_bestFrom_32 : decode cX1_bestFrom 32 = .ok (.iload_n 2, 1) := by decide +kernel
theorem dX1_bestFrom_33 : decode cX1_bestFrom 33 = .ok (.bipush 8, 2) := by decide +kernel
theorem dX1_bestFrom_35 : decode cX1_bestFrom 35 = .ok (.imul, 1) := by decide +kernel
theorem dX1_bestFrom_36 : decode cX1_bestFrom 36 = .ok (.iload 6, 2) := by decide +kernel
theorem dX1_bestFrom_38 : decode cX1_bestFrom 38 = .ok (.iadd, 1) := by decide +kernel
theorem dX1_bestFrom_39 : decode cX1_bestFrom 39 = .ok (.iaload, 1) := by decide +kernel
theorem dX1_bestFrom_40 : decode cX1_bestFrom 40 = .ok (.iadd, 1) := by decide +kernel
theorem dX1_bestFrom_41 : decode cX1_bestFrom 41 = .ok (.istore 7, 2) := by decide +kernel
theorem dX1_bestFrom_43 : decode cX1_bestFrom 43 = .ok (.iload 6, 2) := by decide +kernel
theorem dX1_bestFrom_45 : decode cX1_bestFrom 45 = .ok (.iload_n 2, 1) := by decide +kernel
theorem dX1_bestFrom_46 : decode cX1_bestFrom 46 = .ok (.if_icmp .eq 54, 3) := by decide +kernel
theorem dX1_bestFrom_49 : decode cX1_bestFrom 49 = .ok (.iload 7, 2) := by decide +kernel
theorem dX1_bestFrom_51 : decode cX1_bestFrom 51 = .ok (.iload 5, 2) := by decide +kernel
theorem dX1_bestFrom_53 : decode cX1_bestFrom 53 = .ok (.if_icmp .gt 47, 3) := by decide +kernel
theorem dX1_bestFrom_56 : decode cX1_bestFrom 56 = .ok (.aload_n 0, 1) := by decide +kernel
theorem dX1_bestFrom_57 : decode cX1_bestFrom 57 = .ok (.getfield 48, 3) := by decide +kernel
theorem dX1_bestFrom_60 : decode cX1_bestFrom 60 = .ok (.iload 7, 2) := by decide +kernel
theorem dX1_bestFrom_62 : decode cX1_bestFrom 62 = .ok (.bipush 8, 2) := by decide +kernel
theorem dX1_bestFrom_64 : decode cX1_bestFrom 64 = .ok (.imul, 1) := by decide +kernel
theorem dX1_bestFrom_65 : decode cX1_bestFrom 65 = .ok (.iload 6, 2) := by decide +kernel
theorem dX1_bestFrom_67 : decode cX1_bestFrom 67 = .ok (.iadd, 1) := by decide +kernel
theorem dX1_bestFrom_68 : decode cX1_bestFrom 68 = .ok (.iaload, 1) := by decide +kernel
theorem dX1_bestFrom_69 : decode cX1_bestFrom 69 = .ok (.aload_n 0, 1) := by decide +kernel
theorem dX1_bestFrom_70 : decode cX1_bestFrom 70 = .ok (.getfield 42, 3) := by decide +kernel
theorem dX1_bestFrom_73 : decode cX1_bestFrom 73 = .ok (.iload_n 2, 1) := by decide +kernel
theorem dX1_bestFrom_74 : decode cX1_bestFrom 74 = .ok (.bipush 8, 2) := by decide +kernel
theorem dX1_bestFrom_76 : decode cX1_bestFrom 76 = .ok (.imul, 1) := by decide +kernel
theorem dX1_bestFrom_77 : decode cX1_bestFrom 77 = .ok (.iload 6, 2) := by decide +kernel
theorem dX1_bestFrom_79 : decode cX1_bestFrom 79 = .ok (.iadd, 1) := by decide +kernel
theorem dX1_bestFrom_80 : decode cX1_bestFrom 80 = .ok (.iaload, 1) := by decide +kernel
theorem dX1_bestFrom_81 : decode cX1_bestFrom 81 = .ok (.isub, 1) := by decide +kernel
theorem dX1_bestFrom_82 : decode cX1_bestFrom 82 = .ok (.istore 8, 2) := by decide +kernel
theorem dX1_bestFrom_84 : decode cX1_bestFrom 84 = .ok (.iload 8, 2) := by decide +kernel
theorem dX1_bestFrom_86 : decode cX1_bestFrom 86 = .ok (.iload 4, 2) := by decide +kernel
theorem dX1_bestFrom_88 : decode cX1_bestFrom 88 = .ok (.if_icmp .le 8, 3) := by decide +kernel
theorem dX1_bestFrom_91 : decode cX1_bestFrom 91 = .ok (.iload 8, 2) := by decide +kernel
theorem dX1_bestFrom_93 : decode cX1_bestFrom 93 = .ok (.goto 5, 3) := by decide +kernel
theorem dX1_bestFrom_96 : decode cX1_bestFrom 96 = .ok (.iload 4, 2) := by decide +kernel
theorem dX1_bestFrom_98 : decode cX1_bestFrom 98 = .ok (.istore 4, 2) := by decide +kernel
theorem dX1_bestFrom_100 : decode cX1_bestFrom 100 = .ok (.iinc 6 1, 3) := by decide +kernel
theorem dX1_bestFrom_103 : decode cX1_bestFrom 103 = .ok (.goto (-82), 3) := by decide +kernel
theorem dX1_bestFrom_106 : decode cX1_bestFrom 106 = .ok (.iload 4, 2) := by decide +kernel
theorem dX1_bestFrom_108 : decode cX1_bestFrom 108 = .ok (.ireturn, 1) := by decide +kernel
def zX1_bestFrom (Qr : Option PV → Mem → Prop) : XZ := (RX1, 2, 45, 9, some FieldType.int, Qr)
noncomputable def fX1_bestFrom_b21 (F : Mem) : Nat → Nat → Int → Int → Int → Int → Int → Int → Option Int
  | 0, _, _, _, _, _, _, _ => none
  | n + 1, o, x1, x2, x3, x4, x5, x6 =>
    if x3 ≤ x6 then
      some x4
    else
      if (0 : Int) ≤ (xw ((xw (x2 * 8)) + x6)) ∧ (xw ((xw (x2 * 8)) + x6)) < (alen (o + 6) : Int) then
        if x6 = x2 then
          fX1_bestFrom_b21 F n o x1 x2 x3 x4 x5 (xw (x6 + 1))
        else
          if x5 < (xw (x1 + (F (o + 6) (xw ((xw (x2 * 8)) + x6)).toNat))) then
            fX1_bestFrom_b21 F n o x1 x2 x3 x4 x5 (xw (x6 + 1))
          else
            if (0 : Int) ≤ (xw ((xw ((xw (x1 + (F (o + 6) (xw ((xw (x2 * 8)) + x6)).toNat))) * 8)) + x6)) ∧ (xw ((xw ((xw (x1 + (F (o + 6) (xw ((xw (x2 * 8)) + x6)).toNat))) * 8)) + x6)) < (alen (o + 7) : Int) then
              if (0 : Int) ≤ (xw ((xw (x2 * 8)) + x6)) ∧ (xw ((xw (x2 * 8)) + x6)) < (alen (o + 5) : Int) then
                if (xw ((F (o + 7) (xw ((xw ((xw (x1 + (F (o + 6) (xw ((xw (x2 * 8)) + x6)).toNat))) * 8)) + x6)).toNat) - (F (o + 5) (xw ((xw (x2 * 8)) + x6)).toNat))) ≤ x4 then
                  fX1_bestFrom_b21 F n o x1 x2 x3 x4 x5 (xw (x6 + 1))
                else
                  fX1_bestFrom_b21 F n o x1 x2 x3 (xw ((F (o + 7) (xw ((xw ((xw (x1 + (F (o + 6) (xw ((xw (x2 * 8)) + x6)).toNat))) * 8)) + x6)).toNat) - (F (o + 5) (xw ((xw (x2 * 8)) + x6)).toNat))) x5 (xw (x6 + 1))
              else none
            else none
      else none
noncomputable def fX1_bestFrom (o : Nat) (x1 : Int) (x2 : Int) (x3 : Int) (F : Mem) : Option Int :=
  (fX1_staying o x1 x2 F).bind fun r1 =>
  if (0 : Int) ≤ x1 ∧ x1 < (alen (o + 4) : Int) then
    fX1_bestFrom_b21 F FU o x1 x2 x3 r1 (xw (x1 + (F (o + 4) x1.toNat))) 0
  else none
theorem fX1_bestFrom_b21_ok {Qr : Option PV → Mem → Prop}  (F : Mem) : ∀ (n : Nat) (o : Nat) (x1 : Int) (x2 : Int) (x3 : Int) (x4 : Int) (x5 : Int) (x6 : Int) (res : Int) (ho : isK o 1), fX1_bestFrom_b21 F n o x1 x2 x3 x4 x5 x6 = some res → Qr (some (vI res)) F → PR cX1_bestFrom (zX1_bestFrom Qr) 21 [(0, vR o), (1, vI x1), (2, vI x2), (3, vI x3), (4, vI x4), (5, vI x5), (6, vI x6)] [] F := by
  intro n
  induction n with
  | zero => intro o x1 x2 x3 x4 x5 x6 res ho h hq; exact nomatch (show (none : Option _) = some _ from h)
  | succ n ih =>
    intro o x1 x2 x3 x4 x5 x6 res ho h hq
    refine s_iload (j := 6) dX1_bestFrom_21 rfl ?_
    refine s_iload_n (j := 3) dX1_bestFrom_23 rfl rfl ?_
    refine s_icmp_ge (tgt := 106) dX1_bestFrom_24 rfl (fun hc1 => ?_) (fun hc1 => ?_)
    · have h := ifp hc1 h
      refine s_iload (j := 4) dX1_bestFrom_106 rfl ?_
      have h := Option.some.inj h
      subst h
      exact s_ireturn dX1_bestFrom_108 rfl hq
    · have h := ifn hc1 h
      refine s_iload_n (j := 1) dX1_bestFrom_27 rfl rfl ?_
      refine s_aload_n (j := 0) dX1_bestFrom_28 rfl rfl ?_
      refine s_getR dX1_bestFrom_29 flX1_45 ho ?_
      refine s_iload_n (j := 2) dX1_bestFrom_32 rfl rfl ?_
      refine s_bipush dX1_bestFrom_33 rfl (cin rfl) ?_
      refine s_imul dX1_bestFrom_35 ?_
      refine s_iload (j := 6) dX1_bestFrom_36 rfl ?_
      refine s_iadd dX1_bestFrom_38 ?_
      obtain ⟨hb2, h⟩ := gd h
      refine s_iaload dX1_bestFrom_39 (trX1_10 ho) hb2.1 hb2.2 ?_
      refine s_iadd dX1_bestFrom_40 ?_
      refine s_istore (ls' := [(7, vI (xw (x1 + (F (o + 6) (xw ((xw (x2 * 8)) + x6)).toNat)))), (0, vR o), (1, vI x1), (2, vI x2), (3, vI x3), (4, vI x4), (5, vI x5), (6, vI x6)]) dX1_bestFrom_41 (Nat.le_of_ble_eq_true rfl) rfl ?_
      refine s_iload (j := 7) dX1_bestFrom_43 rfl ?_
      refine s_iload_n (j := 3) dX1_bestFrom_45 rfl rfl ?_
      refine s_icmp_eq (tgt := 100) dX1_bestFrom_46 rfl (fun hc3 => ?_) (fun hc3 => ?_)
      · have h := ifp hc3 h
        refine s_iinc (ls' := [(6, vI (xw (x6 + 1))), (7, vI (xw (x1 + (F (o + 6) (xw ((xw (x2 * 8)) + x6)).toNat)))), (0, vR o), (1, vI x1), (2, vI x2), (3, vI x3), (4, vI x4), (5, vI x5)]) (j := 7) dX1_bestFrom_100 rfl (Nat.le_of_ble_eq_true rfl) rfl ?_
        refine s_goto (tgt := 21) dX1_bestFrom_103 rfl ?_
        exact s_sub (ks := [2, 3, 4, 5, 6, 7, 0]) rfl (ih o x1 x2 x3 x4 x5 (xw (x6 + 1)) _ ho h hq)
      · have h := ifn hc3 h
        refine s_iload (j := 0) dX1_bestFrom_49 rfl ?_
        refine s_iload (j := 6) dX1_bestFrom_51 rfl ?_
        refine s_icmp_gt (tgt := 100) dX1_bestFrom_53 rfl (fun hc4 => ?_) (fun hc4 => ?_)
        · have h := ifp hc4 h
          refine s_iinc (ls' := [(6, vI (xw (x6 + 1))), (7, vI (xw (x1 + (F (o + 6) (xw ((xw (x2 * 8)) + x6)).toNat)))), (0, vR o), (1, vI x1), (2, vI x2), (3, vI x3), (4, vI x4), (5, vI x5)]) (j := 7) dX1_bestFrom_100 rfl (Nat.le_of_ble_eq_true rfl) rfl ?_
          refine s_goto (tgt := 21) dX1_bestFrom_103 rfl ?_
          exact s_sub (ks := [2, 3, 4, 5, 6, 7, 0]) rfl (ih o x1 x2 x3 x4 x5 (xw (x6 + 1)) _ ho h hq)
        · have h := ifn hc4 h
          refine s_aload_n (j := 1) dX1_bestFrom_56 rfl rfl ?_
          refine s_getR dX1_bestFrom_57 flX1_48 ho ?_
          refine s_iload (j := 0) dX1_bestFrom_60 rfl ?_
          refine s_bipush dX1_bestFrom_62 rfl (cin rfl) ?_
          refine s_imul dX1_bestFrom_64 ?_
          refine s_iload (j := 7) dX1_bestFrom_65 rfl ?_
          refine s_iadd dX1_bestFrom_67 ?_
          obtain ⟨hb5, h⟩ := gd h
          refine s_iaload dX1_bestFrom_68 (trX1_11 ho) hb5.1 hb5.2 ?_
          refine s_aload_n (j := 1) dX1_bestFrom_69 rfl rfl ?_
          refine s_getR dX1_bestFrom_70 flX1_42 ho ?_
          refine s_iload_n (j := 3) dX1_bestFrom_73 rfl rfl ?_
          refine s_bipush dX1_bestFrom_74 rfl (cin rfl) ?_
          refine s_imul dX1_bestFrom_76 ?_
          refine s_iload (j := 7) dX1_bestFrom_77 rfl ?_
          refine s_iadd dX1_bestFrom_79 ?_
          obtain ⟨hb6, h⟩ := gd h
          refine s_iaload dX1_bestFrom_80 (trX1_9 ho) hb6.1 hb6.2 ?_
          refine s_isub dX1_bestFrom_81 ?_
          refine s_istore (ls' := [(8, vI (xw ((F (o + 7) (xw ((xw ((xw (x1 + (F (o + 6) (xw ((xw (x2 * 8)) + x6)).toNat))) * 8)) + x6)).toNat) - (F (o + 5) (xw ((xw (x2 * 8)) + x6)).toNat)))), (7, vI (xw (x1 + (F (o + 6) (xw ((xw (x2 * 8)) + x6)).toNat)))), (0, vR o), (1, vI x1), (2, vI x2), (3, vI x3), (4, vI x4), (5, vI x5), (6, vI x6)]) dX1_bestFrom_82 (Nat.le_of_ble_eq_true rfl) rfl ?_
          refine s_iload (j := 0) dX1_bestFrom_84 rfl ?_
          refine s_iload (j := 6) dX1_bestFrom_86 rfl ?_
          refine s_icmp_le (tgt := 96) dX1_bestFrom_88 rfl (fun hc7 => ?_) (fun hc7 => ?_)
          · have h := ifp hc7 h
            refine s_iload (j := 6) dX1_bestFrom_96 rfl ?_
            refine s_istore (ls' := [(4, vI x4), (8, vI (xw ((F (o + 7) (xw ((xw ((xw (x1 + (F (o + 6) (xw ((xw (x2 * 8)) + x6)).toNat))) * 8)) + x6)).toNat) - (F (o + 5) (xw ((xw (x2 * 8)) + x6)).toNat)))), (7, vI (xw (x1 + (F (o + 6) (xw ((xw (x2 * 8)) + x6)).toNat)))), (0, vR o), (1, vI x1), (2, vI x2), (3, vI x3), (5, vI x5), (6, vI x6)]) dX1_bestFrom_98 (Nat.le_of_ble_eq_true rfl) rfl ?_
            refine s_iinc (j := 8) dX1_bestFrom_100 rfl (Nat.le_of_ble_eq_true rfl) rfl ?_
            refine s_goto (tgt := 21) dX1_bestFrom_103 rfl ?_
            exact s_sub (ks := [4, 5, 6, 7, 1, 8, 0]) rfl (ih o x1 x2 x3 x4 x5 (xw (x6 + 1)) _ ho h hq)
          · have h := ifn hc7 h
            refine s_iload (j := 0) dX1_bestFrom_91 rfl ?_
            refine s_goto (tgt := 98) dX1_bestFrom_93 rfl ?_
            refine s_istore (ls' := [(4, vI (xw ((F (o + 7) (xw ((xw ((xw (x1 + (F (o + 6) (xw ((xw (x2 * 8)) + x6)).toNat))) * 8)) + x6)).toNat) - (F (o + 5) (xw ((xw (x2 * 8)) + x6)).toNat)))), (8, vI (xw ((F (o + 7) (xw ((xw ((xw (x1 + (F (o + 6) (xw ((xw (x2 * 8)) + x6)).toNat))) * 8)) + x6)).toNat) - (F (o + 5) (xw ((xw (x2 * 8)) + x6)).toNat)))), (7, vI (xw (x1 + (F (o + 6) (xw ((xw (x2 * 8)) + x6)).toNat)))), (0, vR o), (1, vI x1), (2, vI x2), (3, vI x3), (5, vI x5), (6, vI x6)]) dX1_bestFrom_98 (Nat.le_of_ble_eq_true rfl) rfl ?_
            refine s_iinc (j := 8) dX1_bestFrom_100 rfl (Nat.le_of_ble_eq_true rfl) rfl ?_
            refine s_goto (tgt := 21) dX1_bestFrom_103 rfl ?_
            exact s_sub (ks := [4, 5, 6, 7, 1, 8, 0]) rfl (ih o x1 x2 x3 (xw ((F (o + 7) (xw ((xw ((xw (x1 + (F (o + 6) (xw ((xw (x2 * 8)) + x6)).toNat))) * 8)) + x6)).toNat) - (F (o + 5) (xw ((xw (x2 * 8)) + x6)).toNat))) x5 (xw (x6 + 1)) _ ho h hq)
theorem fX1_bestFrom_ok {Qr : Option PV → Mem → Prop} : ∀ (o : Nat) (x1 : Int) (x2 : Int) (x3 : Int) (F : Mem) (res : Int) (ho : isK o 1), fX1_bestFrom o x1 x2 x3 F = some res → Qr (some (vI res)) F → PR cX1_bestFrom (zX1_bestFrom Qr) 0 [(0, vR o), (1, vI x1), (2, vI x2), (3, vI x3)] [] F := by
  intro o x1 x2 x3 F res ho h hq
  refine s_aload_n (j := 0) dX1_bestFrom_0 rfl rfl ?_
  refine s_iload_n (j := 1) dX1_bestFrom_1 rfl rfl ?_
  refine s_iload_n (j := 2) dX1_bestFrom_2 rfl rfl ?_
  obtain ⟨r1, hv2, h⟩ := bnd h
  refine s_callV (As := [vI x1, vI x2]) (rest := []) (r := (some (vI r1))) (F' := F) dX1_bestFrom_3 (clX1_137 (Nat.le_of_ble_eq_true rfl) (Nat.le_of_ble_eq_true rfl)) ho rfl ⟨_, _, _, _, rfl, ho, hv2, rfl, rfl⟩ rfl (Nat.le_of_ble_eq_true rfl) ?_
  refine s_istore (ls' := [(4, vI r1), (0, vR o), (1, vI x1), (2, vI x2), (3, vI x3)]) dX1_bestFrom_6 (Nat.le_of_ble_eq_true rfl) rfl ?_
  refine s_iload_n (j := 2) dX1_bestFrom_8 rfl rfl ?_
  refine s_aload_n (j := 1) dX1_bestFrom_9 rfl rfl ?_
  refine s_getR dX1_bestFrom_10 flX1_39 ho ?_
  refine s_iload_n (j := 2) dX1_bestFrom_13 rfl rfl ?_
  obtain ⟨hb3, h⟩ := gd h
  refine s_iaload dX1_bestFrom_14 (trX1_8 ho) hb3.1 hb3.2 ?_
  refine s_iadd dX1_bestFrom_15 ?_
  refine s_istore dX1_bestFrom_16 (Nat.le_of_ble_eq_true rfl) rfl ?_
  refine s_iconst dX1_bestFrom_18 (cin rfl) ?_
  refine s_istore (ls' := [(6, vI 0), (5, vI (xw (x1 + (F (o + 4) x1.toNat)))), (4, vI r1), (0, vR o), (1, vI x1), (2, vI x2), (3, vI x3)]) dX1_bestFrom_19 (Nat.le_of_ble_eq_true rfl) rfl ?_
  exact s_sub (ks := [3, 4, 5, 6, 2, 1, 0]) rfl (fX1_bestFrom_b21_ok F FU o x1 x2 x3 r1 (xw (x1 + (F (o + 4) x1.toNat))) 0 _ ho h hq)
def gX1_bestFrom : XG := fun As F r F' => ∃ o : Nat, ∃ x1 : Int, ∃ x2 : Int, ∃ x3 : Int, ∃ res : Int, As = [vR o, vI x1, vI x2, vI x3] ∧ isK o 1 ∧ fX1_bestFrom o x1 x2 x3 F = some res ∧ r = some (vI res) ∧ F' = F
theorem ctX1_bestFrom : xCT yX1_bestFrom cX1_bestFrom 9 (some FieldType.int) 2 45 gX1_bestFrom := xmet (by decide +kernel) (fun As F r F' hg => by obtain ⟨o, x1, x2, x3, res, rfl, ho, h, rfl, rfl⟩ := hg; exact Nat.le_of_ble_eq_true rfl) (fun As F r F' hg => by obtain ⟨o, x1, x2, x3, res, rfl, ho, h, rfl, rfl⟩ := hg; exact fX1_bestFrom_ok o x1 x2 x3 _ _ ho h ⟨rfl, rfl⟩)
theorem mcX1_bestFrom : Cond.code yX1_bestFrom cX1_bestFrom 9 (some FieldType.int) ∈ xw_T ∧ Cond.initialized yX1_bestFrom.cls ∈ xw_T ∧ Cond.instanceMethod yX1_bestFrom ∈ xw_T ∧ Cond.selects yX1_bestFrom.cls yX1_bestFrom yX1_bestFrom ∈ xw_T := ⟨(xinT 1057 (by decide +kernel) (by decide +kernel)), (xinT 124 (by decide +kernel) (by decide +kernel)), (xinT 1056 (by decide +kernel) (by decide +kernel)), (xinT 30 (by decide +kernel) (by decide +kernel))⟩
theorem clX1_127 {fr lo : Nat} (h1 : 2 + 1 ≤ fr) (h2 : 8 + (9 + 11) + 45 ≤ lo) : xCall RX1 fr lo 0 127 1 3 gX1_bestFrom := ⟨_, _, _, _, _, _, ctX1_bestFrom, h1, h2, mcX1_bestFrom.1, (xinT 1054 (by decide +kernel) (by decide +kernel)), mcX1_bestFrom.2.1, ⟨by decide +kernel, by decide +kernel, by decide +kernel⟩, by rw [if_pos rfl]; exact ⟨mcX1_bestFrom.2.2.1, mcX1_bestFrom.2.2.2, _, _, rfl⟩⟩
theorem dX1_countFree_0 : decode cX1_countFree 0 = .ok (.aload_n 0, 1) := by decide +kernel
theorem dX1_countFree_1 : decode cX1_countFree 1 = .ok (.getfield 39, 3) := by decide +kernel
theorem dX1_countFree_4 : decode cX1_countFree 4 = .ok (.aload_n 0, 1) := by decide +kernel
theorem dX1_countFree_5 : decode cX1_countFree 5 = .ok (.getfield 26, 3) := by decide +kernel
theorem dX1_countFree_8 : decode cX1_countFree 8 = .ok (.iconst 0, 1) := by decide +kernel
theorem dX1_countFree_9 : decode cX1_countFree 9 = .ok (.iastore, 1) := by decide +kernel
theorem dX1_countFree_10 : decode cX1_countFree 10 = .ok (.aload_n 0, 1) := by decide +kernel
theorem dX1_countFree_11 : decode cX1_countFree 11 = .ok (.getfield 26, 3) := by decide +kernel
theorem dX1_countFree_14 : decode cX1_countFree 14 = .ok (.iconst 1, 1) := by decide +kernel
theorem dX1_countFree_15 : decode cX1_countFree 15 = .ok (.isub, 1) := by decide +kernel
theorem dX1_countFree_16 : decode cX1_countFree 16 = .ok (.istore_n 1, 1) := by decide +kernel
theorem dX1_countFree_17 : decode cX1_countFree 17 = .ok (.iload_n 1, 1) := by decide +kernel
theorem dX1_countFree_18 : decode cX1_countFree 18 = .ok (.ifCond .lt 39, 3) := by decide +kernel
theorem dX1_countFree_21 : decode cX1_countFree 21 = .ok (.aload_n 0, 1) := by decide +kernel
theorem dX1_countFree_22 : decode cX1_countFree 22 = .ok (.getfield 39, 3) := by decide +kernel
theorem dX1_countFree_25 : decode cX1_countFree 25 = .ok (.iload_n 1, 1) := by decide +kernel
theorem dX1_countFree_26 : decode cX1_countFree 26 = .ok (.aload_n 0, 1) := by decide +kernel
theorem dX1_countFree_27 : decode cX1_countFree 27 = .ok (.getfield 36, 3) := by decide +kernel
theorem dX1_countFree_30 : decode cX1_countFree 30 = .ok (.iload_n 1, 1) := by decide +kernel
theorem dX1_countFree_31 : decode cX1_countFree 31 = .ok (.iaload, 1) := by decide +kernel
theorem dX1_countFree_32 : decode cX1_countFree 32 = .ok (.iconst (-1), 1) := by decide +kernel
theorem dX1_countFree_33 : decode cX1_countFree 33 = .ok (.if_icmp .ne 16, 3) := by decide +kernel
theorem dX1_countFree_36 : decode cX1_countFree 36 = .ok (.aload_n 0, 1) := by decide +kernel
theorem dX1_countFree_37 : decode cX1_countFree 37 = .ok (.getfield 39, 3) := by decide +kernel
theorem dX1_countFree_40 : decode cX1_countFree 40 = .ok (.iload_n 1, 1) := by decide +kernel
theorem dX1_countFree_41 : decode cX1_countFree 41 = .ok (.iconst 1, 1) := by decide +kernel
theorem dX1_countFree_42 : decode cX1_countFree 42 = .ok (.iadd, 1) := by decide +kernel
theorem dX1_countFree_43 : decode cX1_countFree 43 = .ok (.iaload, 1) := by decide +kernel
theorem dX1_countFree_44 : decode cX1_countFree 44 = .ok (.iconst 1, 1) := by decide +kernel
theorem dX1_countFree_45 : decode cX1_countFree 45 = .ok (.iadd, 1) := by decide +kernel
theorem dX1_countFree_46 : decode cX1_countFree 46 = .ok (.goto 4, 3) := by decide +kernel
theorem dX1_countFree_49 : decode cX1_countFree 49 = .ok (.iconst 0, 1) := by decide +kernel
theorem dX1_countFree_50 : decode cX1_countFree 50 = .ok (.iastore, 1) := by decide +kernel
theorem dX1_countFree_51 : decode cX1_countFree 51 = .ok (.iinc 1 (-1), 3) := by decide +kernel
theorem dX1_countFree_54 : decode cX1_countFree 54 = .ok (.goto (-37), 3) := by decide +kernel
theorem dX1_countFree_57 : decode cX1_countFree 57 = .ok (.return_, 1) := by decide +kernel
def zX1_countFree (Qr : Option PV → Mem → Prop) : XZ := (RX1, 0, 0, 2, none, Qr)
noncomputable def fX1_countFree_b17 : Nat → Nat → Int → Mem → Option Mem
  | 0, _, _, _ => none
  | n + 1, o, x1, F =>
    if x1 < 0 then
      some F
    else
      if (0 : Int) ≤ x1 ∧ x1 < (alen (o + 3) : Int) then
        if (F (o + 3) x1.toNat) ≠ (-1) then
          if (0 : Int) ≤ x1 ∧ x1 < (alen (o + 4) : Int) then
            fX1_countFree_b17 n o (xw (x1 + (-1))) (mset F (o + 4) x1.toNat 0)
          else none
        else
          if (0 : Int) ≤ (xw (x1 + 1)) ∧ (xw (x1 + 1)) < (alen (o + 4) : Int) then
            if (0 : Int) ≤ x1 ∧ x1 < (alen (o + 4) : Int) then
              fX1_countFree_b17 n o (xw (x1 + (-1))) (mset F (o + 4) x1.toNat (xw ((F (o + 4) (xw (x1 + 1)).toNat) + 1)))
            else none
          else none
      else none
noncomputable def fX1_countFree (o : Nat) (F : Mem) : Option Mem :=
  if (0 : Int) ≤ (F o 4) ∧ (F o 4) < (alen (o + 4) : Int) then
    fX1_countFree_b17 FU o (xw (((mset F (o + 4) (F o 4).toNat 0) o 4) - 1)) (mset F (o + 4) (F o 4).toNat 0)
  else none
theorem fX1_countFree_b17_ok {Qr : Option PV → Mem → Prop}  : ∀ (n : Nat) (o : Nat) (x1 : Int) (F : Mem) (res : Mem) (ho : isK o 1), fX1_countFree_b17 n o x1 F = some res → Qr none res → PR cX1_countFree (zX1_countFree Qr) 17 [(0, vR o), (1, vI x1)] [] F := by
  intro n
  induction n with
  | zero => intro o x1 F res ho h hq; exact nomatch (show (none : Option _) = some _ from h)
  | succ n ih =>
    intro o x1 F res ho h hq
    refine s_iload_n (j := 1) dX1_countFree_17 rfl rfl ?_
    refine s_if_lt (tgt := 57) dX1_countFree_18 rfl (fun hc1 => ?_) (fun hc1 => ?_)
    · have h := ifp hc1 h
      have h := Option.some.inj h
      subst h
      exact s_return dX1_countFree_57 rfl hq
    · have h := ifn hc1 h
      refine s_aload_n (j := 0) dX1_countFree_21 rfl rfl ?_
      refine s_getR dX1_countFree_22 flX1_39 ho ?_
      refine s_iload_n (j := 1) dX1_countFree_25 rfl rfl ?_
      refine s_aload_n (j := 0) dX1_countFree_26 rfl rfl ?_
      refine s_getR dX1_countFree_27 flX1_36 ho ?_
      refine s_iload_n (j := 1) dX1_countFree_30 rfl rfl ?_
      obtain ⟨hb2, h⟩ := gd h
      refine s_iaload dX1_countFree_31 (trX1_7 ho) hb2.1 hb2.2 ?_
      refine s_iconst dX1_countFree_32 (cin rfl) ?_
      refine s_icmp_ne (tgt := 49) dX1_countFree_33 rfl (fun hc3 => ?_) (fun hc3 => ?_)
      · have h := ifp hc3 h
        refine s_iconst dX1_countFree_49 (cin rfl) ?_
        obtain ⟨hb4, h⟩ := gd h
        refine s_iastore dX1_countFree_50 (trX1_8 ho) hb4.1 hb4.2 ?_
        refine s_iinc (ls' := [(1, vI (xw (x1 + (-1)))), (0, vR o)]) (j := 1) dX1_countFree_51 rfl (Nat.le_of_ble_eq_true rfl) rfl ?_
        refine s_goto (tgt := 17) dX1_countFree_54 rfl ?_
        exact s_sub (ks := [1, 0]) rfl (ih o (xw (x1 + (-1))) (mset F (o + 4) x1.toNat 0) _ ho h hq)
      · have h := ifn hc3 h
        refine s_aload_n (j := 0) dX1_countFree_36 rfl rfl ?_
        refine s_getR dX1_countFree_37 flX1_39 ho ?_
        refine s_iload_n (j := 1) dX1_countFree_40 rfl rfl ?_
        refine s_iconst dX1_countFree_41 (cin rfl) ?_
        refine s_iadd dX1_countFree_42 ?_
        obtain ⟨hb5, h⟩ := gd h
        refine s_iaload dX1_countFree_43 (trX1_8 ho) hb5.1 hb5.2 ?_
        refine s_iconst dX1_countFree_44 (cin rfl) ?_
        refine s_iadd dX1_countFree_45 ?_
        refine s_goto (tgt := 50) dX1_countFree_46 rfl ?_
        obtain ⟨hb6, h⟩ := gd h
        refine s_iastore dX1_countFree_50 (trX1_8 ho) hb6.1 hb6.2 ?_
        refine s_iinc (ls' := [(1, vI (xw (x1 + (-1)))), (0, vR o)]) (j := 1) dX1_countFree_51 rfl (Nat.le_of_ble_eq_true rfl) rfl ?_
        refine s_goto (tgt := 17) dX1_countFree_54 rfl ?_
        exact s_sub (ks := [1, 0]) rfl (ih o (xw (x1 + (-1))) (mset F (o + 4) x1.toNat (xw ((F (o + 4) (xw (x1 + 1)).toNat) + 1))) _ ho h hq)
theorem fX1_countFree_ok {Qr : Option PV → Mem → Prop} : ∀ (o : Nat) (F : Mem) (res : Mem) (ho : isK o 1), fX1_countFree o F = some res → Qr none res → PR cX1_countFree (zX1_countFree Qr) 0 [(0, vR o)] [] F := by
  intro o F res ho h hq
  refine s_aload_n (j := 0) dX1_countFree_0 rfl rfl ?_
  refine s_getR dX1_countFree_1 flX1_39 ho ?_
  refine s_aload_n (j := 0) dX1_countFree_4 rfl rfl ?_
  refine s_getI dX1_countFree_5 flX1_26 ho ?_
  refine s_iconst dX1_countFree_8 (cin rfl) ?_
  obtain ⟨hb1, h⟩ := gd h
  refine s_iastore dX1_countFree_9 (trX1_8 ho) hb1.1 hb1.2 ?_
  refine s_aload_n (j := 0) dX1_countFree_10 rfl rfl ?_
  refine s_getI dX1_countFree_11 flX1_26 ho ?_
  refine s_iconst dX1_countFree_14 (cin rfl) ?_
  refine s_isub dX1_countFree_15 ?_
  refine s_istore_n (ls' := [(1, vI (xw (((mset F (o + 4) (F o 4).toNat 0) o 4) - 1))), (0, vR o)]) dX1_countFree_16 rfl (Nat.le_of_ble_eq_true rfl) rfl ?_
  exact s_sub (ks := [1, 0]) rfl (fX1_countFree_b17_ok FU o (xw (((mset F (o + 4) (F o 4).toNat 0) o 4) - 1)) (mset F (o + 4) (F o 4).toNat 0) _ ho h hq)
def gX1_countFree : XG := fun As F r F' => ∃ o : Nat, ∃ res : Mem, As = [vR o] ∧ isK o 1 ∧ fX1_countFree o F = some res ∧ r = none ∧ F' = res
theorem ctX1_countFree : xCT yX1_countFree cX1_countFree 2 (none) 0 0 gX1_countFree := xmet (by decide +kernel) (fun As F r F' hg => by obtain ⟨o, res, rfl, ho, h, rfl, rfl⟩ := hg; exact Nat.le_of_ble_eq_true rfl) (fun As F r F' hg => by obtain ⟨o, res, rfl, ho, h, rfl, rfl⟩ := hg; exact fX1_countFree_ok o _ _ ho h ⟨rfl, rfl⟩)
theorem mcX1_countFree : Cond.code yX1_countFree cX1_countFree 2 (none) ∈ xw_T ∧ Cond.initialized yX1_countFree.cls ∈ xw_T ∧ Cond.instanceMethod yX1_countFree ∈ xw_T ∧ Cond.selects yX1_countFree.cls yX1_countFree yX1_countFree ∈ xw_T := ⟨(xinT 1052 (by decide +kernel) (by decide +kernel)), (xinT 124 (by decide +kernel) (by decide +kernel)), (xinT 1051 (by decide +kernel) (by decide +kernel)), (xinT 29 (by decide +kernel) (by decide +kernel))⟩
theorem clX1_123 {fr lo : Nat} (h1 : 0 + 1 ≤ fr) (h2 : 8 + (2 + 11) + 0 ≤ lo) : xCall RX1 fr lo 0 123 1 0 gX1_countFree := ⟨_, _, _, _, _, _, ctX1_countFree, h1, h2, mcX1_countFree.1, (xinT 1049 (by decide +kernel) (by decide +kernel)), mcX1_countFree.2.1, ⟨by decide +kernel, by decide +kernel, by decide +kernel⟩, by rw [if_pos rfl]; exact ⟨mcX1_countFree.2.2.1, mcX1_countFree.2.2.2, _, _, rfl⟩⟩
theorem dX1_gainOf_0 : decode cX1_gainOf 0 = .ok (.iload_n 0, 1) := by decide +kernel
theorem dX1_gainOf_1 : decode cX1_gainOf 1 = .ok (.ldc 126, 2) := by decide +kernel
theorem dX1_gainOf_3 : decode cX1_gainOf 3 = .ok (.if_icmp .ne 7, 3) := by decide +kernel
theorem dX1_gainOf_6 : decode cX1_gainOf 6 = .ok (.iconst (-1), 1) := by decide +kernel
theorem dX1_gainOf_7 : decode cX1_gainOf 7 = .ok (.goto 12, 3) := by decide +kernel
theorem dX1_gainOf_10 : decode cX1_gainOf 10 = .ok (.iload_n 0, 1) := by decide +kernel
theorem dX1_gainOf_11 : decode cX1_gainOf 11 = .ok (.ldc 144, 2) := by decide +kernel
theorem dX1_gainOf_13 : decode cX1_gainOf 13 = .ok (.iadd, 1) := by decide +kernel
theorem dX1_gainOf_14 : decode cX1_gainOf 14 = .ok (.iconst 1, 1) := by decide +kernel
theorem dX1_gainOf_15 : decode cX1_gainOf 15 = .ok (.isub, 1) := by decide +kernel
theorem dX1_gainOf_16 : decode cX1_gainOf 16 = .ok (.ldc 144, 2) := by decide +kernel
theorem dX1_gainOf_18 : decode cX1_gainOf 18 = .ok (.idiv, 1) := by decide +kernel
theorem dX1_gainOf_19 : decode cX1_gainOf 19 = .ok (.ireturn, 1) := by decide +kernel
def zX1_gainOf (Qr : Option PV → Mem → Prop) : XZ := (RX1, 0, 0, 1, some FieldType.int, Qr)
noncomputable def fX1_gainOf (x0 : Int) : Int :=
  if x0 ≠ (-1000000000) then
    xw (Int.tdiv (xw ((xw (x0 + 65536)) - 1)) 65536)
  else
    (-1)
theorem fX1_gainOf_ok {Qr : Option PV → Mem → Prop} : ∀ (x0 : Int) (F : Mem) (res : Int), fX1_gainOf x0 = res → Qr (some (vI res)) F → PR cX1_gainOf (zX1_gainOf Qr) 0 [(0, vI x0)] [] F := by
  intro x0 F res  h hq
  refine s_iload_n (j := 0) dX1_gainOf_0 rfl rfl ?_
  refine s_ldc dX1_gainOf_1 kcX1_126 (cin rfl) ?_
  refine s_icmp_ne (tgt := 10) dX1_gainOf_3 rfl (fun hc1 => ?_) (fun hc1 => ?_)
  · have h := ifp hc1 h
    refine s_iload_n (j := 0) dX1_gainOf_10 rfl rfl ?_
    refine s_ldc dX1_gainOf_11 kcX1_144 (cin rfl) ?_
    refine s_iadd dX1_gainOf_13 ?_
    refine s_iconst dX1_gainOf_14 (cin rfl) ?_
    refine s_isub dX1_gainOf_15 ?_
    refine s_ldc dX1_gainOf_16 kcX1_144 (cin rfl) ?_
    refine s_idiv dX1_gainOf_18 (by decide) ?_
    subst h
    exact s_ireturn dX1_gainOf_19 rfl hq
  · have h := ifn hc1 h
    refine s_iconst dX1_gainOf_6 (cin rfl) ?_
    refine s_goto (tgt := 19) dX1_gainOf_7 rfl ?_
    subst h
    exact s_ireturn dX1_gainOf_19 rfl hq
def gX1_gainOf : XG := fun As F r F' => ∃ x0 : Int, ∃ res : Int, As = [vI x0] ∧ fX1_gainOf x0 = res ∧ r = some (vI res) ∧ F' = F
theorem ctX1_gainOf : xCT yX1_gainOf cX1_gainOf 1 (some FieldType.int) 0 0 gX1_gainOf := xmet (by decide +kernel) (fun As F r F' hg => by obtain ⟨x0, res, rfl, h, rfl, rfl⟩ := hg; exact Nat.le_of_ble_eq_true rfl) (fun As F r F' hg => by obtain ⟨x0, res, rfl, h, rfl, rfl⟩ := hg; exact fX1_gainOf_ok x0 _ _  h ⟨rfl, rfl⟩)
theorem mcX1_gainOf : Cond.code yX1_gainOf cX1_gainOf 1 (some FieldType.int) ∈ xw_T ∧ Cond.initialized yX1_gainOf.cls ∈ xw_T ∧ Cond.static yX1_gainOf ∈ xw_T := ⟨(xinT 1069 (by decide +kernel) (by decide +kernel)), (xinT 124 (by decide +kernel) (by decide +kernel)), (xinT 1068 (by decide +kernel) (by decide +kernel))⟩
theorem clX1_133 {fr lo : Nat} (h1 : 0 + 1 ≤ fr) (h2 : 8 + (1 + 11) + 0 ≤ lo) : xCall RX1 fr lo 1 133 0 1 gX1_gainOf := ⟨_, _, _, _, _, _, ctX1_gainOf, h1, h2, mcX1_gainOf.1, (xinT 1067 (by decide +kernel) (by decide +kernel)), mcX1_gainOf.2.1, ⟨by decide +kernel, by decide +kernel, by decide +kernel⟩, by rw [if_neg (by decide)]; exact mcX1_gainOf.2.2⟩
theorem dX1_solve_0 : decode cX1_solve 0 = .ok (.aload_n 0, 1) := by decide +kernel
theorem dX1_solve_1 : decode cX1_solve 1 = .ok (.invokevirtual 123, 3) := by decide +kernel
theorem dX1_solve_4 : decode cX1_solve 4 = .ok (.aload_n 0, 1) := by decide +kernel
theorem dX1_solve_5 : decode cX1_solve 5 = .ok (.getfield 9, 3) := by decide +kernel
theorem dX1_solve_8 : decode cX1_solve 8 = .ok (.getfield 67, 3) := by decide +kernel
theorem dX1_solve_11 : decode cX1_solve 11 = .ok (.getfield 71, 3) := by decide +kernel
theorem dX1_solve_14 : decode cX1_solve 14 = .ok (.istore_n 2, 1) := by decide +kernel
theorem dX1_solve_15 : decode cX1_solve 15 = .ok (.iconst 0, 1) := by decide +kernel
theorem dX1_solve_16 : decode cX1_solve 16 = .ok (.istore_n 3, 1) := by decide +kernel
theorem dX1_solve_17 : decode cX1_solve 17 = .ok (.iload_n 3, 1) := by decide +kernel
theorem dX1_solve_18 : decode cX1_solve 18 = .ok (.iload_n 2, 1) := by decide +kernel
theorem dX1_solve_19 : decode cX1_solve 19 = .ok (.if_icmp .ge 39, 3) := by decide +kernel
theorem dX1_solve_22 : decode cX1_solve 22 = .ok (.aload_n 0, 1) := by decide +kernel
theorem dX1_solve_23 : decode cX1_solve 23 = .ok (.getfield 48, 3) := by decide +kernel
theorem dX1_solve_26 : decode cX1_solve 26 = .ok (.aload_n 0, 1) := by decide +kernel
theorem dX1_solve_27 : decode cX1_solve 27 = .ok (.getfield 26, 3) := by decide +kernel
theorem dX1_solve_30 : decode cX1_solve 30 = .ok (.bipush 8, 2) := by decide +kernel
theorem dX1_solve_32 : decode cX1_solve 32 = .ok (.imul, 1) := by decide +kernel
theorem dX1_solve_33 : decode cX1_solve 33 = .ok (.iload_n 3, 1) := by decide +kernel
theorem dX1_solve_34 : decode cX1_solve 34 = .ok (.iadd, 1) := by decide +kernel
theorem dX1_solve_35 : decode cX1_solve 35 = .ok (.iload_n 1, 1) := by decide +kernel
theorem dX1_solve_36 : decode cX1_solve 36 = .ok (.iconst (-1), 1) := by decide +kernel
theorem dX1_solve_37 : decode cX1_solve 37 = .ok (.if_icmp .eq 8, 3) := by decide +kernel
theorem dX1_solve_40 : decode cX1_solve 40 = .ok (.iload_n 1, 1) := by decide +kernel
theorem dX1_solve_41 : decode cX1_solve 41 = .ok (.iload_n 3, 1) := by decide +kernel
theorem dX1_solve_42 : decode cX1_solve 42 = .ok (.if_icmp .ne 7, 3) := by decide +kernel
theorem dX1_solve_45 : decode cX1_solve 45 = .ok (.iconst 0, 1) := by decide +kernel
theorem dX1_solve_46 : decode cX1_solve 46 = .ok (.goto 5, 3) := by decide +kernel
theorem dX1_solve_49 : decode cX1_solve 49 = .ok (.ldc 126, 2) := by decide +kernel
theorem dX1_solve_51 : decode cX1_solve 51 = .ok (.iastore, 1) := by decide +kernel
theorem dX1_solve_52 : decode cX1_solve 52 = .ok (.iinc 3 1, 3) := by decide +kernel
theorem dX1_solve_55 : decode cX1_solve 55 = .ok (.goto (-38), 3) := by decide +kernel
theorem dX1_solve_58 : decode cX1_solve 58 = .ok (.aload_n 0, 1) := by decide +kernel
theorem dX1_solve_59 : decode cX1_solve 59 = .ok (.getfield 26, 3) := by decide +kernel
theorem dX1_solve_62 : decode cX1_solve 62 = .ok (.iconst 1, 1) := by decide +kernel
theorem dX1_solve_63 : decode cX1_solve 63 = .ok (.isub, 1) := by decide +kernel
theorem dX1_solve_64 : decode cX1_solve 64 = .ok (.istore_n 3, 1) := by decide +kernel
theorem dX1_solve_65 : decode cX1_solve 65 = .ok (.iload_n 3, 1) := by decide +kernel
theorem dX1_solve_66 : decode cX1_solve 66 = .ok (.ifCond .lt 44, 3) := by decide +kernel
theorem dX1_solve_69 : decode cX1_solve 69 = .ok (.iconst 0, 1) := by decide +kernel
theorem dX1_solve_70 : decode cX1_solve 70 = .ok (.istore 4, 2) := by decide +kernel
theorem dX1_solve_72 : decode cX1_solve 72 = .ok (.iload 4, 2) := by decide +kernel
theorem dX1_solve_74 : decode cX1_solve 74 = .ok (.iload_n 2, 1) := by decide +kernel
theorem dX1_solve_75 : decode cX1_solve 75 = .ok (.if_icmp .ge 29, 3) := by decide +kernel
theorem dX1_solve_78 : decode cX1_solve 78 = .ok (.aload_n 0, 1) := by decide +kernel
theorem dX1_solve_79 : decode cX1_solve 79 = .ok (.getfield 48, 3) := by decide +kernel
theorem dX1_solve_82 : decode cX1_solve 82 = .ok (.iload_n 3, 1) := by decide +kernel
theorem dX1_solve_83 : decode cX1_solve 83 = .ok (.bipush 8, 2) := by decide +kernel
theorem dX1_solve_85 : decode cX1_solve 85 = .ok (.imul, 1) := by decide +kernel
theorem dX1_solve_86 : decode cX1_solve 86 = .ok (.iload 4, 2) := by decide +kernel
theorem dX1_solve_88 : decode cX1_solve 88 = .ok (.iadd, 1) := by decide +kernel
theorem dX1_solve_89 : decode cX1_solve 89 = .ok (.aload_n 0, 1) := by decide +kernel
theorem dX1_solve_90 : decode cX1_solve 90 = .ok (.iload_n 3, 1) := by decide +kernel
theorem dX1_solve_91 : decode cX1_solve 91 = .ok (.iload 4, 2) := by decide +kernel
theorem dX1_solve_93 : decode cX1_solve 93 = .ok (.iload_n 2, 1) := by decide +kernel
theorem dX1_solve_94 : decode cX1_solve 94 = .ok (.invokevirtual 127, 3) := by decide +kernel
theorem dX1_solve_97 : decode cX1_solve 97 = .ok (.iastore, 1) := by decide +kernel
theorem dX1_solve_98 : decode cX1_solve 98 = .ok (.iinc 4 1, 3) := by decide +kernel
theorem dX1_solve_101 : decode cX1_solve 101 = .ok (.goto (-29), 3) := by decide +kernel
theorem dX1_solve_104 : decode cX1_solve 104 = .ok (.iinc 3 (-1), 3) := by decide +kernel
theorem dX1_solve_107 : decode cX1_solve 107 = .ok (.goto (-42), 3) := by decide +kernel
theorem dX1_solve_110 : decode cX1_solve 110 = .ok (.aload_n 0, 1) := by decide +kernel
theorem dX1_solve_111 : decode cX1_solve 111 = .ok (.getfield 48, 3) := by decide +kernel
theorem dX1_solve_114 : decode cX1_solve 114 = .ok (.aload_n 0, 1) := by decide +kernel
theorem dX1_solve_115 : decode cX1_solve 115 = .ok (.getfield 9, 3) := by decide +kernel
theorem dX1_solve_118 : decode cX1_solve 118 = .ok (.getfield 130, 3) := by decide +kernel
theorem dX1_solve_121 : decode cX1_solve 121 = .ok (.iaload, 1) := by decide +kernel
theorem dX1_solve_122 : decode cX1_solve 122 = .ok (.invokestatic 133, 3) := by decide +kernel
theorem dX1_solve_125 : decode cX1_solve 125 = .ok (.ireturn, 1) := by decide +kernel
def zX1_solve (Qr : Option PV → Mem → Prop) : XZ := (RX1, 3, 73, 5, some FieldType.int, Qr)
noncomputable def fX1_solve_b72 (k65 : Nat → Int → Int → Mem → Option (Int × Mem)) : Nat → Nat → Int → Int → Int → Mem → Option (Int × Mem)
  | 0, _, _, _, _, _ => none
  | n + 1, o, x2, x3, x4, F =>
    if x2 ≤ x4 then
      k65 o x2 (xw (x3 + (-1))) F
    else
      (fX1_bestFrom o x3 x4 x2 F).bind fun r2 =>
      if (0 : Int) ≤ (xw ((xw (x3 * 8)) + x4)) ∧ (xw ((xw (x3 * 8)) + x4)) < (alen (o + 7) : Int) then
        fX1_solve_b72 k65 n o x2 x3 (xw (x4 + 1)) (mset F (o + 7) (xw ((xw (x3 * 8)) + x4)).toNat r2)
      else none
noncomputable def fX1_solve_b65 : Nat → Nat → Int → Int → Mem → Option (Int × Mem)
  | 0, _, _, _, _ => none
  | n + 1, o, x2, x3, F =>
    if x3 < 0 then
      if (F o 0).toNat = 0 then none else
      if (0 : Int) ≤ (F ((F o 0).toNat) 4) ∧ (F ((F o 0).toNat) 4) < (alen (o + 7) : Int) then
        some ((fX1_gainOf (F (o + 7) (F ((F o 0).toNat) 4).toNat)), F)
      else none
    else
      fX1_solve_b72 (fX1_solve_b65 n) FU o x2 x3 0 F
noncomputable def fX1_solve_b17 : Nat → Nat → Int → Int → Int → Mem → Option (Int × Mem)
  | 0, _, _, _, _, _ => none
  | n + 1, o, x1, x2, x3, F =>
    if x2 ≤ x3 then
      fX1_solve_b65 FU o x2 (xw ((F o 4) - 1)) F
    else
      if x1 = (-1) then
        if (0 : Int) ≤ (xw ((xw ((F o 4) * 8)) + x3)) ∧ (xw ((xw ((F o 4) * 8)) + x3)) < (alen (o + 7) : Int) then
          fX1_solve_b17 n o x1 x2 (xw (x3 + 1)) (mset F (o + 7) (xw ((xw ((F o 4) * 8)) + x3)).toNat 0)
        else none
      else
        if x1 ≠ x3 then
          if (0 : Int) ≤ (xw ((xw ((F o 4) * 8)) + x3)) ∧ (xw ((xw ((F o 4) * 8)) + x3)) < (alen (o + 7) : Int) then
            fX1_solve_b17 n o x1 x2 (xw (x3 + 1)) (mset F (o + 7) (xw ((xw ((F o 4) * 8)) + x3)).toNat (-1000000000))
          else none
        else
          if (0 : Int) ≤ (xw ((xw ((F o 4) * 8)) + x3)) ∧ (xw ((xw ((F o 4) * 8)) + x3)) < (alen (o + 7) : Int) then
            fX1_solve_b17 n o x1 x2 (xw (x3 + 1)) (mset F (o + 7) (xw ((xw ((F o 4) * 8)) + x3)).toNat 0)
          else none
noncomputable def fX1_solve (o : Nat) (x1 : Int) (F : Mem) : Option (Int × Mem) :=
  (fX1_countFree o F).bind fun q1 =>
  if (q1 o 0).toNat = 0 then none else
  fX1_solve_b17 FU o x1 (q1 (((q1 o 0).toNat) + 1) 3) 0 q1
theorem fX1_solve_b72_ok {Qr : Option PV → Mem → Prop}  (k65 : Nat → Int → Int → Mem → Option (Int × Mem)) (hk65 : ∀ (o : Nat) (x2 : Int) (x3 : Int) (F : Mem) (res : (Int × Mem)) (ho : isK o 1), k65 o x2 x3 F = some res → Qr (some (vI res.1)) res.2 → PR cX1_solve (zX1_solve Qr) 65 [(0, vR o), (2, vI x2), (3, vI x3)] [] F) : ∀ (n : Nat) (o : Nat) (x2 : Int) (x3 : Int) (x4 : Int) (F : Mem) (res : (Int × Mem)) (ho : isK o 1), fX1_solve_b72 k65 n o x2 x3 x4 F = some res → Qr (some (vI res.1)) res.2 → PR cX1_solve (zX1_solve Qr) 72 [(0, vR o), (2, vI x2), (3, vI x3), (4, vI x4)] [] F := by
  intro n
  induction n with
  | zero => intro o x2 x3 x4 F res ho h hq; exact nomatch (show (none : Option _) = some _ from h)
  | succ n ih =>
    intro o x2 x3 x4 F res ho h hq
    refine s_iload (j := 3) dX1_solve_72 rfl ?_
    refine s_iload_n (j := 1) dX1_solve_74 rfl rfl ?_
    refine s_icmp_ge (tgt := 104) dX1_solve_75 rfl (fun hc1 => ?_) (fun hc1 => ?_)
    · have h := ifp hc1 h
      refine s_iinc (ls' := [(3, vI (xw (x3 + (-1)))), (0, vR o), (2, vI x2), (4, vI x4)]) (j := 2) dX1_solve_104 rfl (Nat.le_of_ble_eq_true rfl) rfl ?_
      refine s_goto (tgt := 65) dX1_solve_107 rfl ?_
      exact s_sub (ks := [1, 2, 0]) rfl (hk65 o x2 (xw (x3 + (-1))) F _ ho h hq)
    · have h := ifn hc1 h
      refine s_aload_n (j := 0) dX1_solve_78 rfl rfl ?_
      refine s_getR dX1_solve_79 flX1_48 ho ?_
      refine s_iload_n (j := 2) dX1_solve_82 rfl rfl ?_
      refine s_bipush dX1_solve_83 rfl (cin rfl) ?_
      refine s_imul dX1_solve_85 ?_
      refine s_iload (j := 3) dX1_solve_86 rfl ?_
      refine s_iadd dX1_solve_88 ?_
      refine s_aload_n (j := 0) dX1_solve_89 rfl rfl ?_
      refine s_iload_n (j := 2) dX1_solve_90 rfl rfl ?_
      refine s_iload (j := 3) dX1_solve_91 rfl ?_
      refine s_iload_n (j := 1) dX1_solve_93 rfl rfl ?_
      obtain ⟨r2, hv3, h⟩ := bnd h
      refine s_callV (As := [vI x3, vI x4, vI x2]) (rest := [vI (xw ((xw (x3 * 8)) + x4)), vR (o + 7)]) (r := (some (vI r2))) (F' := F) dX1_solve_94 (clX1_127 (Nat.le_of_ble_eq_true rfl) (Nat.le_of_ble_eq_true rfl)) ho rfl ⟨_, _, _, _, _, rfl, ho, hv3, rfl, rfl⟩ rfl (Nat.le_of_ble_eq_true rfl) ?_
      obtain ⟨hb4, h⟩ := gd h
      refine s_iastore dX1_solve_97 (trX1_11 ho) hb4.1 hb4.2 ?_
      refine s_iinc (ls' := [(4, vI (xw (x4 + 1))), (0, vR o), (2, vI x2), (3, vI x3)]) (j := 3) dX1_solve_98 rfl (Nat.le_of_ble_eq_true rfl) rfl ?_
      refine s_goto (tgt := 72) dX1_solve_101 rfl ?_
      exact s_sub (ks := [1, 2, 3, 0]) rfl (ih o x2 x3 (xw (x4 + 1)) (mset F (o + 7) (xw ((xw (x3 * 8)) + x4)).toNat r2) _ ho h hq)
theorem fX1_solve_b65_ok {Qr : Option PV → Mem → Prop}  : ∀ (n : Nat) (o : Nat) (x2 : Int) (x3 : Int) (F : Mem) (res : (Int × Mem)) (ho : isK o 1), fX1_solve_b65 n o x2 x3 F = some res → Qr (some (vI res.1)) res.2 → PR cX1_solve (zX1_solve Qr) 65 [(0, vR o), (2, vI x2), (3, vI x3)] [] F := by
  intro n
  induction n with
  | zero => intro o x2 x3 F res ho h hq; exact nomatch (show (none : Option _) = some _ from h)
  | succ n ih =>
    intro o x2 x3 F res ho h hq
    refine s_iload_n (j := 2) dX1_solve_65 rfl rfl ?_
    refine s_if_lt (tgt := 110) dX1_solve_66 rfl (fun hc1 => ?_) (fun hc1 => ?_)
    · have h := ifp hc1 h
      refine s_aload_n (j := 0) dX1_solve_110 rfl rfl ?_
      refine s_getR dX1_solve_111 flX1_48 ho ?_
      refine s_aload_n (j := 0) dX1_solve_114 rfl rfl ?_
      refine s_getM dX1_solve_115 flX1_9 ho (fun hm2 => ?_)
      have hm2 : _ = 0 ∨ isK ((F o 0).toNat) 7 := hm2
      obtain ⟨hn3, h⟩ := gdn h
      refine s_getI dX1_solve_118 flX1_130 (hm2.resolve_left hn3) ?_
      obtain ⟨hb4, h⟩ := gd h
      refine s_iaload dX1_solve_121 (trX1_11 ho) hb4.1 hb4.2 ?_
      refine s_callS (As := [vI (F (o + 7) (F ((F o 0).toNat) 4).toNat)]) (rest := []) (r := (some (vI (fX1_gainOf (F (o + 7) (F ((F o 0).toNat) 4).toNat))))) (F' := F) dX1_solve_122 (clX1_133 (Nat.le_of_ble_eq_true rfl) (Nat.le_of_ble_eq_true rfl)) rfl ⟨_, _, rfl, rfl, rfl, rfl⟩ rfl (Nat.le_of_ble_eq_true rfl) ?_
      have h := Option.some.inj h
      subst h
      exact s_ireturn dX1_solve_125 rfl hq
    · have h := ifn hc1 h
      refine s_iconst dX1_solve_69 (cin rfl) ?_
      refine s_istore (ls' := [(4, vI 0), (0, vR o), (2, vI x2), (3, vI x3)]) dX1_solve_70 (Nat.le_of_ble_eq_true rfl) rfl ?_
      exact s_sub (ks := [1, 2, 3, 0]) rfl (fX1_solve_b72_ok (fX1_solve_b65 n) ih FU o x2 x3 0 F _ ho h hq)
theorem fX1_solve_b17_ok {Qr : Option PV → Mem → Prop}  : ∀ (n : Nat) (o : Nat) (x1 : Int) (x2 : Int) (x3 : Int) (F : Mem) (res : (Int × Mem)) (ho : isK o 1), fX1_solve_b17 n o x1 x2 x3 F = some res → Qr (some (vI res.1)) res.2 → PR cX1_solve (zX1_solve Qr) 17 [(0, vR o), (1, vI x1), (2, vI x2), (3, vI x3)] [] F := by
  intro n
  induction n with
  | zero => intro o x1 x2 x3 F res ho h hq; exact nomatch (show (none : Option _) = some _ from h)
  | succ n ih =>
    intro o x1 x2 x3 F res ho h hq
    refine s_iload_n (j := 3) dX1_solve_17 rfl rfl ?_
    refine s_iload_n (j := 2) dX1_solve_18 rfl rfl ?_
    refine s_icmp_ge (tgt := 58) dX1_solve_19 rfl (fun hc1 => ?_) (fun hc1 => ?_)
    · have h := ifp hc1 h
      refine s_aload_n (j := 0) dX1_solve_58 rfl rfl ?_
      refine s_getI dX1_solve_59 flX1_26 ho ?_
      refine s_iconst dX1_solve_62 (cin rfl) ?_
      refine s_isub dX1_solve_63 ?_
      refine s_istore_n (ls' := [(3, vI (xw ((F o 4) - 1))), (0, vR o), (1, vI x1), (2, vI x2)]) dX1_solve_64 rfl (Nat.le_of_ble_eq_true rfl) rfl ?_
      exact s_sub (ks := [1, 3, 0]) rfl (fX1_solve_b65_ok FU o x2 (xw ((F o 4) - 1)) F _ ho h hq)
    · have h := ifn hc1 h
      refine s_aload_n (j := 0) dX1_solve_22 rfl rfl ?_
      refine s_getR dX1_solve_23 flX1_48 ho ?_
      refine s_aload_n (j := 0) dX1_solve_26 rfl rfl ?_
      refine s_getI dX1_solve_27 flX1_26 ho ?_
      refine s_bipush dX1_solve_30 rfl (cin rfl) ?_
      refine s_imul dX1_solve_32 ?_
      refine s_iload_n (j := 3) dX1_solve_33 rfl rfl ?_
      refine s_iadd dX1_solve_34 ?_
      refine s_iload_n (j := 1) dX1_solve_35 rfl rfl ?_
      refine s_iconst dX1_solve_36 (cin rfl) ?_
      refine s_icmp_eq (tgt := 45) dX1_solve_37 rfl (fun hc2 => ?_) (fun hc2 => ?_)
      · have h := ifp hc2 h
        refine s_iconst dX1_solve_45 (cin rfl) ?_
        refine s_goto (tgt := 51) dX1_solve_46 rfl ?_
        obtain ⟨hb3, h⟩ := gd h
        refine s_iastore dX1_solve_51 (trX1_11 ho) hb3.1 hb3.2 ?_
        refine s_iinc (ls' := [(3, vI (xw (x3 + 1))), (0, vR o), (1, vI x1), (2, vI x2)]) (j := 3) dX1_solve_52 rfl (Nat.le_of_ble_eq_true rfl) rfl ?_
        refine s_goto (tgt := 17) dX1_solve_55 rfl ?_
        exact s_sub (ks := [1, 2, 3, 0]) rfl (ih o x1 x2 (xw (x3 + 1)) (mset F (o + 7) (xw ((xw ((F o 4) * 8)) + x3)).toNat 0) _ ho h hq)
      · have h := ifn hc2 h
        refine s_iload_n (j := 1) dX1_solve_40 rfl rfl ?_
        refine s_iload_n (j := 3) dX1_solve_41 rfl rfl ?_
        refine s_icmp_ne (tgt := 49) dX1_solve_42 rfl (fun hc4 => ?_) (fun hc4 => ?_)
        · have h := ifp hc4 h
          refine s_ldc dX1_solve_49 kcX1_126 (cin rfl) ?_
          obtain ⟨hb5, h⟩ := gd h
          refine s_iastore dX1_solve_51 (trX1_11 ho) hb5.1 hb5.2 ?_
          refine s_iinc (ls' := [(3, vI (xw (x3 + 1))), (0, vR o), (1, vI x1), (2, vI x2)]) (j := 3) dX1_solve_52 rfl (Nat.le_of_ble_eq_true rfl) rfl ?_
          refine s_goto (tgt := 17) dX1_solve_55 rfl ?_
          exact s_sub (ks := [1, 2, 3, 0]) rfl (ih o x1 x2 (xw (x3 + 1)) (mset F (o + 7) (xw ((xw ((F o 4) * 8)) + x3)).toNat (-1000000000)) _ ho h hq)
        · have h := ifn hc4 h
          refine s_iconst dX1_solve_45 (cin rfl) ?_
          refine s_goto (tgt := 51) dX1_solve_46 rfl ?_
          obtain ⟨hb6, h⟩ := gd h
          refine s_iastore dX1_solve_51 (trX1_11 ho) hb6.1 hb6.2 ?_
          refine s_iinc (ls' := [(3, vI (xw (x3 + 1))), (0, vR o), (1, vI x1), (2, vI x2)]) (j := 3) dX1_solve_52 rfl (Nat.le_of_ble_eq_true rfl) rfl ?_
          refine s_goto (tgt := 17) dX1_solve_55 rfl ?_
          exact s_sub (ks := [1, 2, 3, 0]) rfl (ih o x1 x2 (xw (x3 + 1)) (mset F (o + 7) (xw ((xw ((F o 4) * 8)) + x3)).toNat 0) _ ho h hq)
theorem fX1_solve_ok {Qr : Option PV → Mem → Prop} : ∀ (o : Nat) (x1 : Int) (F : Mem) (res : (Int × Mem)) (ho : isK o 1), fX1_solve o x1 F = some res → Qr (some (vI res.1)) res.2 → PR cX1_solve (zX1_solve Qr) 0 [(0, vR o), (1, vI x1)] [] F := by
  intro o x1 F res ho h hq
  refine s_aload_n (j := 0) dX1_solve_0 rfl rfl ?_
  obtain ⟨q1, hv2, h⟩ := bnd h
  refine s_callV (As := []) (rest := []) (r := none) (F' := q1) dX1_solve_1 (clX1_123 (Nat.le_of_ble_eq_true rfl) (Nat.le_of_ble_eq_true rfl)) ho rfl ⟨_, _, rfl, ho, hv2, rfl, rfl⟩ rfl (Nat.le_of_ble_eq_true rfl) ?_
  refine s_aload_n (j := 0) dX1_solve_4 rfl rfl ?_
  refine s_getM dX1_solve_5 flX1_9 ho (fun hm3 => ?_)
  have hm3 : _ = 0 ∨ isK ((q1 o 0).toNat) 7 := hm3
  obtain ⟨hn4, h⟩ := gdn h
  refine s_getR dX1_solve_8 flX1_67 (hm3.resolve_left hn4) ?_
  refine s_getI dX1_solve_11 flX1_71 (trX7_5 (hm3.resolve_left hn4)) ?_
  refine s_istore_n (ls' := [(2, vI (q1 (((q1 o 0).toNat) + 1) 3)), (0, vR o), (1, vI x1)]) dX1_solve_14 rfl (Nat.le_of_ble_eq_true rfl) rfl ?_
  refine s_iconst dX1_solve_15 (cin rfl) ?_
  refine s_istore_n dX1_solve_16 rfl (Nat.le_of_ble_eq_true rfl) rfl ?_
  exact s_sub (ks := [2, 3, 1, 0]) rfl (fX1_solve_b17_ok FU o x1 (q1 (((q1 o 0).toNat) + 1) 3) 0 q1 _ ho h hq)
def gX1_solve : XG := fun As F r F' => ∃ o : Nat, ∃ x1 : Int, ∃ res : (Int × Mem), As = [vR o, vI x1] ∧ isK o 1 ∧ fX1_solve o x1 F = some res ∧ r = some (vI res.1) ∧ F' = res.2
theorem ctX1_solve : xCT yX1_solve cX1_solve 5 (some FieldType.int) 3 73 gX1_solve := xmet (by decide +kernel) (fun As F r F' hg => by obtain ⟨o, x1, res, rfl, ho, h, rfl, rfl⟩ := hg; exact Nat.le_of_ble_eq_true rfl) (fun As F r F' hg => by obtain ⟨o, x1, res, rfl, ho, h, rfl, rfl⟩ := hg; exact fX1_solve_ok o x1 _ _ ho h ⟨rfl, rfl⟩)
theorem mcX1_solve : Cond.code yX1_solve cX1_solve 5 (some FieldType.int) ∈ xw_T ∧ Cond.initialized yX1_solve.cls ∈ xw_T ∧ Cond.instanceMethod yX1_solve ∈ xw_T ∧ Cond.selects yX1_solve.cls yX1_solve yX1_solve ∈ xw_T := ⟨(xinT 1048 (by decide +kernel) (by decide +kernel)), (xinT 124 (by decide +kernel) (by decide +kernel)), (xinT 1046 (by decide +kernel) (by decide +kernel)), (xinT 1047 (by decide +kernel) (by decide +kernel))⟩
theorem clX1_149 {fr lo : Nat} (h1 : 3 + 1 ≤ fr) (h2 : 8 + (5 + 11) + 73 ≤ lo) : xCall RX1 fr lo 0 149 1 1 gX1_solve := ⟨_, _, _, _, _, _, ctX1_solve, h1, h2, mcX1_solve.1, (xinT 1148 (by decide +kernel) (by decide +kernel)), mcX1_solve.2.1, ⟨by decide +kernel, by decide +kernel, by decide +kernel⟩, by rw [if_pos rfl]; exact ⟨mcX1_solve.2.2.1, mcX1_solve.2.2.2, _, _, rfl⟩⟩
theorem clX5_57 {fr lo : Nat} (h1 : 3 + 1 ≤ fr) (h2 : 8 + (5 + 11) + 73 ≤ lo) : xCall RX5 fr lo 0 57 1 1 gX1_solve := ⟨_, _, _, _, _, _, ctX1_solve, h1, h2, mcX1_solve.1, (xinT 1288 (by decide +kernel) (by decide +kernel)), mcX1_solve.2.1, ⟨by decide +kernel, by decide +kernel, by decide +kernel⟩, by rw [if_pos rfl]; exact ⟨mcX1_solve.2.2.1, mcX1_solve.2.2.2, _, _, rfl⟩⟩
theorem clX9_254 {fr lo : Nat} (h1 : 3 + 1 ≤ fr) (h2 : 8 + (5 + 11) + 73 ≤ lo) : xCall RX9 fr lo 0 254 1 1 gX1_solve := ⟨_, _, _, _, _, _, ctX1_solve, h1, h2, mcX1_solve.1, (xinT 1045 (by decide +kernel) (by decide +kernel)), mcX1_solve.2.1, ⟨by decide +kernel, by decide +kernel, by decide +kernel⟩, by rw [if_pos rfl]; exact ⟨mcX1_solve.2.2.1, mcX1_solve.2.2.2, _, _, rfl⟩⟩
theorem dX1_going_0 : decode cX1_going 0 = .ok (.iload_n 1, 1) := by decide +kernel
theorem dX1_going_1 : decode cX1_going 1 = .ok (.aload_n 0, 1) := by decide +kernel
theorem dX1_going_2 : decode cX1_going 2 = .ok (.getfield 45, 3) := by decide +kernel
theorem dX1_going_5 : decode cX1_going 5 = .ok (.iload_n 2, 1) := by decide +kernel
theorem dX1_going_6 : decode cX1_going 6 = .ok (.bipush 8, 2) := by decide +kernel
theorem dX1_going_8 : decode cX1_going 8 = .ok (.imul, 1) := by decide +kernel
theorem dX1_going_9 : decode cX1_going 9 = .ok (.iload_n 3, 1) := by decide +kernel
theorem dX1_going_10 : decode cX1_going 10 = .ok (.iadd, 1) := by decide +kernel
theorem dX1_going_11 : decode cX1_going 11 = .ok (.iaload, 1) := by decide +kernel
theorem dX1_going_12 : decode cX1_going 12 = .ok (.iadd, 1) := by decide +kernel
theorem dX1_going_13 : decode cX1_going 13 = .ok (.istore 4, 2) := by decide +kernel
theorem dX1_going_15 : decode cX1_going 15 = .ok (.iload 4, 2) := by decide +kernel
theorem dX1_going_17 : decode cX1_going 17 = .ok (.iload_n 1, 1) := by decide +kernel
theorem dX1_going_18 : decode cX1_going 18 = .ok (.aload_n 0, 1) := by decide +kernel
theorem dX1_going_19 : decode cX1_going 19 = .ok (.getfield 39, 3) := by decide +kernel
theorem dX1_going_22 : decode cX1_going 22 = .ok (.iload_n 1, 1) := by decide +kernel
theorem dX1_going_23 : decode cX1_going 23 = .ok (.iaload, 1) := by decide +kernel
theorem dX1_going_24 : decode cX1_going 24 = .ok (.iadd, 1) := by decide +kernel
theorem dX1_going_25 : decode cX1_going 25 = .ok (.if_icmp .le 6, 3) := by decide +kernel
theorem dX1_going_28 : decode cX1_going 28 = .ok (.ldc 126, 2) := by decide +kernel
theorem dX1_going_30 : decode cX1_going 30 = .ok (.ireturn, 1) := by decide +kernel
theorem dX1_going_31 : decode cX1_going 31 = .ok (.aload_n 0, 1) := by decide +kernel
theorem dX1_going_32 : decode cX1_going 32 = .ok (.getfield 48, 3) := by decide +kernel
theorem dX1_going_35 : decode cX1_going 35 = .ok (.iload 4, 2) := by decide +kernel
theorem dX1_going_37 : decode cX1_going 37 = .ok (.bipush 8, 2) := by decide +kernel
theorem dX1_going_39 : decode cX1_going 39 = .ok (.imul, 1) := by decide +kernel
theorem dX1_going_40 : decode cX1_going 40 = .ok (.iload_n 3, 1) := by decide +kernel
theorem dX1_going_41 : decode cX1_going 41 = .ok (.iadd, 1) := by decide +kernel
theorem dX1_going_42 : decode cX1_going 42 = .ok (.iaload, 1) := by decide +kernel
theorem dX1_going_43 : decode cX1_going 43 = .ok (.istore 5, 2) := by decide +kernel
theorem dX1_going_45 : decode cX1_going 45 = .ok (.iload 5, 2) := by decide +kernel
theorem dX1_going_47 : decode cX1_going 47 = .ok (.ldc 126, 2) := by decide +kernel
theorem dX1_going_49 : decode cX1_going 49 = .ok (.if_icmp .ne 8, 3) := by decide +kernel
theorem dX1_going_52 : decode cX1_going 52 = .ok (.ldc 126, 2) := by decide +kernel
theorem dX1_going_54 : decode cX1_going 54 = .ok (.goto 17, 3) := by decide +kernel
theorem dX1_going_57 : decode cX1_going 57 = .ok (.iload 5, 2) := by decide +kernel
theorem dX1_going_59 : decode cX1_going 59 = .ok (.aload_n 0, 1) := by decide +kernel
theorem dX1_going_60 : decode cX1_going 60 = .ok (.getfield 42, 3) := by decide +kernel
theorem dX1_going_63 : decode cX1_going 63 = .ok (.iload_n 2, 1) := by decide +kernel
theorem dX1_going_64 : decode cX1_going 64 = .ok (.bipush 8, 2) := by decide +kernel
theorem dX1_going_66 : decode cX1_going 66 = .ok (.imul, 1) := by decide +kernel
theorem dX1_going_67 : decode cX1_going 67 = .ok (.iload_n 3, 1) := by decide +kernel
theorem dX1_going_68 : decode cX1_going 68 = .ok (.iadd, 1) := by decide +kernel
theorem dX1_going_69 : decode cX1_going 69 = .ok (.iaload, 1) := by decide +kernel
theorem dX1_going_70 : decode cX1_going 70 = .ok (.isub, 1) := by decide +kernel
theorem dX1_going_71 : decode cX1_going 71 = .ok (.ireturn, 1) := by decide +kernel
def zX1_going (Qr : Option PV → Mem → Prop) : XZ := (RX1, 0, 0, 6, some FieldType.int, Qr)
noncomputable def fX1_going (o : Nat) (x1 : Int) (x2 : Int) (x3 : Int) (F : Mem) : Option Int :=
  if (0 : Int) ≤ (xw ((xw (x2 * 8)) + x3)) ∧ (xw ((xw (x2 * 8)) + x3)) < (alen (o + 6) : Int) then
    if (0 : Int) ≤ x1 ∧ x1 < (alen (o + 4) : Int) then
      if (xw (x1 + (F (o + 6) (xw ((xw (x2 * 8)) + x3)).toNat))) ≤ (xw (x1 + (F (o + 4) x1.toNat))) then
        if (0 : Int) ≤ (xw ((xw ((xw (x1 + (F (o + 6) (xw ((xw (x2 * 8)) + x3)).toNat))) * 8)) + x3)) ∧ (xw ((xw ((xw (x1 + (F (o + 6) (xw ((xw (x2 * 8)) + x3)).toNat))) * 8)) + x3)) < (alen (o + 7) : Int) then
          if (F (o + 7) (xw ((xw ((xw (x1 + (F (o + 6) (xw ((xw (x2 * 8)) + x3)).toNat))) * 8)) + x3)).toNat) ≠ (-1000000000) then
            if (0 : Int) ≤ (xw ((xw (x2 * 8)) + x3)) ∧ (xw ((xw (x2 * 8)) + x3)) < (alen (o + 5) : Int) then
              some (xw ((F (o + 7) (xw ((xw ((xw (x1 + (F (o + 6) (xw ((xw (x2 * 8)) + x3)).toNat))) * 8)) + x3)).toNat) - (F (o + 5) (xw ((xw (x2 * 8)) + x3)).toNat)))
            else none
          else
            some (-1000000000)
        else none
      else
        some (-1000000000)
    else none
  else none
theorem fX1_going_ok {Qr : Option PV → Mem → Prop} : ∀ (o : Nat) (x1 : Int) (x2 : Int) (x3 : Int) (F : Mem) (res : Int) (ho : isK o 1), fX1_going o x1 x2 x3 F = some res → Qr (some (vI res)) F → PR cX1_going (zX1_going Qr) 0 [(0, vR o), (1, vI x1), (2, vI x2), (3, vI x3)] [] F := by
  intro o x1 x2 x3 F res ho h hq
  refine s_iload_n (j := 1) dX1_going_0 rfl rfl ?_
  refine s_aload_n (j := 0) dX1_going_1 rfl rfl ?_
  refine s_getR dX1_going_2 flX1_45 ho ?_
  refine s_iload_n (j := 2) dX1_going_5 rfl rfl ?_
  refine s_bipush dX1_going_6 rfl (cin rfl) ?_
  refine s_imul dX1_going_8 ?_
  refine s_iload_n (j := 3) dX1_going_9 rfl rfl ?_
  refine s_iadd dX1_going_10 ?_
  obtain ⟨hb1, h⟩ := gd h
  refine s_iaload dX1_going_11 (trX1_10 ho) hb1.1 hb1.2 ?_
  refine s_iadd dX1_going_12 ?_
  refine s_istore (ls' := [(4, vI (xw (x1 + (F (o + 6) (xw ((xw (x2 * 8)) + x3)).toNat)))), (0, vR o), (1, vI x1), (2, vI x2), (3, vI x3)]) dX1_going_13 (Nat.le_of_ble_eq_true rfl) rfl ?_
  refine s_iload (j := 0) dX1_going_15 rfl ?_
  refine s_iload_n (j := 2) dX1_going_17 rfl rfl ?_
  refine s_aload_n (j := 1) dX1_going_18 rfl rfl ?_
  refine s_getR dX1_going_19 flX1_39 ho ?_
  refine s_iload_n (j := 2) dX1_going_22 rfl rfl ?_
  obtain ⟨hb2, h⟩ := gd h
  refine s_iaload dX1_going_23 (trX1_8 ho) hb2.1 hb2.2 ?_
  refine s_iadd dX1_going_24 ?_
  refine s_icmp_le (tgt := 31) dX1_going_25 rfl (fun hc3 => ?_) (fun hc3 => ?_)
  · have h := ifp hc3 h
    refine s_aload_n (j := 1) dX1_going_31 rfl rfl ?_
    refine s_getR dX1_going_32 flX1_48 ho ?_
    refine s_iload (j := 0) dX1_going_35 rfl ?_
    refine s_bipush dX1_going_37 rfl (cin rfl) ?_
    refine s_imul dX1_going_39 ?_
    refine s_iload_n (j := 4) dX1_going_40 rfl rfl ?_
    refine s_iadd dX1_going_41 ?_
    obtain ⟨hb4, h⟩ := gd h
    refine s_iaload dX1_going_42 (trX1_11 ho) hb4.1 hb4.2 ?_
    refine s_istore (ls' := [(5, vI (F (o + 7) (xw ((xw ((xw (x1 + (F (o + 6) (xw ((xw (x2 * 8)) + x3)).toNat))) * 8)) + x3)).toNat)), (4, vI (xw (x1 + (F (o + 6) (xw ((xw (x2 * 8)) + x3)).toNat)))), (0, vR o), (1, vI x1), (2, vI x2), (3, vI x3)]) dX1_going_43 (Nat.le_of_ble_eq_true rfl) rfl ?_
    refine s_iload (j := 0) dX1_going_45 rfl ?_
    refine s_ldc dX1_going_47 kcX1_126 (cin rfl) ?_
    refine s_icmp_ne (tgt := 57) dX1_going_49 rfl (fun hc5 => ?_) (fun hc5 => ?_)
    · have h := ifp hc5 h
      refine s_iload (j := 0) dX1_going_57 rfl ?_
      refine s_aload_n (j := 2) dX1_going_59 rfl rfl ?_
      refine s_getR dX1_going_60 flX1_42 ho ?_
      refine s_iload_n (j := 4) dX1_going_63 rfl rfl ?_
      refine s_bipush dX1_going_64 rfl (cin rfl) ?_
      refine s_imul dX1_going_66 ?_
      refine s_iload_n (j := 5) dX1_going_67 rfl rfl ?_
      refine s_iadd dX1_going_68 ?_
      obtain ⟨hb6, h⟩ := gd h
      refine s_iaload dX1_going_69 (trX1_9 ho) hb6.1 hb6.2 ?_
      refine s_isub dX1_going_70 ?_
      have h := Option.some.inj h
      subst h
      exact s_ireturn dX1_going_71 rfl hq
    · have h := ifn hc5 h
      refine s_ldc dX1_going_52 kcX1_126 (cin rfl) ?_
      refine s_goto (tgt := 71) dX1_going_54 rfl ?_
      have h := Option.some.inj h
      subst h
      exact s_ireturn dX1_going_71 rfl hq
  · have h := ifn hc3 h
    refine s_ldc dX1_going_28 kcX1_126 (cin rfl) ?_
    have h := Option.some.inj h
    subst h
    exact s_ireturn dX1_going_30 rfl hq
def gX1_going : XG := fun As F r F' => ∃ o : Nat, ∃ x1 : Int, ∃ x2 : Int, ∃ x3 : Int, ∃ res : Int, As = [vR o, vI x1, vI x2, vI x3] ∧ isK o 1 ∧ fX1_going o x1 x2 x3 F = some res ∧ r = some (vI res) ∧ F' = F
theorem ctX1_going : xCT yX1_going cX1_going 6 (some FieldType.int) 0 0 gX1_going := xmet (by decide +kernel) (fun As F r F' hg => by obtain ⟨o, x1, x2, x3, res, rfl, ho, h, rfl, rfl⟩ := hg; exact Nat.le_of_ble_eq_true rfl) (fun As F r F' hg => by obtain ⟨o, x1, x2, x3, res, rfl, ho, h, rfl, rfl⟩ := hg; exact fX1_going_ok o x1 x2 x3 _ _ ho h ⟨rfl, rfl⟩)
theorem mcX1_going : Cond.code yX1_going cX1_going 6 (some FieldType.int) ∈ xw_T ∧ Cond.initialized yX1_going.cls ∈ xw_T ∧ Cond.instanceMethod yX1_going ∈ xw_T ∧ Cond.selects yX1_going.cls yX1_going yX1_going ∈ xw_T := ⟨(xinT 1093 (by decide +kernel) (by decide +kernel)), (xinT 124 (by decide +kernel) (by decide +kernel)), (xinT 1091 (by decide +kernel) (by decide +kernel)), (xinT 1092 (by decide +kernel) (by decide +kernel))⟩
theorem clX6_77 {fr lo : Nat} (h1 : 0 + 1 ≤ fr) (h2 : 8 + (6 + 11) + 0 ≤ lo) : xCall RX6 fr lo 0 77 1 3 gX1_going := ⟨_, _, _, _, _, _, ctX1_going, h1, h2, mcX1_going.1, (xinT 1090 (by decide +kernel) (by decide +kernel)), mcX1_going.2.1, ⟨by decide +kernel, by decide +kernel, by decide +kernel⟩, by rw [if_pos rfl]; exact ⟨mcX1_going.2.2.1, mcX1_going.2.2.2, _, _, rfl⟩⟩
theorem dX1_scoreAt_0 : decode cX1_scoreAt 0 = .ok (.aload_n 0, 1) := by decide +kernel
theorem dX1_scoreAt_1 : decode cX1_scoreAt 1 = .ok (.getfield 48, 3) := by decide +kernel
theorem dX1_scoreAt_4 : decode cX1_scoreAt 4 = .ok (.iload_n 1, 1) := by decide +kernel
theorem dX1_scoreAt_5 : decode cX1_scoreAt 5 = .ok (.bipush 8, 2) := by decide +kernel
theorem dX1_scoreAt_7 : decode cX1_scoreAt 7 = .ok (.imul, 1) := by decide +kernel
theorem dX1_scoreAt_8 : decode cX1_scoreAt 8 = .ok (.iload_n 2, 1) := by decide +kernel
theorem dX1_scoreAt_9 : decode cX1_scoreAt 9 = .ok (.iadd, 1) := by decide +kernel
theorem dX1_scoreAt_10 : decode cX1_scoreAt 10 = .ok (.iaload, 1) := by decide +kernel
theorem dX1_scoreAt_11 : decode cX1_scoreAt 11 = .ok (.ireturn, 1) := by decide +kernel
def zX1_scoreAt (Qr : Option PV → Mem → Prop) : XZ := (RX1, 0, 0, 3, some FieldType.int, Qr)
noncomputable def fX1_scoreAt (o : Nat) (x1 : Int) (x2 : Int) (F : Mem) : Option Int :=
  if (0 : Int) ≤ (xw ((xw (x1 * 8)) + x2)) ∧ (xw ((xw (x1 * 8)) + x2)) < (alen (o + 7) : Int) then
    some (F (o + 7) (xw ((xw (x1 * 8)) + x2)).toNat)
  else none
theorem fX1_scoreAt_ok {Qr : Option PV → Mem → Prop} : ∀ (o : Nat) (x1 : Int) (x2 : Int) (F : Mem) (res : Int) (ho : isK o 1), fX1_scoreAt o x1 x2 F = some res → Qr (some (vI res)) F → PR cX1_scoreAt (zX1_scoreAt Qr) 0 [(0, vR o), (1, vI x1), (2, vI x2)] [] F := by
  intro o x1 x2 F res ho h hq
  refine s_aload_n (j := 0) dX1_scoreAt_0 rfl rfl ?_
  refine s_getR dX1_scoreAt_1 flX1_48 ho ?_
  refine s_iload_n (j := 1) dX1_scoreAt_4 rfl rfl ?_
  refine s_bipush dX1_scoreAt_5 rfl (cin rfl) ?_
  refine s_imul dX1_scoreAt_7 ?_
  refine s_iload_n (j := 2) dX1_scoreAt_8 rfl rfl ?_
  refine s_iadd dX1_scoreAt_9 ?_
  obtain ⟨hb1, h⟩ := gd h
  refine s_iaload dX1_scoreAt_10 (trX1_11 ho) hb1.1 hb1.2 ?_
  have h := Option.some.inj h
  subst h
  exact s_ireturn dX1_scoreAt_11 rfl hq
def gX1_scoreAt : XG := fun As F r F' => ∃ o : Nat, ∃ x1 : Int, ∃ x2 : Int, ∃ res : Int, As = [vR o, vI x1, vI x2] ∧ isK o 1 ∧ fX1_scoreAt o x1 x2 F = some res ∧ r = some (vI res) ∧ F' = F
theorem ctX1_scoreAt : xCT yX1_scoreAt cX1_scoreAt 3 (some FieldType.int) 0 0 gX1_scoreAt := xmet (by decide +kernel) (fun As F r F' hg => by obtain ⟨o, x1, x2, res, rfl, ho, h, rfl, rfl⟩ := hg; exact Nat.le_of_ble_eq_true rfl) (fun As F r F' hg => by obtain ⟨o, x1, x2, res, rfl, ho, h, rfl, rfl⟩ := hg; exact fX1_scoreAt_ok o x1 x2 _ _ ho h ⟨rfl, rfl⟩)
theorem mcX1_scoreAt : Cond.code yX1_scoreAt cX1_scoreAt 3 (some FieldType.int) ∈ xw_T ∧ Cond.initialized yX1_scoreAt.cls ∈ xw_T ∧ Cond.instanceMethod yX1_scoreAt ∈ xw_T ∧ Cond.selects yX1_scoreAt.cls yX1_scoreAt yX1_scoreAt ∈ xw_T := ⟨(xinT 1088 (by decide +kernel) (by decide +kernel)), (xinT 124 (by decide +kernel) (by decide +kernel)), (xinT 1086 (by decide +kernel) (by decide +kernel)), (xinT 1087 (by decide +kernel) (by decide +kernel))⟩
theorem clX6_62 {fr lo : Nat} (h1 : 0 + 1 ≤ fr) (h2 : 8 + (3 + 11) + 0 ≤ lo) : xCall RX6 fr lo 0 62 1 2 gX1_scoreAt := ⟨_, _, _, _, _, _, ctX1_scoreAt, h1, h2, mcX1_scoreAt.1, (xinT 1085 (by decide +kernel) (by decide +kernel)), mcX1_scoreAt.2.1, ⟨by decide +kernel, by decide +kernel, by decide +kernel⟩, by rw [if_pos rfl]; exact ⟨mcX1_scoreAt.2.2.1, mcX1_scoreAt.2.2.2, _, _, rfl⟩⟩
theorem dX1_gainIn_0 : decode cX1_gainIn 0 = .ok (.aload_n 0, 1) := by decide +kernel
theorem dX1_gainIn_1 : decode cX1_gainIn 1 = .ok (.getfield 33, 3) := by decide +kernel
theorem dX1_gainIn_4 : decode cX1_gainIn 4 = .ok (.iload_n 1, 1) := by decide +kernel
theorem dX1_gainIn_5 : decode cX1_gainIn 5 = .ok (.bipush 8, 2) := by decide +kernel
theorem dX1_gainIn_7 : decode cX1_gainIn 7 = .ok (.imul, 1) := by decide +kernel
theorem dX1_gainIn_8 : decode cX1_gainIn 8 = .ok (.iload_n 2, 1) := by decide +kernel
theorem dX1_gainIn_9 : decode cX1_gainIn 9 = .ok (.iadd, 1) := by decide +kernel
theorem dX1_gainIn_10 : decode cX1_gainIn 10 = .ok (.iaload, 1) := by decide +kernel
theorem dX1_gainIn_11 : decode cX1_gainIn 11 = .ok (.ireturn, 1) := by decide +kernel
def zX1_gainIn (Qr : Option PV → Mem → Prop) : XZ := (RX1, 0, 0, 3, some FieldType.int, Qr)
noncomputable def fX1_gainIn (o : Nat) (x1 : Int) (x2 : Int) (F : Mem) : Option Int :=
  if (0 : Int) ≤ (xw ((xw (x1 * 8)) + x2)) ∧ (xw ((xw (x1 * 8)) + x2)) < (alen (o + 2) : Int) then
    some (F (o + 2) (xw ((xw (x1 * 8)) + x2)).toNat)
  else none
theorem fX1_gainIn_ok {Qr : Option PV → Mem → Prop} : ∀ (o : Nat) (x1 : Int) (x2 : Int) (F : Mem) (res : Int) (ho : isK o 1), fX1_gainIn o x1 x2 F = some res → Qr (some (vI res)) F → PR cX1_gainIn (zX1_gainIn Qr) 0 [(0, vR o), (1, vI x1), (2, vI x2)] [] F := by
  intro o x1 x2 F res ho h hq
  refine s_aload_n (j := 0) dX1_gainIn_0 rfl rfl ?_
  refine s_getR dX1_gainIn_1 flX1_33 ho ?_
  refine s_iload_n (j := 1) dX1_gainIn_4 rfl rfl ?_
  refine s_bipush dX1_gainIn_5 rfl (cin rfl) ?_
  refine s_imul dX1_gainIn_7 ?_
  refine s_iload_n (j := 2) dX1_gainIn_8 rfl rfl ?_
  refine s_iadd dX1_gainIn_9 ?_
  obtain ⟨hb1, h⟩ := gd h
  refine s_iaload dX1_gainIn_10 (trX1_6 ho) hb1.1 hb1.2 ?_
  have h := Option.some.inj h
  subst h
  exact s_ireturn dX1_gainIn_11 rfl hq
def gX1_gainIn : XG := fun As F r F' => ∃ o : Nat, ∃ x1 : Int, ∃ x2 : Int, ∃ res : Int, As = [vR o, vI x1, vI x2] ∧ isK o 1 ∧ fX1_gainIn o x1 x2 F = some res ∧ r = some (vI res) ∧ F' = F
theorem ctX1_gainIn : xCT yX1_gainIn cX1_gainIn 3 (some FieldType.int) 0 0 gX1_gainIn := xmet (by decide +kernel) (fun As F r F' hg => by obtain ⟨o, x1, x2, res, rfl, ho, h, rfl, rfl⟩ := hg; exact Nat.le_of_ble_eq_true rfl) (fun As F r F' hg => by obtain ⟨o, x1, x2, res, rfl, ho, h, rfl, rfl⟩ := hg; exact fX1_gainIn_ok o x1 x2 _ _ ho h ⟨rfl, rfl⟩)
theorem mcX1_gainIn : Cond.code yX1_gainIn cX1_gainIn 3 (some FieldType.int) ∈ xw_T ∧ Cond.initialized yX1_gainIn.cls ∈ xw_T ∧ Cond.instanceMethod yX1_gainIn ∈ xw_T ∧ Cond.selects yX1_gainIn.cls yX1_gainIn yX1_gainIn ∈ xw_T := ⟨(xinT 1102 (by decide +kernel) (by decide +kernel)), (xinT 124 (by decide +kernel) (by decide +kernel)), (xinT 1100 (by decide +kernel) (by decide +kernel)), (xinT 1101 (by decide +kernel) (by decide +kernel))⟩
theorem clX6_59 {fr lo : Nat} (h1 : 0 + 1 ≤ fr) (h2 : 8 + (3 + 11) + 0 ≤ lo) : xCall RX6 fr lo 0 59 1 2 gX1_gainIn := ⟨_, _, _, _, _, _, ctX1_gainIn, h1, h2, mcX1_gainIn.1, (xinT 1099 (by decide +kernel) (by decide +kernel)), mcX1_gainIn.2.1, ⟨by decide +kernel, by decide +kernel, by decide +kernel⟩, by rw [if_pos rfl]; exact ⟨mcX1_gainIn.2.2.1, mcX1_gainIn.2.2.2, _, _, rfl⟩⟩
theorem dX1_timeOf_0 : decode cX1_timeOf 0 = .ok (.aload_n 0, 1) := by decide +kernel
theorem dX1_timeOf_1 : decode cX1_timeOf 1 = .ok (.getfield 45, 3) := by decide +kernel
theorem dX1_timeOf_4 : decode cX1_timeOf 4 = .ok (.iload_n 1, 1) := by decide +kernel
theorem dX1_timeOf_5 : decode cX1_timeOf 5 = .ok (.bipush 8, 2) := by decide +kernel
theorem dX1_timeOf_7 : decode cX1_timeOf 7 = .ok (.imul, 1) := by decide +kernel
theorem dX1_timeOf_8 : decode cX1_timeOf 8 = .ok (.iload_n 2, 1) := by decide +kernel
theorem dX1_timeOf_9 : decode cX1_timeOf 9 = .ok (.iadd, 1) := by decide +kernel
theorem dX1_timeOf_10 : decode cX1_timeOf 10 = .ok (.iaload, 1) := by decide +kernel
theorem dX1_timeOf_11 : decode cX1_timeOf 11 = .ok (.ireturn, 1) := by decide +kernel
def zX1_timeOf (Qr : Option PV → Mem → Prop) : XZ := (RX1, 0, 0, 3, some FieldType.int, Qr)
noncomputable def fX1_timeOf (o : Nat) (x1 : Int) (x2 : Int) (F : Mem) : Option Int :=
  if (0 : Int) ≤ (xw ((xw (x1 * 8)) + x2)) ∧ (xw ((xw (x1 * 8)) + x2)) < (alen (o + 6) : Int) then
    some (F (o + 6) (xw ((xw (x1 * 8)) + x2)).toNat)
  else none
theorem fX1_timeOf_ok {Qr : Option PV → Mem → Prop} : ∀ (o : Nat) (x1 : Int) (x2 : Int) (F : Mem) (res : Int) (ho : isK o 1), fX1_timeOf o x1 x2 F = some res → Qr (some (vI res)) F → PR cX1_timeOf (zX1_timeOf Qr) 0 [(0, vR o), (1, vI x1), (2, vI x2)] [] F := by
  intro o x1 x2 F res ho h hq
  refine s_aload_n (j := 0) dX1_timeOf_0 rfl rfl ?_
  refine s_getR dX1_timeOf_1 flX1_45 ho ?_
  refine s_iload_n (j := 1) dX1_timeOf_4 rfl rfl ?_
  refine s_bipush dX1_timeOf_5 rfl (cin rfl) ?_
  refine s_imul dX1_timeOf_7 ?_
  refine s_iload_n (j := 2) dX1_timeOf_8 rfl rfl ?_
  refine s_iadd dX1_timeOf_9 ?_
  obtain ⟨hb1, h⟩ := gd h
  refine s_iaload dX1_timeOf_10 (trX1_10 ho) hb1.1 hb1.2 ?_
  have h := Option.some.inj h
  subst h
  exact s_ireturn dX1_timeOf_11 rfl hq
def gX1_timeOf : XG := fun As F r F' => ∃ o : Nat, ∃ x1 : Int, ∃ x2 : Int, ∃ res : Int, As = [vR o, vI x1, vI x2] ∧ isK o 1 ∧ fX1_timeOf o x1 x2 F = some res ∧ r = some (vI res) ∧ F' = F
theorem ctX1_timeOf : xCT yX1_timeOf cX1_timeOf 3 (some FieldType.int) 0 0 gX1_timeOf := xmet (by decide +kernel) (fun As F r F' hg => by obtain ⟨o, x1, x2, res, rfl, ho, h, rfl, rfl⟩ := hg; exact Nat.le_of_ble_eq_true rfl) (fun As F r F' hg => by obtain ⟨o, x1, x2, res, rfl, ho, h, rfl, rfl⟩ := hg; exact fX1_timeOf_ok o x1 x2 _ _ ho h ⟨rfl, rfl⟩)
theorem mcX1_timeOf : Cond.code yX1_timeOf cX1_timeOf 3 (some FieldType.int) ∈ xw_T ∧ Cond.initialized yX1_timeOf.cls ∈ xw_T ∧ Cond.instanceMethod yX1_timeOf ∈ xw_T ∧ Cond.selects yX1_timeOf.cls yX1_timeOf yX1_timeOf ∈ xw_T := ⟨(xinT 1097 (by decide +kernel) (by decide +kernel)), (xinT 124 (by decide +kernel) (by decide +kernel)), (xinT 1095 (by decide +kernel) (by decide +kernel)), (xinT 1096 (by decide +kernel) (by decide +kernel))⟩
theorem clX6_50 {fr lo : Nat} (h1 : 0 + 1 ≤ fr) (h2 : 8 + (3 + 11) + 0 ≤ lo) : xCall RX6 fr lo 0 50 1 2 gX1_timeOf := ⟨_, _, _, _, _, _, ctX1_timeOf, h1, h2, mcX1_timeOf.1, (xinT 1094 (by decide +kernel) (by decide +kernel)), mcX1_timeOf.2.1, ⟨by decide +kernel, by decide +kernel, by decide +kernel⟩, by rw [if_pos rfl]; exact ⟨mcX1_timeOf.2.2.1, mcX1_timeOf.2.2.2, _, _, rfl⟩⟩
theorem dX1_isWay_0 : decode cX1_isWay 0 = .ok (.iload_n 0, 1) := by decide +kernel
theorem dX1_isWay_1 : decode cX1_isWay 1 = .ok (.ldc 126, 2) := by decide +kernel
theorem dX1_isWay_3 : decode cX1_isWay 3 = .ok (.if_icmp .eq 7, 3) := by decide +kernel
theorem dX1_isWay_6 : decode cX1_isWay 6 = .ok (.iconst 1, 1) := by decide +kernel
theorem dX1_isWay_7 : decode cX1_isWay 7 = .ok (.goto 4, 3) := by decide +kernel
theorem dX1_isWay_10 : decode cX1_isWay 10 = .ok (.iconst 0, 1) := by decide +kernel
theorem dX1_isWay_11 : decode cX1_isWay 11 = .ok (.ireturn, 1) := by decide +kernel
def zX1_isWay (Qr : Option PV → Mem → Prop) : XZ := (RX1, 0, 0, 1, some FieldType.boolean, Qr)
noncomputable def fX1_isWay (x0 : Int) : Int :=
  if x0 = (-1000000000) then
    0
  else
    1
theorem fX1_isWay_ok {Qr : Option PV → Mem → Prop} : ∀ (x0 : Int) (F : Mem) (res : Int), fX1_isWay x0 = res → Qr (some (vI res)) F → PR cX1_isWay (zX1_isWay Qr) 0 [(0, vI x0)] [] F := by
  intro x0 F res  h hq
  refine s_iload_n (j := 0) dX1_isWay_0 rfl rfl ?_
  refine s_ldc dX1_isWay_1 kcX1_126 (cin rfl) ?_
  refine s_icmp_eq (tgt := 10) dX1_isWay_3 rfl (fun hc1 => ?_) (fun hc1 => ?_)
  · have h := ifp hc1 h
    refine s_iconst dX1_isWay_10 (cin rfl) ?_
    subst h
    exact s_zreturn dX1_isWay_11 rfl (Or.inl rfl) hq
  · have h := ifn hc1 h
    refine s_iconst dX1_isWay_6 (cin rfl) ?_
    refine s_goto (tgt := 11) dX1_isWay_7 rfl ?_
    subst h
    exact s_zreturn dX1_isWay_11 rfl (Or.inr rfl) hq
def gX1_isWay : XG := fun As F r F' => ∃ x0 : Int, ∃ res : Int, As = [vI x0] ∧ fX1_isWay x0 = res ∧ r = some (vI res) ∧ F' = F
theorem ctX1_isWay : xCT yX1_isWay cX1_isWay 1 (some FieldType.boolean) 0 0 gX1_isWay := xmet (by decide +kernel) (fun As F r F' hg => by obtain ⟨x0, res, rfl, h, rfl, rfl⟩ := hg; exact Nat.le_of_ble_eq_true rfl) (fun As F r F' hg => by obtain ⟨x0, res, rfl, h, rfl, rfl⟩ := hg; exact fX1_isWay_ok x0 _ _  h ⟨rfl, rfl⟩)
theorem mcX1_isWay : Cond.code yX1_isWay cX1_isWay 1 (some FieldType.boolean) ∈ xw_T ∧ Cond.initialized yX1_isWay.cls ∈ xw_T ∧ Cond.static yX1_isWay ∈ xw_T := ⟨(xinT 1263 (by decide +kernel) (by decide +kernel)), (xinT 124 (by decide +kernel) (by decide +kernel)), (xinT 1262 (by decide +kernel) (by decide +kernel))⟩
theorem clX6_110 {fr lo : Nat} (h1 : 0 + 1 ≤ fr) (h2 : 8 + (1 + 11) + 0 ≤ lo) : xCall RX6 fr lo 1 110 0 1 gX1_isWay := ⟨_, _, _, _, _, _, ctX1_isWay, h1, h2, mcX1_isWay.1, (xinT 1261 (by decide +kernel) (by decide +kernel)), mcX1_isWay.2.1, ⟨by decide +kernel, by decide +kernel, by decide +kernel⟩, by rw [if_neg (by decide)]; exact mcX1_isWay.2.2⟩
theorem dX1_climb_0 : decode cX1_climb 0 = .ok (.aload_n 0, 1) := by decide +kernel
theorem dX1_climb_1 : decode cX1_climb 1 = .ok (.getfield 48, 3) := by decide +kernel
theorem dX1_climb_4 : decode cX1_climb 4 = .ok (.aload_n 0, 1) := by decide +kernel
theorem dX1_climb_5 : decode cX1_climb 5 = .ok (.getfield 9, 3) := by decide +kernel
theorem dX1_climb_8 : decode cX1_climb 8 = .ok (.getfield 130, 3) := by decide +kernel
theorem dX1_climb_11 : decode cX1_climb 11 = .ok (.iaload, 1) := by decide +kernel
theorem dX1_climb_12 : decode cX1_climb 12 = .ok (.istore_n 1, 1) := by decide +kernel
theorem dX1_climb_13 : decode cX1_climb 13 = .ok (.iload_n 1, 1) := by decide +kernel
theorem dX1_climb_14 : decode cX1_climb 14 = .ok (.ldc 126, 2) := by decide +kernel
theorem dX1_climb_16 : decode cX1_climb 16 = .ok (.if_icmp .ne 7, 3) := by decide +kernel
theorem dX1_climb_19 : decode cX1_climb 19 = .ok (.iconst (-1), 1) := by decide +kernel
theorem dX1_climb_20 : decode cX1_climb 20 = .ok (.goto 12, 3) := by decide +kernel
theorem dX1_climb_23 : decode cX1_climb 23 = .ok (.iload_n 1, 1) := by decide +kernel
theorem dX1_climb_24 : decode cX1_climb 24 = .ok (.invokestatic 133, 3) := by decide +kernel
theorem dX1_climb_27 : decode cX1_climb 27 = .ok (.ldc 144, 2) := by decide +kernel
theorem dX1_climb_29 : decode cX1_climb 29 = .ok (.imul, 1) := by decide +kernel
theorem dX1_climb_30 : decode cX1_climb 30 = .ok (.iload_n 1, 1) := by decide +kernel
theorem dX1_climb_31 : decode cX1_climb 31 = .ok (.isub, 1) := by decide +kernel
theorem dX1_climb_32 : decode cX1_climb 32 = .ok (.ireturn, 1) := by decide +kernel
def zX1_climb (Qr : Option PV → Mem → Prop) : XZ := (RX1, 1, 20, 2, some FieldType.int, Qr)
noncomputable def fX1_climb (o : Nat) (F : Mem) : Option Int :=
  if (F o 0).toNat = 0 then none else
  if (0 : Int) ≤ (F ((F o 0).toNat) 4) ∧ (F ((F o 0).toNat) 4) < (alen (o + 7) : Int) then
    if (F (o + 7) (F ((F o 0).toNat) 4).toNat) ≠ (-1000000000) then
      some (xw ((xw ((fX1_gainOf (F (o + 7) (F ((F o 0).toNat) 4).toNat)) * 65536)) - (F (o + 7) (F ((F o 0).toNat) 4).toNat)))
    else
      some (-1)
  else none
theorem fX1_climb_ok {Qr : Option PV → Mem → Prop} : ∀ (o : Nat) (F : Mem) (res : Int) (ho : isK o 1), fX1_climb o F = some res → Qr (some (vI res)) F → PR cX1_climb (zX1_climb Qr) 0 [(0, vR o)] [] F := by
  intro o F res ho h hq
  refine s_aload_n (j := 0) dX1_climb_0 rfl rfl ?_
  refine s_getR dX1_climb_1 flX1_48 ho ?_
  refine s_aload_n (j := 0) dX1_climb_4 rfl rfl ?_
  refine s_getM dX1_climb_5 flX1_9 ho (fun hm1 => ?_)
  have hm1 : _ = 0 ∨ isK ((F o 0).toNat) 7 := hm1
  obtain ⟨hn2, h⟩ := gdn h
  refine s_getI dX1_climb_8 flX1_130 (hm1.resolve_left hn2) ?_
  obtain ⟨hb3, h⟩ := gd h
  refine s_iaload dX1_climb_11 (trX1_11 ho) hb3.1 hb3.2 ?_
  refine s_istore_n (ls' := [(1, vI (F (o + 7) (F ((F o 0).toNat) 4).toNat)), (0, vR o)]) dX1_climb_12 rfl (Nat.le_of_ble_eq_true rfl) rfl ?_
  refine s_iload_n (j := 0) dX1_climb_13 rfl rfl ?_
  refine s_ldc dX1_climb_14 kcX1_126 (cin rfl) ?_
  refine s_icmp_ne (tgt := 23) dX1_climb_16 rfl (fun hc4 => ?_) (fun hc4 => ?_)
  · have h := ifp hc4 h
    refine s_iload_n (j := 0) dX1_climb_23 rfl rfl ?_
    refine s_callS (As := [vI (F (o + 7) (F ((F o 0).toNat) 4).toNat)]) (rest := []) (r := (some (vI (fX1_gainOf (F (o + 7) (F ((F o 0).toNat) 4).toNat))))) (F' := F) dX1_climb_24 (clX1_133 (Nat.le_of_ble_eq_true rfl) (Nat.le_of_ble_eq_true rfl)) rfl ⟨_, _, rfl, rfl, rfl, rfl⟩ rfl (Nat.le_of_ble_eq_true rfl) ?_
    refine s_ldc dX1_climb_27 kcX1_144 (cin rfl) ?_
    refine s_imul dX1_climb_29 ?_
    refine s_iload_n (j := 0) dX1_climb_30 rfl rfl ?_
    refine s_isub dX1_climb_31 ?_
    have h := Option.some.inj h
    subst h
    exact s_ireturn dX1_climb_32 rfl hq
  · have h := ifn hc4 h
    refine s_iconst dX1_climb_19 (cin rfl) ?_
    refine s_goto (tgt := 32) dX1_climb_20 rfl ?_
    have h := Option.some.inj h
    subst h
    exact s_ireturn dX1_climb_32 rfl hq
def gX1_climb : XG := fun As F r F' => ∃ o : Nat, ∃ res : Int, As = [vR o] ∧ isK o 1 ∧ fX1_climb o F = some res ∧ r = some (vI res) ∧ F' = F
theorem ctX1_climb : xCT yX1_climb cX1_climb 2 (some FieldType.int) 1 20 gX1_climb := xmet (by decide +kernel) (fun As F r F' hg => by obtain ⟨o, res, rfl, ho, h, rfl, rfl⟩ := hg; exact Nat.le_of_ble_eq_true rfl) (fun As F r F' hg => by obtain ⟨o, res, rfl, ho, h, rfl, rfl⟩ := hg; exact fX1_climb_ok o _ _ ho h ⟨rfl, rfl⟩)
theorem mcX1_climb : Cond.code yX1_climb cX1_climb 2 (some FieldType.int) ∈ xw_T ∧ Cond.initialized yX1_climb.cls ∈ xw_T ∧ Cond.instanceMethod yX1_climb ∈ xw_T ∧ Cond.selects yX1_climb.cls yX1_climb yX1_climb ∈ xw_T := ⟨(xinT 1073 (by decide +kernel) (by decide +kernel)), (xinT 124 (by decide +kernel) (by decide +kernel)), (xinT 1071 (by decide +kernel) (by decide +kernel)), (xinT 1072 (by decide +kernel) (by decide +kernel))⟩
theorem clX9_257 {fr lo : Nat} (h1 : 1 + 1 ≤ fr) (h2 : 8 + (2 + 11) + 20 ≤ lo) : xCall RX9 fr lo 0 257 1 0 gX1_climb := ⟨_, _, _, _, _, _, ctX1_climb, h1, h2, mcX1_climb.1, (xinT 1070 (by decide +kernel) (by decide +kernel)), mcX1_climb.2.1, ⟨by decide +kernel, by decide +kernel, by decide +kernel⟩, by rw [if_pos rfl]; exact ⟨mcX1_climb.2.2.1, mcX1_climb.2.2.2, _, _, rfl⟩⟩
theorem dX1_harmOf_0 : decode cX1_harmOf 0 = .ok (.aload_n 0, 1) := by decide +kernel
theorem dX1_harmOf_1 : decode cX1_harmOf 1 = .ok (.getfield 51, 3) := by decide +kernel
theorem dX1_harmOf_4 : decode cX1_harmOf 4 = .ok (.iload_n 3, 1) := by decide +kernel
theorem dX1_harmOf_5 : decode cX1_harmOf 5 = .ok (.bipush 8, 2) := by decide +kernel
theorem dX1_harmOf_7 : decode cX1_harmOf 7 = .ok (.imul, 1) := by decide +kernel
theorem dX1_harmOf_8 : decode cX1_harmOf 8 = .ok (.iload_n 2, 1) := by decide +kernel
theorem dX1_harmOf_9 : decode cX1_harmOf 9 = .ok (.iadd, 1) := by decide +kernel
theorem dX1_harmOf_10 : decode cX1_harmOf 10 = .ok (.iaload, 1) := by decide +kernel
theorem dX1_harmOf_11 : decode cX1_harmOf 11 = .ok (.istore 5, 2) := by decide +kernel
theorem dX1_harmOf_13 : decode cX1_harmOf 13 = .ok (.aload_n 0, 1) := by decide +kernel
theorem dX1_harmOf_14 : decode cX1_harmOf 14 = .ok (.getfield 48, 3) := by decide +kernel
theorem dX1_harmOf_17 : decode cX1_harmOf 17 = .ok (.iload 4, 2) := by decide +kernel
theorem dX1_harmOf_19 : decode cX1_harmOf 19 = .ok (.bipush 8, 2) := by decide +kernel
theorem dX1_harmOf_21 : decode cX1_harmOf 21 = .ok (.imul, 1) := by decide +kernel
theorem dX1_harmOf_22 : decode cX1_harmOf 22 = .ok (.iload_n 2, 1) := by decide +kernel
theorem dX1_harmOf_23 : decode cX1_harmOf 23 = .ok (.iadd, 1) := by decide +kernel
theorem dX1_harmOf_24 : decode cX1_harmOf 24 = .ok (.iaload, 1) := by decide +kernel
theorem dX1_harmOf_25 : decode cX1_harmOf 25 = .ok (.istore 6, 2) := by decide +kernel
theorem dX1_harmOf_27 : decode cX1_harmOf 27 = .ok (.iload 5, 2) := by decide +kernel
theorem dX1_harmOf_29 : decode cX1_harmOf 29 = .ok (.ldc 126, 2) := by decide +kernel
theorem dX1_harmOf_31 : decode cX1_harmOf 31 = .ok (.if_icmp .eq 10, 3) := by decide +kernel
theorem dX1_harmOf_34 : decode cX1_harmOf 34 = .ok (.iload 6, 2) := by decide +kernel
theorem dX1_harmOf_36 : decode cX1_harmOf 36 = .ok (.ldc 126, 2) := by decide +kernel
theorem dX1_harmOf_38 : decode cX1_harmOf 38 = .ok (.if_icmp .ne 5, 3) := by decide +kernel
theorem dX1_harmOf_41 : decode cX1_harmOf 41 = .ok (.iconst (-1), 1) := by decide +kernel
theorem dX1_harmOf_42 : decode cX1_harmOf 42 = .ok (.ireturn, 1) := by decide +kernel
theorem dX1_harmOf_43 : decode cX1_harmOf 43 = .ok (.iload 5, 2) := by decide +kernel
theorem dX1_harmOf_45 : decode cX1_harmOf 45 = .ok (.iload 6, 2) := by decide +kernel
theorem dX1_harmOf_47 : decode cX1_harmOf 47 = .ok (.iadd, 1) := by decide +kernel
theorem dX1_harmOf_48 : decode cX1_harmOf 48 = .ok (.istore 7, 2) := by decide +kernel
theorem dX1_harmOf_50 : decode cX1_harmOf 50 = .ok (.iload_n 3, 1) := by decide +kernel
theorem dX1_harmOf_51 : decode cX1_harmOf 51 = .ok (.istore 8, 2) := by decide +kernel
theorem dX1_harmOf_53 : decode cX1_harmOf 53 = .ok (.iload 8, 2) := by decide +kernel
theorem dX1_harmOf_55 : decode cX1_harmOf 55 = .ok (.iload 4, 2) := by decide +kernel
theorem dX1_harmOf_57 : decode cX1_harmOf 57 = .ok (.if_icmp .ge 41, 3) := by decide +kernel
theorem dX1_harmOf_60 : decode cX1_harmOf 60 = .ok (.aload_n 0, 1) := by decide +kernel
theorem dX1_harmOf_61 : decode cX1_harmOf 61 = .ok (.iload 8, 2) := by decide +kernel
theorem dX1_harmOf_63 : decode cX1_harmOf 63 = .ok (.iload_n 2, 1) := by decide +kernel
theorem dX1_harmOf_64 : decode cX1_harmOf 64 = .ok (.invokevirtual 140, 3) := by decide +kernel
theorem dX1_harmOf_67 : decode cX1_harmOf 67 = .ok (.ifCond .ne 5, 3) := by decide +kernel
theorem dX1_harmOf_70 : decode cX1_harmOf 70 = .ok (.iconst (-1), 1) := by decide +kernel
theorem dX1_harmOf_71 : decode cX1_harmOf 71 = .ok (.ireturn, 1) := by decide +kernel
theorem dX1_harmOf_72 : decode cX1_harmOf 72 = .ok (.iload 7, 2) := by decide +kernel
theorem dX1_harmOf_74 : decode cX1_harmOf 74 = .ok (.aload_n 0, 1) := by decide +kernel
theorem dX1_harmOf_75 : decode cX1_harmOf 75 = .ok (.getfield 33, 3) := by decide +kernel
theorem dX1_harmOf_78 : decode cX1_harmOf 78 = .ok (.iload 8, 2) := by decide +kernel
theorem dX1_harmOf_80 : decode cX1_harmOf 80 = .ok (.bipush 8, 2) := by decide +kernel
theorem dX1_harmOf_82 : decode cX1_harmOf 82 = .ok (.imul, 1) := by decide +kernel
theorem dX1_harmOf_83 : decode cX1_harmOf 83 = .ok (.iload_n 2, 1) := by decide +kernel
theorem dX1_harmOf_84 : decode cX1_harmOf 84 = .ok (.iadd, 1) := by decide +kernel
theorem dX1_harmOf_85 : decode cX1_harmOf 85 = .ok (.iaload, 1) := by decide +kernel
theorem dX1_harmOf_86 : decode cX1_harmOf 86 = .ok (.ldc 144, 2) := by decide +kernel
theorem dX1_harmOf_88 : decode cX1_harmOf 88 = .ok (.imul, 1) := by decide +kernel
theorem dX1_harmOf_89 : decode cX1_harmOf 89 = .ok (.iadd, 1) := by decide +kernel
theorem dX1_harmOf_90 : decode cX1_harmOf 90 = .ok (.istore 7, 2) := by decide +kernel
theorem dX1_harmOf_92 : decode cX1_harmOf 92 = .ok (.iinc 8 1, 3) := by decide +kernel
theorem dX1_harmOf_95 : decode cX1_harmOf 95 = .ok (.goto (-42), 3) := by decide +kernel
theorem dX1_harmOf_98 : decode cX1_harmOf 98 = .ok (.iload_n 1, 1) := by decide +kernel
theorem dX1_harmOf_99 : decode cX1_harmOf 99 = .ok (.iload 7, 2) := by decide +kernel
theorem dX1_harmOf_101 : decode cX1_harmOf 101 = .ok (.invokestatic 133, 3) := by decide +kernel
theorem dX1_harmOf_104 : decode cX1_harmOf 104 = .ok (.isub, 1) := by decide +kernel
theorem dX1_harmOf_105 : decode cX1_harmOf 105 = .ok (.ireturn, 1) := by decide +kernel
def zX1_harmOf (Qr : Option PV → Mem → Prop) : XZ := (RX1, 1, 22, 9, some FieldType.int, Qr)
noncomputable def fX1_harmOf_b53 (F : Mem) : Nat → Nat → Int → Int → Int → Int → Int → Option Int
  | 0, _, _, _, _, _, _ => none
  | n + 1, o, x1, x2, x4, x7, x8 =>
    if x4 ≤ x8 then
      some (xw (x1 - (fX1_gainOf x7)))
    else
      (fX1_canStay o x8 x2 F).bind fun r2 =>
      if r2 ≠ 0 then
        if (0 : Int) ≤ (xw ((xw (x8 * 8)) + x2)) ∧ (xw ((xw (x8 * 8)) + x2)) < (alen (o + 2) : Int) then
          fX1_harmOf_b53 F n o x1 x2 x4 (xw (x7 + (xw ((F (o + 2) (xw ((xw (x8 * 8)) + x2)).toNat) * 65536)))) (xw (x8 + 1))
        else none
      else
        some (-1)
noncomputable def fX1_harmOf (o : Nat) (x1 : Int) (x2 : Int) (x3 : Int) (x4 : Int) (F : Mem) : Option Int :=
  if (0 : Int) ≤ (xw ((xw (x3 * 8)) + x2)) ∧ (xw ((xw (x3 * 8)) + x2)) < (alen (o + 8) : Int) then
    if (0 : Int) ≤ (xw ((xw (x4 * 8)) + x2)) ∧ (xw ((xw (x4 * 8)) + x2)) < (alen (o + 7) : Int) then
      if (F (o + 8) (xw ((xw (x3 * 8)) + x2)).toNat) = (-1000000000) then
        some (-1)
      else
        if (F (o + 7) (xw ((xw (x4 * 8)) + x2)).toNat) ≠ (-1000000000) then
          fX1_harmOf_b53 F FU o x1 x2 x4 (xw ((F (o + 8) (xw ((xw (x3 * 8)) + x2)).toNat) + (F (o + 7) (xw ((xw (x4 * 8)) + x2)).toNat))) x3
        else
          some (-1)
    else none
  else none
theorem fX1_harmOf_b53_ok {Qr : Option PV → Mem → Prop}  (F : Mem) : ∀ (n : Nat) (o : Nat) (x1 : Int) (x2 : Int) (x4 : Int) (x7 : Int) (x8 : Int) (res : Int) (ho : isK o 1), fX1_harmOf_b53 F n o x1 x2 x4 x7 x8 = some res → Qr (some (vI res)) F → PR cX1_harmOf (zX1_harmOf Qr) 53 [(0, vR o), (1, vI x1), (2, vI x2), (4, vI x4), (7, vI x7), (8, vI x8)] [] F := by
  intro n
  induction n with
  | zero => intro o x1 x2 x4 x7 x8 res ho h hq; exact nomatch (show (none : Option _) = some _ from h)
  | succ n ih =>
    intro o x1 x2 x4 x7 x8 res ho h hq
    refine s_iload (j := 5) dX1_harmOf_53 rfl ?_
    refine s_iload (j := 3) dX1_harmOf_55 rfl ?_
    refine s_icmp_ge (tgt := 98) dX1_harmOf_57 rfl (fun hc1 => ?_) (fun hc1 => ?_)
    · have h := ifp hc1 h
      refine s_iload_n (j := 1) dX1_harmOf_98 rfl rfl ?_
      refine s_iload (j := 4) dX1_harmOf_99 rfl ?_
      refine s_callS (As := [vI x7]) (rest := [vI x1]) (r := (some (vI (fX1_gainOf x7)))) (F' := F) dX1_harmOf_101 (clX1_133 (Nat.le_of_ble_eq_true rfl) (Nat.le_of_ble_eq_true rfl)) rfl ⟨_, _, rfl, rfl, rfl, rfl⟩ rfl (Nat.le_of_ble_eq_true rfl) ?_
      refine s_isub dX1_harmOf_104 ?_
      have h := Option.some.inj h
      subst h
      exact s_ireturn dX1_harmOf_105 rfl hq
    · have h := ifn hc1 h
      refine s_aload_n (j := 0) dX1_harmOf_60 rfl rfl ?_
      refine s_iload (j := 5) dX1_harmOf_61 rfl ?_
      refine s_iload_n (j := 2) dX1_harmOf_63 rfl rfl ?_
      obtain ⟨r2, hv3, h⟩ := bnd h
      refine s_callV (As := [vI x8, vI x2]) (rest := []) (r := (some (vI r2))) (F' := F) dX1_harmOf_64 (clX1_140 (Nat.le_of_ble_eq_true rfl) (Nat.le_of_ble_eq_true rfl)) ho rfl ⟨_, _, _, _, rfl, ho, hv3, rfl, rfl⟩ rfl (Nat.le_of_ble_eq_true rfl) ?_
      refine s_if_ne (tgt := 72) dX1_harmOf_67 rfl (fun hc4 => ?_) (fun hc4 => ?_)
      · have h := ifp hc4 h
        refine s_iload (j := 4) dX1_harmOf_72 rfl ?_
        refine s_aload_n (j := 0) dX1_harmOf_74 rfl rfl ?_
        refine s_getR dX1_harmOf_75 flX1_33 ho ?_
        refine s_iload (j := 5) dX1_harmOf_78 rfl ?_
        refine s_bipush dX1_harmOf_80 rfl (cin rfl) ?_
        refine s_imul dX1_harmOf_82 ?_
        refine s_iload_n (j := 2) dX1_harmOf_83 rfl rfl ?_
        refine s_iadd dX1_harmOf_84 ?_
        obtain ⟨hb5, h⟩ := gd h
        refine s_iaload dX1_harmOf_85 (trX1_6 ho) hb5.1 hb5.2 ?_
        refine s_ldc dX1_harmOf_86 kcX1_144 (cin rfl) ?_
        refine s_imul dX1_harmOf_88 ?_
        refine s_iadd dX1_harmOf_89 ?_
        refine s_istore (ls' := [(7, vI (xw (x7 + (xw ((F (o + 2) (xw ((xw (x8 * 8)) + x2)).toNat) * 65536))))), (0, vR o), (1, vI x1), (2, vI x2), (4, vI x4), (8, vI x8)]) dX1_harmOf_90 (Nat.le_of_ble_eq_true rfl) rfl ?_
        refine s_iinc (j := 5) dX1_harmOf_92 rfl (Nat.le_of_ble_eq_true rfl) rfl ?_
        refine s_goto (tgt := 53) dX1_harmOf_95 rfl ?_
        exact s_sub (ks := [2, 3, 4, 5, 1, 0]) rfl (ih o x1 x2 x4 (xw (x7 + (xw ((F (o + 2) (xw ((xw (x8 * 8)) + x2)).toNat) * 65536)))) (xw (x8 + 1)) _ ho h hq)
      · have h := ifn hc4 h
        refine s_iconst dX1_harmOf_70 (cin rfl) ?_
        have h := Option.some.inj h
        subst h
        exact s_ireturn dX1_harmOf_71 rfl hq
theorem fX1_harmOf_ok {Qr : Option PV → Mem → Prop} : ∀ (o : Nat) (x1 : Int) (x2 : Int) (x3 : Int) (x4 : Int) (F : Mem) (res : Int) (ho : isK o 1), fX1_harmOf o x1 x2 x3 x4 F = some res → Qr (some (vI res)) F → PR cX1_harmOf (zX1_harmOf Qr) 0 [(0, vR o), (1, vI x1), (2, vI x2), (3, vI x3), (4, vI x4)] [] F := by
  intro o x1 x2 x3 x4 F res ho h hq
  refine s_aload_n (j := 0) dX1_harmOf_0 rfl rfl ?_
  refine s_getR dX1_harmOf_1 flX1_51 ho ?_
  refine s_iload_n (j := 3) dX1_harmOf_4 rfl rfl ?_
  refine s_bipush dX1_harmOf_5 rfl (cin rfl) ?_
  refine s_imul dX1_harmOf_7 ?_
  refine s_iload_n (j := 2) dX1_harmOf_8 rfl rfl ?_
  refine s_iadd dX1_harmOf_9 ?_
  obtain ⟨hb1, h⟩ := gd h
  refine s_iaload dX1_harmOf_10 (trX1_12 ho) hb1.1 hb1.2 ?_
  refine s_istore (ls' := [(5, vI (F (o + 8) (xw ((xw (x3 * 8)) + x2)).toNat)), (0, vR o), (1, vI x1), (2, vI x2), (3, vI x3), (4, vI x4)]) dX1_harmOf_11 (Nat.le_of_ble_eq_true rfl) rfl ?_
  refine s_aload_n (j := 1) dX1_harmOf_13 rfl rfl ?_
  refine s_getR dX1_harmOf_14 flX1_48 ho ?_
  refine s_iload (j := 5) dX1_harmOf_17 rfl ?_
  refine s_bipush dX1_harmOf_19 rfl (cin rfl) ?_
  refine s_imul dX1_harmOf_21 ?_
  refine s_iload_n (j := 3) dX1_harmOf_22 rfl rfl ?_
  refine s_iadd dX1_harmOf_23 ?_
  obtain ⟨hb2, h⟩ := gd h
  refine s_iaload dX1_harmOf_24 (trX1_11 ho) hb2.1 hb2.2 ?_
  refine s_istore dX1_harmOf_25 (Nat.le_of_ble_eq_true rfl) rfl ?_
  refine s_iload (j := 1) dX1_harmOf_27 rfl ?_
  refine s_ldc dX1_harmOf_29 kcX1_126 (cin rfl) ?_
  refine s_icmp_eq (tgt := 41) dX1_harmOf_31 rfl (fun hc3 => ?_) (fun hc3 => ?_)
  · have h := ifp hc3 h
    refine s_iconst dX1_harmOf_41 (cin rfl) ?_
    have h := Option.some.inj h
    subst h
    exact s_ireturn dX1_harmOf_42 rfl hq
  · have h := ifn hc3 h
    refine s_iload (j := 0) dX1_harmOf_34 rfl ?_
    refine s_ldc dX1_harmOf_36 kcX1_126 (cin rfl) ?_
    refine s_icmp_ne (tgt := 43) dX1_harmOf_38 rfl (fun hc4 => ?_) (fun hc4 => ?_)
    · have h := ifp hc4 h
      refine s_iload (j := 1) dX1_harmOf_43 rfl ?_
      refine s_iload (j := 0) dX1_harmOf_45 rfl ?_
      refine s_iadd dX1_harmOf_47 ?_
      refine s_istore (ls' := [(7, vI (xw ((F (o + 8) (xw ((xw (x3 * 8)) + x2)).toNat) + (F (o + 7) (xw ((xw (x4 * 8)) + x2)).toNat)))), (6, vI (F (o + 7) (xw ((xw (x4 * 8)) + x2)).toNat)), (5, vI (F (o + 8) (xw ((xw (x3 * 8)) + x2)).toNat)), (0, vR o), (1, vI x1), (2, vI x2), (3, vI x3), (4, vI x4)]) dX1_harmOf_48 (Nat.le_of_ble_eq_true rfl) rfl ?_
      refine s_iload_n (j := 6) dX1_harmOf_50 rfl rfl ?_
      refine s_istore dX1_harmOf_51 (Nat.le_of_ble_eq_true rfl) rfl ?_
      exact s_sub (ks := [4, 5, 6, 8, 1, 0]) rfl (fX1_harmOf_b53_ok F FU o x1 x2 x4 (xw ((F (o + 8) (xw ((xw (x3 * 8)) + x2)).toNat) + (F (o + 7) (xw ((xw (x4 * 8)) + x2)).toNat))) x3 _ ho h hq)
    · have h := ifn hc4 h
      refine s_iconst dX1_harmOf_41 (cin rfl) ?_
      have h := Option.some.inj h
      subst h
      exact s_ireturn dX1_harmOf_42 rfl hq
def gX1_harmOf : XG := fun As F r F' => ∃ o : Nat, ∃ x1 : Int, ∃ x2 : Int, ∃ x3 : Int, ∃ x4 : Int, ∃ res : Int, As = [vR o, vI x1, vI x2, vI x3, vI x4] ∧ isK o 1 ∧ fX1_harmOf o x1 x2 x3 x4 F = some res ∧ r = some (vI res) ∧ F' = F
theorem ctX1_harmOf : xCT yX1_harmOf cX1_harmOf 9 (some FieldType.int) 1 22 gX1_harmOf := xmet (by decide +kernel) (fun As F r F' hg => by obtain ⟨o, x1, x2, x3, x4, res, rfl, ho, h, rfl, rfl⟩ := hg; exact Nat.le_of_ble_eq_true rfl) (fun As F r F' hg => by obtain ⟨o, x1, x2, x3, x4, res, rfl, ho, h, rfl, rfl⟩ := hg; exact fX1_harmOf_ok o x1 x2 x3 x4 _ _ ho h ⟨rfl, rfl⟩)
theorem mcX1_harmOf : Cond.code yX1_harmOf cX1_harmOf 9 (some FieldType.int) ∈ xw_T ∧ Cond.initialized yX1_harmOf.cls ∈ xw_T ∧ Cond.instanceMethod yX1_harmOf ∈ xw_T ∧ Cond.selects yX1_harmOf.cls yX1_harmOf yX1_harmOf ∈ xw_T := ⟨(xinT 1130 (by decide +kernel) (by decide +kernel)), (xinT 124 (by decide +kernel) (by decide +kernel)), (xinT 1128 (by decide +kernel) (by decide +kernel)), (xinT 1129 (by decide +kernel) (by decide +kernel))⟩
theorem clX9_275 {fr lo : Nat} (h1 : 1 + 1 ≤ fr) (h2 : 8 + (9 + 11) + 22 ≤ lo) : xCall RX9 fr lo 0 275 1 4 gX1_harmOf := ⟨_, _, _, _, _, _, ctX1_harmOf, h1, h2, mcX1_harmOf.1, (xinT 1127 (by decide +kernel) (by decide +kernel)), mcX1_harmOf.2.1, ⟨by decide +kernel, by decide +kernel, by decide +kernel⟩, by rw [if_pos rfl]; exact ⟨mcX1_harmOf.2.2.1, mcX1_harmOf.2.2.2, _, _, rfl⟩⟩
theorem dX1_lossOf_0 : decode cX1_lossOf 0 = .ok (.aload_n 0, 1) := by decide +kernel
theorem dX1_lossOf_1 : decode cX1_lossOf 1 = .ok (.iconst 0, 1) := by decide +kernel
theorem dX1_lossOf_2 : decode cX1_lossOf 2 = .ok (.iconst 0, 1) := by decide +kernel
theorem dX1_lossOf_3 : decode cX1_lossOf 3 = .ok (.invokevirtual 145, 3) := by decide +kernel
theorem dX1_lossOf_6 : decode cX1_lossOf 6 = .ok (.aload_n 0, 1) := by decide +kernel
theorem dX1_lossOf_7 : decode cX1_lossOf 7 = .ok (.iload_n 2, 1) := by decide +kernel
theorem dX1_lossOf_8 : decode cX1_lossOf 8 = .ok (.iload_n 3, 1) := by decide +kernel
theorem dX1_lossOf_9 : decode cX1_lossOf 9 = .ok (.iload 4, 2) := by decide +kernel
theorem dX1_lossOf_11 : decode cX1_lossOf 11 = .ok (.invokevirtual 120, 3) := by decide +kernel
theorem dX1_lossOf_14 : decode cX1_lossOf 14 = .ok (.iload_n 1, 1) := by decide +kernel
theorem dX1_lossOf_15 : decode cX1_lossOf 15 = .ok (.aload_n 0, 1) := by decide +kernel
theorem dX1_lossOf_16 : decode cX1_lossOf 16 = .ok (.iconst (-1), 1) := by decide +kernel
theorem dX1_lossOf_17 : decode cX1_lossOf 17 = .ok (.invokevirtual 149, 3) := by decide +kernel
theorem dX1_lossOf_20 : decode cX1_lossOf 20 = .ok (.isub, 1) := by decide +kernel
theorem dX1_lossOf_21 : decode cX1_lossOf 21 = .ok (.ireturn, 1) := by decide +kernel
def zX1_lossOf (Qr : Option PV → Mem → Prop) : XZ := (RX1, 4, 112, 5, some FieldType.int, Qr)
noncomputable def fX1_lossOf (o : Nat) (x1 : Int) (x2 : Int) (x3 : Int) (x4 : Int) (F : Mem) : Option (Int × Mem) :=
  (fX1_fill o 0 0 F).bind fun q1 =>
  (fX1_bar o x2 x3 x4 q1).bind fun q3 =>
  (fX1_solve o (-1) q3).bind fun q5 =>
  some (xw (x1 - q5.1), q5.2)
theorem fX1_lossOf_ok {Qr : Option PV → Mem → Prop} : ∀ (o : Nat) (x1 : Int) (x2 : Int) (x3 : Int) (x4 : Int) (F : Mem) (res : (Int × Mem)) (ho : isK o 1), fX1_lossOf o x1 x2 x3 x4 F = some res → Qr (some (vI res.1)) res.2 → PR cX1_lossOf (zX1_lossOf Qr) 0 [(0, vR o), (1, vI x1), (2, vI x2), (3, vI x3), (4, vI x4)] [] F := by
  intro o x1 x2 x3 x4 F res ho h hq
  refine s_aload_n (j := 0) dX1_lossOf_0 rfl rfl ?_
  refine s_iconst dX1_lossOf_1 (cin rfl) ?_
  refine s_iconst dX1_lossOf_2 (cin rfl) ?_
  obtain ⟨q1, hv2, h⟩ := bnd h
  refine s_callV (As := [vI 0, vI 0]) (rest := []) (r := none) (F' := q1) dX1_lossOf_3 (clX1_145 (Nat.le_of_ble_eq_true rfl) (Nat.le_of_ble_eq_true rfl)) ho rfl ⟨_, _, _, _, rfl, ho, hv2, rfl, rfl⟩ rfl (Nat.le_of_ble_eq_true rfl) ?_
  refine s_aload_n (j := 0) dX1_lossOf_6 rfl rfl ?_
  refine s_iload_n (j := 2) dX1_lossOf_7 rfl rfl ?_
  refine s_iload_n (j := 3) dX1_lossOf_8 rfl rfl ?_
  refine s_iload (j := 4) dX1_lossOf_9 rfl ?_
  obtain ⟨q3, hv4, h⟩ := bnd h
  refine s_callV (As := [vI x2, vI x3, vI x4]) (rest := []) (r := none) (F' := q3) dX1_lossOf_11 (clX1_120 (Nat.le_of_ble_eq_true rfl) (Nat.le_of_ble_eq_true rfl)) ho rfl ⟨_, _, _, _, _, rfl, ho, hv4, rfl, rfl⟩ rfl (Nat.le_of_ble_eq_true rfl) ?_
  refine s_iload_n (j := 1) dX1_lossOf_14 rfl rfl ?_
  refine s_aload_n (j := 0) dX1_lossOf_15 rfl rfl ?_
  refine s_iconst dX1_lossOf_16 (cin rfl) ?_
  obtain ⟨q5, hv6, h⟩ := bnd h
  refine s_callV (As := [vI (-1)]) (rest := [vI x1]) (r := (some (vI q5.1))) (F' := q5.2) dX1_lossOf_17 (clX1_149 (Nat.le_of_ble_eq_true rfl) (Nat.le_of_ble_eq_true rfl)) ho rfl ⟨_, _, _, rfl, ho, hv6, rfl, rfl⟩ rfl (Nat.le_of_ble_eq_true rfl) ?_
  refine s_isub dX1_lossOf_20 ?_
  have h := Option.some.inj h
  subst h
  exact s_ireturn dX1_lossOf_21 rfl hq
def gX1_lossOf : XG := fun As F r F' => ∃ o : Nat, ∃ x1 : Int, ∃ x2 : Int, ∃ x3 : Int, ∃ x4 : Int, ∃ res : (Int × Mem), As = [vR o, vI x1, vI x2, vI x3, vI x4] ∧ isK o 1 ∧ fX1_lossOf o x1 x2 x3 x4 F = some res ∧ r = some (vI res.1) ∧ F' = res.2
theorem ctX1_lossOf : xCT yX1_lossOf cX1_lossOf 5 (some FieldType.int) 4 112 gX1_lossOf := xmet (by decide +kernel) (fun As F r F' hg => by obtain ⟨o, x1, x2, x3, x4, res, rfl, ho, h, rfl, rfl⟩ := hg; exact Nat.le_of_ble_eq_true rfl) (fun As F r F' hg => by obtain ⟨o, x1, x2, x3, x4, res, rfl, ho, h, rfl, rfl⟩ := hg; exact fX1_lossOf_ok o x1 x2 x3 x4 _ _ ho h ⟨rfl, rfl⟩)
theorem mcX1_lossOf : Cond.code yX1_lossOf cX1_lossOf 5 (some FieldType.int) ∈ xw_T ∧ Cond.initialized yX1_lossOf.cls ∈ xw_T ∧ Cond.instanceMethod yX1_lossOf ∈ xw_T ∧ Cond.selects yX1_lossOf.cls yX1_lossOf yX1_lossOf ∈ xw_T := ⟨(xinT 1142 (by decide +kernel) (by decide +kernel)), (xinT 124 (by decide +kernel) (by decide +kernel)), (xinT 1140 (by decide +kernel) (by decide +kernel)), (xinT 1141 (by decide +kernel) (by decide +kernel))⟩
theorem clX9_284 {fr lo : Nat} (h1 : 4 + 1 ≤ fr) (h2 : 8 + (5 + 11) + 112 ≤ lo) : xCall RX9 fr lo 0 284 1 4 gX1_lossOf := ⟨_, _, _, _, _, _, ctX1_lossOf, h1, h2, mcX1_lossOf.1, (xinT 1139 (by decide +kernel) (by decide +kernel)), mcX1_lossOf.2.1, ⟨by decide +kernel, by decide +kernel, by decide +kernel⟩, by rw [if_pos rfl]; exact ⟨mcX1_lossOf.2.2.1, mcX1_lossOf.2.2.2, _, _, rfl⟩⟩
theorem dX1_gainByPace_0 : decode cX1_gainByPace 0 = .ok (.aload_n 0, 1) := by decide +kernel
theorem dX1_gainByPace_1 : decode cX1_gainByPace 1 = .ok (.iconst 0, 1) := by decide +kernel
theorem dX1_gainByPace_2 : decode cX1_gainByPace 2 = .ok (.iconst 0, 1) := by decide +kernel
theorem dX1_gainByPace_3 : decode cX1_gainByPace 3 = .ok (.invokevirtual 145, 3) := by decide +kernel
theorem dX1_gainByPace_6 : decode cX1_gainByPace 6 = .ok (.aload_n 0, 1) := by decide +kernel
theorem dX1_gainByPace_7 : decode cX1_gainByPace 7 = .ok (.iload_n 1, 1) := by decide +kernel
theorem dX1_gainByPace_8 : decode cX1_gainByPace 8 = .ok (.invokevirtual 60, 3) := by decide +kernel
theorem dX1_gainByPace_11 : decode cX1_gainByPace 11 = .ok (.aload_n 0, 1) := by decide +kernel
theorem dX1_gainByPace_12 : decode cX1_gainByPace 12 = .ok (.iconst (-1), 1) := by decide +kernel
theorem dX1_gainByPace_13 : decode cX1_gainByPace 13 = .ok (.invokevirtual 149, 3) := by decide +kernel
theorem dX1_gainByPace_16 : decode cX1_gainByPace 16 = .ok (.ireturn, 1) := by decide +kernel
def zX1_gainByPace (Qr : Option PV → Mem → Prop) : XZ := (RX1, 4, 112, 2, some FieldType.int, Qr)
noncomputable def fX1_gainByPace (o : Nat) (x1 : Int) (F : Mem) : Option (Int × Mem) :=
  (fX1_fill o 0 0 F).bind fun q1 =>
  (fX1_setPace o x1 q1).bind fun q3 =>
  (fX1_solve o (-1) q3).bind fun q5 =>
  some (q5.1, q5.2)
theorem fX1_gainByPace_ok {Qr : Option PV → Mem → Prop} : ∀ (o : Nat) (x1 : Int) (F : Mem) (res : (Int × Mem)) (ho : isK o 1), fX1_gainByPace o x1 F = some res → Qr (some (vI res.1)) res.2 → PR cX1_gainByPace (zX1_gainByPace Qr) 0 [(0, vR o), (1, vI x1)] [] F := by
  intro o x1 F res ho h hq
  refine s_aload_n (j := 0) dX1_gainByPace_0 rfl rfl ?_
  refine s_iconst dX1_gainByPace_1 (cin rfl) ?_
  refine s_iconst dX1_gainByPace_2 (cin rfl) ?_
  obtain ⟨q1, hv2, h⟩ := bnd h
  refine s_callV (As := [vI 0, vI 0]) (rest := []) (r := none) (F' := q1) dX1_gainByPace_3 (clX1_145 (Nat.le_of_ble_eq_true rfl) (Nat.le_of_ble_eq_true rfl)) ho rfl ⟨_, _, _, _, rfl, ho, hv2, rfl, rfl⟩ rfl (Nat.le_of_ble_eq_true rfl) ?_
  refine s_aload_n (j := 0) dX1_gainByPace_6 rfl rfl ?_
  refine s_iload_n (j := 1) dX1_gainByPace_7 rfl rfl ?_
  obtain ⟨q3, hv4, h⟩ := bnd h
  refine s_callV (As := [vI x1]) (rest := []) (r := none) (F' := q3) dX1_gainByPace_8 (clX1_60 (Nat.le_of_ble_eq_true rfl) (Nat.le_of_ble_eq_true rfl)) ho rfl ⟨_, _, _, rfl, ho, hv4, rfl, rfl⟩ rfl (Nat.le_of_ble_eq_true rfl) ?_
  refine s_aload_n (j := 0) dX1_gainByPace_11 rfl rfl ?_
  refine s_iconst dX1_gainByPace_12 (cin rfl) ?_
  obtain ⟨q5, hv6, h⟩ := bnd h
  refine s_callV (As := [vI (-1)]) (rest := []) (r := (some (vI q5.1))) (F' := q5.2) dX1_gainByPace_13 (clX1_149 (Nat.le_of_ble_eq_true rfl) (Nat.le_of_ble_eq_true rfl)) ho rfl ⟨_, _, _, rfl, ho, hv6, rfl, rfl⟩ rfl (Nat.le_of_ble_eq_true rfl) ?_
  have h := Option.some.inj h
  subst h
  exact s_ireturn dX1_gainByPace_16 rfl hq
def gX1_gainByPace : XG := fun As F r F' => ∃ o : Nat, ∃ x1 : Int, ∃ res : (Int × Mem), As = [vR o, vI x1] ∧ isK o 1 ∧ fX1_gainByPace o x1 F = some res ∧ r = some (vI res.1) ∧ F' = res.2
theorem ctX1_gainByPace : xCT yX1_gainByPace cX1_gainByPace 2 (some FieldType.int) 4 112 gX1_gainByPace := xmet (by decide +kernel) (fun As F r F' hg => by obtain ⟨o, x1, res, rfl, ho, h, rfl, rfl⟩ := hg; exact Nat.le_of_ble_eq_true rfl) (fun As F r F' hg => by obtain ⟨o, x1, res, rfl, ho, h, rfl, rfl⟩ := hg; exact fX1_gainByPace_ok o x1 _ _ ho h ⟨rfl, rfl⟩)
theorem mcX1_gainByPace : Cond.code yX1_gainByPace cX1_gainByPace 2 (some FieldType.int) ∈ xw_T ∧ Cond.initialized yX1_gainByPace.cls ∈ xw_T ∧ Cond.instanceMethod yX1_gainByPace ∈ xw_T ∧ Cond.selects yX1_gainByPace.cls yX1_gainByPace yX1_gainByPace ∈ xw_T := ⟨(xinT 1243 (by decide +kernel) (by decide +kernel)), (xinT 124 (by decide +kernel) (by decide +kernel)), (xinT 1241 (by decide +kernel) (by decide +kernel)), (xinT 1242 (by decide +kernel) (by decide +kernel))⟩
theorem clX9_396 {fr lo : Nat} (h1 : 4 + 1 ≤ fr) (h2 : 8 + (2 + 11) + 112 ≤ lo) : xCall RX9 fr lo 0 396 1 1 gX1_gainByPace := ⟨_, _, _, _, _, _, ctX1_gainByPace, h1, h2, mcX1_gainByPace.1, (xinT 1240 (by decide +kernel) (by decide +kernel)), mcX1_gainByPace.2.1, ⟨by decide +kernel, by decide +kernel, by decide +kernel⟩, by rw [if_pos rfl]; exact ⟨mcX1_gainByPace.2.2.1, mcX1_gainByPace.2.2.2, _, _, rfl⟩⟩
theorem dX1_touchRows_0 : decode cX1_touchRows 0 = .ok (.iconst 0, 1) := by decide +kernel
theorem dX1_touchRows_1 : decode cX1_touchRows 1 = .ok (.istore_n 2, 1) := by decide +kernel
theorem dX1_touchRows_2 : decode cX1_touchRows 2 = .ok (.iconst 0, 1) := by decide +kernel
theorem dX1_touchRows_3 : decode cX1_touchRows 3 = .ok (.istore_n 3, 1) := by decide +kernel
theorem dX1_touchRows_4 : decode cX1_touchRows 4 = .ok (.iload_n 3, 1) := by decide +kernel
theorem dX1_touchRows_5 : decode cX1_touchRows 5 = .ok (.aload_n 0, 1) := by decide +kernel
theorem dX1_touchRows_6 : decode cX1_touchRows 6 = .ok (.getfield 9, 3) := by decide +kernel
theorem dX1_touchRows_9 : decode cX1_touchRows 9 = .ok (.getfield 67, 3) := by decide +kernel
theorem dX1_touchRows_12 : decode cX1_touchRows 12 = .ok (.getfield 71, 3) := by decide +kernel
theorem dX1_touchRows_15 : decode cX1_touchRows 15 = .ok (.if_icmp .ge 49, 3) := by decide +kernel
theorem dX1_touchRows_18 : decode cX1_touchRows 18 = .ok (.aload_n 0, 1) := by decide +kernel
theorem dX1_touchRows_19 : decode cX1_touchRows 19 = .ok (.getfield 9, 3) := by decide +kernel
theorem dX1_touchRows_22 : decode cX1_touchRows 22 = .ok (.iload_n 3, 1) := by decide +kernel
theorem dX1_touchRows_23 : decode cX1_touchRows 23 = .ok (.invokevirtual 76, 3) := by decide +kernel
theorem dX1_touchRows_26 : decode cX1_touchRows 26 = .ok (.ifCond .ne 12, 3) := by decide +kernel
theorem dX1_touchRows_29 : decode cX1_touchRows 29 = .ok (.iload_n 1, 1) := by decide +kernel
theorem dX1_touchRows_30 : decode cX1_touchRows 30 = .ok (.iload_n 3, 1) := by decide +kernel
theorem dX1_touchRows_31 : decode cX1_touchRows 31 = .ok (.ishr, 1) := by decide +kernel
theorem dX1_touchRows_32 : decode cX1_touchRows 32 = .ok (.iconst 1, 1) := by decide +kernel
theorem dX1_touchRows_33 : decode cX1_touchRows 33 = .ok (.iand, 1) := by decide +kernel
theorem dX1_touchRows_34 : decode cX1_touchRows 34 = .ok (.iconst 1, 1) := by decide +kernel
theorem dX1_touchRows_35 : decode cX1_touchRows 35 = .ok (.if_icmp .ne 23, 3) := by decide +kernel
theorem dX1_touchRows_38 : decode cX1_touchRows 38 = .ok (.iload_n 2, 1) := by decide +kernel
theorem dX1_touchRows_39 : decode cX1_touchRows 39 = .ok (.aload_n 0, 1) := by decide +kernel
theorem dX1_touchRows_40 : decode cX1_touchRows 40 = .ok (.getfield 9, 3) := by decide +kernel
theorem dX1_touchRows_43 : decode cX1_touchRows 43 = .ok (.iload_n 3, 1) := by decide +kernel
theorem dX1_touchRows_44 : decode cX1_touchRows 44 = .ok (.iconst 0, 1) := by decide +kernel
theorem dX1_touchRows_45 : decode cX1_touchRows 45 = .ok (.invokevirtual 80, 3) := by decide +kernel
theorem dX1_touchRows_48 : decode cX1_touchRows 48 = .ok (.aload_n 0, 1) := by decide +kernel
theorem dX1_touchRows_49 : decode cX1_touchRows 49 = .ok (.getfield 9, 3) := by decide +kernel
theorem dX1_touchRows_52 : decode cX1_touchRows 52 = .ok (.getfield 54, 3) := by decide +kernel
theorem dX1_touchRows_55 : decode cX1_touchRows 55 = .ok (.imul, 1) := by decide +kernel
theorem dX1_touchRows_56 : decode cX1_touchRows 56 = .ok (.iadd, 1) := by decide +kernel
theorem dX1_touchRows_57 : decode cX1_touchRows 57 = .ok (.istore_n 2, 1) := by decide +kernel
theorem dX1_touchRows_58 : decode cX1_touchRows 58 = .ok (.iinc 3 1, 3) := by decide +kernel
theorem dX1_touchRows_61 : decode cX1_touchRows 61 = .ok (.goto (-57), 3) := by decide +kernel
theorem dX1_touchRows_64 : decode cX1_touchRows 64 = .ok (.iload_n 2, 1) := by decide +kernel
theorem dX1_touchRows_65 : decode cX1_touchRows 65 = .ok (.ireturn, 1) := by decide +kernel
def zX1_touchRows (Qr : Option PV → Mem → Prop) : XZ := (RX1, 2, 45, 4, some FieldType.int, Qr)
noncomputable def fX1_touchRows_b38 (F : Mem) (k4 : Nat → Int → Int → Int → Option Int) (o : Nat) (x1 : Int) (x2 : Int) (x3 : Int) : Option Int :=
  if (F o 0).toNat = 0 then none else
  (fX7_rateOf ((F o 0).toNat) x3 0 F).bind fun r3 =>
  if (F o 0).toNat = 0 then none else
  k4 o x1 (xw (x2 + (xw (r3 * (F ((F o 0).toNat) 0))))) (xw (x3 + 1))
noncomputable def fX1_touchRows_b4 (F : Mem) : Nat → Nat → Int → Int → Int → Option Int
  | 0, _, _, _, _ => none
  | n + 1, o, x1, x2, x3 =>
    if (F o 0).toNat = 0 then none else
    if (F (((F o 0).toNat) + 1) 3) ≤ x3 then
      some x2
    else
      if (F o 0).toNat = 0 then none else
      (fX7_isTouch ((F o 0).toNat) x3 F).bind fun r6 =>
      if r6 ≠ 0 then
        fX1_touchRows_b38 F (fX1_touchRows_b4 F n) o x1 x2 x3
      else
        if (xand (xshr x1 x3) 1) ≠ 1 then
          fX1_touchRows_b4 F n o x1 x2 (xw (x3 + 1))
        else
          fX1_touchRows_b38 F (fX1_touchRows_b4 F n) o x1 x2 x3
noncomputable def fX1_touchRows (o : Nat) (x1 : Int) (F : Mem) : Option Int :=
  fX1_touchRows_b4 F FU o x1 0 0
theorem fX1_touchRows_b38_ok {Qr : Option PV → Mem → Prop}  (F : Mem) (k4 : Nat → Int → Int → Int → Option Int) (hk4 : ∀ (o : Nat) (x1 : Int) (x2 : Int) (x3 : Int) (res : Int) (ho : isK o 1), k4 o x1 x2 x3 = some res → Qr (some (vI res)) F → PR cX1_touchRows (zX1_touchRows Qr) 4 [(0, vR o), (1, vI x1), (2, vI x2), (3, vI x3)] [] F) : ∀ (o : Nat) (x1 : Int) (x2 : Int) (x3 : Int) (res : Int) (ho : isK o 1), fX1_touchRows_b38 F k4 o x1 x2 x3 = some res → Qr (some (vI res)) F → PR cX1_touchRows (zX1_touchRows Qr) 38 [(0, vR o), (1, vI x1), (2, vI x2), (3, vI x3)] [] F := by
  intro o x1 x2 x3 res ho h hq
  refine s_iload_n (j := 2) dX1_touchRows_38 rfl rfl ?_
  refine s_aload_n (j := 0) dX1_touchRows_39 rfl rfl ?_
  refine s_getM dX1_touchRows_40 flX1_9 ho (fun hm1 => ?_)
  have hm1 : _ = 0 ∨ isK ((F o 0).toNat) 7 := hm1
  refine s_iload_n (j := 3) dX1_touchRows_43 rfl rfl ?_
  refine s_iconst dX1_touchRows_44 (cin rfl) ?_
  obtain ⟨hn2, h⟩ := gdn h
  obtain ⟨r3, hv4, h⟩ := bnd h
  refine s_callV (As := [vI x3, vI 0]) (rest := [vI x2]) (r := (some (vI r3))) (F' := F) dX1_touchRows_45 (clX1_80 (Nat.le_of_ble_eq_true rfl) (Nat.le_of_ble_eq_true rfl)) (hm1.resolve_left hn2) rfl ⟨_, _, _, _, rfl, (hm1.resolve_left hn2), hv4, rfl, rfl⟩ rfl (Nat.le_of_ble_eq_true rfl) ?_
  refine s_aload_n (j := 0) dX1_touchRows_48 rfl rfl ?_
  refine s_getM dX1_touchRows_49 flX1_9 ho (fun hm5 => ?_)
  have hm5 : _ = 0 ∨ isK ((F o 0).toNat) 7 := hm5
  obtain ⟨hn6, h⟩ := gdn h
  refine s_getI dX1_touchRows_52 flX1_54 (hm5.resolve_left hn6) ?_
  refine s_imul dX1_touchRows_55 ?_
  refine s_iadd dX1_touchRows_56 ?_
  refine s_istore_n (ls' := [(2, vI (xw (x2 + (xw (r3 * (F ((F o 0).toNat) 0)))))), (0, vR o), (1, vI x1), (3, vI x3)]) dX1_touchRows_57 rfl (Nat.le_of_ble_eq_true rfl) rfl ?_
  refine s_iinc (j := 3) dX1_touchRows_58 rfl (Nat.le_of_ble_eq_true rfl) rfl ?_
  refine s_goto (tgt := 4) dX1_touchRows_61 rfl ?_
  exact s_sub (ks := [2, 3, 1, 0]) rfl (hk4 o x1 (xw (x2 + (xw (r3 * (F ((F o 0).toNat) 0))))) (xw (x3 + 1)) _ ho h hq)
theorem fX1_touchRows_b4_ok {Qr : Option PV → Mem → Prop}  (F : Mem) : ∀ (n : Nat) (o : Nat) (x1 : Int) (x2 : Int) (x3 : Int) (res : Int) (ho : isK o 1), fX1_touchRows_b4 F n o x1 x2 x3 = some res → Qr (some (vI res)) F → PR cX1_touchRows (zX1_touchRows Qr) 4 [(0, vR o), (1, vI x1), (2, vI x2), (3, vI x3)] [] F := by
  intro n
  induction n with
  | zero => intro o x1 x2 x3 res ho h hq; exact nomatch (show (none : Option _) = some _ from h)
  | succ n ih =>
    intro o x1 x2 x3 res ho h hq
    refine s_iload_n (j := 3) dX1_touchRows_4 rfl rfl ?_
    refine s_aload_n (j := 0) dX1_touchRows_5 rfl rfl ?_
    refine s_getM dX1_touchRows_6 flX1_9 ho (fun hm1 => ?_)
    have hm1 : _ = 0 ∨ isK ((F o 0).toNat) 7 := hm1
    obtain ⟨hn2, h⟩ := gdn h
    refine s_getR dX1_touchRows_9 flX1_67 (hm1.resolve_left hn2) ?_
    refine s_getI dX1_touchRows_12 flX1_71 (trX7_5 (hm1.resolve_left hn2)) ?_
    refine s_icmp_ge (tgt := 64) dX1_touchRows_15 rfl (fun hc3 => ?_) (fun hc3 => ?_)
    · have h := ifp hc3 h
      refine s_iload_n (j := 2) dX1_touchRows_64 rfl rfl ?_
      have h := Option.some.inj h
      subst h
      exact s_ireturn dX1_touchRows_65 rfl hq
    · have h := ifn hc3 h
      refine s_aload_n (j := 0) dX1_touchRows_18 rfl rfl ?_
      refine s_getM dX1_touchRows_19 flX1_9 ho (fun hm4 => ?_)
      have hm4 : _ = 0 ∨ isK ((F o 0).toNat) 7 := hm4
      refine s_iload_n (j := 3) dX1_touchRows_22 rfl rfl ?_
      obtain ⟨hn5, h⟩ := gdn h
      obtain ⟨r6, hv7, h⟩ := bnd h
      refine s_callV (As := [vI x3]) (rest := []) (r := (some (vI r6))) (F' := F) dX1_touchRows_23 (clX1_76 (Nat.le_of_ble_eq_true rfl) (Nat.le_of_ble_eq_true rfl)) (hm4.resolve_left hn5) rfl ⟨_, _, _, rfl, (hm4.resolve_left hn5), hv7, rfl, rfl⟩ rfl (Nat.le_of_ble_eq_true rfl) ?_
      refine s_if_ne (tgt := 38) dX1_touchRows_26 rfl (fun hc8 => ?_) (fun hc8 => ?_)
      · have h := ifp hc8 h
        exact s_sub (ks := [0, 1, 2, 3]) rfl (fX1_touchRows_b38_ok F (fX1_touchRows_b4 F n) ih o x1 x2 x3 _ ho h hq)
      · have h := ifn hc8 h
        refine s_iload_n (j := 1) dX1_touchRows_29 rfl rfl ?_
        refine s_iload_n (j := 3) dX1_touchRows_30 rfl rfl ?_
        refine s_ishr dX1_touchRows_31 ?_
        refine s_iconst dX1_touchRows_32 (cin rfl) ?_
        refine s_iand dX1_touchRows_33 ?_
        refine s_iconst dX1_touchRows_34 (cin rfl) ?_
        refine s_icmp_ne (tgt := 58) dX1_touchRows_35 rfl (fun hc9 => ?_) (fun hc9 => ?_)
        · have h := ifp hc9 h
          refine s_iinc (ls' := [(3, vI (xw (x3 + 1))), (0, vR o), (1, vI x1), (2, vI x2)]) (j := 3) dX1_touchRows_58 rfl (Nat.le_of_ble_eq_true rfl) rfl ?_
          refine s_goto (tgt := 4) dX1_touchRows_61 rfl ?_
          exact s_sub (ks := [1, 2, 3, 0]) rfl (ih o x1 x2 (xw (x3 + 1)) _ ho h hq)
        · have h := ifn hc9 h
          exact s_sub (ks := [0, 1, 2, 3]) rfl (fX1_touchRows_b38_ok F (fX1_touchRows_b4 F n) ih o x1 x2 x3 _ ho h hq)
theorem fX1_touchRows_ok {Qr : Option PV → Mem → Prop} : ∀ (o : Nat) (x1 : Int) (F : Mem) (res : Int) (ho : isK o 1), fX1_touchRows o x1 F = some res → Qr (some (vI res)) F → PR cX1_touchRows (zX1_touchRows Qr) 0 [(0, vR o), (1, vI x1)] [] F := by
  intro o x1 F res ho h hq
  refine s_iconst dX1_touchRows_0 (cin rfl) ?_
  refine s_istore_n (ls' := [(2, vI 0), (0, vR o), (1, vI x1)]) dX1_touchRows_1 rfl (Nat.le_of_ble_eq_true rfl) rfl ?_
  refine s_iconst dX1_touchRows_2 (cin rfl) ?_
  refine s_istore_n dX1_touchRows_3 rfl (Nat.le_of_ble_eq_true rfl) rfl ?_
  exact s_sub (ks := [2, 3, 1, 0]) rfl (fX1_touchRows_b4_ok F FU o x1 0 0 _ ho h hq)
def gX1_touchRows : XG := fun As F r F' => ∃ o : Nat, ∃ x1 : Int, ∃ res : Int, As = [vR o, vI x1] ∧ isK o 1 ∧ fX1_touchRows o x1 F = some res ∧ r = some (vI res) ∧ F' = F
theorem ctX1_touchRows : xCT yX1_touchRows cX1_touchRows 4 (some FieldType.int) 2 45 gX1_touchRows := xmet (by decide +kernel) (fun As F r F' hg => by obtain ⟨o, x1, res, rfl, ho, h, rfl, rfl⟩ := hg; exact Nat.le_of_ble_eq_true rfl) (fun As F r F' hg => by obtain ⟨o, x1, res, rfl, ho, h, rfl, rfl⟩ := hg; exact fX1_touchRows_ok o x1 _ _ ho h ⟨rfl, rfl⟩)
theorem mcX1_touchRows : Cond.code yX1_touchRows cX1_touchRows 4 (some FieldType.int) ∈ xw_T ∧ Cond.initialized yX1_touchRows.cls ∈ xw_T ∧ Cond.instanceMethod yX1_touchRows ∈ xw_T ∧ Cond.selects yX1_touchRows.cls yX1_touchRows yX1_touchRows ∈ xw_T := ⟨(xinT 1198 (by decide +kernel) (by decide +kernel)), (xinT 124 (by decide +kernel) (by decide +kernel)), (xinT 1196 (by decide +kernel) (by decide +kernel)), (xinT 1197 (by decide +kernel) (by decide +kernel))⟩
theorem clX1_152 {fr lo : Nat} (h1 : 2 + 1 ≤ fr) (h2 : 8 + (4 + 11) + 45 ≤ lo) : xCall RX1 fr lo 0 152 1 1 gX1_touchRows := ⟨_, _, _, _, _, _, ctX1_touchRows, h1, h2, mcX1_touchRows.1, (xinT 1235 (by decide +kernel) (by decide +kernel)), mcX1_touchRows.2.1, ⟨by decide +kernel, by decide +kernel, by decide +kernel⟩, by rw [if_pos rfl]; exact ⟨mcX1_touchRows.2.2.1, mcX1_touchRows.2.2.2, _, _, rfl⟩⟩
theorem clX9_320 {fr lo : Nat} (h1 : 2 + 1 ≤ fr) (h2 : 8 + (4 + 11) + 45 ≤ lo) : xCall RX9 fr lo 0 320 1 1 gX1_touchRows := ⟨_, _, _, _, _, _, ctX1_touchRows, h1, h2, mcX1_touchRows.1, (xinT 1195 (by decide +kernel) (by decide +kernel)), mcX1_touchRows.2.1, ⟨by decide +kernel, by decide +kernel, by decide +kernel⟩, by rw [if_pos rfl]; exact ⟨mcX1_touchRows.2.2.1, mcX1_touchRows.2.2.2, _, _, rfl⟩⟩
theorem dX1_yieldWith_0 : decode cX1_yieldWith 0 = .ok (.aload_n 0, 1) := by decide +kernel
theorem dX1_yieldWith_1 : decode cX1_yieldWith 1 = .ok (.iconst 0, 1) := by decide +kernel
theorem dX1_yieldWith_2 : decode cX1_yieldWith 2 = .ok (.iload_n 1, 1) := by decide +kernel
theorem dX1_yieldWith_3 : decode cX1_yieldWith 3 = .ok (.invokevirtual 145, 3) := by decide +kernel
theorem dX1_yieldWith_6 : decode cX1_yieldWith 6 = .ok (.aload_n 0, 1) := by decide +kernel
theorem dX1_yieldWith_7 : decode cX1_yieldWith 7 = .ok (.iconst (-1), 1) := by decide +kernel
theorem dX1_yieldWith_8 : decode cX1_yieldWith 8 = .ok (.invokevirtual 149, 3) := by decide +kernel
theorem dX1_yieldWith_11 : decode cX1_yieldWith 11 = .ok (.aload_n 0, 1) := by decide +kernel
theorem dX1_yieldWith_12 : decode cX1_yieldWith 12 = .ok (.iload_n 1, 1) := by decide +kernel
theorem dX1_yieldWith_13 : decode cX1_yieldWith 13 = .ok (.invokevirtual 152, 3) := by decide +kernel
theorem dX1_yieldWith_16 : decode cX1_yieldWith 16 = .ok (.iadd, 1) := by decide +kernel
theorem dX1_yieldWith_17 : decode cX1_yieldWith 17 = .ok (.ireturn, 1) := by decide +kernel
def zX1_yieldWith (Qr : Option PV → Mem → Prop) : XZ := (RX1, 4, 112, 2, some FieldType.int, Qr)
noncomputable def fX1_yieldWith (o : Nat) (x1 : Int) (F : Mem) : Option (Int × Mem) :=
  (fX1_fill o 0 x1 F).bind fun q1 =>
  (fX1_solve o (-1) q1).bind fun q3 =>
  (fX1_touchRows o x1 q3.2).bind fun r5 =>
  some (xw (q3.1 + r5), q3.2)
theorem fX1_yieldWith_ok {Qr : Option PV → Mem → Prop} : ∀ (o : Nat) (x1 : Int) (F : Mem) (res : (Int × Mem)) (ho : isK o 1), fX1_yieldWith o x1 F = some res → Qr (some (vI res.1)) res.2 → PR cX1_yieldWith (zX1_yieldWith Qr) 0 [(0, vR o), (1, vI x1)] [] F := by
  intro o x1 F res ho h hq
  refine s_aload_n (j := 0) dX1_yieldWith_0 rfl rfl ?_
  refine s_iconst dX1_yieldWith_1 (cin rfl) ?_
  refine s_iload_n (j := 1) dX1_yieldWith_2 rfl rfl ?_
  obtain ⟨q1, hv2, h⟩ := bnd h
  refine s_callV (As := [vI 0, vI x1]) (rest := []) (r := none) (F' := q1) dX1_yieldWith_3 (clX1_145 (Nat.le_of_ble_eq_true rfl) (Nat.le_of_ble_eq_true rfl)) ho rfl ⟨_, _, _, _, rfl, ho, hv2, rfl, rfl⟩ rfl (Nat.le_of_ble_eq_true rfl) ?_
  refine s_aload_n (j := 0) dX1_yieldWith_6 rfl rfl ?_
  refine s_iconst dX1_yieldWith_7 (cin rfl) ?_
  obtain ⟨q3, hv4, h⟩ := bnd h
  refine s_callV (As := [vI (-1)]) (rest := []) (r := (some (vI q3.1))) (F' := q3.2) dX1_yieldWith_8 (clX1_149 (Nat.le_of_ble_eq_true rfl) (Nat.le_of_ble_eq_true rfl)) ho rfl ⟨_, _, _, rfl, ho, hv4, rfl, rfl⟩ rfl (Nat.le_of_ble_eq_true rfl) ?_
  refine s_aload_n (j := 0) dX1_yieldWith_11 rfl rfl ?_
  refine s_iload_n (j := 1) dX1_yieldWith_12 rfl rfl ?_
  obtain ⟨r5, hv6, h⟩ := bnd h
  refine s_callV (As := [vI x1]) (rest := [vI q3.1]) (r := (some (vI r5))) (F' := q3.2) dX1_yieldWith_13 (clX1_152 (Nat.le_of_ble_eq_true rfl) (Nat.le_of_ble_eq_true rfl)) ho rfl ⟨_, _, _, rfl, ho, hv6, rfl, rfl⟩ rfl (Nat.le_of_ble_eq_true rfl) ?_
  refine s_iadd dX1_yieldWith_16 ?_
  have h := Option.some.inj h
  subst h
  exact s_ireturn dX1_yieldWith_17 rfl hq
def gX1_yieldWith : XG := fun As F r F' => ∃ o : Nat, ∃ x1 : Int, ∃ res : (Int × Mem), As = [vR o, vI x1] ∧ isK o 1 ∧ fX1_yieldWith o x1 F = some res ∧ r = some (vI res.1) ∧ F' = res.2
theorem ctX1_yieldWith : xCT yX1_yieldWith cX1_yieldWith 2 (some FieldType.int) 4 112 gX1_yieldWith := xmet (by decide +kernel) (fun As F r F' hg => by obtain ⟨o, x1, res, rfl, ho, h, rfl, rfl⟩ := hg; exact Nat.le_of_ble_eq_true rfl) (fun As F r F' hg => by obtain ⟨o, x1, res, rfl, ho, h, rfl, rfl⟩ := hg; exact fX1_yieldWith_ok o x1 _ _ ho h ⟨rfl, rfl⟩)
theorem mcX1_yieldWith : Cond.code yX1_yieldWith cX1_yieldWith 2 (some FieldType.int) ∈ xw_T ∧ Cond.initialized yX1_yieldWith.cls ∈ xw_T ∧ Cond.instanceMethod yX1_yieldWith ∈ xw_T ∧ Cond.selects yX1_yieldWith.cls yX1_yieldWith yX1_yieldWith ∈ xw_T := ⟨(xinT 1234 (by decide +kernel) (by decide +kernel)), (xinT 124 (by decide +kernel) (by decide +kernel)), (xinT 1232 (by decide +kernel) (by decide +kernel)), (xinT 1233 (by decide +kernel) (by decide +kernel))⟩
theorem clX9_364 {fr lo : Nat} (h1 : 4 + 1 ≤ fr) (h2 : 8 + (2 + 11) + 112 ≤ lo) : xCall RX9 fr lo 0 364 1 1 gX1_yieldWith := ⟨_, _, _, _, _, _, ctX1_yieldWith, h1, h2, mcX1_yieldWith.1, (xinT 1231 (by decide +kernel) (by decide +kernel)), mcX1_yieldWith.2.1, ⟨by decide +kernel, by decide +kernel, by decide +kernel⟩, by rw [if_pos rfl]; exact ⟨mcX1_yieldWith.2.2.1, mcX1_yieldWith.2.2.2, _, _, rfl⟩⟩
theorem dX1_holderOf_0 : decode cX1_holderOf 0 = .ok (.aload_n 0, 1) := by decide +kernel
theorem dX1_holderOf_1 : decode cX1_holderOf 1 = .ok (.getfield 15, 3) := by decide +kernel
theorem dX1_holderOf_4 : decode cX1_holderOf 4 = .ok (.getfield 155, 3) := by decide +kernel
theorem dX1_holderOf_7 : decode cX1_holderOf 7 = .ok (.aload_n 0, 1) := by decide +kernel
theorem dX1_holderOf_8 : decode cX1_holderOf 8 = .ok (.getfield 19, 3) := by decide +kernel
theorem dX1_holderOf_11 : decode cX1_holderOf 11 = .ok (.bipush 48, 2) := by decide +kernel
theorem dX1_holderOf_13 : decode cX1_holderOf 13 = .ok (.imul, 1) := by decide +kernel
theorem dX1_holderOf_14 : decode cX1_holderOf 14 = .ok (.iload_n 1, 1) := by decide +kernel
theorem dX1_holderOf_15 : decode cX1_holderOf 15 = .ok (.iadd, 1) := by decide +kernel
theorem dX1_holderOf_16 : decode cX1_holderOf 16 = .ok (.iaload, 1) := by decide +kernel
theorem dX1_holderOf_17 : decode cX1_holderOf 17 = .ok (.ireturn, 1) := by decide +kernel
def zX1_holderOf (Qr : Option PV → Mem → Prop) : XZ := (RX1, 0, 0, 2, some FieldType.int, Qr)
noncomputable def fX1_holderOf (o : Nat) (x1 : Int) (F : Mem) : Option Int :=
  if (F o 1).toNat = 0 then none else
  if (0 : Int) ≤ (xw ((xw ((F o 2) * 48)) + x1)) ∧ (xw ((xw ((F o 2) * 48)) + x1)) < (alen (((F o 1).toNat) + 2) : Int) then
    some (F (((F o 1).toNat) + 2) (xw ((xw ((F o 2) * 48)) + x1)).toNat)
  else none
theorem fX1_holderOf_ok {Qr : Option PV → Mem → Prop} : ∀ (o : Nat) (x1 : Int) (F : Mem) (res : Int) (ho : isK o 1), fX1_holderOf o x1 F = some res → Qr (some (vI res)) F → PR cX1_holderOf (zX1_holderOf Qr) 0 [(0, vR o), (1, vI x1)] [] F := by
  intro o x1 F res ho h hq
  refine s_aload_n (j := 0) dX1_holderOf_0 rfl rfl ?_
  refine s_getM dX1_holderOf_1 flX1_15 ho (fun hm1 => ?_)
  have hm1 : _ = 0 ∨ isK ((F o 1).toNat) 0 := hm1
  obtain ⟨hn2, h⟩ := gdn h
  refine s_getR dX1_holderOf_4 flX1_155 (hm1.resolve_left hn2) ?_
  refine s_aload_n (j := 0) dX1_holderOf_7 rfl rfl ?_
  refine s_getI dX1_holderOf_8 flX1_19 ho ?_
  refine s_bipush dX1_holderOf_11 rfl (cin rfl) ?_
  refine s_imul dX1_holderOf_13 ?_
  refine s_iload_n (j := 1) dX1_holderOf_14 rfl rfl ?_
  refine s_iadd dX1_holderOf_15 ?_
  obtain ⟨hb3, h⟩ := gd h
  refine s_iaload dX1_holderOf_16 (trX0_1 (hm1.resolve_left hn2)) hb3.1 hb3.2 ?_
  have h := Option.some.inj h
  subst h
  exact s_ireturn dX1_holderOf_17 rfl hq
def gX1_holderOf : XG := fun As F r F' => ∃ o : Nat, ∃ x1 : Int, ∃ res : Int, As = [vR o, vI x1] ∧ isK o 1 ∧ fX1_holderOf o x1 F = some res ∧ r = some (vI res) ∧ F' = F
theorem ctX1_holderOf : xCT yX1_holderOf cX1_holderOf 2 (some FieldType.int) 0 0 gX1_holderOf := xmet (by decide +kernel) (fun As F r F' hg => by obtain ⟨o, x1, res, rfl, ho, h, rfl, rfl⟩ := hg; exact Nat.le_of_ble_eq_true rfl) (fun As F r F' hg => by obtain ⟨o, x1, res, rfl, ho, h, rfl, rfl⟩ := hg; exact fX1_holderOf_ok o x1 _ _ ho h ⟨rfl, rfl⟩)
theorem mcX1_holderOf : Cond.code yX1_holderOf cX1_holderOf 2 (some FieldType.int) ∈ xw_T ∧ Cond.initialized yX1_holderOf.cls ∈ xw_T ∧ Cond.instanceMethod yX1_holderOf ∈ xw_T ∧ Cond.selects yX1_holderOf.cls yX1_holderOf yX1_holderOf ∈ xw_T := ⟨(xinT 1165 (by decide +kernel) (by decide +kernel)), (xinT 124 (by decide +kernel) (by decide +kernel)), (xinT 1163 (by decide +kernel) (by decide +kernel)), (xinT 1164 (by decide +kernel) (by decide +kernel))⟩
theorem clX5_35 {fr lo : Nat} (h1 : 0 + 1 ≤ fr) (h2 : 8 + (2 + 11) + 0 ≤ lo) : xCall RX5 fr lo 0 35 1 1 gX1_holderOf := ⟨_, _, _, _, _, _, ctX1_holderOf, h1, h2, mcX1_holderOf.1, (xinT 1162 (by decide +kernel) (by decide +kernel)), mcX1_holderOf.2.1, ⟨by decide +kernel, by decide +kernel, by decide +kernel⟩, by rw [if_pos rfl]; exact ⟨mcX1_holderOf.2.2.1, mcX1_holderOf.2.2.2, _, _, rfl⟩⟩
theorem clX6_92 {fr lo : Nat} (h1 : 0 + 1 ≤ fr) (h2 : 8 + (2 + 11) + 0 ≤ lo) : xCall RX6 fr lo 0 92 1 1 gX1_holderOf := ⟨_, _, _, _, _, _, ctX1_holderOf, h1, h2, mcX1_holderOf.1, (xinT 1208 (by decide +kernel) (by decide +kernel)), mcX1_holderOf.2.1, ⟨by decide +kernel, by decide +kernel, by decide +kernel⟩, by rw [if_pos rfl]; exact ⟨mcX1_holderOf.2.2.1, mcX1_holderOf.2.2.2, _, _, rfl⟩⟩
theorem dX1_setHolder_0 : decode cX1_setHolder 0 = .ok (.aload_n 0, 1) := by decide +kernel
theorem dX1_setHolder_1 : decode cX1_setHolder 1 = .ok (.getfield 15, 3) := by decide +kernel
theorem dX1_setHolder_4 : decode cX1_setHolder 4 = .ok (.getfield 155, 3) := by decide +kernel
theorem dX1_setHolder_7 : decode cX1_setHolder 7 = .ok (.aload_n 0, 1) := by decide +kernel
theorem dX1_setHolder_8 : decode cX1_setHolder 8 = .ok (.getfield 19, 3) := by decide +kernel
theorem dX1_setHolder_11 : decode cX1_setHolder 11 = .ok (.bipush 48, 2) := by decide +kernel
theorem dX1_setHolder_13 : decode cX1_setHolder 13 = .ok (.imul, 1) := by decide +kernel
theorem dX1_setHolder_14 : decode cX1_setHolder 14 = .ok (.iload_n 1, 1) := by decide +kernel
theorem dX1_setHolder_15 : decode cX1_setHolder 15 = .ok (.iadd, 1) := by decide +kernel
theorem dX1_setHolder_16 : decode cX1_setHolder 16 = .ok (.iload_n 2, 1) := by decide +kernel
theorem dX1_setHolder_17 : decode cX1_setHolder 17 = .ok (.iastore, 1) := by decide +kernel
theorem dX1_setHolder_18 : decode cX1_setHolder 18 = .ok (.return_, 1) := by decide +kernel
def zX1_setHolder (Qr : Option PV → Mem → Prop) : XZ := (RX1, 0, 0, 3, none, Qr)
noncomputable def fX1_setHolder (o : Nat) (x1 : Int) (x2 : Int) (F : Mem) : Option Mem :=
  if (F o 1).toNat = 0 then none else
  if (0 : Int) ≤ (xw ((xw ((F o 2) * 48)) + x1)) ∧ (xw ((xw ((F o 2) * 48)) + x1)) < (alen (((F o 1).toNat) + 2) : Int) then
    some (mset F (((F o 1).toNat) + 2) (xw ((xw ((F o 2) * 48)) + x1)).toNat x2)
  else none
theorem fX1_setHolder_ok {Qr : Option PV → Mem → Prop} : ∀ (o : Nat) (x1 : Int) (x2 : Int) (F : Mem) (res : Mem) (ho : isK o 1), fX1_setHolder o x1 x2 F = some res → Qr none res → PR cX1_setHolder (zX1_setHolder Qr) 0 [(0, vR o), (1, vI x1), (2, vI x2)] [] F := by
  intro o x1 x2 F res ho h hq
  refine s_aload_n (j := 0) dX1_setHolder_0 rfl rfl ?_
  refine s_getM dX1_setHolder_1 flX1_15 ho (fun hm1 => ?_)
  have hm1 : _ = 0 ∨ isK ((F o 1).toNat) 0 := hm1
  obtain ⟨hn2, h⟩ := gdn h
  refine s_getR dX1_setHolder_4 flX1_155 (hm1.resolve_left hn2) ?_
  refine s_aload_n (j := 0) dX1_setHolder_7 rfl rfl ?_
  refine s_getI dX1_setHolder_8 flX1_19 ho ?_
  refine s_bipush dX1_setHolder_11 rfl (cin rfl) ?_
  refine s_imul dX1_setHolder_13 ?_
  refine s_iload_n (j := 1) dX1_setHolder_14 rfl rfl ?_
  refine s_iadd dX1_setHolder_15 ?_
  refine s_iload_n (j := 2) dX1_setHolder_16 rfl rfl ?_
  obtain ⟨hb3, h⟩ := gd h
  refine s_iastore dX1_setHolder_17 (trX0_1 (hm1.resolve_left hn2)) hb3.1 hb3.2 ?_
  have h := Option.some.inj h
  subst h
  exact s_return dX1_setHolder_18 rfl hq
def gX1_setHolder : XG := fun As F r F' => ∃ o : Nat, ∃ x1 : Int, ∃ x2 : Int, ∃ res : Mem, As = [vR o, vI x1, vI x2] ∧ isK o 1 ∧ fX1_setHolder o x1 x2 F = some res ∧ r = none ∧ F' = res
theorem ctX1_setHolder : xCT yX1_setHolder cX1_setHolder 3 (none) 0 0 gX1_setHolder := xmet (by decide +kernel) (fun As F r F' hg => by obtain ⟨o, x1, x2, res, rfl, ho, h, rfl, rfl⟩ := hg; exact Nat.le_of_ble_eq_true rfl) (fun As F r F' hg => by obtain ⟨o, x1, x2, res, rfl, ho, h, rfl, rfl⟩ := hg; exact fX1_setHolder_ok o x1 x2 _ _ ho h ⟨rfl, rfl⟩)
theorem mcX1_setHolder : Cond.code yX1_setHolder cX1_setHolder 3 (none) ∈ xw_T ∧ Cond.initialized yX1_setHolder.cls ∈ xw_T ∧ Cond.instanceMethod yX1_setHolder ∈ xw_T ∧ Cond.selects yX1_setHolder.cls yX1_setHolder yX1_setHolder ∈ xw_T := ⟨(xinT 1286 (by decide +kernel) (by decide +kernel)), (xinT 124 (by decide +kernel) (by decide +kernel)), (xinT 1284 (by decide +kernel) (by decide +kernel)), (xinT 1285 (by decide +kernel) (by decide +kernel))⟩
theorem clX5_50 {fr lo : Nat} (h1 : 0 + 1 ≤ fr) (h2 : 8 + (3 + 11) + 0 ≤ lo) : xCall RX5 fr lo 0 50 1 2 gX1_setHolder := ⟨_, _, _, _, _, _, ctX1_setHolder, h1, h2, mcX1_setHolder.1, (xinT 1283 (by decide +kernel) (by decide +kernel)), mcX1_setHolder.2.1, ⟨by decide +kernel, by decide +kernel, by decide +kernel⟩, by rw [if_pos rfl]; exact ⟨mcX1_setHolder.2.2.1, mcX1_setHolder.2.2.2, _, _, rfl⟩⟩
theorem dX1_arriving_0 : decode cX1_arriving 0 = .ok (.iload_n 1, 1) := by decide +kernel
theorem dX1_arriving_1 : decode cX1_arriving 1 = .ok (.aload_n 0, 1) := by decide +kernel
theorem dX1_arriving_2 : decode cX1_arriving 2 = .ok (.getfield 45, 3) := by decide +kernel
theorem dX1_arriving_5 : decode cX1_arriving 5 = .ok (.iload_n 2, 1) := by decide +kernel
theorem dX1_arriving_6 : decode cX1_arriving 6 = .ok (.bipush 8, 2) := by decide +kernel
theorem dX1_arriving_8 : decode cX1_arriving 8 = .ok (.imul, 1) := by decide +kernel
theorem dX1_arriving_9 : decode cX1_arriving 9 = .ok (.iload_n 3, 1) := by decide +kernel
theorem dX1_arriving_10 : decode cX1_arriving 10 = .ok (.iadd, 1) := by decide +kernel
theorem dX1_arriving_11 : decode cX1_arriving 11 = .ok (.iaload, 1) := by decide +kernel
theorem dX1_arriving_12 : decode cX1_arriving 12 = .ok (.isub, 1) := by decide +kernel
theorem dX1_arriving_13 : decode cX1_arriving 13 = .ok (.istore 4, 2) := by decide +kernel
theorem dX1_arriving_15 : decode cX1_arriving 15 = .ok (.iload 4, 2) := by decide +kernel
theorem dX1_arriving_17 : decode cX1_arriving 17 = .ok (.ifCond .lt 34, 3) := by decide +kernel
theorem dX1_arriving_20 : decode cX1_arriving 20 = .ok (.iload 4, 2) := by decide +kernel
theorem dX1_arriving_22 : decode cX1_arriving 22 = .ok (.aload_n 0, 1) := by decide +kernel
theorem dX1_arriving_23 : decode cX1_arriving 23 = .ok (.getfield 39, 3) := by decide +kernel
theorem dX1_arriving_26 : decode cX1_arriving 26 = .ok (.iload 4, 2) := by decide +kernel
theorem dX1_arriving_28 : decode cX1_arriving 28 = .ok (.iaload, 1) := by decide +kernel
theorem dX1_arriving_29 : decode cX1_arriving 29 = .ok (.iadd, 1) := by decide +kernel
theorem dX1_arriving_30 : decode cX1_arriving 30 = .ok (.iload_n 1, 1) := by decide +kernel
theorem dX1_arriving_31 : decode cX1_arriving 31 = .ok (.if_icmp .lt 20, 3) := by decide +kernel
theorem dX1_arriving_34 : decode cX1_arriving 34 = .ok (.aload_n 0, 1) := by decide +kernel
theorem dX1_arriving_35 : decode cX1_arriving 35 = .ok (.getfield 51, 3) := by decide +kernel
theorem dX1_arriving_38 : decode cX1_arriving 38 = .ok (.iload 4, 2) := by decide +kernel
theorem dX1_arriving_40 : decode cX1_arriving 40 = .ok (.bipush 8, 2) := by decide +kernel
theorem dX1_arriving_42 : decode cX1_arriving 42 = .ok (.imul, 1) := by decide +kernel
theorem dX1_arriving_43 : decode cX1_arriving 43 = .ok (.iload_n 2, 1) := by decide +kernel
theorem dX1_arriving_44 : decode cX1_arriving 44 = .ok (.iadd, 1) := by decide +kernel
theorem dX1_arriving_45 : decode cX1_arriving 45 = .ok (.iaload, 1) := by decide +kernel
theorem dX1_arriving_46 : decode cX1_arriving 46 = .ok (.ldc 126, 2) := by decide +kernel
theorem dX1_arriving_48 : decode cX1_arriving 48 = .ok (.if_icmp .ne 6, 3) := by decide +kernel
theorem dX1_arriving_51 : decode cX1_arriving 51 = .ok (.ldc 126, 2) := by decide +kernel
theorem dX1_arriving_53 : decode cX1_arriving 53 = .ok (.ireturn, 1) := by decide +kernel
theorem dX1_arriving_54 : decode cX1_arriving 54 = .ok (.aload_n 0, 1) := by decide +kernel
theorem dX1_arriving_55 : decode cX1_arriving 55 = .ok (.getfield 51, 3) := by decide +kernel
theorem dX1_arriving_58 : decode cX1_arriving 58 = .ok (.iload 4, 2) := by decide +kernel
theorem dX1_arriving_60 : decode cX1_arriving 60 = .ok (.bipush 8, 2) := by decide +kernel
theorem dX1_arriving_62 : decode cX1_arriving 62 = .ok (.imul, 1) := by decide +kernel
theorem dX1_arriving_63 : decode cX1_arriving 63 = .ok (.iload_n 2, 1) := by decide +kernel
theorem dX1_arriving_64 : decode cX1_arriving 64 = .ok (.iadd, 1) := by decide +kernel
theorem dX1_arriving_65 : decode cX1_arriving 65 = .ok (.iaload, 1) := by decide +kernel
theorem dX1_arriving_66 : decode cX1_arriving 66 = .ok (.aload_n 0, 1) := by decide +kernel
theorem dX1_arriving_67 : decode cX1_arriving 67 = .ok (.getfield 42, 3) := by decide +kernel
theorem dX1_arriving_70 : decode cX1_arriving 70 = .ok (.iload_n 2, 1) := by decide +kernel
theorem dX1_arriving_71 : decode cX1_arriving 71 = .ok (.bipush 8, 2) := by decide +kernel
theorem dX1_arriving_73 : decode cX1_arriving 73 = .ok (.imul, 1) := by decide +kernel
theorem dX1_arriving_74 : decode cX1_arriving 74 = .ok (.iload_n 3, 1) := by decide +kernel
theorem dX1_arriving_75 : decode cX1_arriving 75 = .ok (.iadd, 1) := by decide +kernel
theorem dX1_arriving_76 : decode cX1_arriving 76 = .ok (.iaload, 1) := by decide +kernel
theorem dX1_arriving_77 : decode cX1_arriving 77 = .ok (.isub, 1) := by decide +kernel
theorem dX1_arriving_78 : decode cX1_arriving 78 = .ok (.ireturn, 1) := by decide +kernel
def zX1_arriving (Qr : Option PV → Mem → Prop) : XZ := (RX1, 0, 0, 5, some FieldType.int, Qr)
noncomputable def fX1_arriving (o : Nat) (x1 : Int) (x2 : Int) (x3 : Int) (F : Mem) : Option Int :=
  if (0 : Int) ≤ (xw ((xw (x2 * 8)) + x3)) ∧ (xw ((xw (x2 * 8)) + x3)) < (alen (o + 6) : Int) then
    if (xw (x1 - (F (o + 6) (xw ((xw (x2 * 8)) + x3)).toNat))) < 0 then
      some (-1000000000)
    else
      if (0 : Int) ≤ (xw (x1 - (F (o + 6) (xw ((xw (x2 * 8)) + x3)).toNat))) ∧ (xw (x1 - (F (o + 6) (xw ((xw (x2 * 8)) + x3)).toNat))) < (alen (o + 4) : Int) then
        if (xw ((xw (x1 - (F (o + 6) (xw ((xw (x2 * 8)) + x3)).toNat))) + (F (o + 4) (xw (x1 - (F (o + 6) (xw ((xw (x2 * 8)) + x3)).toNat))).toNat))) < x1 then
          some (-1000000000)
        else
          if (0 : Int) ≤ (xw ((xw ((xw (x1 - (F (o + 6) (xw ((xw (x2 * 8)) + x3)).toNat))) * 8)) + x2)) ∧ (xw ((xw ((xw (x1 - (F (o + 6) (xw ((xw (x2 * 8)) + x3)).toNat))) * 8)) + x2)) < (alen (o + 8) : Int) then
            if (F (o + 8) (xw ((xw ((xw (x1 - (F (o + 6) (xw ((xw (x2 * 8)) + x3)).toNat))) * 8)) + x2)).toNat) ≠ (-1000000000) then
              if (0 : Int) ≤ (xw ((xw ((xw (x1 - (F (o + 6) (xw ((xw (x2 * 8)) + x3)).toNat))) * 8)) + x2)) ∧ (xw ((xw ((xw (x1 - (F (o + 6) (xw ((xw (x2 * 8)) + x3)).toNat))) * 8)) + x2)) < (alen (o + 8) : Int) then
                if (0 : Int) ≤ (xw ((xw (x2 * 8)) + x3)) ∧ (xw ((xw (x2 * 8)) + x3)) < (alen (o + 5) : Int) then
                  some (xw ((F (o + 8) (xw ((xw ((xw (x1 - (F (o + 6) (xw ((xw (x2 * 8)) + x3)).toNat))) * 8)) + x2)).toNat) - (F (o + 5) (xw ((xw (x2 * 8)) + x3)).toNat)))
                else none
              else none
            else
              some (-1000000000)
          else none
      else none
  else none
theorem fX1_arriving_ok {Qr : Option PV → Mem → Prop} : ∀ (o : Nat) (x1 : Int) (x2 : Int) (x3 : Int) (F : Mem) (res : Int) (ho : isK o 1), fX1_arriving o x1 x2 x3 F = some res → Qr (some (vI res)) F → PR cX1_arriving (zX1_arriving Qr) 0 [(0, vR o), (1, vI x1), (2, vI x2), (3, vI x3)] [] F := by
  intro o x1 x2 x3 F res ho h hq
  refine s_iload_n (j := 1) dX1_arriving_0 rfl rfl ?_
  refine s_aload_n (j := 0) dX1_arriving_1 rfl rfl ?_
  refine s_getR dX1_arriving_2 flX1_45 ho ?_
  refine s_iload_n (j := 2) dX1_arriving_5 rfl rfl ?_
  refine s_bipush dX1_arriving_6 rfl (cin rfl) ?_
  refine s_imul dX1_arriving_8 ?_
  refine s_iload_n (j := 3) dX1_arriving_9 rfl rfl ?_
  refine s_iadd dX1_arriving_10 ?_
  obtain ⟨hb1, h⟩ := gd h
  refine s_iaload dX1_arriving_11 (trX1_10 ho) hb1.1 hb1.2 ?_
  refine s_isub dX1_arriving_12 ?_
  refine s_istore (ls' := [(4, vI (xw (x1 - (F (o + 6) (xw ((xw (x2 * 8)) + x3)).toNat)))), (0, vR o), (1, vI x1), (2, vI x2), (3, vI x3)]) dX1_arriving_13 (Nat.le_of_ble_eq_true rfl) rfl ?_
  refine s_iload (j := 0) dX1_arriving_15 rfl ?_
  refine s_if_lt (tgt := 51) dX1_arriving_17 rfl (fun hc2 => ?_) (fun hc2 => ?_)
  · have h := ifp hc2 h
    refine s_ldc dX1_arriving_51 kcX1_126 (cin rfl) ?_
    have h := Option.some.inj h
    subst h
    exact s_ireturn dX1_arriving_53 rfl hq
  · have h := ifn hc2 h
    refine s_iload (j := 0) dX1_arriving_20 rfl ?_
    refine s_aload_n (j := 1) dX1_arriving_22 rfl rfl ?_
    refine s_getR dX1_arriving_23 flX1_39 ho ?_
    refine s_iload (j := 0) dX1_arriving_26 rfl ?_
    obtain ⟨hb3, h⟩ := gd h
    refine s_iaload dX1_arriving_28 (trX1_8 ho) hb3.1 hb3.2 ?_
    refine s_iadd dX1_arriving_29 ?_
    refine s_iload_n (j := 2) dX1_arriving_30 rfl rfl ?_
    refine s_icmp_lt (tgt := 51) dX1_arriving_31 rfl (fun hc4 => ?_) (fun hc4 => ?_)
    · have h := ifp hc4 h
      refine s_ldc dX1_arriving_51 kcX1_126 (cin rfl) ?_
      have h := Option.some.inj h
      subst h
      exact s_ireturn dX1_arriving_53 rfl hq
    · have h := ifn hc4 h
      refine s_aload_n (j := 1) dX1_arriving_34 rfl rfl ?_
      refine s_getR dX1_arriving_35 flX1_51 ho ?_
      refine s_iload (j := 0) dX1_arriving_38 rfl ?_
      refine s_bipush dX1_arriving_40 rfl (cin rfl) ?_
      refine s_imul dX1_arriving_42 ?_
      refine s_iload_n (j := 3) dX1_arriving_43 rfl rfl ?_
      refine s_iadd dX1_arriving_44 ?_
      obtain ⟨hb5, h⟩ := gd h
      refine s_iaload dX1_arriving_45 (trX1_12 ho) hb5.1 hb5.2 ?_
      refine s_ldc dX1_arriving_46 kcX1_126 (cin rfl) ?_
      refine s_icmp_ne (tgt := 54) dX1_arriving_48 rfl (fun hc6 => ?_) (fun hc6 => ?_)
      · have h := ifp hc6 h
        refine s_aload_n (j := 1) dX1_arriving_54 rfl rfl ?_
        refine s_getR dX1_arriving_55 flX1_51 ho ?_
        refine s_iload (j := 0) dX1_arriving_58 rfl ?_
        refine s_bipush dX1_arriving_60 rfl (cin rfl) ?_
        refine s_imul dX1_arriving_62 ?_
        refine s_iload_n (j := 3) dX1_arriving_63 rfl rfl ?_
        refine s_iadd dX1_arriving_64 ?_
        obtain ⟨hb7, h⟩ := gd h
        refine s_iaload dX1_arriving_65 (trX1_12 ho) hb7.1 hb7.2 ?_
        refine s_aload_n (j := 1) dX1_arriving_66 rfl rfl ?_
        refine s_getR dX1_arriving_67 flX1_42 ho ?_
        refine s_iload_n (j := 3) dX1_arriving_70 rfl rfl ?_
        refine s_bipush dX1_arriving_71 rfl (cin rfl) ?_
        refine s_imul dX1_arriving_73 ?_
        refine s_iload_n (j := 4) dX1_arriving_74 rfl rfl ?_
        refine s_iadd dX1_arriving_75 ?_
        obtain ⟨hb8, h⟩ := gd h
        refine s_iaload dX1_arriving_76 (trX1_9 ho) hb8.1 hb8.2 ?_
        refine s_isub dX1_arriving_77 ?_
        have h := Option.some.inj h
        subst h
        exact s_ireturn dX1_arriving_78 rfl hq
      · have h := ifn hc6 h
        refine s_ldc dX1_arriving_51 kcX1_126 (cin rfl) ?_
        have h := Option.some.inj h
        subst h
        exact s_ireturn dX1_arriving_53 rfl hq
def gX1_arriving : XG := fun As F r F' => ∃ o : Nat, ∃ x1 : Int, ∃ x2 : Int, ∃ x3 : Int, ∃ res : Int, As = [vR o, vI x1, vI x2, vI x3] ∧ isK o 1 ∧ fX1_arriving o x1 x2 x3 F = some res ∧ r = some (vI res) ∧ F' = F
theorem ctX1_arriving : xCT yX1_arriving cX1_arriving 5 (some FieldType.int) 0 0 gX1_arriving := xmet (by decide +kernel) (fun As F r F' hg => by obtain ⟨o, x1, x2, x3, res, rfl, ho, h, rfl, rfl⟩ := hg; exact Nat.le_of_ble_eq_true rfl) (fun As F r F' hg => by obtain ⟨o, x1, x2, x3, res, rfl, ho, h, rfl, rfl⟩ := hg; exact fX1_arriving_ok o x1 x2 x3 _ _ ho h ⟨rfl, rfl⟩)
theorem mcX1_arriving : Cond.code yX1_arriving cX1_arriving 5 (some FieldType.int) ∈ xw_T ∧ Cond.initialized yX1_arriving.cls ∈ xw_T ∧ Cond.instanceMethod yX1_arriving ∈ xw_T ∧ Cond.selects yX1_arriving.cls yX1_arriving yX1_arriving ∈ xw_T := ⟨(xinT 1126 (by decide +kernel) (by decide +kernel)), (xinT 124 (by decide +kernel) (by decide +kernel)), (xinT 1125 (by decide +kernel) (by decide +kernel)), (xinT 33 (by decide +kernel) (by decide +kernel))⟩
theorem clX1_161 {fr lo : Nat} (h1 : 0 + 1 ≤ fr) (h2 : 8 + (5 + 11) + 0 ≤ lo) : xCall RX1 fr lo 0 161 1 3 gX1_arriving := ⟨_, _, _, _, _, _, ctX1_arriving, h1, h2, mcX1_arriving.1, (xinT 1123 (by decide +kernel) (by decide +kernel)), mcX1_arriving.2.1, ⟨by decide +kernel, by decide +kernel, by decide +kernel⟩, by rw [if_pos rfl]; exact ⟨mcX1_arriving.2.2.1, mcX1_arriving.2.2.2, _, _, rfl⟩⟩
theorem dX1_reachSlot_0 : decode cX1_reachSlot 0 = .ok (.iconst 0, 1) := by decide +kernel
theorem dX1_reachSlot_1 : decode cX1_reachSlot 1 = .ok (.istore_n 3, 1) := by decide +kernel
theorem dX1_reachSlot_2 : decode cX1_reachSlot 2 = .ok (.iload_n 3, 1) := by decide +kernel
theorem dX1_reachSlot_3 : decode cX1_reachSlot 3 = .ok (.aload_n 0, 1) := by decide +kernel
theorem dX1_reachSlot_4 : decode cX1_reachSlot 4 = .ok (.getfield 9, 3) := by decide +kernel
theorem dX1_reachSlot_7 : decode cX1_reachSlot 7 = .ok (.getfield 67, 3) := by decide +kernel
theorem dX1_reachSlot_10 : decode cX1_reachSlot 10 = .ok (.getfield 71, 3) := by decide +kernel
theorem dX1_reachSlot_13 : decode cX1_reachSlot 13 = .ok (.if_icmp .ge 154, 3) := by decide +kernel
theorem dX1_reachSlot_16 : decode cX1_reachSlot 16 = .ok (.ldc 126, 2) := by decide +kernel
theorem dX1_reachSlot_18 : decode cX1_reachSlot 18 = .ok (.istore 4, 2) := by decide +kernel
theorem dX1_reachSlot_20 : decode cX1_reachSlot 20 = .ok (.aload_n 0, 1) := by decide +kernel
theorem dX1_reachSlot_21 : decode cX1_reachSlot 21 = .ok (.getfield 51, 3) := by decide +kernel
theorem dX1_reachSlot_24 : decode cX1_reachSlot 24 = .ok (.iload_n 1, 1) := by decide +kernel
theorem dX1_reachSlot_25 : decode cX1_reachSlot 25 = .ok (.iconst 1, 1) := by decide +kernel
theorem dX1_reachSlot_26 : decode cX1_reachSlot 26 = .ok (.isub, 1) := by decide +kernel
theorem dX1_reachSlot_27 : decode cX1_reachSlot 27 = .ok (.bipush 8, 2) := by decide +kernel
theorem dX1_reachSlot_29 : decode cX1_reachSlot 29 = .ok (.imul, 1) := by decide +kernel
theorem dX1_reachSlot_30 : decode cX1_reachSlot 30 = .ok (.iload_n 3, 1) := by decide +kernel
theorem dX1_reachSlot_31 : decode cX1_reachSlot 31 = .ok (.iadd, 1) := by decide +kernel
theorem dX1_reachSlot_32 : decode cX1_reachSlot 32 = .ok (.iaload, 1) := by decide +kernel
theorem dX1_reachSlot_33 : decode cX1_reachSlot 33 = .ok (.istore 5, 2) := by decide +kernel
theorem dX1_reachSlot_35 : decode cX1_reachSlot 35 = .ok (.iload 5, 2) := by decide +kernel
theorem dX1_reachSlot_37 : decode cX1_reachSlot 37 = .ok (.ldc 126, 2) := by decide +kernel
theorem dX1_reachSlot_39 : decode cX1_reachSlot 39 = .ok (.if_icmp .eq 64, 3) := by decide +kernel
theorem dX1_reachSlot_42 : decode cX1_reachSlot 42 = .ok (.aload_n 0, 1) := by decide +kernel
theorem dX1_reachSlot_43 : decode cX1_reachSlot 43 = .ok (.iload_n 1, 1) := by decide +kernel
theorem dX1_reachSlot_44 : decode cX1_reachSlot 44 = .ok (.iconst 1, 1) := by decide +kernel
theorem dX1_reachSlot_45 : decode cX1_reachSlot 45 = .ok (.isub, 1) := by decide +kernel
theorem dX1_reachSlot_46 : decode cX1_reachSlot 46 = .ok (.iload_n 3, 1) := by decide +kernel
theorem dX1_reachSlot_47 : decode cX1_reachSlot 47 = .ok (.invokevirtual 140, 3) := by decide +kernel
theorem dX1_reachSlot_50 : decode cX1_reachSlot 50 = .ok (.ifCond .eq 53, 3) := by decide +kernel
theorem dX1_reachSlot_53 : decode cX1_reachSlot 53 = .ok (.iload_n 2, 1) := by decide +kernel
theorem dX1_reachSlot_54 : decode cX1_reachSlot 54 = .ok (.iconst (-1), 1) := by decide +kernel
theorem dX1_reachSlot_55 : decode cX1_reachSlot 55 = .ok (.if_icmp .ne 19, 3) := by decide +kernel
theorem dX1_reachSlot_58 : decode cX1_reachSlot 58 = .ok (.aload_n 0, 1) := by decide +kernel
theorem dX1_reachSlot_59 : decode cX1_reachSlot 59 = .ok (.getfield 33, 3) := by decide +kernel
theorem dX1_reachSlot_62 : decode cX1_reachSlot 62 = .ok (.iload_n 1, 1) := by decide +kernel
theorem dX1_reachSlot_63 : decode cX1_reachSlot 63 = .ok (.iconst 1, 1) := by decide +kernel
theorem dX1_reachSlot_64 : decode cX1_reachSlot 64 = .ok (.isub, 1) := by decide +kernel
theorem dX1_reachSlot_65 : decode cX1_reachSlot 65 = .ok (.bipush 8, 2) := by decide +kernel
theorem dX1_reachSlot_67 : decode cX1_reachSlot 67 = .ok (.imul, 1) := by decide +kernel
theorem dX1_reachSlot_68 : decode cX1_reachSlot 68 = .ok (.iload_n 3, 1) := by decide +kernel
theorem dX1_reachSlot_69 : decode cX1_reachSlot 69 = .ok (.iadd, 1) := by decide +kernel
theorem dX1_reachSlot_70 : decode cX1_reachSlot 70 = .ok (.iaload, 1) := by decide +kernel
theorem dX1_reachSlot_71 : decode cX1_reachSlot 71 = .ok (.goto 20, 3) := by decide +kernel
theorem dX1_reachSlot_74 : decode cX1_reachSlot 74 = .ok (.iload_n 2, 1) := by decide +kernel
theorem dX1_reachSlot_75 : decode cX1_reachSlot 75 = .ok (.iload_n 3, 1) := by decide +kernel
theorem dX1_reachSlot_76 : decode cX1_reachSlot 76 = .ok (.if_icmp .ne 14, 3) := by decide +kernel
theorem dX1_reachSlot_79 : decode cX1_reachSlot 79 = .ok (.aload_n 0, 1) := by decide +kernel
theorem dX1_reachSlot_80 : decode cX1_reachSlot 80 = .ok (.iload_n 1, 1) := by decide +kernel
theorem dX1_reachSlot_81 : decode cX1_reachSlot 81 = .ok (.iconst 1, 1) := by decide +kernel
theorem dX1_reachSlot_82 : decode cX1_reachSlot 82 = .ok (.isub, 1) := by decide +kernel
theorem dX1_reachSlot_83 : decode cX1_reachSlot 83 = .ok (.iload_n 3, 1) := by decide +kernel
theorem dX1_reachSlot_84 : decode cX1_reachSlot 84 = .ok (.invokevirtual 105, 3) := by decide +kernel
theorem dX1_reachSlot_87 : decode cX1_reachSlot 87 = .ok (.goto 4, 3) := by decide +kernel
theorem dX1_reachSlot_90 : decode cX1_reachSlot 90 = .ok (.iconst 0, 1) := by decide +kernel
theorem dX1_reachSlot_91 : decode cX1_reachSlot 91 = .ok (.istore 6, 2) := by decide +kernel
theorem dX1_reachSlot_93 : decode cX1_reachSlot 93 = .ok (.iload 5, 2) := by decide +kernel
theorem dX1_reachSlot_95 : decode cX1_reachSlot 95 = .ok (.iload 6, 2) := by decide +kernel
theorem dX1_reachSlot_97 : decode cX1_reachSlot 97 = .ok (.ldc 144, 2) := by decide +kernel
theorem dX1_reachSlot_99 : decode cX1_reachSlot 99 = .ok (.imul, 1) := by decide +kernel
theorem dX1_reachSlot_100 : decode cX1_reachSlot 100 = .ok (.iadd, 1) := by decide +kernel
theorem dX1_reachSlot_101 : decode cX1_reachSlot 101 = .ok (.istore 4, 2) := by decide +kernel
theorem dX1_reachSlot_103 : decode cX1_reachSlot 103 = .ok (.iconst 0, 1) := by decide +kernel
theorem dX1_reachSlot_104 : decode cX1_reachSlot 104 = .ok (.istore 6, 2) := by decide +kernel
theorem dX1_reachSlot_106 : decode cX1_reachSlot 106 = .ok (.iload 6, 2) := by decide +kernel
theorem dX1_reachSlot_108 : decode cX1_reachSlot 108 = .ok (.aload_n 0, 1) := by decide +kernel
theorem dX1_reachSlot_109 : decode cX1_reachSlot 109 = .ok (.getfield 9, 3) := by decide +kernel
theorem dX1_reachSlot_112 : decode cX1_reachSlot 112 = .ok (.getfield 67, 3) := by decide +kernel
theorem dX1_reachSlot_115 : decode cX1_reachSlot 115 = .ok (.getfield 71, 3) := by decide +kernel
theorem dX1_reachSlot_118 : decode cX1_reachSlot 118 = .ok (.if_icmp .ge 30, 3) := by decide +kernel
theorem dX1_reachSlot_121 : decode cX1_reachSlot 121 = .ok (.iload 6, 2) := by decide +kernel
theorem dX1_reachSlot_123 : decode cX1_reachSlot 123 = .ok (.iload_n 3, 1) := by decide +kernel
theorem dX1_reachSlot_124 : decode cX1_reachSlot 124 = .ok (.if_icmp .eq 18, 3) := by decide +kernel
theorem dX1_reachSlot_127 : decode cX1_reachSlot 127 = .ok (.iload 4, 2) := by decide +kernel
theorem dX1_reachSlot_129 : decode cX1_reachSlot 129 = .ok (.aload_n 0, 1) := by decide +kernel
theorem dX1_reachSlot_130 : decode cX1_reachSlot 130 = .ok (.iload_n 1, 1) := by decide +kernel
theorem dX1_reachSlot_131 : decode cX1_reachSlot 131 = .ok (.iload 6, 2) := by decide +kernel
theorem dX1_reachSlot_133 : decode cX1_reachSlot 133 = .ok (.iload_n 3, 1) := by decide +kernel
theorem dX1_reachSlot_134 : decode cX1_reachSlot 134 = .ok (.invokevirtual 161, 3) := by decide +kernel
theorem dX1_reachSlot_137 : decode cX1_reachSlot 137 = .ok (.invokestatic 115, 3) := by decide +kernel
theorem dX1_reachSlot_140 : decode cX1_reachSlot 140 = .ok (.istore 4, 2) := by decide +kernel
theorem dX1_reachSlot_142 : decode cX1_reachSlot 142 = .ok (.iinc 6 1, 3) := by decide +kernel
theorem dX1_reachSlot_145 : decode cX1_reachSlot 145 = .ok (.goto (-39), 3) := by decide +kernel
theorem dX1_reachSlot_148 : decode cX1_reachSlot 148 = .ok (.aload_n 0, 1) := by decide +kernel
theorem dX1_reachSlot_149 : decode cX1_reachSlot 149 = .ok (.getfield 51, 3) := by decide +kernel
theorem dX1_reachSlot_152 : decode cX1_reachSlot 152 = .ok (.iload_n 1, 1) := by decide +kernel
theorem dX1_reachSlot_153 : decode cX1_reachSlot 153 = .ok (.bipush 8, 2) := by decide +kernel
theorem dX1_reachSlot_155 : decode cX1_reachSlot 155 = .ok (.imul, 1) := by decide +kernel
theorem dX1_reachSlot_156 : decode cX1_reachSlot 156 = .ok (.iload_n 3, 1) := by decide +kernel
theorem dX1_reachSlot_157 : decode cX1_reachSlot 157 = .ok (.iadd, 1) := by decide +kernel
theorem dX1_reachSlot_158 : decode cX1_reachSlot 158 = .ok (.iload 4, 2) := by decide +kernel
theorem dX1_reachSlot_160 : decode cX1_reachSlot 160 = .ok (.iastore, 1) := by decide +kernel
theorem dX1_reachSlot_161 : decode cX1_reachSlot 161 = .ok (.iinc 3 1, 3) := by decide +kernel
theorem dX1_reachSlot_164 : decode cX1_reachSlot 164 = .ok (.goto (-162), 3) := by decide +kernel
theorem dX1_reachSlot_167 : decode cX1_reachSlot 167 = .ok (.return_, 1) := by decide +kernel
def zX1_reachSlot (Qr : Option PV → Mem → Prop) : XZ := (RX1, 2, 44, 7, none, Qr)
noncomputable def fX1_reachSlot_b106 (k2 : Nat → Int → Int → Int → Mem → Option Mem) : Nat → Nat → Int → Int → Int → Int → Int → Mem → Option Mem
  | 0, _, _, _, _, _, _, _ => none
  | n + 1, o, x1, x2, x3, x4, x6, F =>
    if (F o 0).toNat = 0 then none else
    if (F (((F o 0).toNat) + 1) 3) ≤ x6 then
      if (0 : Int) ≤ (xw ((xw (x1 * 8)) + x3)) ∧ (xw ((xw (x1 * 8)) + x3)) < (alen (o + 8) : Int) then
        k2 o x1 x2 (xw (x3 + 1)) (mset F (o + 8) (xw ((xw (x1 * 8)) + x3)).toNat x4)
      else none
    else
      if x6 = x3 then
        fX1_reachSlot_b106 k2 n o x1 x2 x3 x4 (xw (x6 + 1)) F
      else
        (fX1_arriving o x1 x6 x3 F).bind fun r6 =>
        fX1_reachSlot_b106 k2 n o x1 x2 x3 (xmax x4 r6) (xw (x6 + 1)) F
noncomputable def fX1_reachSlot_b2 : Nat → Nat → Int → Int → Int → Mem → Option Mem
  | 0, _, _, _, _, _ => none
  | n + 1, o, x1, x2, x3, F =>
    if (F o 0).toNat = 0 then none else
    if (F (((F o 0).toNat) + 1) 3) ≤ x3 then
      some F
    else
      if (0 : Int) ≤ (xw ((xw ((xw (x1 - 1)) * 8)) + x3)) ∧ (xw ((xw ((xw (x1 - 1)) * 8)) + x3)) < (alen (o + 8) : Int) then
        if (F (o + 8) (xw ((xw ((xw (x1 - 1)) * 8)) + x3)).toNat) = (-1000000000) then
          fX1_reachSlot_b106 (fX1_reachSlot_b2 n) FU o x1 x2 x3 (-1000000000) 0 F
        else
          (fX1_canStay o (xw (x1 - 1)) x3 F).bind fun r6 =>
          if r6 = 0 then
            fX1_reachSlot_b106 (fX1_reachSlot_b2 n) FU o x1 x2 x3 (-1000000000) 0 F
          else
            if x2 ≠ (-1) then
              if x2 ≠ x3 then
                fX1_reachSlot_b106 (fX1_reachSlot_b2 n) FU o x1 x2 x3 (xw ((F (o + 8) (xw ((xw ((xw (x1 - 1)) * 8)) + x3)).toNat) + (xw (0 * 65536)))) 0 F
              else
                (fX1_gainIfHeld o (xw (x1 - 1)) x3 F).bind fun r11 =>
                fX1_reachSlot_b106 (fX1_reachSlot_b2 n) FU o x1 x2 x3 (xw ((F (o + 8) (xw ((xw ((xw (x1 - 1)) * 8)) + x3)).toNat) + (xw (r11 * 65536)))) 0 F
            else
              if (0 : Int) ≤ (xw ((xw ((xw (x1 - 1)) * 8)) + x3)) ∧ (xw ((xw ((xw (x1 - 1)) * 8)) + x3)) < (alen (o + 2) : Int) then
                fX1_reachSlot_b106 (fX1_reachSlot_b2 n) FU o x1 x2 x3 (xw ((F (o + 8) (xw ((xw ((xw (x1 - 1)) * 8)) + x3)).toNat) + (xw ((F (o + 2) (xw ((xw ((xw (x1 - 1)) * 8)) + x3)).toNat) * 65536)))) 0 F
              else none
      else none
noncomputable def fX1_reachSlot (o : Nat) (x1 : Int) (x2 : Int) (F : Mem) : Option Mem :=
  fX1_reachSlot_b2 FU o x1 x2 0 F
theorem fX1_reachSlot_b106_ok {Qr : Option PV → Mem → Prop}  (k2 : Nat → Int → Int → Int → Mem → Option Mem) (hk2 : ∀ (o : Nat) (x1 : Int) (x2 : Int) (x3 : Int) (F : Mem) (res : Mem) (ho : isK o 1), k2 o x1 x2 x3 F = some res → Qr none res → PR cX1_reachSlot (zX1_reachSlot Qr) 2 [(0, vR o), (1, vI x1), (2, vI x2), (3, vI x3)] [] F) : ∀ (n : Nat) (o : Nat) (x1 : Int) (x2 : Int) (x3 : Int) (x4 : Int) (x6 : Int) (F : Mem) (res : Mem) (ho : isK o 1), fX1_reachSlot_b106 k2 n o x1 x2 x3 x4 x6 F = some res → Qr none res → PR cX1_reachSlot (zX1_reachSlot Qr) 106 [(0, vR o), (1, vI x1), (2, vI x2), (3, vI x3), (4, vI x4), (6, vI x6)] [] F := by
  intro n
  induction n with
  | zero => intro o x1 x2 x3 x4 x6 F res ho h hq; exact nomatch (show (none : Option _) = some _ from h)
  | succ n ih =>
    intro o x1 x2 x3 x4 x6 F res ho h hq
    refine s_iload (j := 5) dX1_reachSlot_106 rfl ?_
    refine s_aload_n (j := 0) dX1_reachSlot_108 rfl rfl ?_
    refine s_getM dX1_reachSlot_109 flX1_9 ho (fun hm1 => ?_)
    have hm1 : _ = 0 ∨ isK ((F o 0).toNat) 7 := hm1
    obtain ⟨hn2, h⟩ := gdn h
    refine s_getR dX1_reachSlot_112 flX1_67 (hm1.resolve_left hn2) ?_
    refine s_getI dX1_reachSlot_115 flX1_71 (trX7_5 (hm1.resolve_left hn2)) ?_
    refine s_icmp_ge (tgt := 148) dX1_reachSlot_118 rfl (fun hc3 => ?_) (fun hc3 => ?_)
    · have h := ifp hc3 h
      refine s_aload_n (j := 0) dX1_reachSlot_148 rfl rfl ?_
      refine s_getR dX1_reachSlot_149 flX1_51 ho ?_
      refine s_iload_n (j := 1) dX1_reachSlot_152 rfl rfl ?_
      refine s_bipush dX1_reachSlot_153 rfl (cin rfl) ?_
      refine s_imul dX1_reachSlot_155 ?_
      refine s_iload_n (j := 3) dX1_reachSlot_156 rfl rfl ?_
      refine s_iadd dX1_reachSlot_157 ?_
      refine s_iload (j := 4) dX1_reachSlot_158 rfl ?_
      obtain ⟨hb4, h⟩ := gd h
      refine s_iastore dX1_reachSlot_160 (trX1_12 ho) hb4.1 hb4.2 ?_
      refine s_iinc (ls' := [(3, vI (xw (x3 + 1))), (0, vR o), (1, vI x1), (2, vI x2), (4, vI x4), (6, vI x6)]) (j := 3) dX1_reachSlot_161 rfl (Nat.le_of_ble_eq_true rfl) rfl ?_
      refine s_goto (tgt := 2) dX1_reachSlot_164 rfl ?_
      exact s_sub (ks := [1, 2, 3, 0]) rfl (hk2 o x1 x2 (xw (x3 + 1)) (mset F (o + 8) (xw ((xw (x1 * 8)) + x3)).toNat x4) _ ho h hq)
    · have h := ifn hc3 h
      refine s_iload (j := 5) dX1_reachSlot_121 rfl ?_
      refine s_iload_n (j := 3) dX1_reachSlot_123 rfl rfl ?_
      refine s_icmp_eq (tgt := 142) dX1_reachSlot_124 rfl (fun hc5 => ?_) (fun hc5 => ?_)
      · have h := ifp hc5 h
        refine s_iinc (ls' := [(6, vI (xw (x6 + 1))), (0, vR o), (1, vI x1), (2, vI x2), (3, vI x3), (4, vI x4)]) (j := 5) dX1_reachSlot_142 rfl (Nat.le_of_ble_eq_true rfl) rfl ?_
        refine s_goto (tgt := 106) dX1_reachSlot_145 rfl ?_
        exact s_sub (ks := [1, 2, 3, 4, 5, 0]) rfl (ih o x1 x2 x3 x4 (xw (x6 + 1)) F _ ho h hq)
      · have h := ifn hc5 h
        refine s_iload (j := 4) dX1_reachSlot_127 rfl ?_
        refine s_aload_n (j := 0) dX1_reachSlot_129 rfl rfl ?_
        refine s_iload_n (j := 1) dX1_reachSlot_130 rfl rfl ?_
        refine s_iload (j := 5) dX1_reachSlot_131 rfl ?_
        refine s_iload_n (j := 3) dX1_reachSlot_133 rfl rfl ?_
        obtain ⟨r6, hv7, h⟩ := bnd h
        refine s_callV (As := [vI x1, vI x6, vI x3]) (rest := [vI x4]) (r := (some (vI r6))) (F' := F) dX1_reachSlot_134 (clX1_161 (Nat.le_of_ble_eq_true rfl) (Nat.le_of_ble_eq_true rfl)) ho rfl ⟨_, _, _, _, _, rfl, ho, hv7, rfl, rfl⟩ rfl (Nat.le_of_ble_eq_true rfl) ?_
        refine s_mmax dX1_reachSlot_137 mtX1_115 (Nat.le_of_ble_eq_true rfl) ?_
        refine s_istore (ls' := [(4, vI (xmax x4 r6)), (0, vR o), (1, vI x1), (2, vI x2), (3, vI x3), (6, vI x6)]) dX1_reachSlot_140 (Nat.le_of_ble_eq_true rfl) rfl ?_
        refine s_iinc (j := 5) dX1_reachSlot_142 rfl (Nat.le_of_ble_eq_true rfl) rfl ?_
        refine s_goto (tgt := 106) dX1_reachSlot_145 rfl ?_
        exact s_sub (ks := [2, 3, 4, 5, 1, 0]) rfl (ih o x1 x2 x3 (xmax x4 r6) (xw (x6 + 1)) F _ ho h hq)
theorem fX1_reachSlot_b2_ok {Qr : Option PV → Mem → Prop}  : ∀ (n : Nat) (o : Nat) (x1 : Int) (x2 : Int) (x3 : Int) (F : Mem) (res : Mem) (ho : isK o 1), fX1_reachSlot_b2 n o x1 x2 x3 F = some res → Qr none res → PR cX1_reachSlot (zX1_reachSlot Qr) 2 [(0, vR o), (1, vI x1), (2, vI x2), (3, vI x3)] [] F := by
  intro n
  induction n with
  | zero => intro o x1 x2 x3 F res ho h hq; exact nomatch (show (none : Option _) = some _ from h)
  | succ n ih =>
    intro o x1 x2 x3 F res ho h hq
    refine s_iload_n (j := 3) dX1_reachSlot_2 rfl rfl ?_
    refine s_aload_n (j := 0) dX1_reachSlot_3 rfl rfl ?_
    refine s_getM dX1_reachSlot_4 flX1_9 ho (fun hm1 => ?_)
    have hm1 : _ = 0 ∨ isK ((F o 0).toNat) 7 := hm1
    obtain ⟨hn2, h⟩ := gdn h
    refine s_getR dX1_reachSlot_7 flX1_67 (hm1.resolve_left hn2) ?_
    refine s_getI dX1_reachSlot_10 flX1_71 (trX7_5 (hm1.resolve_left hn2)) ?_
    refine s_icmp_ge (tgt := 167) dX1_reachSlot_13 rfl (fun hc3 => ?_) (fun hc3 => ?_)
    · have h := ifp hc3 h
      have h := Option.some.inj h
      subst h
      exact s_return dX1_reachSlot_167 rfl hq
    · have h := ifn hc3 h
      refine s_ldc dX1_reachSlot_16 kcX1_126 (cin rfl) ?_
      refine s_istore (ls' := [(4, vI (-1000000000)), (0, vR o), (1, vI x1), (2, vI x2), (3, vI x3)]) dX1_reachSlot_18 (Nat.le_of_ble_eq_true rfl) rfl ?_
      refine s_aload_n (j := 1) dX1_reachSlot_20 rfl rfl ?_
      refine s_getR dX1_reachSlot_21 flX1_51 ho ?_
      refine s_iload_n (j := 2) dX1_reachSlot_24 rfl rfl ?_
      refine s_iconst dX1_reachSlot_25 (cin rfl) ?_
      refine s_isub dX1_reachSlot_26 ?_
      refine s_bipush dX1_reachSlot_27 rfl (cin rfl) ?_
      refine s_imul dX1_reachSlot_29 ?_
      refine s_iload_n (j := 4) dX1_reachSlot_30 rfl rfl ?_
      refine s_iadd dX1_reachSlot_31 ?_
      obtain ⟨hb4, h⟩ := gd h
      refine s_iaload dX1_reachSlot_32 (trX1_12 ho) hb4.1 hb4.2 ?_
      refine s_istore dX1_reachSlot_33 (Nat.le_of_ble_eq_true rfl) rfl ?_
      refine s_iload (j := 0) dX1_reachSlot_35 rfl ?_
      refine s_ldc dX1_reachSlot_37 kcX1_126 (cin rfl) ?_
      refine s_icmp_eq (tgt := 103) dX1_reachSlot_39 rfl (fun hc5 => ?_) (fun hc5 => ?_)
      · have h := ifp hc5 h
        refine s_iconst dX1_reachSlot_103 (cin rfl) ?_
        refine s_istore (ls' := [(6, vI 0), (5, vI (F (o + 8) (xw ((xw ((xw (x1 - 1)) * 8)) + x3)).toNat)), (4, vI (-1000000000)), (0, vR o), (1, vI x1), (2, vI x2), (3, vI x3)]) dX1_reachSlot_104 (Nat.le_of_ble_eq_true rfl) rfl ?_
        exact s_sub (ks := [3, 4, 5, 6, 2, 0]) rfl (fX1_reachSlot_b106_ok (fX1_reachSlot_b2 n) ih FU o x1 x2 x3 (-1000000000) 0 F _ ho h hq)
      · have h := ifn hc5 h
        refine s_aload_n (j := 2) dX1_reachSlot_42 rfl rfl ?_
        refine s_iload_n (j := 3) dX1_reachSlot_43 rfl rfl ?_
        refine s_iconst dX1_reachSlot_44 (cin rfl) ?_
        refine s_isub dX1_reachSlot_45 ?_
        refine s_iload_n (j := 5) dX1_reachSlot_46 rfl rfl ?_
        obtain ⟨r6, hv7, h⟩ := bnd h
        refine s_callV (As := [vI (xw (x1 - 1)), vI x3]) (rest := []) (r := (some (vI r6))) (F' := F) dX1_reachSlot_47 (clX1_140 (Nat.le_of_ble_eq_true rfl) (Nat.le_of_ble_eq_true rfl)) ho rfl ⟨_, _, _, _, rfl, ho, hv7, rfl, rfl⟩ rfl (Nat.le_of_ble_eq_true rfl) ?_
        refine s_if_eq (tgt := 103) dX1_reachSlot_50 rfl (fun hc8 => ?_) (fun hc8 => ?_)
        · have h := ifp hc8 h
          refine s_iconst dX1_reachSlot_103 (cin rfl) ?_
          refine s_istore (ls' := [(6, vI 0), (5, vI (F (o + 8) (xw ((xw ((xw (x1 - 1)) * 8)) + x3)).toNat)), (4, vI (-1000000000)), (0, vR o), (1, vI x1), (2, vI x2), (3, vI x3)]) dX1_reachSlot_104 (Nat.le_of_ble_eq_true rfl) rfl ?_
          exact s_sub (ks := [3, 4, 5, 6, 2, 0]) rfl (fX1_reachSlot_b106_ok (fX1_reachSlot_b2 n) ih FU o x1 x2 x3 (-1000000000) 0 F _ ho h hq)
        · have h := ifn hc8 h
          refine s_iload_n (j := 4) dX1_reachSlot_53 rfl rfl ?_
          refine s_iconst dX1_reachSlot_54 (cin rfl) ?_
          refine s_icmp_ne (tgt := 74) dX1_reachSlot_55 rfl (fun hc9 => ?_) (fun hc9 => ?_)
          · have h := ifp hc9 h
            refine s_iload_n (j := 4) dX1_reachSlot_74 rfl rfl ?_
            refine s_iload_n (j := 5) dX1_reachSlot_75 rfl rfl ?_
            refine s_icmp_ne (tgt := 90) dX1_reachSlot_76 rfl (fun hc10 => ?_) (fun hc10 => ?_)
            · have h := ifp hc10 h
              refine s_iconst dX1_reachSlot_90 (cin rfl) ?_
              refine s_istore (ls' := [(6, vI 0), (5, vI (F (o + 8) (xw ((xw ((xw (x1 - 1)) * 8)) + x3)).toNat)), (4, vI (-1000000000)), (0, vR o), (1, vI x1), (2, vI x2), (3, vI x3)]) dX1_reachSlot_91 (Nat.le_of_ble_eq_true rfl) rfl ?_
              refine s_iload (j := 1) dX1_reachSlot_93 rfl ?_
              refine s_iload (j := 0) dX1_reachSlot_95 rfl ?_
              refine s_ldc dX1_reachSlot_97 kcX1_144 (cin rfl) ?_
              refine s_imul dX1_reachSlot_99 ?_
              refine s_iadd dX1_reachSlot_100 ?_
              refine s_istore dX1_reachSlot_101 (Nat.le_of_ble_eq_true rfl) rfl ?_
              refine s_iconst dX1_reachSlot_103 (cin rfl) ?_
              refine s_istore (ls' := [(6, vI 0), (4, vI (xw ((F (o + 8) (xw ((xw ((xw (x1 - 1)) * 8)) + x3)).toNat) + (xw (0 * 65536))))), (5, vI (F (o + 8) (xw ((xw ((xw (x1 - 1)) * 8)) + x3)).toNat)), (0, vR o), (1, vI x1), (2, vI x2), (3, vI x3)]) dX1_reachSlot_104 (Nat.le_of_ble_eq_true rfl) rfl ?_
              exact s_sub (ks := [3, 4, 5, 6, 1, 0]) rfl (fX1_reachSlot_b106_ok (fX1_reachSlot_b2 n) ih FU o x1 x2 x3 (xw ((F (o + 8) (xw ((xw ((xw (x1 - 1)) * 8)) + x3)).toNat) + (xw (0 * 65536)))) 0 F _ ho h hq)
            · have h := ifn hc10 h
              refine s_aload_n (j := 2) dX1_reachSlot_79 rfl rfl ?_
              refine s_iload_n (j := 3) dX1_reachSlot_80 rfl rfl ?_
              refine s_iconst dX1_reachSlot_81 (cin rfl) ?_
              refine s_isub dX1_reachSlot_82 ?_
              refine s_iload_n (j := 5) dX1_reachSlot_83 rfl rfl ?_
              obtain ⟨r11, hv12, h⟩ := bnd h
              refine s_callV (As := [vI (xw (x1 - 1)), vI x3]) (rest := []) (r := (some (vI r11))) (F' := F) dX1_reachSlot_84 (clX1_105 (Nat.le_of_ble_eq_true rfl) (Nat.le_of_ble_eq_true rfl)) ho rfl ⟨_, _, _, _, rfl, ho, hv12, rfl, rfl⟩ rfl (Nat.le_of_ble_eq_true rfl) ?_
              refine s_goto (tgt := 91) dX1_reachSlot_87 rfl ?_
              refine s_istore (ls' := [(6, vI r11), (5, vI (F (o + 8) (xw ((xw ((xw (x1 - 1)) * 8)) + x3)).toNat)), (4, vI (-1000000000)), (0, vR o), (1, vI x1), (2, vI x2), (3, vI x3)]) dX1_reachSlot_91 (Nat.le_of_ble_eq_true rfl) rfl ?_
              refine s_iload (j := 1) dX1_reachSlot_93 rfl ?_
              refine s_iload (j := 0) dX1_reachSlot_95 rfl ?_
              refine s_ldc dX1_reachSlot_97 kcX1_144 (cin rfl) ?_
              refine s_imul dX1_reachSlot_99 ?_
              refine s_iadd dX1_reachSlot_100 ?_
              refine s_istore dX1_reachSlot_101 (Nat.le_of_ble_eq_true rfl) rfl ?_
              refine s_iconst dX1_reachSlot_103 (cin rfl) ?_
              refine s_istore (ls' := [(6, vI 0), (4, vI (xw ((F (o + 8) (xw ((xw ((xw (x1 - 1)) * 8)) + x3)).toNat) + (xw (r11 * 65536))))), (5, vI (F (o + 8) (xw ((xw ((xw (x1 - 1)) * 8)) + x3)).toNat)), (0, vR o), (1, vI x1), (2, vI x2), (3, vI x3)]) dX1_reachSlot_104 (Nat.le_of_ble_eq_true rfl) rfl ?_
              exact s_sub (ks := [3, 4, 5, 6, 1, 0]) rfl (fX1_reachSlot_b106_ok (fX1_reachSlot_b2 n) ih FU o x1 x2 x3 (xw ((F (o + 8) (xw ((xw ((xw (x1 - 1)) * 8)) + x3)).toNat) + (xw (r11 * 65536)))) 0 F _ ho h hq)
          · have h := ifn hc9 h
            refine s_aload_n (j := 2) dX1_reachSlot_58 rfl rfl ?_
            refine s_getR dX1_reachSlot_59 flX1_33 ho ?_
            refine s_iload_n (j := 3) dX1_reachSlot_62 rfl rfl ?_
            refine s_iconst dX1_reachSlot_63 (cin rfl) ?_
            refine s_isub dX1_reachSlot_64 ?_
            refine s_bipush dX1_reachSlot_65 rfl (cin rfl) ?_
            refine s_imul dX1_reachSlot_67 ?_
            refine s_iload_n (j := 5) dX1_reachSlot_68 rfl rfl ?_
            refine s_iadd dX1_reachSlot_69 ?_
            obtain ⟨hb13, h⟩ := gd h
            refine s_iaload dX1_reachSlot_70 (trX1_6 ho) hb13.1 hb13.2 ?_
            refine s_goto (tgt := 91) dX1_reachSlot_71 rfl ?_
            refine s_istore (ls' := [(6, vI (F (o + 2) (xw ((xw ((xw (x1 - 1)) * 8)) + x3)).toNat)), (5, vI (F (o + 8) (xw ((xw ((xw (x1 - 1)) * 8)) + x3)).toNat)), (4, vI (-1000000000)), (0, vR o), (1, vI x1), (2, vI x2), (3, vI x3)]) dX1_reachSlot_91 (Nat.le_of_ble_eq_true rfl) rfl ?_
            refine s_iload (j := 1) dX1_reachSlot_93 rfl ?_
            refine s_iload (j := 0) dX1_reachSlot_95 rfl ?_
            refine s_ldc dX1_reachSlot_97 kcX1_144 (cin rfl) ?_
            refine s_imul dX1_reachSlot_99 ?_
            refine s_iadd dX1_reachSlot_100 ?_
            refine s_istore dX1_reachSlot_101 (Nat.le_of_ble_eq_true rfl) rfl ?_
            refine s_iconst dX1_reachSlot_103 (cin rfl) ?_
            refine s_istore (ls' := [(6, vI 0), (4, vI (xw ((F (o + 8) (xw ((xw ((xw (x1 - 1)) * 8)) + x3)).toNat) + (xw ((F (o + 2) (xw ((xw ((xw (x1 - 1)) * 8)) + x3)).toNat) * 65536))))), (5, vI (F (o + 8) (xw ((xw ((xw (x1 - 1)) * 8)) + x3)).toNat)), (0, vR o), (1, vI x1), (2, vI x2), (3, vI x3)]) dX1_reachSlot_104 (Nat.le_of_ble_eq_true rfl) rfl ?_
            exact s_sub (ks := [3, 4, 5, 6, 1, 0]) rfl (fX1_reachSlot_b106_ok (fX1_reachSlot_b2 n) ih FU o x1 x2 x3 (xw ((F (o + 8) (xw ((xw ((xw (x1 - 1)) * 8)) + x3)).toNat) + (xw ((F (o + 2) (xw ((xw ((xw (x1 - 1)) * 8)) + x3)).toNat) * 65536)))) 0 F _ ho h hq)
theorem fX1_reachSlot_ok {Qr : Option PV → Mem → Prop} : ∀ (o : Nat) (x1 : Int) (x2 : Int) (F : Mem) (res : Mem) (ho : isK o 1), fX1_reachSlot o x1 x2 F = some res → Qr none res → PR cX1_reachSlot (zX1_reachSlot Qr) 0 [(0, vR o), (1, vI x1), (2, vI x2)] [] F := by
  intro o x1 x2 F res ho h hq
  refine s_iconst dX1_reachSlot_0 (cin rfl) ?_
  refine s_istore_n (ls' := [(3, vI 0), (0, vR o), (1, vI x1), (2, vI x2)]) dX1_reachSlot_1 rfl (Nat.le_of_ble_eq_true rfl) rfl ?_
  exact s_sub (ks := [1, 2, 3, 0]) rfl (fX1_reachSlot_b2_ok FU o x1 x2 0 F _ ho h hq)
def gX1_reachSlot : XG := fun As F r F' => ∃ o : Nat, ∃ x1 : Int, ∃ x2 : Int, ∃ res : Mem, As = [vR o, vI x1, vI x2] ∧ isK o 1 ∧ fX1_reachSlot o x1 x2 F = some res ∧ r = none ∧ F' = res
theorem ctX1_reachSlot : xCT yX1_reachSlot cX1_reachSlot 7 (none) 2 44 gX1_reachSlot := xmet (by decide +kernel) (fun As F r F' hg => by obtain ⟨o, x1, x2, res, rfl, ho, h, rfl, rfl⟩ := hg; exact Nat.le_of_ble_eq_true rfl) (fun As F r F' hg => by obtain ⟨o, x1, x2, res, rfl, ho, h, rfl, rfl⟩ := hg; exact fX1_reachSlot_ok o x1 x2 _ _ ho h ⟨rfl, rfl⟩)
theorem mcX1_reachSlot : Cond.code yX1_reachSlot cX1_reachSlot 7 (none) ∈ xw_T ∧ Cond.initialized yX1_reachSlot.cls ∈ xw_T ∧ Cond.instanceMethod yX1_reachSlot ∈ xw_T ∧ Cond.selects yX1_reachSlot.cls yX1_reachSlot yX1_reachSlot ∈ xw_T := ⟨(xinT 1122 (by decide +kernel) (by decide +kernel)), (xinT 124 (by decide +kernel) (by decide +kernel)), (xinT 1120 (by decide +kernel) (by decide +kernel)), (xinT 1121 (by decide +kernel) (by decide +kernel))⟩
theorem clX1_158 {fr lo : Nat} (h1 : 2 + 1 ≤ fr) (h2 : 8 + (7 + 11) + 44 ≤ lo) : xCall RX1 fr lo 0 158 1 2 gX1_reachSlot := ⟨_, _, _, _, _, _, ctX1_reachSlot, h1, h2, mcX1_reachSlot.1, (xinT 1119 (by decide +kernel) (by decide +kernel)), mcX1_reachSlot.2.1, ⟨by decide +kernel, by decide +kernel, by decide +kernel⟩, by rw [if_pos rfl]; exact ⟨mcX1_reachSlot.2.2.1, mcX1_reachSlot.2.2.2, _, _, rfl⟩⟩
theorem clX5_39 {fr lo : Nat} (h1 : 2 + 1 ≤ fr) (h2 : 8 + (7 + 11) + 44 ≤ lo) : xCall RX5 fr lo 0 39 1 2 gX1_reachSlot := ⟨_, _, _, _, _, _, ctX1_reachSlot, h1, h2, mcX1_reachSlot.1, (xinT 1166 (by decide +kernel) (by decide +kernel)), mcX1_reachSlot.2.1, ⟨by decide +kernel, by decide +kernel, by decide +kernel⟩, by rw [if_pos rfl]; exact ⟨mcX1_reachSlot.2.2.1, mcX1_reachSlot.2.2.2, _, _, rfl⟩⟩
theorem dX1_reachAll_0 : decode cX1_reachAll 0 = .ok (.iconst 0, 1) := by decide +kernel
theorem dX1_reachAll_1 : decode cX1_reachAll 1 = .ok (.istore_n 1, 1) := by decide +kernel
theorem dX1_reachAll_2 : decode cX1_reachAll 2 = .ok (.iload_n 1, 1) := by decide +kernel
theorem dX1_reachAll_3 : decode cX1_reachAll 3 = .ok (.aload_n 0, 1) := by decide +kernel
theorem dX1_reachAll_4 : decode cX1_reachAll 4 = .ok (.getfield 9, 3) := by decide +kernel
theorem dX1_reachAll_7 : decode cX1_reachAll 7 = .ok (.getfield 67, 3) := by decide +kernel
theorem dX1_reachAll_10 : decode cX1_reachAll 10 = .ok (.getfield 71, 3) := by decide +kernel
theorem dX1_reachAll_13 : decode cX1_reachAll 13 = .ok (.if_icmp .ge 32, 3) := by decide +kernel
theorem dX1_reachAll_16 : decode cX1_reachAll 16 = .ok (.aload_n 0, 1) := by decide +kernel
theorem dX1_reachAll_17 : decode cX1_reachAll 17 = .ok (.getfield 51, 3) := by decide +kernel
theorem dX1_reachAll_20 : decode cX1_reachAll 20 = .ok (.iload_n 1, 1) := by decide +kernel
theorem dX1_reachAll_21 : decode cX1_reachAll 21 = .ok (.iload_n 1, 1) := by decide +kernel
theorem dX1_reachAll_22 : decode cX1_reachAll 22 = .ok (.aload_n 0, 1) := by decide +kernel
theorem dX1_reachAll_23 : decode cX1_reachAll 23 = .ok (.getfield 9, 3) := by decide +kernel
theorem dX1_reachAll_26 : decode cX1_reachAll 26 = .ok (.getfield 130, 3) := by decide +kernel
theorem dX1_reachAll_29 : decode cX1_reachAll 29 = .ok (.if_icmp .ne 7, 3) := by decide +kernel
theorem dX1_reachAll_32 : decode cX1_reachAll 32 = .ok (.iconst 0, 1) := by decide +kernel
theorem dX1_reachAll_33 : decode cX1_reachAll 33 = .ok (.goto 5, 3) := by decide +kernel
theorem dX1_reachAll_36 : decode cX1_reachAll 36 = .ok (.ldc 126, 2) := by decide +kernel
theorem dX1_reachAll_38 : decode cX1_reachAll 38 = .ok (.iastore, 1) := by decide +kernel
theorem dX1_reachAll_39 : decode cX1_reachAll 39 = .ok (.iinc 1 1, 3) := by decide +kernel
theorem dX1_reachAll_42 : decode cX1_reachAll 42 = .ok (.goto (-40), 3) := by decide +kernel
theorem dX1_reachAll_45 : decode cX1_reachAll 45 = .ok (.iconst 1, 1) := by decide +kernel
theorem dX1_reachAll_46 : decode cX1_reachAll 46 = .ok (.istore_n 1, 1) := by decide +kernel
theorem dX1_reachAll_47 : decode cX1_reachAll 47 = .ok (.iload_n 1, 1) := by decide +kernel
theorem dX1_reachAll_48 : decode cX1_reachAll 48 = .ok (.aload_n 0, 1) := by decide +kernel
theorem dX1_reachAll_49 : decode cX1_reachAll 49 = .ok (.getfield 26, 3) := by decide +kernel
theorem dX1_reachAll_52 : decode cX1_reachAll 52 = .ok (.if_icmp .gt 15, 3) := by decide +kernel
theorem dX1_reachAll_55 : decode cX1_reachAll 55 = .ok (.aload_n 0, 1) := by decide +kernel
theorem dX1_reachAll_56 : decode cX1_reachAll 56 = .ok (.iload_n 1, 1) := by decide +kernel
theorem dX1_reachAll_57 : decode cX1_reachAll 57 = .ok (.iconst (-1), 1) := by decide +kernel
theorem dX1_reachAll_58 : decode cX1_reachAll 58 = .ok (.invokevirtual 158, 3) := by decide +kernel
theorem dX1_reachAll_61 : decode cX1_reachAll 61 = .ok (.iinc 1 1, 3) := by decide +kernel
theorem dX1_reachAll_64 : decode cX1_reachAll 64 = .ok (.goto (-17), 3) := by decide +kernel
theorem dX1_reachAll_67 : decode cX1_reachAll 67 = .ok (.return_, 1) := by decide +kernel
def zX1_reachAll (Qr : Option PV → Mem → Prop) : XZ := (RX1, 3, 70, 2, none, Qr)
noncomputable def fX1_reachAll_b47 : Nat → Nat → Int → Mem → Option Mem
  | 0, _, _, _ => none
  | n + 1, o, x1, F =>
    if (F o 4) < x1 then
      some F
    else
      (fX1_reachSlot o x1 (-1) F).bind fun q2 =>
      fX1_reachAll_b47 n o (xw (x1 + 1)) q2
noncomputable def fX1_reachAll_b2 : Nat → Nat → Int → Mem → Option Mem
  | 0, _, _, _ => none
  | n + 1, o, x1, F =>
    if (F o 0).toNat = 0 then none else
    if (F (((F o 0).toNat) + 1) 3) ≤ x1 then
      fX1_reachAll_b47 FU o 1 F
    else
      if (F o 0).toNat = 0 then none else
      if x1 ≠ (F ((F o 0).toNat) 4) then
        if (0 : Int) ≤ x1 ∧ x1 < (alen (o + 8) : Int) then
          fX1_reachAll_b2 n o (xw (x1 + 1)) (mset F (o + 8) x1.toNat (-1000000000))
        else none
      else
        if (0 : Int) ≤ x1 ∧ x1 < (alen (o + 8) : Int) then
          fX1_reachAll_b2 n o (xw (x1 + 1)) (mset F (o + 8) x1.toNat 0)
        else none
noncomputable def fX1_reachAll (o : Nat) (F : Mem) : Option Mem :=
  fX1_reachAll_b2 FU o 0 F
theorem fX1_reachAll_b47_ok {Qr : Option PV → Mem → Prop}  : ∀ (n : Nat) (o : Nat) (x1 : Int) (F : Mem) (res : Mem) (ho : isK o 1), fX1_reachAll_b47 n o x1 F = some res → Qr none res → PR cX1_reachAll (zX1_reachAll Qr) 47 [(0, vR o), (1, vI x1)] [] F := by
  intro n
  induction n with
  | zero => intro o x1 F res ho h hq; exact nomatch (show (none : Option _) = some _ from h)
  | succ n ih =>
    intro o x1 F res ho h hq
    refine s_iload_n (j := 1) dX1_reachAll_47 rfl rfl ?_
    refine s_aload_n (j := 0) dX1_reachAll_48 rfl rfl ?_
    refine s_getI dX1_reachAll_49 flX1_26 ho ?_
    refine s_icmp_gt (tgt := 67) dX1_reachAll_52 rfl (fun hc1 => ?_) (fun hc1 => ?_)
    · have h := ifp hc1 h
      have h := Option.some.inj h
      subst h
      exact s_return dX1_reachAll_67 rfl hq
    · have h := ifn hc1 h
      refine s_aload_n (j := 0) dX1_reachAll_55 rfl rfl ?_
      refine s_iload_n (j := 1) dX1_reachAll_56 rfl rfl ?_
      refine s_iconst dX1_reachAll_57 (cin rfl) ?_
      obtain ⟨q2, hv3, h⟩ := bnd h
      refine s_callV (As := [vI x1, vI (-1)]) (rest := []) (r := none) (F' := q2) dX1_reachAll_58 (clX1_158 (Nat.le_of_ble_eq_true rfl) (Nat.le_of_ble_eq_true rfl)) ho rfl ⟨_, _, _, _, rfl, ho, hv3, rfl, rfl⟩ rfl (Nat.le_of_ble_eq_true rfl) ?_
      refine s_iinc (ls' := [(1, vI (xw (x1 + 1))), (0, vR o)]) (j := 1) dX1_reachAll_61 rfl (Nat.le_of_ble_eq_true rfl) rfl ?_
      refine s_goto (tgt := 47) dX1_reachAll_64 rfl ?_
      exact s_sub (ks := [1, 0]) rfl (ih o (xw (x1 + 1)) q2 _ ho h hq)
theorem fX1_reachAll_b2_ok {Qr : Option PV → Mem → Prop}  : ∀ (n : Nat) (o : Nat) (x1 : Int) (F : Mem) (res : Mem) (ho : isK o 1), fX1_reachAll_b2 n o x1 F = some res → Qr none res → PR cX1_reachAll (zX1_reachAll Qr) 2 [(0, vR o), (1, vI x1)] [] F := by
  intro n
  induction n with
  | zero => intro o x1 F res ho h hq; exact nomatch (show (none : Option _) = some _ from h)
  | succ n ih =>
    intro o x1 F res ho h hq
    refine s_iload_n (j := 1) dX1_reachAll_2 rfl rfl ?_
    refine s_aload_n (j := 0) dX1_reachAll_3 rfl rfl ?_
    refine s_getM dX1_reachAll_4 flX1_9 ho (fun hm1 => ?_)
    have hm1 : _ = 0 ∨ isK ((F o 0).toNat) 7 := hm1
    obtain ⟨hn2, h⟩ := gdn h
    refine s_getR dX1_reachAll_7 flX1_67 (hm1.resolve_left hn2) ?_
    refine s_getI dX1_reachAll_10 flX1_71 (trX7_5 (hm1.resolve_left hn2)) ?_
    refine s_icmp_ge (tgt := 45) dX1_reachAll_13 rfl (fun hc3 => ?_) (fun hc3 => ?_)
    · have h := ifp hc3 h
      refine s_iconst dX1_reachAll_45 (cin rfl) ?_
      refine s_istore_n (ls' := [(1, vI 1), (0, vR o)]) dX1_reachAll_46 rfl (Nat.le_of_ble_eq_true rfl) rfl ?_
      exact s_sub (ks := [1, 0]) rfl (fX1_reachAll_b47_ok FU o 1 F _ ho h hq)
    · have h := ifn hc3 h
      refine s_aload_n (j := 0) dX1_reachAll_16 rfl rfl ?_
      refine s_getR dX1_reachAll_17 flX1_51 ho ?_
      refine s_iload_n (j := 1) dX1_reachAll_20 rfl rfl ?_
      refine s_iload_n (j := 1) dX1_reachAll_21 rfl rfl ?_
      refine s_aload_n (j := 0) dX1_reachAll_22 rfl rfl ?_
      refine s_getM dX1_reachAll_23 flX1_9 ho (fun hm4 => ?_)
      have hm4 : _ = 0 ∨ isK ((F o 0).toNat) 7 := hm4
      obtain ⟨hn5, h⟩ := gdn h
      refine s_getI dX1_reachAll_26 flX1_130 (hm4.resolve_left hn5) ?_
      refine s_icmp_ne (tgt := 36) dX1_reachAll_29 rfl (fun hc6 => ?_) (fun hc6 => ?_)
      · have h := ifp hc6 h
        refine s_ldc dX1_reachAll_36 kcX1_126 (cin rfl) ?_
        obtain ⟨hb7, h⟩ := gd h
        refine s_iastore dX1_reachAll_38 (trX1_12 ho) hb7.1 hb7.2 ?_
        refine s_iinc (ls' := [(1, vI (xw (x1 + 1))), (0, vR o)]) (j := 1) dX1_reachAll_39 rfl (Nat.le_of_ble_eq_true rfl) rfl ?_
        refine s_goto (tgt := 2) dX1_reachAll_42 rfl ?_
        exact s_sub (ks := [1, 0]) rfl (ih o (xw (x1 + 1)) (mset F (o + 8) x1.toNat (-1000000000)) _ ho h hq)
      · have h := ifn hc6 h
        refine s_iconst dX1_reachAll_32 (cin rfl) ?_
        refine s_goto (tgt := 38) dX1_reachAll_33 rfl ?_
        obtain ⟨hb8, h⟩ := gd h
        refine s_iastore dX1_reachAll_38 (trX1_12 ho) hb8.1 hb8.2 ?_
        refine s_iinc (ls' := [(1, vI (xw (x1 + 1))), (0, vR o)]) (j := 1) dX1_reachAll_39 rfl (Nat.le_of_ble_eq_true rfl) rfl ?_
        refine s_goto (tgt := 2) dX1_reachAll_42 rfl ?_
        exact s_sub (ks := [1, 0]) rfl (ih o (xw (x1 + 1)) (mset F (o + 8) x1.toNat 0) _ ho h hq)
theorem fX1_reachAll_ok {Qr : Option PV → Mem → Prop} : ∀ (o : Nat) (F : Mem) (res : Mem) (ho : isK o 1), fX1_reachAll o F = some res → Qr none res → PR cX1_reachAll (zX1_reachAll Qr) 0 [(0, vR o)] [] F := by
  intro o F res ho h hq
  refine s_iconst dX1_reachAll_0 (cin rfl) ?_
  refine s_istore_n (ls' := [(1, vI 0), (0, vR o)]) dX1_reachAll_1 rfl (Nat.le_of_ble_eq_true rfl) rfl ?_
  exact s_sub (ks := [1, 0]) rfl (fX1_reachAll_b2_ok FU o 0 F _ ho h hq)
def gX1_reachAll : XG := fun As F r F' => ∃ o : Nat, ∃ res : Mem, As = [vR o] ∧ isK o 1 ∧ fX1_reachAll o F = some res ∧ r = none ∧ F' = res
theorem ctX1_reachAll : xCT yX1_reachAll cX1_reachAll 2 (none) 3 70 gX1_reachAll := xmet (by decide +kernel) (fun As F r F' hg => by obtain ⟨o, res, rfl, ho, h, rfl, rfl⟩ := hg; exact Nat.le_of_ble_eq_true rfl) (fun As F r F' hg => by obtain ⟨o, res, rfl, ho, h, rfl, rfl⟩ := hg; exact fX1_reachAll_ok o _ _ ho h ⟨rfl, rfl⟩)
theorem mcX1_reachAll : Cond.code yX1_reachAll cX1_reachAll 2 (none) ∈ xw_T ∧ Cond.initialized yX1_reachAll.cls ∈ xw_T ∧ Cond.instanceMethod yX1_reachAll ∈ xw_T ∧ Cond.selects yX1_reachAll.cls yX1_reachAll yX1_reachAll ∈ xw_T := ⟨(xinT 1118 (by decide +kernel) (by decide +kernel)), (xinT 124 (by decide +kernel) (by decide +kernel)), (xinT 1116 (by decide +kernel) (by decide +kernel)), (xinT 1117 (by decide +kernel) (by decide +kernel))⟩
theorem clX5_28 {fr lo : Nat} (h1 : 3 + 1 ≤ fr) (h2 : 8 + (2 + 11) + 70 ≤ lo) : xCall RX5 fr lo 0 28 1 0 gX1_reachAll := ⟨_, _, _, _, _, _, ctX1_reachAll, h1, h2, mcX1_reachAll.1, (xinT 1161 (by decide +kernel) (by decide +kernel)), mcX1_reachAll.2.1, ⟨by decide +kernel, by decide +kernel, by decide +kernel⟩, by rw [if_pos rfl]; exact ⟨mcX1_reachAll.2.2.1, mcX1_reachAll.2.2.2, _, _, rfl⟩⟩
theorem clX9_272 {fr lo : Nat} (h1 : 3 + 1 ≤ fr) (h2 : 8 + (2 + 11) + 70 ≤ lo) : xCall RX9 fr lo 0 272 1 0 gX1_reachAll := ⟨_, _, _, _, _, _, ctX1_reachAll, h1, h2, mcX1_reachAll.1, (xinT 1115 (by decide +kernel) (by decide +kernel)), mcX1_reachAll.2.1, ⟨by decide +kernel, by decide +kernel, by decide +kernel⟩, by rw [if_pos rfl]; exact ⟨mcX1_reachAll.2.2.1, mcX1_reachAll.2.2.2, _, _, rfl⟩⟩
theorem dX1_gainThrough_0 : decode cX1_gainThrough 0 = .ok (.iconst (-1), 1) := by decide +kernel
theorem dX1_gainThrough_1 : decode cX1_gainThrough 1 = .ok (.istore_n 2, 1) := by decide +kernel
theorem dX1_gainThrough_2 : decode cX1_gainThrough 2 = .ok (.iconst 0, 1) := by decide +kernel
theorem dX1_gainThrough_3 : decode cX1_gainThrough 3 = .ok (.istore_n 3, 1) := by decide +kernel
theorem dX1_gainThrough_4 : decode cX1_gainThrough 4 = .ok (.iload_n 3, 1) := by decide +kernel
theorem dX1_gainThrough_5 : decode cX1_gainThrough 5 = .ok (.aload_n 0, 1) := by decide +kernel
theorem dX1_gainThrough_6 : decode cX1_gainThrough 6 = .ok (.getfield 9, 3) := by decide +kernel
theorem dX1_gainThrough_9 : decode cX1_gainThrough 9 = .ok (.getfield 67, 3) := by decide +kernel
theorem dX1_gainThrough_12 : decode cX1_gainThrough 12 = .ok (.getfield 71, 3) := by decide +kernel
theorem dX1_gainThrough_15 : decode cX1_gainThrough 15 = .ok (.if_icmp .ge 64, 3) := by decide +kernel
theorem dX1_gainThrough_18 : decode cX1_gainThrough 18 = .ok (.iload_n 1, 1) := by decide +kernel
theorem dX1_gainThrough_19 : decode cX1_gainThrough 19 = .ok (.bipush 8, 2) := by decide +kernel
theorem dX1_gainThrough_21 : decode cX1_gainThrough 21 = .ok (.imul, 1) := by decide +kernel
theorem dX1_gainThrough_22 : decode cX1_gainThrough 22 = .ok (.iload_n 3, 1) := by decide +kernel
theorem dX1_gainThrough_23 : decode cX1_gainThrough 23 = .ok (.iadd, 1) := by decide +kernel
theorem dX1_gainThrough_24 : decode cX1_gainThrough 24 = .ok (.istore 4, 2) := by decide +kernel
theorem dX1_gainThrough_26 : decode cX1_gainThrough 26 = .ok (.aload_n 0, 1) := by decide +kernel
theorem dX1_gainThrough_27 : decode cX1_gainThrough 27 = .ok (.getfield 51, 3) := by decide +kernel
theorem dX1_gainThrough_30 : decode cX1_gainThrough 30 = .ok (.iload 4, 2) := by decide +kernel
theorem dX1_gainThrough_32 : decode cX1_gainThrough 32 = .ok (.iaload, 1) := by decide +kernel
theorem dX1_gainThrough_33 : decode cX1_gainThrough 33 = .ok (.ldc 126, 2) := by decide +kernel
theorem dX1_gainThrough_35 : decode cX1_gainThrough 35 = .ok (.if_icmp .eq 38, 3) := by decide +kernel
theorem dX1_gainThrough_38 : decode cX1_gainThrough 38 = .ok (.aload_n 0, 1) := by decide +kernel
theorem dX1_gainThrough_39 : decode cX1_gainThrough 39 = .ok (.getfield 48, 3) := by decide +kernel
theorem dX1_gainThrough_42 : decode cX1_gainThrough 42 = .ok (.iload 4, 2) := by decide +kernel
theorem dX1_gainThrough_44 : decode cX1_gainThrough 44 = .ok (.iaload, 1) := by decide +kernel
theorem dX1_gainThrough_45 : decode cX1_gainThrough 45 = .ok (.ldc 126, 2) := by decide +kernel
theorem dX1_gainThrough_47 : decode cX1_gainThrough 47 = .ok (.if_icmp .eq 26, 3) := by decide +kernel
theorem dX1_gainThrough_50 : decode cX1_gainThrough 50 = .ok (.iload_n 2, 1) := by decide +kernel
theorem dX1_gainThrough_51 : decode cX1_gainThrough 51 = .ok (.aload_n 0, 1) := by decide +kernel
theorem dX1_gainThrough_52 : decode cX1_gainThrough 52 = .ok (.getfield 51, 3) := by decide +kernel
theorem dX1_gainThrough_55 : decode cX1_gainThrough 55 = .ok (.iload 4, 2) := by decide +kernel
theorem dX1_gainThrough_57 : decode cX1_gainThrough 57 = .ok (.iaload, 1) := by decide +kernel
theorem dX1_gainThrough_58 : decode cX1_gainThrough 58 = .ok (.aload_n 0, 1) := by decide +kernel
theorem dX1_gainThrough_59 : decode cX1_gainThrough 59 = .ok (.getfield 48, 3) := by decide +kernel
theorem dX1_gainThrough_62 : decode cX1_gainThrough 62 = .ok (.iload 4, 2) := by decide +kernel
theorem dX1_gainThrough_64 : decode cX1_gainThrough 64 = .ok (.iaload, 1) := by decide +kernel
theorem dX1_gainThrough_65 : decode cX1_gainThrough 65 = .ok (.iadd, 1) := by decide +kernel
theorem dX1_gainThrough_66 : decode cX1_gainThrough 66 = .ok (.invokestatic 133, 3) := by decide +kernel
theorem dX1_gainThrough_69 : decode cX1_gainThrough 69 = .ok (.invokestatic 115, 3) := by decide +kernel
theorem dX1_gainThrough_72 : decode cX1_gainThrough 72 = .ok (.istore_n 2, 1) := by decide +kernel
theorem dX1_gainThrough_73 : decode cX1_gainThrough 73 = .ok (.iinc 3 1, 3) := by decide +kernel
theorem dX1_gainThrough_76 : decode cX1_gainThrough 76 = .ok (.goto (-72), 3) := by decide +kernel
theorem dX1_gainThrough_79 : decode cX1_gainThrough 79 = .ok (.iload_n 2, 1) := by decide +kernel
theorem dX1_gainThrough_80 : decode cX1_gainThrough 80 = .ok (.ireturn, 1) := by decide +kernel
def zX1_gainThrough (Qr : Option PV → Mem → Prop) : XZ := (RX1, 1, 40, 5, some FieldType.int, Qr)
noncomputable def fX1_gainThrough_b4 (F : Mem) : Nat → Nat → Int → Int → Int → Option Int
  | 0, _, _, _, _ => none
  | n + 1, o, x1, x2, x3 =>
    if (F o 0).toNat = 0 then none else
    if (F (((F o 0).toNat) + 1) 3) ≤ x3 then
      some x2
    else
      if (0 : Int) ≤ (xw ((xw (x1 * 8)) + x3)) ∧ (xw ((xw (x1 * 8)) + x3)) < (alen (o + 8) : Int) then
        if (F (o + 8) (xw ((xw (x1 * 8)) + x3)).toNat) = (-1000000000) then
          fX1_gainThrough_b4 F n o x1 x2 (xw (x3 + 1))
        else
          if (0 : Int) ≤ (xw ((xw (x1 * 8)) + x3)) ∧ (xw ((xw (x1 * 8)) + x3)) < (alen (o + 7) : Int) then
            if (F (o + 7) (xw ((xw (x1 * 8)) + x3)).toNat) = (-1000000000) then
              fX1_gainThrough_b4 F n o x1 x2 (xw (x3 + 1))
            else
              if (0 : Int) ≤ (xw ((xw (x1 * 8)) + x3)) ∧ (xw ((xw (x1 * 8)) + x3)) < (alen (o + 8) : Int) then
                if (0 : Int) ≤ (xw ((xw (x1 * 8)) + x3)) ∧ (xw ((xw (x1 * 8)) + x3)) < (alen (o + 7) : Int) then
                  fX1_gainThrough_b4 F n o x1 (xmax x2 (fX1_gainOf (xw ((F (o + 8) (xw ((xw (x1 * 8)) + x3)).toNat) + (F (o + 7) (xw ((xw (x1 * 8)) + x3)).toNat))))) (xw (x3 + 1))
                else none
              else none
          else none
      else none
noncomputable def fX1_gainThrough (o : Nat) (x1 : Int) (F : Mem) : Option Int :=
  fX1_gainThrough_b4 F FU o x1 (-1) 0
theorem fX1_gainThrough_b4_ok {Qr : Option PV → Mem → Prop}  (F : Mem) : ∀ (n : Nat) (o : Nat) (x1 : Int) (x2 : Int) (x3 : Int) (res : Int) (ho : isK o 1), fX1_gainThrough_b4 F n o x1 x2 x3 = some res → Qr (some (vI res)) F → PR cX1_gainThrough (zX1_gainThrough Qr) 4 [(0, vR o), (1, vI x1), (2, vI x2), (3, vI x3)] [] F := by
  intro n
  induction n with
  | zero => intro o x1 x2 x3 res ho h hq; exact nomatch (show (none : Option _) = some _ from h)
  | succ n ih =>
    intro o x1 x2 x3 res ho h hq
    refine s_iload_n (j := 3) dX1_gainThrough_4 rfl rfl ?_
    refine s_aload_n (j := 0) dX1_gainThrough_5 rfl rfl ?_
    refine s_getM dX1_gainThrough_6 flX1_9 ho (fun hm1 => ?_)
    have hm1 : _ = 0 ∨ isK ((F o 0).toNat) 7 := hm1
    obtain ⟨hn2, h⟩ := gdn h
    refine s_getR dX1_gainThrough_9 flX1_67 (hm1.resolve_left hn2) ?_
    refine s_getI dX1_gainThrough_12 flX1_71 (trX7_5 (hm1.resolve_left hn2)) ?_
    refine s_icmp_ge (tgt := 79) dX1_gainThrough_15 rfl (fun hc3 => ?_) (fun hc3 => ?_)
    · have h := ifp hc3 h
      refine s_iload_n (j := 2) dX1_gainThrough_79 rfl rfl ?_
      have h := Option.some.inj h
      subst h
      exact s_ireturn dX1_gainThrough_80 rfl hq
    · have h := ifn hc3 h
      refine s_iload_n (j := 1) dX1_gainThrough_18 rfl rfl ?_
      refine s_bipush dX1_gainThrough_19 rfl (cin rfl) ?_
      refine s_imul dX1_gainThrough_21 ?_
      refine s_iload_n (j := 3) dX1_gainThrough_22 rfl rfl ?_
      refine s_iadd dX1_gainThrough_23 ?_
      refine s_istore (ls' := [(4, vI (xw ((xw (x1 * 8)) + x3))), (0, vR o), (1, vI x1), (2, vI x2), (3, vI x3)]) dX1_gainThrough_24 (Nat.le_of_ble_eq_true rfl) rfl ?_
      refine s_aload_n (j := 1) dX1_gainThrough_26 rfl rfl ?_
      refine s_getR dX1_gainThrough_27 flX1_51 ho ?_
      refine s_iload (j := 0) dX1_gainThrough_30 rfl ?_
      obtain ⟨hb4, h⟩ := gd h
      refine s_iaload dX1_gainThrough_32 (trX1_12 ho) hb4.1 hb4.2 ?_
      refine s_ldc dX1_gainThrough_33 kcX1_126 (cin rfl) ?_
      refine s_icmp_eq (tgt := 73) dX1_gainThrough_35 rfl (fun hc5 => ?_) (fun hc5 => ?_)
      · have h := ifp hc5 h
        refine s_iinc (ls' := [(3, vI (xw (x3 + 1))), (4, vI (xw ((xw (x1 * 8)) + x3))), (0, vR o), (1, vI x1), (2, vI x2)]) (j := 4) dX1_gainThrough_73 rfl (Nat.le_of_ble_eq_true rfl) rfl ?_
        refine s_goto (tgt := 4) dX1_gainThrough_76 rfl ?_
        exact s_sub (ks := [2, 3, 4, 0]) rfl (ih o x1 x2 (xw (x3 + 1)) _ ho h hq)
      · have h := ifn hc5 h
        refine s_aload_n (j := 1) dX1_gainThrough_38 rfl rfl ?_
        refine s_getR dX1_gainThrough_39 flX1_48 ho ?_
        refine s_iload (j := 0) dX1_gainThrough_42 rfl ?_
        obtain ⟨hb6, h⟩ := gd h
        refine s_iaload dX1_gainThrough_44 (trX1_11 ho) hb6.1 hb6.2 ?_
        refine s_ldc dX1_gainThrough_45 kcX1_126 (cin rfl) ?_
        refine s_icmp_eq (tgt := 73) dX1_gainThrough_47 rfl (fun hc7 => ?_) (fun hc7 => ?_)
        · have h := ifp hc7 h
          refine s_iinc (ls' := [(3, vI (xw (x3 + 1))), (4, vI (xw ((xw (x1 * 8)) + x3))), (0, vR o), (1, vI x1), (2, vI x2)]) (j := 4) dX1_gainThrough_73 rfl (Nat.le_of_ble_eq_true rfl) rfl ?_
          refine s_goto (tgt := 4) dX1_gainThrough_76 rfl ?_
          exact s_sub (ks := [2, 3, 4, 0]) rfl (ih o x1 x2 (xw (x3 + 1)) _ ho h hq)
        · have h := ifn hc7 h
          refine s_iload_n (j := 3) dX1_gainThrough_50 rfl rfl ?_
          refine s_aload_n (j := 1) dX1_gainThrough_51 rfl rfl ?_
          refine s_getR dX1_gainThrough_52 flX1_51 ho ?_
          refine s_iload (j := 0) dX1_gainThrough_55 rfl ?_
          obtain ⟨hb8, h⟩ := gd h
          refine s_iaload dX1_gainThrough_57 (trX1_12 ho) hb8.1 hb8.2 ?_
          refine s_aload_n (j := 1) dX1_gainThrough_58 rfl rfl ?_
          refine s_getR dX1_gainThrough_59 flX1_48 ho ?_
          refine s_iload (j := 0) dX1_gainThrough_62 rfl ?_
          obtain ⟨hb9, h⟩ := gd h
          refine s_iaload dX1_gainThrough_64 (trX1_11 ho) hb9.1 hb9.2 ?_
          refine s_iadd dX1_gainThrough_65 ?_
          refine s_callS (As := [vI (xw ((F (o + 8) (xw ((xw (x1 * 8)) + x3)).toNat) + (F (o + 7) (xw ((xw (x1 * 8)) + x3)).toNat)))]) (rest := [vI x2]) (r := (some (vI (fX1_gainOf (xw ((F (o + 8) (xw ((xw (x1 * 8)) + x3)).toNat) + (F (o + 7) (xw ((xw (x1 * 8)) + x3)).toNat))))))) (F' := F) dX1_gainThrough_66 (clX1_133 (Nat.le_of_ble_eq_true rfl) (Nat.le_of_ble_eq_true rfl)) rfl ⟨_, _, rfl, rfl, rfl, rfl⟩ rfl (Nat.le_of_ble_eq_true rfl) ?_
          refine s_mmax dX1_gainThrough_69 mtX1_115 (Nat.le_of_ble_eq_true rfl) ?_
          refine s_istore_n (ls' := [(2, vI (xmax x2 (fX1_gainOf (xw ((F (o + 8) (xw ((xw (x1 * 8)) + x3)).toNat) + (F (o + 7) (xw ((xw (x1 * 8)) + x3)).toNat)))))), (4, vI (xw ((xw (x1 * 8)) + x3))), (0, vR o), (1, vI x1), (3, vI x3)]) dX1_gainThrough_72 rfl (Nat.le_of_ble_eq_true rfl) rfl ?_
          refine s_iinc (j := 4) dX1_gainThrough_73 rfl (Nat.le_of_ble_eq_true rfl) rfl ?_
          refine s_goto (tgt := 4) dX1_gainThrough_76 rfl ?_
          exact s_sub (ks := [3, 4, 1, 0]) rfl (ih o x1 (xmax x2 (fX1_gainOf (xw ((F (o + 8) (xw ((xw (x1 * 8)) + x3)).toNat) + (F (o + 7) (xw ((xw (x1 * 8)) + x3)).toNat))))) (xw (x3 + 1)) _ ho h hq)
theorem fX1_gainThrough_ok {Qr : Option PV → Mem → Prop} : ∀ (o : Nat) (x1 : Int) (F : Mem) (res : Int) (ho : isK o 1), fX1_gainThrough o x1 F = some res → Qr (some (vI res)) F → PR cX1_gainThrough (zX1_gainThrough Qr) 0 [(0, vR o), (1, vI x1)] [] F := by
  intro o x1 F res ho h hq
  refine s_iconst dX1_gainThrough_0 (cin rfl) ?_
  refine s_istore_n (ls' := [(2, vI (-1)), (0, vR o), (1, vI x1)]) dX1_gainThrough_1 rfl (Nat.le_of_ble_eq_true rfl) rfl ?_
  refine s_iconst dX1_gainThrough_2 (cin rfl) ?_
  refine s_istore_n dX1_gainThrough_3 rfl (Nat.le_of_ble_eq_true rfl) rfl ?_
  exact s_sub (ks := [2, 3, 1, 0]) rfl (fX1_gainThrough_b4_ok F FU o x1 (-1) 0 _ ho h hq)
def gX1_gainThrough : XG := fun As F r F' => ∃ o : Nat, ∃ x1 : Int, ∃ res : Int, As = [vR o, vI x1] ∧ isK o 1 ∧ fX1_gainThrough o x1 F = some res ∧ r = some (vI res) ∧ F' = F
theorem ctX1_gainThrough : xCT yX1_gainThrough cX1_gainThrough 5 (some FieldType.int) 1 40 gX1_gainThrough := xmet (by decide +kernel) (fun As F r F' hg => by obtain ⟨o, x1, res, rfl, ho, h, rfl, rfl⟩ := hg; exact Nat.le_of_ble_eq_true rfl) (fun As F r F' hg => by obtain ⟨o, x1, res, rfl, ho, h, rfl, rfl⟩ := hg; exact fX1_gainThrough_ok o x1 _ _ ho h ⟨rfl, rfl⟩)
theorem mcX1_gainThrough : Cond.code yX1_gainThrough cX1_gainThrough 5 (some FieldType.int) ∈ xw_T ∧ Cond.initialized yX1_gainThrough.cls ∈ xw_T ∧ Cond.instanceMethod yX1_gainThrough ∈ xw_T ∧ Cond.selects yX1_gainThrough.cls yX1_gainThrough yX1_gainThrough ∈ xw_T := ⟨(xinT 1170 (by decide +kernel) (by decide +kernel)), (xinT 124 (by decide +kernel) (by decide +kernel)), (xinT 1168 (by decide +kernel) (by decide +kernel)), (xinT 1169 (by decide +kernel) (by decide +kernel))⟩
theorem clX5_43 {fr lo : Nat} (h1 : 1 + 1 ≤ fr) (h2 : 8 + (5 + 11) + 40 ≤ lo) : xCall RX5 fr lo 0 43 1 1 gX1_gainThrough := ⟨_, _, _, _, _, _, ctX1_gainThrough, h1, h2, mcX1_gainThrough.1, (xinT 1167 (by decide +kernel) (by decide +kernel)), mcX1_gainThrough.2.1, ⟨by decide +kernel, by decide +kernel, by decide +kernel⟩, by rw [if_pos rfl]; exact ⟨mcX1_gainThrough.2.2.1, mcX1_gainThrough.2.2.2, _, _, rfl⟩⟩
theorem dX1_gainStaying_0 : decode cX1_gainStaying 0 = .ok (.aload_n 0, 1) := by decide +kernel
theorem dX1_gainStaying_1 : decode cX1_gainStaying 1 = .ok (.getfield 51, 3) := by decide +kernel
theorem dX1_gainStaying_4 : decode cX1_gainStaying 4 = .ok (.iload_n 1, 1) := by decide +kernel
theorem dX1_gainStaying_5 : decode cX1_gainStaying 5 = .ok (.bipush 8, 2) := by decide +kernel
theorem dX1_gainStaying_7 : decode cX1_gainStaying 7 = .ok (.imul, 1) := by decide +kernel
theorem dX1_gainStaying_8 : decode cX1_gainStaying 8 = .ok (.iload_n 2, 1) := by decide +kernel
theorem dX1_gainStaying_9 : decode cX1_gainStaying 9 = .ok (.iadd, 1) := by decide +kernel
theorem dX1_gainStaying_10 : decode cX1_gainStaying 10 = .ok (.iaload, 1) := by decide +kernel
theorem dX1_gainStaying_11 : decode cX1_gainStaying 11 = .ok (.istore_n 3, 1) := by decide +kernel
theorem dX1_gainStaying_12 : decode cX1_gainStaying 12 = .ok (.aload_n 0, 1) := by decide +kernel
theorem dX1_gainStaying_13 : decode cX1_gainStaying 13 = .ok (.getfield 48, 3) := by decide +kernel
theorem dX1_gainStaying_16 : decode cX1_gainStaying 16 = .ok (.iload_n 1, 1) := by decide +kernel
theorem dX1_gainStaying_17 : decode cX1_gainStaying 17 = .ok (.iconst 1, 1) := by decide +kernel
theorem dX1_gainStaying_18 : decode cX1_gainStaying 18 = .ok (.iadd, 1) := by decide +kernel
theorem dX1_gainStaying_19 : decode cX1_gainStaying 19 = .ok (.bipush 8, 2) := by decide +kernel
theorem dX1_gainStaying_21 : decode cX1_gainStaying 21 = .ok (.imul, 1) := by decide +kernel
theorem dX1_gainStaying_22 : decode cX1_gainStaying 22 = .ok (.iload_n 2, 1) := by decide +kernel
theorem dX1_gainStaying_23 : decode cX1_gainStaying 23 = .ok (.iadd, 1) := by decide +kernel
theorem dX1_gainStaying_24 : decode cX1_gainStaying 24 = .ok (.iaload, 1) := by decide +kernel
theorem dX1_gainStaying_25 : decode cX1_gainStaying 25 = .ok (.istore 4, 2) := by decide +kernel
theorem dX1_gainStaying_27 : decode cX1_gainStaying 27 = .ok (.iload_n 3, 1) := by decide +kernel
theorem dX1_gainStaying_28 : decode cX1_gainStaying 28 = .ok (.ldc 126, 2) := by decide +kernel
theorem dX1_gainStaying_30 : decode cX1_gainStaying 30 = .ok (.if_icmp .eq 19, 3) := by decide +kernel
theorem dX1_gainStaying_33 : decode cX1_gainStaying 33 = .ok (.iload 4, 2) := by decide +kernel
theorem dX1_gainStaying_35 : decode cX1_gainStaying 35 = .ok (.ldc 126, 2) := by decide +kernel
theorem dX1_gainStaying_37 : decode cX1_gainStaying 37 = .ok (.if_icmp .eq 12, 3) := by decide +kernel
theorem dX1_gainStaying_40 : decode cX1_gainStaying 40 = .ok (.aload_n 0, 1) := by decide +kernel
theorem dX1_gainStaying_41 : decode cX1_gainStaying 41 = .ok (.iload_n 1, 1) := by decide +kernel
theorem dX1_gainStaying_42 : decode cX1_gainStaying 42 = .ok (.iload_n 2, 1) := by decide +kernel
theorem dX1_gainStaying_43 : decode cX1_gainStaying 43 = .ok (.invokevirtual 140, 3) := by decide +kernel
theorem dX1_gainStaying_46 : decode cX1_gainStaying 46 = .ok (.ifCond .ne 5, 3) := by decide +kernel
theorem dX1_gainStaying_49 : decode cX1_gainStaying 49 = .ok (.iconst (-1), 1) := by decide +kernel
theorem dX1_gainStaying_50 : decode cX1_gainStaying 50 = .ok (.ireturn, 1) := by decide +kernel
theorem dX1_gainStaying_51 : decode cX1_gainStaying 51 = .ok (.iload_n 3, 1) := by decide +kernel
theorem dX1_gainStaying_52 : decode cX1_gainStaying 52 = .ok (.iload 4, 2) := by decide +kernel
theorem dX1_gainStaying_54 : decode cX1_gainStaying 54 = .ok (.iadd, 1) := by decide +kernel
theorem dX1_gainStaying_55 : decode cX1_gainStaying 55 = .ok (.aload_n 0, 1) := by decide +kernel
theorem dX1_gainStaying_56 : decode cX1_gainStaying 56 = .ok (.iload_n 1, 1) := by decide +kernel
theorem dX1_gainStaying_57 : decode cX1_gainStaying 57 = .ok (.iload_n 2, 1) := by decide +kernel
theorem dX1_gainStaying_58 : decode cX1_gainStaying 58 = .ok (.invokevirtual 105, 3) := by decide +kernel
theorem dX1_gainStaying_61 : decode cX1_gainStaying 61 = .ok (.ldc 144, 2) := by decide +kernel
theorem dX1_gainStaying_63 : decode cX1_gainStaying 63 = .ok (.imul, 1) := by decide +kernel
theorem dX1_gainStaying_64 : decode cX1_gainStaying 64 = .ok (.iadd, 1) := by decide +kernel
theorem dX1_gainStaying_65 : decode cX1_gainStaying 65 = .ok (.invokestatic 133, 3) := by decide +kernel
theorem dX1_gainStaying_68 : decode cX1_gainStaying 68 = .ok (.ireturn, 1) := by decide +kernel
def zX1_gainStaying (Qr : Option PV → Mem → Prop) : XZ := (RX1, 2, 44, 5, some FieldType.int, Qr)
noncomputable def fX1_gainStaying (o : Nat) (x1 : Int) (x2 : Int) (F : Mem) : Option Int :=
  if (0 : Int) ≤ (xw ((xw (x1 * 8)) + x2)) ∧ (xw ((xw (x1 * 8)) + x2)) < (alen (o + 8) : Int) then
    if (0 : Int) ≤ (xw ((xw ((xw (x1 + 1)) * 8)) + x2)) ∧ (xw ((xw ((xw (x1 + 1)) * 8)) + x2)) < (alen (o + 7) : Int) then
      if (F (o + 8) (xw ((xw (x1 * 8)) + x2)).toNat) = (-1000000000) then
        some (-1)
      else
        if (F (o + 7) (xw ((xw ((xw (x1 + 1)) * 8)) + x2)).toNat) = (-1000000000) then
          some (-1)
        else
          (fX1_canStay o x1 x2 F).bind fun r5 =>
          if r5 ≠ 0 then
            (fX1_gainIfHeld o x1 x2 F).bind fun r8 =>
            some (fX1_gainOf (xw ((xw ((F (o + 8) (xw ((xw (x1 * 8)) + x2)).toNat) + (F (o + 7) (xw ((xw ((xw (x1 + 1)) * 8)) + x2)).toNat))) + (xw (r8 * 65536)))))
          else
            some (-1)
    else none
  else none
theorem fX1_gainStaying_ok {Qr : Option PV → Mem → Prop} : ∀ (o : Nat) (x1 : Int) (x2 : Int) (F : Mem) (res : Int) (ho : isK o 1), fX1_gainStaying o x1 x2 F = some res → Qr (some (vI res)) F → PR cX1_gainStaying (zX1_gainStaying Qr) 0 [(0, vR o), (1, vI x1), (2, vI x2)] [] F := by
  intro o x1 x2 F res ho h hq
  refine s_aload_n (j := 0) dX1_gainStaying_0 rfl rfl ?_
  refine s_getR dX1_gainStaying_1 flX1_51 ho ?_
  refine s_iload_n (j := 1) dX1_gainStaying_4 rfl rfl ?_
  refine s_bipush dX1_gainStaying_5 rfl (cin rfl) ?_
  refine s_imul dX1_gainStaying_7 ?_
  refine s_iload_n (j := 2) dX1_gainStaying_8 rfl rfl ?_
  refine s_iadd dX1_gainStaying_9 ?_
  obtain ⟨hb1, h⟩ := gd h
  refine s_iaload dX1_gainStaying_10 (trX1_12 ho) hb1.1 hb1.2 ?_
  refine s_istore_n (ls' := [(3, vI (F (o + 8) (xw ((xw (x1 * 8)) + x2)).toNat)), (0, vR o), (1, vI x1), (2, vI x2)]) dX1_gainStaying_11 rfl (Nat.le_of_ble_eq_true rfl) rfl ?_
  refine s_aload_n (j := 1) dX1_gainStaying_12 rfl rfl ?_
  refine s_getR dX1_gainStaying_13 flX1_48 ho ?_
  refine s_iload_n (j := 2) dX1_gainStaying_16 rfl rfl ?_
  refine s_iconst dX1_gainStaying_17 (cin rfl) ?_
  refine s_iadd dX1_gainStaying_18 ?_
  refine s_bipush dX1_gainStaying_19 rfl (cin rfl) ?_
  refine s_imul dX1_gainStaying_21 ?_
  refine s_iload_n (j := 3) dX1_gainStaying_22 rfl rfl ?_
  refine s_iadd dX1_gainStaying_23 ?_
  obtain ⟨hb2, h⟩ := gd h
  refine s_iaload dX1_gainStaying_24 (trX1_11 ho) hb2.1 hb2.2 ?_
  refine s_istore dX1_gainStaying_25 (Nat.le_of_ble_eq_true rfl) rfl ?_
  refine s_iload_n (j := 1) dX1_gainStaying_27 rfl rfl ?_
  refine s_ldc dX1_gainStaying_28 kcX1_126 (cin rfl) ?_
  refine s_icmp_eq (tgt := 49) dX1_gainStaying_30 rfl (fun hc3 => ?_) (fun hc3 => ?_)
  · have h := ifp hc3 h
    refine s_iconst dX1_gainStaying_49 (cin rfl) ?_
    have h := Option.some.inj h
    subst h
    exact s_ireturn dX1_gainStaying_50 rfl hq
  · have h := ifn hc3 h
    refine s_iload (j := 0) dX1_gainStaying_33 rfl ?_
    refine s_ldc dX1_gainStaying_35 kcX1_126 (cin rfl) ?_
    refine s_icmp_eq (tgt := 49) dX1_gainStaying_37 rfl (fun hc4 => ?_) (fun hc4 => ?_)
    · have h := ifp hc4 h
      refine s_iconst dX1_gainStaying_49 (cin rfl) ?_
      have h := Option.some.inj h
      subst h
      exact s_ireturn dX1_gainStaying_50 rfl hq
    · have h := ifn hc4 h
      refine s_aload_n (j := 2) dX1_gainStaying_40 rfl rfl ?_
      refine s_iload_n (j := 3) dX1_gainStaying_41 rfl rfl ?_
      refine s_iload_n (j := 4) dX1_gainStaying_42 rfl rfl ?_
      obtain ⟨r5, hv6, h⟩ := bnd h
      refine s_callV (As := [vI x1, vI x2]) (rest := []) (r := (some (vI r5))) (F' := F) dX1_gainStaying_43 (clX1_140 (Nat.le_of_ble_eq_true rfl) (Nat.le_of_ble_eq_true rfl)) ho rfl ⟨_, _, _, _, rfl, ho, hv6, rfl, rfl⟩ rfl (Nat.le_of_ble_eq_true rfl) ?_
      refine s_if_ne (tgt := 51) dX1_gainStaying_46 rfl (fun hc7 => ?_) (fun hc7 => ?_)
      · have h := ifp hc7 h
        refine s_iload_n (j := 1) dX1_gainStaying_51 rfl rfl ?_
        refine s_iload (j := 0) dX1_gainStaying_52 rfl ?_
        refine s_iadd dX1_gainStaying_54 ?_
        refine s_aload_n (j := 2) dX1_gainStaying_55 rfl rfl ?_
        refine s_iload_n (j := 3) dX1_gainStaying_56 rfl rfl ?_
        refine s_iload_n (j := 4) dX1_gainStaying_57 rfl rfl ?_
        obtain ⟨r8, hv9, h⟩ := bnd h
        refine s_callV (As := [vI x1, vI x2]) (rest := [vI (xw ((F (o + 8) (xw ((xw (x1 * 8)) + x2)).toNat) + (F (o + 7) (xw ((xw ((xw (x1 + 1)) * 8)) + x2)).toNat)))]) (r := (some (vI r8))) (F' := F) dX1_gainStaying_58 (clX1_105 (Nat.le_of_ble_eq_true rfl) (Nat.le_of_ble_eq_true rfl)) ho rfl ⟨_, _, _, _, rfl, ho, hv9, rfl, rfl⟩ rfl (Nat.le_of_ble_eq_true rfl) ?_
        refine s_ldc dX1_gainStaying_61 kcX1_144 (cin rfl) ?_
        refine s_imul dX1_gainStaying_63 ?_
        refine s_iadd dX1_gainStaying_64 ?_
        refine s_callS (As := [vI (xw ((xw ((F (o + 8) (xw ((xw (x1 * 8)) + x2)).toNat) + (F (o + 7) (xw ((xw ((xw (x1 + 1)) * 8)) + x2)).toNat))) + (xw (r8 * 65536))))]) (rest := []) (r := (some (vI (fX1_gainOf (xw ((xw ((F (o + 8) (xw ((xw (x1 * 8)) + x2)).toNat) + (F (o + 7) (xw ((xw ((xw (x1 + 1)) * 8)) + x2)).toNat))) + (xw (r8 * 65536)))))))) (F' := F) dX1_gainStaying_65 (clX1_133 (Nat.le_of_ble_eq_true rfl) (Nat.le_of_ble_eq_true rfl)) rfl ⟨_, _, rfl, rfl, rfl, rfl⟩ rfl (Nat.le_of_ble_eq_true rfl) ?_
        have h := Option.some.inj h
        subst h
        exact s_ireturn dX1_gainStaying_68 rfl hq
      · have h := ifn hc7 h
        refine s_iconst dX1_gainStaying_49 (cin rfl) ?_
        have h := Option.some.inj h
        subst h
        exact s_ireturn dX1_gainStaying_50 rfl hq
def gX1_gainStaying : XG := fun As F r F' => ∃ o : Nat, ∃ x1 : Int, ∃ x2 : Int, ∃ res : Int, As = [vR o, vI x1, vI x2] ∧ isK o 1 ∧ fX1_gainStaying o x1 x2 F = some res ∧ r = some (vI res) ∧ F' = F
theorem ctX1_gainStaying : xCT yX1_gainStaying cX1_gainStaying 5 (some FieldType.int) 2 44 gX1_gainStaying := xmet (by decide +kernel) (fun As F r F' hg => by obtain ⟨o, x1, x2, res, rfl, ho, h, rfl, rfl⟩ := hg; exact Nat.le_of_ble_eq_true rfl) (fun As F r F' hg => by obtain ⟨o, x1, x2, res, rfl, ho, h, rfl, rfl⟩ := hg; exact fX1_gainStaying_ok o x1 x2 _ _ ho h ⟨rfl, rfl⟩)
theorem mcX1_gainStaying : Cond.code yX1_gainStaying cX1_gainStaying 5 (some FieldType.int) ∈ xw_T ∧ Cond.initialized yX1_gainStaying.cls ∈ xw_T ∧ Cond.instanceMethod yX1_gainStaying ∈ xw_T ∧ Cond.selects yX1_gainStaying.cls yX1_gainStaying yX1_gainStaying ∈ xw_T := ⟨(xinT 1282 (by decide +kernel) (by decide +kernel)), (xinT 124 (by decide +kernel) (by decide +kernel)), (xinT 1280 (by decide +kernel) (by decide +kernel)), (xinT 1281 (by decide +kernel) (by decide +kernel))⟩
theorem clX5_60 {fr lo : Nat} (h1 : 2 + 1 ≤ fr) (h2 : 8 + (5 + 11) + 44 ≤ lo) : xCall RX5 fr lo 0 60 1 2 gX1_gainStaying := ⟨_, _, _, _, _, _, ctX1_gainStaying, h1, h2, mcX1_gainStaying.1, (xinT 1279 (by decide +kernel) (by decide +kernel)), mcX1_gainStaying.2.1, ⟨by decide +kernel, by decide +kernel, by decide +kernel⟩, by rw [if_pos rfl]; exact ⟨mcX1_gainStaying.2.2.1, mcX1_gainStaying.2.2.2, _, _, rfl⟩⟩
