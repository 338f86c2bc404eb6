theorem dX5_findDeal_0 : decode cX5_findDeal 0 = .ok (.aload_n 0, 1) := by decide +kernel
theorem dX5_findDeal_1 : decode cX5_findDeal 1 = .ok (.iconst (-1), 1) := by decide +kernel
theorem dX5_findDeal_2 : decode cX5_findDeal 2 = .ok (.putfield 9, 3) := by decide +kernel
theorem dX5_findDeal_5 : decode cX5_findDeal 5 = .ok (.aload_n 0, 1) := by decide +kernel
theorem dX5_findDeal_6 : decode cX5_findDeal 6 = .ok (.iconst (-1), 1) := by decide +kernel
theorem dX5_findDeal_7 : decode cX5_findDeal 7 = .ok (.putfield 15, 3) := by decide +kernel
theorem dX5_findDeal_10 : decode cX5_findDeal 10 = .ok (.aload_n 0, 1) := by decide +kernel
theorem dX5_findDeal_11 : decode cX5_findDeal 11 = .ok (.iconst 0, 1) := by decide +kernel
theorem dX5_findDeal_12 : decode cX5_findDeal 12 = .ok (.putfield 18, 3) := by decide +kernel
theorem dX5_findDeal_15 : decode cX5_findDeal 15 = .ok (.aload_n 1, 1) := by decide +kernel
theorem dX5_findDeal_16 : decode cX5_findDeal 16 = .ok (.invokevirtual 28, 3) := by decide +kernel
theorem dX5_findDeal_19 : decode cX5_findDeal 19 = .ok (.aload_n 1, 1) := by decide +kernel
theorem dX5_findDeal_20 : decode cX5_findDeal 20 = .ok (.getfield 33, 3) := by decide +kernel
theorem dX5_findDeal_23 : decode cX5_findDeal 23 = .ok (.iconst 1, 1) := by decide +kernel
theorem dX5_findDeal_24 : decode cX5_findDeal 24 = .ok (.isub, 1) := by decide +kernel
theorem dX5_findDeal_25 : decode cX5_findDeal 25 = .ok (.istore 5, 2) := by decide +kernel
theorem dX5_findDeal_27 : decode cX5_findDeal 27 = .ok (.iload 5, 2) := by decide +kernel
theorem dX5_findDeal_29 : decode cX5_findDeal 29 = .ok (.ifCond .lt 113, 3) := by decide +kernel
theorem dX5_findDeal_32 : decode cX5_findDeal 32 = .ok (.iconst 0, 1) := by decide +kernel
theorem dX5_findDeal_33 : decode cX5_findDeal 33 = .ok (.istore 6, 2) := by decide +kernel
theorem dX5_findDeal_35 : decode cX5_findDeal 35 = .ok (.iconst (-1), 1) := by decide +kernel
theorem dX5_findDeal_36 : decode cX5_findDeal 36 = .ok (.istore 7, 2) := by decide +kernel
theorem dX5_findDeal_38 : decode cX5_findDeal 38 = .ok (.iload 5, 2) := by decide +kernel
theorem dX5_findDeal_40 : decode cX5_findDeal 40 = .ok (.iconst 1, 1) := by decide +kernel
theorem dX5_findDeal_41 : decode cX5_findDeal 41 = .ok (.iadd, 1) := by decide +kernel
theorem dX5_findDeal_42 : decode cX5_findDeal 42 = .ok (.istore 8, 2) := by decide +kernel
theorem dX5_findDeal_44 : decode cX5_findDeal 44 = .ok (.iload 8, 2) := by decide +kernel
theorem dX5_findDeal_46 : decode cX5_findDeal 46 = .ok (.aload_n 1, 1) := by decide +kernel
theorem dX5_findDeal_47 : decode cX5_findDeal 47 = .ok (.getfield 33, 3) := by decide +kernel
theorem dX5_findDeal_50 : decode cX5_findDeal 50 = .ok (.if_icmp .gt 54, 3) := by decide +kernel
theorem dX5_findDeal_53 : decode cX5_findDeal 53 = .ok (.aload_n 1, 1) := by decide +kernel
theorem dX5_findDeal_54 : decode cX5_findDeal 54 = .ok (.iload 8, 2) := by decide +kernel
theorem dX5_findDeal_56 : decode cX5_findDeal 56 = .ok (.iconst 1, 1) := by decide +kernel
theorem dX5_findDeal_57 : decode cX5_findDeal 57 = .ok (.isub, 1) := by decide +kernel
theorem dX5_findDeal_58 : decode cX5_findDeal 58 = .ok (.invokevirtual 35, 3) := by decide +kernel
theorem dX5_findDeal_61 : decode cX5_findDeal 61 = .ok (.iload_n 3, 1) := by decide +kernel
theorem dX5_findDeal_62 : decode cX5_findDeal 62 = .ok (.if_icmp .ne 42, 3) := by decide +kernel
theorem dX5_findDeal_65 : decode cX5_findDeal 65 = .ok (.aload_n 1, 1) := by decide +kernel
theorem dX5_findDeal_66 : decode cX5_findDeal 66 = .ok (.iload 8, 2) := by decide +kernel
theorem dX5_findDeal_68 : decode cX5_findDeal 68 = .ok (.iload 4, 2) := by decide +kernel
theorem dX5_findDeal_70 : decode cX5_findDeal 70 = .ok (.invokevirtual 39, 3) := by decide +kernel
theorem dX5_findDeal_73 : decode cX5_findDeal 73 = .ok (.aload_n 1, 1) := by decide +kernel
theorem dX5_findDeal_74 : decode cX5_findDeal 74 = .ok (.iload 8, 2) := by decide +kernel
theorem dX5_findDeal_76 : decode cX5_findDeal 76 = .ok (.invokevirtual 43, 3) := by decide +kernel
theorem dX5_findDeal_79 : decode cX5_findDeal 79 = .ok (.iload_n 2, 1) := by decide +kernel
theorem dX5_findDeal_80 : decode cX5_findDeal 80 = .ok (.isub, 1) := by decide +kernel
theorem dX5_findDeal_81 : decode cX5_findDeal 81 = .ok (.istore 9, 2) := by decide +kernel
theorem dX5_findDeal_83 : decode cX5_findDeal 83 = .ok (.iload 9, 2) := by decide +kernel
theorem dX5_findDeal_85 : decode cX5_findDeal 85 = .ok (.iload 6, 2) := by decide +kernel
theorem dX5_findDeal_87 : decode cX5_findDeal 87 = .ok (.if_icmp .le 11, 3) := by decide +kernel
theorem dX5_findDeal_90 : decode cX5_findDeal 90 = .ok (.iload 9, 2) := by decide +kernel
theorem dX5_findDeal_92 : decode cX5_findDeal 92 = .ok (.istore 6, 2) := by decide +kernel
theorem dX5_findDeal_94 : decode cX5_findDeal 94 = .ok (.iload 8, 2) := by decide +kernel
theorem dX5_findDeal_96 : decode cX5_findDeal 96 = .ok (.istore 7, 2) := by decide +kernel
theorem dX5_findDeal_98 : decode cX5_findDeal 98 = .ok (.iinc 8 1, 3) := by decide +kernel
theorem dX5_findDeal_101 : decode cX5_findDeal 101 = .ok (.goto (-57), 3) := by decide +kernel
theorem dX5_findDeal_104 : decode cX5_findDeal 104 = .ok (.iload 6, 2) := by decide +kernel
theorem dX5_findDeal_106 : decode cX5_findDeal 106 = .ok (.ifCond .le 30, 3) := by decide +kernel
theorem dX5_findDeal_109 : decode cX5_findDeal 109 = .ok (.iload 6, 2) := by decide +kernel
theorem dX5_findDeal_111 : decode cX5_findDeal 111 = .ok (.aload_n 0, 1) := by decide +kernel
theorem dX5_findDeal_112 : decode cX5_findDeal 112 = .ok (.getfield 18, 3) := by decide +kernel
theorem dX5_findDeal_115 : decode cX5_findDeal 115 = .ok (.if_icmp .lt 21, 3) := by decide +kernel
theorem dX5_findDeal_118 : decode cX5_findDeal 118 = .ok (.aload_n 0, 1) := by decide +kernel
theorem dX5_findDeal_119 : decode cX5_findDeal 119 = .ok (.iload 6, 2) := by decide +kernel
theorem dX5_findDeal_121 : decode cX5_findDeal 121 = .ok (.putfield 18, 3) := by decide +kernel
theorem dX5_findDeal_124 : decode cX5_findDeal 124 = .ok (.aload_n 0, 1) := by decide +kernel
theorem dX5_findDeal_125 : decode cX5_findDeal 125 = .ok (.iload 5, 2) := by decide +kernel
theorem dX5_findDeal_127 : decode cX5_findDeal 127 = .ok (.putfield 9, 3) := by decide +kernel
theorem dX5_findDeal_130 : decode cX5_findDeal 130 = .ok (.aload_n 0, 1) := by decide +kernel
theorem dX5_findDeal_131 : decode cX5_findDeal 131 = .ok (.iload 7, 2) := by decide +kernel
theorem dX5_findDeal_133 : decode cX5_findDeal 133 = .ok (.putfield 15, 3) := by decide +kernel
theorem dX5_findDeal_136 : decode cX5_findDeal 136 = .ok (.iinc 5 (-1), 3) := by decide +kernel
theorem dX5_findDeal_139 : decode cX5_findDeal 139 = .ok (.goto (-112), 3) := by decide +kernel
theorem dX5_findDeal_142 : decode cX5_findDeal 142 = .ok (.return_, 1) := by decide +kernel
def zX5_findDeal (Qr : Option PV → Mem → Prop) : XZ := (RX5, 4, 91, 10, none, Qr)
noncomputable def fX5_findDeal_b104 (k27 : Nat → Nat → Int → Int → Int → Int → Mem → Option Mem) (o : Nat) (x1 : Nat) (x2 : Int) (x3 : Int) (x4 : Int) (x5 : Int) (x6 : Int) (x7 : Int) (F : Mem) : Option Mem :=
  if x6 ≤ 0 then
    k27 o x1 x2 x3 x4 (xw (x5 + (-1))) F
  else
    if x6 < (F o 2) then
      k27 o x1 x2 x3 x4 (xw (x5 + (-1))) F
    else
      k27 o x1 x2 x3 x4 (xw (x5 + (-1))) (mset (mset (mset F o 2 x6) o 0 x5) o 1 x7)
noncomputable def fX5_findDeal_b44 (k27 : Nat → Nat → Int → Int → Int → Int → Mem → Option Mem) : Nat → Nat → Nat → Int → Int → Int → Int → Int → Int → Int → Mem → Option Mem
  | 0, _, _, _, _, _, _, _, _, _, _ => none
  | n + 1, o, x1, x2, x3, x4, x5, x6, x7, x8, F =>
    if x1 = 0 then none else
    if (F x1 4) < x8 then
      fX5_findDeal_b104 k27 o x1 x2 x3 x4 x5 x6 x7 F
    else
      if x1 = 0 then none else
      (fX1_holderOf x1 (xw (x8 - 1)) F).bind fun r4 =>
      if r4 ≠ x3 then
        fX5_findDeal_b104 k27 o x1 x2 x3 x4 x5 x6 x7 F
      else
        if x1 = 0 then none else
        (fX1_reachSlot x1 x8 x4 F).bind fun q8 =>
        if x1 = 0 then none else
        (fX1_gainThrough x1 x8 q8).bind fun r11 =>
        if (xw (r11 - x2)) ≤ x6 then
          fX5_findDeal_b44 k27 n o x1 x2 x3 x4 x5 x6 x7 (xw (x8 + 1)) q8
        else
          fX5_findDeal_b44 k27 n o x1 x2 x3 x4 x5 (xw (r11 - x2)) x8 (xw (x8 + 1)) q8
noncomputable def fX5_findDeal_b27 : Nat → Nat → Nat → Int → Int → Int → Int → Mem → Option Mem
  | 0, _, _, _, _, _, _, _ => none
  | n + 1, o, x1, x2, x3, x4, x5, F =>
    if x5 < 0 then
      some F
    else
      fX5_findDeal_b44 (fX5_findDeal_b27 n) FU o x1 x2 x3 x4 x5 0 (-1) (xw (x5 + 1)) F
noncomputable def fX5_findDeal (o : Nat) (x1 : Nat) (x2 : Int) (x3 : Int) (x4 : Int) (F : Mem) : Option Mem :=
  if x1 = 0 then none else
  (fX1_reachAll x1 (mset (mset (mset F o 0 (-1)) o 1 (-1)) o 2 0)).bind fun q2 =>
  if x1 = 0 then none else
  fX5_findDeal_b27 FU o x1 x2 x3 x4 (xw ((q2 x1 4) - 1)) q2
theorem fX5_findDeal_b104_ok {Qr : Option PV → Mem → Prop}  (k27 : Nat → Nat → Int → Int → Int → Int → Mem → Option Mem) (hk27 : ∀ (o : Nat) (x1 : Nat) (x2 : Int) (x3 : Int) (x4 : Int) (x5 : Int) (F : Mem) (res : Mem) (ho : isK o 5) (hx1 : x1 = 0 ∨ isK x1 1), k27 o x1 x2 x3 x4 x5 F = some res → Qr none res → PR cX5_findDeal (zX5_findDeal Qr) 27 [(0, vR o), (1, vR x1), (2, vI x2), (3, vI x3), (4, vI x4), (5, vI x5)] [] F) : ∀ (o : Nat) (x1 : Nat) (x2 : Int) (x3 : Int) (x4 : Int) (x5 : Int) (x6 : Int) (x7 : Int) (F : Mem) (res : Mem) (ho : isK o 5) (hx1 : x1 = 0 ∨ isK x1 1), fX5_findDeal_b104 k27 o x1 x2 x3 x4 x5 x6 x7 F = some res → Qr none res → PR cX5_findDeal (zX5_findDeal Qr) 104 [(0, vR o), (1, vR x1), (2, vI x2), (3, vI x3), (4, vI x4), (5, vI x5), (6, vI x6), (7, vI x7)] [] F := by
  intro o x1 x2 x3 x4 x5 x6 x7 F res ho hx1 h hq
  refine s_iload (j := 6) dX5_findDeal_104 rfl ?_
  refine s_if_le (tgt := 136) dX5_findDeal_106 rfl (fun hc1 => ?_) (fun hc1 => ?_)
  · have h := ifp hc1 h
    refine s_iinc (ls' := [(5, vI (xw (x5 + (-1)))), (0, vR o), (1, vR x1), (2, vI x2), (3, vI x3), (4, vI x4), (6, vI x6), (7, vI x7)]) (j := 5) dX5_findDeal_136 rfl (Nat.le_of_ble_eq_true rfl) rfl ?_
    refine s_goto (tgt := 27) dX5_findDeal_139 rfl ?_
    exact s_sub (ks := [1, 2, 3, 4, 5, 0]) rfl (hk27 o x1 x2 x3 x4 (xw (x5 + (-1))) F _ ho hx1 h hq)
  · have h := ifn hc1 h
    refine s_iload (j := 6) dX5_findDeal_109 rfl ?_
    refine s_aload_n (j := 0) dX5_findDeal_111 rfl rfl ?_
    refine s_getI dX5_findDeal_112 flX5_18 ho ?_
    refine s_icmp_lt (tgt := 136) dX5_findDeal_115 rfl (fun hc2 => ?_) (fun hc2 => ?_)
    · have h := ifp hc2 h
      refine s_iinc (ls' := [(5, vI (xw (x5 + (-1)))), (0, vR o), (1, vR x1), (2, vI x2), (3, vI x3), (4, vI x4), (6, vI x6), (7, vI x7)]) (j := 5) dX5_findDeal_136 rfl (Nat.le_of_ble_eq_true rfl) rfl ?_
      refine s_goto (tgt := 27) dX5_findDeal_139 rfl ?_
      exact s_sub (ks := [1, 2, 3, 4, 5, 0]) rfl (hk27 o x1 x2 x3 x4 (xw (x5 + (-1))) F _ ho hx1 h hq)
    · have h := ifn hc2 h
      refine s_aload_n (j := 0) dX5_findDeal_118 rfl rfl ?_
      refine s_iload (j := 6) dX5_findDeal_119 rfl ?_
      refine s_putI dX5_findDeal_121 flX5_18 fpX5_2 ho ?_
      refine s_aload_n (j := 0) dX5_findDeal_124 rfl rfl ?_
      refine s_iload (j := 5) dX5_findDeal_125 rfl ?_
      refine s_putI dX5_findDeal_127 flX5_9 fpX5_0 ho ?_
      refine s_aload_n (j := 0) dX5_findDeal_130 rfl rfl ?_
      refine s_iload (j := 7) dX5_findDeal_131 rfl ?_
      refine s_putI dX5_findDeal_133 flX5_15 fpX5_1 ho ?_
      refine s_iinc (ls' := [(5, vI (xw (x5 + (-1)))), (0, vR o), (1, vR x1), (2, vI x2), (3, vI x3), (4, vI x4), (6, vI x6), (7, vI x7)]) (j := 5) dX5_findDeal_136 rfl (Nat.le_of_ble_eq_true rfl) rfl ?_
      refine s_goto (tgt := 27) dX5_findDeal_139 rfl ?_
      exact s_sub (ks := [1, 2, 3, 4, 5, 0]) rfl (hk27 o x1 x2 x3 x4 (xw (x5 + (-1))) (mset (mset (mset F o 2 x6) o 0 x5) o 1 x7) _ ho hx1 h hq)
theorem fX5_findDeal_b44_ok {Qr : Option PV → Mem → Prop}  (k27 : Nat → Nat → Int → Int → Int → Int → Mem → Option Mem) (hk27 : ∀ (o : Nat) (x1 : Nat) (x2 : Int) (x3 : Int) (x4 : Int) (x5 : Int) (F : Mem) (res : Mem) (ho : isK o 5) (hx1 : x1 = 0 ∨ isK x1 1), k27 o x1 x2 x3 x4 x5 F = some res → Qr none res → PR cX5_findDeal (zX5_findDeal Qr) 27 [(0, vR o), (1, vR x1), (2, vI x2), (3, vI x3), (4, vI x4), (5, vI x5)] [] F) : ∀ (n : Nat) (o : Nat) (x1 : Nat) (x2 : Int) (x3 : Int) (x4 : Int) (x5 : Int) (x6 : Int) (x7 : Int) (x8 : Int) (F : Mem) (res : Mem) (ho : isK o 5) (hx1 : x1 = 0 ∨ isK x1 1), fX5_findDeal_b44 k27 n o x1 x2 x3 x4 x5 x6 x7 x8 F = some res → Qr none res → PR cX5_findDeal (zX5_findDeal Qr) 44 [(0, vR o), (1, vR x1), (2, vI x2), (3, vI x3), (4, vI x4), (5, vI x5), (6, vI x6), (7, vI x7), (8, vI x8)] [] F := by
  intro n
  induction n with
  | zero => intro o x1 x2 x3 x4 x5 x6 x7 x8 F res ho hx1 h hq; exact nomatch (show (none : Option _) = some _ from h)
  | succ n ih =>
    intro o x1 x2 x3 x4 x5 x6 x7 x8 F res ho hx1 h hq
    refine s_iload (j := 8) dX5_findDeal_44 rfl ?_
    refine s_aload_n (j := 1) dX5_findDeal_46 rfl rfl ?_
    obtain ⟨hn1, h⟩ := gdn h
    refine s_getI dX5_findDeal_47 flX5_33 (hx1.resolve_left hn1) ?_
    refine s_icmp_gt (tgt := 104) dX5_findDeal_50 rfl (fun hc2 => ?_) (fun hc2 => ?_)
    · have h := ifp hc2 h
      exact s_sub (ks := [0, 1, 2, 3, 4, 5, 6, 7]) rfl (fX5_findDeal_b104_ok k27 hk27 o x1 x2 x3 x4 x5 x6 x7 F _ ho hx1 h hq)
    · have h := ifn hc2 h
      refine s_aload_n (j := 1) dX5_findDeal_53 rfl rfl ?_
      refine s_iload (j := 8) dX5_findDeal_54 rfl ?_
      refine s_iconst dX5_findDeal_56 (cin rfl) ?_
      refine s_isub dX5_findDeal_57 ?_
      obtain ⟨hn3, h⟩ := gdn h
      obtain ⟨r4, hv5, h⟩ := bnd h
      refine s_callV (As := [vI (xw (x8 - 1))]) (rest := []) (r := (some (vI r4))) (F' := F) dX5_findDeal_58 (clX5_35 (Nat.le_of_ble_eq_true rfl) (Nat.le_of_ble_eq_true rfl)) (hx1.resolve_left hn3) rfl ⟨_, _, _, rfl, (hx1.resolve_left hn3), hv5, rfl, rfl⟩ rfl (Nat.le_of_ble_eq_true rfl) ?_
      refine s_iload_n (j := 3) dX5_findDeal_61 rfl rfl ?_
      refine s_icmp_ne (tgt := 104) dX5_findDeal_62 rfl (fun hc6 => ?_) (fun hc6 => ?_)
      · have h := ifp hc6 h
        exact s_sub (ks := [0, 1, 2, 3, 4, 5, 6, 7]) rfl (fX5_findDeal_b104_ok k27 hk27 o x1 x2 x3 x4 x5 x6 x7 F _ ho hx1 h hq)
      · have h := ifn hc6 h
        refine s_aload_n (j := 1) dX5_findDeal_65 rfl rfl ?_
        refine s_iload (j := 8) dX5_findDeal_66 rfl ?_
        refine s_iload (j := 4) dX5_findDeal_68 rfl ?_
        obtain ⟨hn7, h⟩ := gdn h
        obtain ⟨q8, hv9, h⟩ := bnd h
        refine s_callV (As := [vI x8, vI x4]) (rest := []) (r := none) (F' := q8) dX5_findDeal_70 (clX5_39 (Nat.le_of_ble_eq_true rfl) (Nat.le_of_ble_eq_true rfl)) (hx1.resolve_left hn7) rfl ⟨_, _, _, _, rfl, (hx1.resolve_left hn7), hv9, rfl, rfl⟩ rfl (Nat.le_of_ble_eq_true rfl) ?_
        refine s_aload_n (j := 1) dX5_findDeal_73 rfl rfl ?_
        refine s_iload (j := 8) dX5_findDeal_74 rfl ?_
        obtain ⟨hn10, h⟩ := gdn h
        obtain ⟨r11, hv12, h⟩ := bnd h
        refine s_callV (As := [vI x8]) (rest := []) (r := (some (vI r11))) (F' := q8) dX5_findDeal_76 (clX5_43 (Nat.le_of_ble_eq_true rfl) (Nat.le_of_ble_eq_true rfl)) (hx1.resolve_left hn10) rfl ⟨_, _, _, rfl, (hx1.resolve_left hn10), hv12, rfl, rfl⟩ rfl (Nat.le_of_ble_eq_true rfl) ?_
        refine s_iload_n (j := 2) dX5_findDeal_79 rfl rfl ?_
        refine s_isub dX5_findDeal_80 ?_
        refine s_istore (ls' := [(9, vI (xw (r11 - x2))), (0, vR o), (1, vR x1), (2, vI x2), (3, vI x3), (4, vI x4), (5, vI x5), (6, vI x6), (7, vI x7), (8, vI x8)]) dX5_findDeal_81 (Nat.le_of_ble_eq_true rfl) rfl ?_
        refine s_iload (j := 0) dX5_findDeal_83 rfl ?_
        refine s_iload (j := 7) dX5_findDeal_85 rfl ?_
        refine s_icmp_le (tgt := 98) dX5_findDeal_87 rfl (fun hc13 => ?_) (fun hc13 => ?_)
        · have h := ifp hc13 h
          refine s_iinc (ls' := [(8, vI (xw (x8 + 1))), (9, vI (xw (r11 - x2))), (0, vR o), (1, vR x1), (2, vI x2), (3, vI x3), (4, vI x4), (5, vI x5), (6, vI x6), (7, vI x7)]) (j := 9) dX5_findDeal_98 rfl (Nat.le_of_ble_eq_true rfl) rfl ?_
          refine s_goto (tgt := 44) dX5_findDeal_101 rfl ?_
          exact s_sub (ks := [2, 3, 4, 5, 6, 7, 8, 9, 0]) rfl (ih o x1 x2 x3 x4 x5 x6 x7 (xw (x8 + 1)) q8 _ ho hx1 h hq)
        · have h := ifn hc13 h
          refine s_iload (j := 0) dX5_findDeal_90 rfl ?_
          refine s_istore (ls' := [(6, vI (xw (r11 - x2))), (9, vI (xw (r11 - x2))), (0, vR o), (1, vR x1), (2, vI x2), (3, vI x3), (4, vI x4), (5, vI x5), (7, vI x7), (8, vI x8)]) dX5_findDeal_92 (Nat.le_of_ble_eq_true rfl) rfl ?_
          refine s_iload (j := 9) dX5_findDeal_94 rfl ?_
          refine s_istore dX5_findDeal_96 (Nat.le_of_ble_eq_true rfl) rfl ?_
          refine s_iinc (ls' := [(8, vI (xw (x8 + 1))), (7, vI x8), (6, vI (xw (r11 - x2))), (9, vI (xw (r11 - x2))), (0, vR o), (1, vR x1), (2, vI x2), (3, vI x3), (4, vI x4), (5, vI x5)]) (j := 9) dX5_findDeal_98 rfl (Nat.le_of_ble_eq_true rfl) rfl ?_
          refine s_goto (tgt := 44) dX5_findDeal_101 rfl ?_
          exact s_sub (ks := [4, 5, 6, 7, 8, 9, 2, 1, 0]) rfl (ih o x1 x2 x3 x4 x5 (xw (r11 - x2)) x8 (xw (x8 + 1)) q8 _ ho hx1 h hq)
theorem fX5_findDeal_b27_ok {Qr : Option PV → Mem → Prop}  : ∀ (n : Nat) (o : Nat) (x1 : Nat) (x2 : Int) (x3 : Int) (x4 : Int) (x5 : Int) (F : Mem) (res : Mem) (ho : isK o 5) (hx1 : x1 = 0 ∨ isK x1 1), fX5_findDeal_b27 n o x1 x2 x3 x4 x5 F = some res → Qr none res → PR cX5_findDeal (zX5_findDeal Qr) 27 [(0, vR o), (1, vR x1), (2, vI x2), (3, vI x3), (4, vI x4), (5, vI x5)] [] F := by
  intro n
  induction n with
  | zero => intro o x1 x2 x3 x4 x5 F res ho hx1 h hq; exact nomatch (show (none : Option _) = some _ from h)
  | succ n ih =>
    intro o x1 x2 x3 x4 x5 F res ho hx1 h hq
    refine s_iload (j := 5) dX5_findDeal_27 rfl ?_
    refine s_if_lt (tgt := 142) dX5_findDeal_29 rfl (fun hc1 => ?_) (fun hc1 => ?_)
    · have h := ifp hc1 h
      have h := Option.some.inj h
      subst h
      exact s_return dX5_findDeal_142 rfl hq
    · have h := ifn hc1 h
      refine s_iconst dX5_findDeal_32 (cin rfl) ?_
      refine s_istore (ls' := [(6, vI 0), (0, vR o), (1, vR x1), (2, vI x2), (3, vI x3), (4, vI x4), (5, vI x5)]) dX5_findDeal_33 (Nat.le_of_ble_eq_true rfl) rfl ?_
      refine s_iconst dX5_findDeal_35 (cin rfl) ?_
      refine s_istore dX5_findDeal_36 (Nat.le_of_ble_eq_true rfl) rfl ?_
      refine s_iload (j := 7) dX5_findDeal_38 rfl ?_
      refine s_iconst dX5_findDeal_40 (cin rfl) ?_
      refine s_iadd dX5_findDeal_41 ?_
      refine s_istore (ls' := [(8, vI (xw (x5 + 1))), (7, vI (-1)), (6, vI 0), (0, vR o), (1, vR x1), (2, vI x2), (3, vI x3), (4, vI x4), (5, vI x5)]) dX5_findDeal_42 (Nat.le_of_ble_eq_true rfl) rfl ?_
      exact s_sub (ks := [3, 4, 5, 6, 7, 8, 2, 1, 0]) rfl (fX5_findDeal_b44_ok (fX5_findDeal_b27 n) ih FU o x1 x2 x3 x4 x5 0 (-1) (xw (x5 + 1)) F _ ho hx1 h hq)
theorem fX5_findDeal_ok {Qr : Option PV → Mem → Prop} : ∀ (o : Nat) (x1 : Nat) (x2 : Int) (x3 : Int) (x4 : Int) (F : Mem) (res : Mem) (ho : isK o 5) (hx1 : x1 = 0 ∨ isK x1 1), fX5_findDeal o x1 x2 x3 x4 F = some res → Qr none res → PR cX5_findDeal (zX5_findDeal Qr) 0 [(0, vR o), (1, vR x1), (2, vI x2), (3, vI x3), (4, vI x4)] [] F := by
  intro o x1 x2 x3 x4 F res ho hx1 h hq
  refine s_aload_n (j := 0) dX5_findDeal_0 rfl rfl ?_
  refine s_iconst dX5_findDeal_1 (cin rfl) ?_
  refine s_putI dX5_findDeal_2 flX5_9 fpX5_0 ho ?_
  refine s_aload_n (j := 0) dX5_findDeal_5 rfl rfl ?_
  refine s_iconst dX5_findDeal_6 (cin rfl) ?_
  refine s_putI dX5_findDeal_7 flX5_15 fpX5_1 ho ?_
  refine s_aload_n (j := 0) dX5_findDeal_10 rfl rfl ?_
  refine s_iconst dX5_findDeal_11 (cin rfl) ?_
  refine s_putI dX5_findDeal_12 flX5_18 fpX5_2 ho ?_
  refine s_aload_n (j := 1) dX5_findDeal_15 rfl rfl ?_
  obtain ⟨hn1, h⟩ := gdn h
  obtain ⟨q2, hv3, h⟩ := bnd h
  refine s_callV (As := []) (rest := []) (r := none) (F' := q2) dX5_findDeal_16 (clX5_28 (Nat.le_of_ble_eq_true rfl) (Nat.le_of_ble_eq_true rfl)) (hx1.resolve_left hn1) rfl ⟨_, _, rfl, (hx1.resolve_left hn1), hv3, rfl, rfl⟩ rfl (Nat.le_of_ble_eq_true rfl) ?_
  refine s_aload_n (j := 1) dX5_findDeal_19 rfl rfl ?_
  obtain ⟨hn4, h⟩ := gdn h
  refine s_getI dX5_findDeal_20 flX5_33 (hx1.resolve_left hn4) ?_
  refine s_iconst dX5_findDeal_23 (cin rfl) ?_
  refine s_isub dX5_findDeal_24 ?_
  refine s_istore (ls' := [(5, vI (xw ((q2 x1 4) - 1))), (0, vR o), (1, vR x1), (2, vI x2), (3, vI x3), (4, vI x4)]) dX5_findDeal_25 (Nat.le_of_ble_eq_true rfl) rfl ?_
  exact s_sub (ks := [1, 2, 3, 4, 5, 0]) rfl (fX5_findDeal_b27_ok FU o x1 x2 x3 x4 (xw ((q2 x1 4) - 1)) q2 _ ho hx1 h hq)
def gX5_findDeal : XG := fun As F r F' => ∃ o : Nat, ∃ x1 : Nat, ∃ x2 : Int, ∃ x3 : Int, ∃ x4 : Int, ∃ res : Mem, As = [vR o, vR x1, vI x2, vI x3, vI x4] ∧ isK o 5 ∧ (x1 = 0 ∨ isK x1 1) ∧ fX5_findDeal o x1 x2 x3 x4 F = some res ∧ r = none ∧ F' = res
theorem ctX5_findDeal : xCT yX5_findDeal cX5_findDeal 10 (none) 4 91 gX5_findDeal := xmet (by decide +kernel) (fun As F r F' hg => by obtain ⟨o, x1, x2, x3, x4, res, rfl, ho, hx1, h, rfl, rfl⟩ := hg; exact Nat.le_of_ble_eq_true rfl) (fun As F r F' hg => by obtain ⟨o, x1, x2, x3, x4, res, rfl, ho, hx1, h, rfl, rfl⟩ := hg; exact fX5_findDeal_ok o x1 x2 x3 x4 _ _ ho hx1 h ⟨rfl, rfl⟩)
theorem mcX5_findDeal : Cond.code yX5_findDeal cX5_findDeal 10 (none) ∈ xw_T ∧ Cond.initialized yX5_findDeal.cls ∈ xw_T ∧ Cond.instanceMethod yX5_findDeal ∈ xw_T ∧ Cond.selects yX5_findDeal.cls yX5_findDeal yX5_findDeal ∈ xw_T := ⟨(xinT 1160 (by decide +kernel) (by decide +kernel)), (xinT 126 (by decide +kernel) (by decide +kernel)), (xinT 1158 (by decide +kernel) (by decide +kernel)), (xinT 1159 (by decide +kernel) (by decide +kernel))⟩
theorem clX9_287 {fr lo : Nat} (h1 : 4 + 1 ≤ fr) (h2 : 8 + (10 + 11) + 91 ≤ lo) : xCall RX9 fr lo 0 287 5 4 gX5_findDeal := ⟨_, _, _, _, _, _, ctX5_findDeal, h1, h2, mcX5_findDeal.1, (xinT 1157 (by decide +kernel) (by decide +kernel)), mcX5_findDeal.2.1, ⟨by decide +kernel, by decide +kernel, by decide +kernel⟩, by rw [if_pos rfl]; exact ⟨mcX5_findDeal.2.2.1, mcX5_findDeal.2.2.2, _, _, rfl⟩⟩
theorem dX5_slotToBuy_0 : decode cX5_slotToBuy 0 = .ok (.iload_n 1, 1) := by decide +kernel
theorem dX5_slotToBuy_1 : decode cX5_slotToBuy 1 = .ok (.istore_n 3, 1) := by decide +kernel
theorem dX5_slotToBuy_2 : decode cX5_slotToBuy 2 = .ok (.iconst (-1), 1) := by decide +kernel
theorem dX5_slotToBuy_3 : decode cX5_slotToBuy 3 = .ok (.istore 4, 2) := by decide +kernel
theorem dX5_slotToBuy_5 : decode cX5_slotToBuy 5 = .ok (.iconst 0, 1) := by decide +kernel
theorem dX5_slotToBuy_6 : decode cX5_slotToBuy 6 = .ok (.istore 5, 2) := by decide +kernel
theorem dX5_slotToBuy_8 : decode cX5_slotToBuy 8 = .ok (.iload 5, 2) := by decide +kernel
theorem dX5_slotToBuy_10 : decode cX5_slotToBuy 10 = .ok (.aload_n 0, 1) := by decide +kernel
theorem dX5_slotToBuy_11 : decode cX5_slotToBuy 11 = .ok (.getfield 33, 3) := by decide +kernel
theorem dX5_slotToBuy_14 : decode cX5_slotToBuy 14 = .ok (.if_icmp .ge 55, 3) := by decide +kernel
theorem dX5_slotToBuy_17 : decode cX5_slotToBuy 17 = .ok (.aload_n 0, 1) := by decide +kernel
theorem dX5_slotToBuy_18 : decode cX5_slotToBuy 18 = .ok (.iload 5, 2) := by decide +kernel
theorem dX5_slotToBuy_20 : decode cX5_slotToBuy 20 = .ok (.invokevirtual 35, 3) := by decide +kernel
theorem dX5_slotToBuy_23 : decode cX5_slotToBuy 23 = .ok (.istore 6, 2) := by decide +kernel
theorem dX5_slotToBuy_25 : decode cX5_slotToBuy 25 = .ok (.iload 6, 2) := by decide +kernel
theorem dX5_slotToBuy_27 : decode cX5_slotToBuy 27 = .ok (.iconst (-1), 1) := by decide +kernel
theorem dX5_slotToBuy_28 : decode cX5_slotToBuy 28 = .ok (.if_icmp .eq 9, 3) := by decide +kernel
theorem dX5_slotToBuy_31 : decode cX5_slotToBuy 31 = .ok (.iload 6, 2) := by decide +kernel
theorem dX5_slotToBuy_33 : decode cX5_slotToBuy 33 = .ok (.iload_n 2, 1) := by decide +kernel
theorem dX5_slotToBuy_34 : decode cX5_slotToBuy 34 = .ok (.if_icmp .ne 7, 3) := by decide +kernel
theorem dX5_slotToBuy_37 : decode cX5_slotToBuy 37 = .ok (.iconst (-1), 1) := by decide +kernel
theorem dX5_slotToBuy_38 : decode cX5_slotToBuy 38 = .ok (.goto 10, 3) := by decide +kernel
theorem dX5_slotToBuy_41 : decode cX5_slotToBuy 41 = .ok (.aload_n 0, 1) := by decide +kernel
theorem dX5_slotToBuy_42 : decode cX5_slotToBuy 42 = .ok (.iload 5, 2) := by decide +kernel
theorem dX5_slotToBuy_44 : decode cX5_slotToBuy 44 = .ok (.iload_n 2, 1) := by decide +kernel
theorem dX5_slotToBuy_45 : decode cX5_slotToBuy 45 = .ok (.invokevirtual 60, 3) := by decide +kernel
theorem dX5_slotToBuy_48 : decode cX5_slotToBuy 48 = .ok (.istore 7, 2) := by decide +kernel
theorem dX5_slotToBuy_50 : decode cX5_slotToBuy 50 = .ok (.iload 7, 2) := by decide +kernel
theorem dX5_slotToBuy_52 : decode cX5_slotToBuy 52 = .ok (.iload_n 3, 1) := by decide +kernel
theorem dX5_slotToBuy_53 : decode cX5_slotToBuy 53 = .ok (.if_icmp .le 10, 3) := by decide +kernel
theorem dX5_slotToBuy_56 : decode cX5_slotToBuy 56 = .ok (.iload 7, 2) := by decide +kernel
theorem dX5_slotToBuy_58 : decode cX5_slotToBuy 58 = .ok (.istore_n 3, 1) := by decide +kernel
theorem dX5_slotToBuy_59 : decode cX5_slotToBuy 59 = .ok (.iload 5, 2) := by decide +kernel
theorem dX5_slotToBuy_61 : decode cX5_slotToBuy 61 = .ok (.istore 4, 2) := by decide +kernel
theorem dX5_slotToBuy_63 : decode cX5_slotToBuy 63 = .ok (.iinc 5 1, 3) := by decide +kernel
theorem dX5_slotToBuy_66 : decode cX5_slotToBuy 66 = .ok (.goto (-58), 3) := by decide +kernel
theorem dX5_slotToBuy_69 : decode cX5_slotToBuy 69 = .ok (.iload 4, 2) := by decide +kernel
theorem dX5_slotToBuy_71 : decode cX5_slotToBuy 71 = .ok (.ireturn, 1) := by decide +kernel
def zX5_slotToBuy (Qr : Option PV → Mem → Prop) : XZ := (RX5, 3, 68, 8, some FieldType.int, Qr)
noncomputable def fX5_slotToBuy_b48 (F : Mem) (k8 : Nat → Int → Int → Int → Int → Option Int) (x0 : Nat) (x2 : Int) (x3 : Int) (x4 : Int) (x5 : Int) (s0 : Int) : Option Int :=
  if s0 ≤ x3 then
    k8 x0 x2 x3 x4 (xw (x5 + 1))
  else
    k8 x0 x2 s0 x5 (xw (x5 + 1))
noncomputable def fX5_slotToBuy_b8 (F : Mem) : Nat → Nat → Int → Int → Int → Int → Option Int
  | 0, _, _, _, _, _ => none
  | n + 1, x0, x2, x3, x4, x5 =>
    if x0 = 0 then none else
    if (F x0 4) ≤ x5 then
      some x4
    else
      if x0 = 0 then none else
      (fX1_holderOf x0 x5 F).bind fun r4 =>
      if r4 = (-1) then
        fX5_slotToBuy_b48 F (fX5_slotToBuy_b8 F n) x0 x2 x3 x4 x5 (-1)
      else
        if r4 ≠ x2 then
          if x0 = 0 then none else
          (fX1_gainStaying x0 x5 x2 F).bind fun r9 =>
          fX5_slotToBuy_b48 F (fX5_slotToBuy_b8 F n) x0 x2 x3 x4 x5 r9
        else
          fX5_slotToBuy_b48 F (fX5_slotToBuy_b8 F n) x0 x2 x3 x4 x5 (-1)
noncomputable def fX5_slotToBuy (x0 : Nat) (x1 : Int) (x2 : Int) (F : Mem) : Option Int :=
  fX5_slotToBuy_b8 F FU x0 x2 x1 (-1) 0
theorem fX5_slotToBuy_b48_ok {Qr : Option PV → Mem → Prop}  (F : Mem) (k8 : Nat → Int → Int → Int → Int → Option Int) (hk8 : ∀ (x0 : Nat) (x2 : Int) (x3 : Int) (x4 : Int) (x5 : Int) (res : Int) (hx0 : x0 = 0 ∨ isK x0 1), k8 x0 x2 x3 x4 x5 = some res → Qr (some (vI res)) F → PR cX5_slotToBuy (zX5_slotToBuy Qr) 8 [(0, vR x0), (2, vI x2), (3, vI x3), (4, vI x4), (5, vI x5)] [] F) : ∀ (x0 : Nat) (x2 : Int) (x3 : Int) (x4 : Int) (x5 : Int) (s0 : Int) (res : Int) (hx0 : x0 = 0 ∨ isK x0 1), fX5_slotToBuy_b48 F k8 x0 x2 x3 x4 x5 s0 = some res → Qr (some (vI res)) F → PR cX5_slotToBuy (zX5_slotToBuy Qr) 48 [(0, vR x0), (2, vI x2), (3, vI x3), (4, vI x4), (5, vI x5)] [vI s0] F := by
  intro x0 x2 x3 x4 x5 s0 res hx0 h hq
  refine s_istore (ls' := [(7, vI s0), (0, vR x0), (2, vI x2), (3, vI x3), (4, vI x4), (5, vI x5)]) dX5_slotToBuy_48 (Nat.le_of_ble_eq_true rfl) rfl ?_
  refine s_iload (j := 0) dX5_slotToBuy_50 rfl ?_
  refine s_iload_n (j := 3) dX5_slotToBuy_52 rfl rfl ?_
  refine s_icmp_le (tgt := 63) dX5_slotToBuy_53 rfl (fun hc1 => ?_) (fun hc1 => ?_)
  · have h := ifp hc1 h
    refine s_iinc (ls' := [(5, vI (xw (x5 + 1))), (7, vI s0), (0, vR x0), (2, vI x2), (3, vI x3), (4, vI x4)]) (j := 5) dX5_slotToBuy_63 rfl (Nat.le_of_ble_eq_true rfl) rfl ?_
    refine s_goto (tgt := 8) dX5_slotToBuy_66 rfl ?_
    exact s_sub (ks := [2, 3, 4, 5, 0]) rfl (hk8 x0 x2 x3 x4 (xw (x5 + 1)) _ hx0 h hq)
  · have h := ifn hc1 h
    refine s_iload (j := 0) dX5_slotToBuy_56 rfl ?_
    refine s_istore_n (ls' := [(3, vI s0), (7, vI s0), (0, vR x0), (2, vI x2), (4, vI x4), (5, vI x5)]) dX5_slotToBuy_58 rfl (Nat.le_of_ble_eq_true rfl) rfl ?_
    refine s_iload (j := 5) dX5_slotToBuy_59 rfl ?_
    refine s_istore dX5_slotToBuy_61 (Nat.le_of_ble_eq_true rfl) rfl ?_
    refine s_iinc (ls' := [(5, vI (xw (x5 + 1))), (4, vI x5), (3, vI s0), (7, vI s0), (0, vR x0), (2, vI x2)]) (j := 5) dX5_slotToBuy_63 rfl (Nat.le_of_ble_eq_true rfl) rfl ?_
    refine s_goto (tgt := 8) dX5_slotToBuy_66 rfl ?_
    exact s_sub (ks := [4, 5, 2, 1, 0]) rfl (hk8 x0 x2 s0 x5 (xw (x5 + 1)) _ hx0 h hq)
theorem fX5_slotToBuy_b8_ok {Qr : Option PV → Mem → Prop}  (F : Mem) : ∀ (n : Nat) (x0 : Nat) (x2 : Int) (x3 : Int) (x4 : Int) (x5 : Int) (res : Int) (hx0 : x0 = 0 ∨ isK x0 1), fX5_slotToBuy_b8 F n x0 x2 x3 x4 x5 = some res → Qr (some (vI res)) F → PR cX5_slotToBuy (zX5_slotToBuy Qr) 8 [(0, vR x0), (2, vI x2), (3, vI x3), (4, vI x4), (5, vI x5)] [] F := by
  intro n
  induction n with
  | zero => intro x0 x2 x3 x4 x5 res hx0 h hq; exact nomatch (show (none : Option _) = some _ from h)
  | succ n ih =>
    intro x0 x2 x3 x4 x5 res hx0 h hq
    refine s_iload (j := 4) dX5_slotToBuy_8 rfl ?_
    refine s_aload_n (j := 0) dX5_slotToBuy_10 rfl rfl ?_
    obtain ⟨hn1, h⟩ := gdn h
    refine s_getI dX5_slotToBuy_11 flX5_33 (hx0.resolve_left hn1) ?_
    refine s_icmp_ge (tgt := 69) dX5_slotToBuy_14 rfl (fun hc2 => ?_) (fun hc2 => ?_)
    · have h := ifp hc2 h
      refine s_iload (j := 3) dX5_slotToBuy_69 rfl ?_
      have h := Option.some.inj h
      subst h
      exact s_ireturn dX5_slotToBuy_71 rfl hq
    · have h := ifn hc2 h
      refine s_aload_n (j := 0) dX5_slotToBuy_17 rfl rfl ?_
      refine s_iload (j := 4) dX5_slotToBuy_18 rfl ?_
      obtain ⟨hn3, h⟩ := gdn h
      obtain ⟨r4, hv5, h⟩ := bnd h
      refine s_callV (As := [vI x5]) (rest := []) (r := (some (vI r4))) (F' := F) dX5_slotToBuy_20 (clX5_35 (Nat.le_of_ble_eq_true rfl) (Nat.le_of_ble_eq_true rfl)) (hx0.resolve_left hn3) rfl ⟨_, _, _, rfl, (hx0.resolve_left hn3), hv5, rfl, rfl⟩ rfl (Nat.le_of_ble_eq_true rfl) ?_
      refine s_istore (ls' := [(6, vI r4), (0, vR x0), (2, vI x2), (3, vI x3), (4, vI x4), (5, vI x5)]) dX5_slotToBuy_23 (Nat.le_of_ble_eq_true rfl) rfl ?_
      refine s_iload (j := 0) dX5_slotToBuy_25 rfl ?_
      refine s_iconst dX5_slotToBuy_27 (cin rfl) ?_
      refine s_icmp_eq (tgt := 37) dX5_slotToBuy_28 rfl (fun hc6 => ?_) (fun hc6 => ?_)
      · have h := ifp hc6 h
        refine s_iconst dX5_slotToBuy_37 (cin rfl) ?_
        refine s_goto (tgt := 48) dX5_slotToBuy_38 rfl ?_
        exact s_sub (ks := [1, 2, 3, 4, 5]) rfl (fX5_slotToBuy_b48_ok F (fX5_slotToBuy_b8 F n) ih x0 x2 x3 x4 x5 (-1) _ hx0 h hq)
      · have h := ifn hc6 h
        refine s_iload (j := 0) dX5_slotToBuy_31 rfl ?_
        refine s_iload_n (j := 2) dX5_slotToBuy_33 rfl rfl ?_
        refine s_icmp_ne (tgt := 41) dX5_slotToBuy_34 rfl (fun hc7 => ?_) (fun hc7 => ?_)
        · have h := ifp hc7 h
          refine s_aload_n (j := 1) dX5_slotToBuy_41 rfl rfl ?_
          refine s_iload (j := 5) dX5_slotToBuy_42 rfl ?_
          refine s_iload_n (j := 2) dX5_slotToBuy_44 rfl rfl ?_
          obtain ⟨hn8, h⟩ := gdn h
          obtain ⟨r9, hv10, h⟩ := bnd h
          refine s_callV (As := [vI x5, vI x2]) (rest := []) (r := (some (vI r9))) (F' := F) dX5_slotToBuy_45 (clX5_60 (Nat.le_of_ble_eq_true rfl) (Nat.le_of_ble_eq_true rfl)) (hx0.resolve_left hn8) rfl ⟨_, _, _, _, rfl, (hx0.resolve_left hn8), hv10, rfl, rfl⟩ rfl (Nat.le_of_ble_eq_true rfl) ?_
          exact s_sub (ks := [1, 2, 3, 4, 5]) rfl (fX5_slotToBuy_b48_ok F (fX5_slotToBuy_b8 F n) ih x0 x2 x3 x4 x5 r9 _ hx0 h hq)
        · have h := ifn hc7 h
          refine s_iconst dX5_slotToBuy_37 (cin rfl) ?_
          refine s_goto (tgt := 48) dX5_slotToBuy_38 rfl ?_
          exact s_sub (ks := [1, 2, 3, 4, 5]) rfl (fX5_slotToBuy_b48_ok F (fX5_slotToBuy_b8 F n) ih x0 x2 x3 x4 x5 (-1) _ hx0 h hq)
theorem fX5_slotToBuy_ok {Qr : Option PV → Mem → Prop} : ∀ (x0 : Nat) (x1 : Int) (x2 : Int) (F : Mem) (res : Int) (hx0 : x0 = 0 ∨ isK x0 1), fX5_slotToBuy x0 x1 x2 F = some res → Qr (some (vI res)) F → PR cX5_slotToBuy (zX5_slotToBuy Qr) 0 [(0, vR x0), (1, vI x1), (2, vI x2)] [] F := by
  intro x0 x1 x2 F res hx0 h hq
  refine s_iload_n (j := 1) dX5_slotToBuy_0 rfl rfl ?_
  refine s_istore_n (ls' := [(3, vI x1), (0, vR x0), (1, vI x1), (2, vI x2)]) dX5_slotToBuy_1 rfl (Nat.le_of_ble_eq_true rfl) rfl ?_
  refine s_iconst dX5_slotToBuy_2 (cin rfl) ?_
  refine s_istore dX5_slotToBuy_3 (Nat.le_of_ble_eq_true rfl) rfl ?_
  refine s_iconst dX5_slotToBuy_5 (cin rfl) ?_
  refine s_istore (ls' := [(5, vI 0), (4, vI (-1)), (3, vI x1), (0, vR x0), (1, vI x1), (2, vI x2)]) dX5_slotToBuy_6 (Nat.le_of_ble_eq_true rfl) rfl ?_
  exact s_sub (ks := [3, 5, 2, 1, 0]) rfl (fX5_slotToBuy_b8_ok F FU x0 x2 x1 (-1) 0 _ hx0 h hq)
def gX5_slotToBuy : XG := fun As F r F' => ∃ x0 : Nat, ∃ x1 : Int, ∃ x2 : Int, ∃ res : Int, As = [vR x0, vI x1, vI x2] ∧ (x0 = 0 ∨ isK x0 1) ∧ fX5_slotToBuy x0 x1 x2 F = some res ∧ r = some (vI res) ∧ F' = F
theorem ctX5_slotToBuy : xCT yX5_slotToBuy cX5_slotToBuy 8 (some FieldType.int) 3 68 gX5_slotToBuy := xmet (by decide +kernel) (fun As F r F' hg => by obtain ⟨x0, x1, x2, res, rfl, hx0, h, rfl, rfl⟩ := hg; exact Nat.le_of_ble_eq_true rfl) (fun As F r F' hg => by obtain ⟨x0, x1, x2, res, rfl, hx0, h, rfl, rfl⟩ := hg; exact fX5_slotToBuy_ok x0 x1 x2 _ _ hx0 h ⟨rfl, rfl⟩)
theorem mcX5_slotToBuy : Cond.code yX5_slotToBuy cX5_slotToBuy 8 (some FieldType.int) ∈ xw_T ∧ Cond.initialized yX5_slotToBuy.cls ∈ xw_T ∧ Cond.static yX5_slotToBuy ∈ xw_T := ⟨(xinT 1278 (by decide +kernel) (by decide +kernel)), (xinT 126 (by decide +kernel) (by decide +kernel)), (xinT 1277 (by decide +kernel) (by decide +kernel))⟩
theorem clX5_46 {fr lo : Nat} (h1 : 3 + 1 ≤ fr) (h2 : 8 + (8 + 11) + 68 ≤ lo) : xCall RX5 fr lo 1 46 0 3 gX5_slotToBuy := ⟨_, _, _, _, _, _, ctX5_slotToBuy, h1, h2, mcX5_slotToBuy.1, (xinT 1276 (by decide +kernel) (by decide +kernel)), mcX5_slotToBuy.2.1, ⟨by decide +kernel, by decide +kernel, by decide +kernel⟩, by rw [if_neg (by decide)]; exact mcX5_slotToBuy.2.2⟩
theorem dX5_buyAll_0 : decode cX5_buyAll 0 = .ok (.aload_n 0, 1) := by decide +kernel
theorem dX5_buyAll_1 : decode cX5_buyAll 1 = .ok (.iconst 0, 1) := by decide +kernel
theorem dX5_buyAll_2 : decode cX5_buyAll 2 = .ok (.putfield 18, 3) := by decide +kernel
theorem dX5_buyAll_5 : decode cX5_buyAll 5 = .ok (.aload_n 0, 1) := by decide +kernel
theorem dX5_buyAll_6 : decode cX5_buyAll 6 = .ok (.iconst 0, 1) := by decide +kernel
theorem dX5_buyAll_7 : decode cX5_buyAll 7 = .ok (.putfield 21, 3) := by decide +kernel
theorem dX5_buyAll_10 : decode cX5_buyAll 10 = .ok (.iconst 0, 1) := by decide +kernel
theorem dX5_buyAll_11 : decode cX5_buyAll 11 = .ok (.istore 4, 2) := by decide +kernel
theorem dX5_buyAll_13 : decode cX5_buyAll 13 = .ok (.iload 4, 2) := by decide +kernel
theorem dX5_buyAll_15 : decode cX5_buyAll 15 = .ok (.bipush 48, 2) := by decide +kernel
theorem dX5_buyAll_17 : decode cX5_buyAll 17 = .ok (.if_icmp .ge 78, 3) := by decide +kernel
theorem dX5_buyAll_20 : decode cX5_buyAll 20 = .ok (.aload_n 1, 1) := by decide +kernel
theorem dX5_buyAll_21 : decode cX5_buyAll 21 = .ok (.invokevirtual 28, 3) := by decide +kernel
theorem dX5_buyAll_24 : decode cX5_buyAll 24 = .ok (.aload_n 1, 1) := by decide +kernel
theorem dX5_buyAll_25 : decode cX5_buyAll 25 = .ok (.iload_n 2, 1) := by decide +kernel
theorem dX5_buyAll_26 : decode cX5_buyAll 26 = .ok (.aload_n 0, 1) := by decide +kernel
theorem dX5_buyAll_27 : decode cX5_buyAll 27 = .ok (.getfield 18, 3) := by decide +kernel
theorem dX5_buyAll_30 : decode cX5_buyAll 30 = .ok (.iadd, 1) := by decide +kernel
theorem dX5_buyAll_31 : decode cX5_buyAll 31 = .ok (.iload_n 3, 1) := by decide +kernel
theorem dX5_buyAll_32 : decode cX5_buyAll 32 = .ok (.invokestatic 46, 3) := by decide +kernel
theorem dX5_buyAll_35 : decode cX5_buyAll 35 = .ok (.istore 5, 2) := by decide +kernel
theorem dX5_buyAll_37 : decode cX5_buyAll 37 = .ok (.iload 5, 2) := by decide +kernel
theorem dX5_buyAll_39 : decode cX5_buyAll 39 = .ok (.iconst (-1), 1) := by decide +kernel
theorem dX5_buyAll_40 : decode cX5_buyAll 40 = .ok (.if_icmp .ne 4, 3) := by decide +kernel
theorem dX5_buyAll_43 : decode cX5_buyAll 43 = .ok (.return_, 1) := by decide +kernel
theorem dX5_buyAll_44 : decode cX5_buyAll 44 = .ok (.aload_n 0, 1) := by decide +kernel
theorem dX5_buyAll_45 : decode cX5_buyAll 45 = .ok (.getfield 24, 3) := by decide +kernel
theorem dX5_buyAll_48 : decode cX5_buyAll 48 = .ok (.aload_n 0, 1) := by decide +kernel
theorem dX5_buyAll_49 : decode cX5_buyAll 49 = .ok (.getfield 21, 3) := by decide +kernel
theorem dX5_buyAll_52 : decode cX5_buyAll 52 = .ok (.iload 5, 2) := by decide +kernel
theorem dX5_buyAll_54 : decode cX5_buyAll 54 = .ok (.iastore, 1) := by decide +kernel
theorem dX5_buyAll_55 : decode cX5_buyAll 55 = .ok (.aload_n 0, 1) := by decide +kernel
theorem dX5_buyAll_56 : decode cX5_buyAll 56 = .ok (.dup, 1) := by decide +kernel
theorem dX5_buyAll_57 : decode cX5_buyAll 57 = .ok (.getfield 21, 3) := by decide +kernel
theorem dX5_buyAll_60 : decode cX5_buyAll 60 = .ok (.iconst 1, 1) := by decide +kernel
theorem dX5_buyAll_61 : decode cX5_buyAll 61 = .ok (.iadd, 1) := by decide +kernel
theorem dX5_buyAll_62 : decode cX5_buyAll 62 = .ok (.putfield 21, 3) := by decide +kernel
theorem dX5_buyAll_65 : decode cX5_buyAll 65 = .ok (.aload_n 1, 1) := by decide +kernel
theorem dX5_buyAll_66 : decode cX5_buyAll 66 = .ok (.iload 5, 2) := by decide +kernel
theorem dX5_buyAll_68 : decode cX5_buyAll 68 = .ok (.iload_n 3, 1) := by decide +kernel
theorem dX5_buyAll_69 : decode cX5_buyAll 69 = .ok (.invokevirtual 50, 3) := by decide +kernel
theorem dX5_buyAll_72 : decode cX5_buyAll 72 = .ok (.aload_n 1, 1) := by decide +kernel
theorem dX5_buyAll_73 : decode cX5_buyAll 73 = .ok (.iconst 0, 1) := by decide +kernel
theorem dX5_buyAll_74 : decode cX5_buyAll 74 = .ok (.iconst 0, 1) := by decide +kernel
theorem dX5_buyAll_75 : decode cX5_buyAll 75 = .ok (.invokevirtual 53, 3) := by decide +kernel
theorem dX5_buyAll_78 : decode cX5_buyAll 78 = .ok (.aload_n 0, 1) := by decide +kernel
theorem dX5_buyAll_79 : decode cX5_buyAll 79 = .ok (.aload_n 1, 1) := by decide +kernel
theorem dX5_buyAll_80 : decode cX5_buyAll 80 = .ok (.iconst (-1), 1) := by decide +kernel
theorem dX5_buyAll_81 : decode cX5_buyAll 81 = .ok (.invokevirtual 57, 3) := by decide +kernel
theorem dX5_buyAll_84 : decode cX5_buyAll 84 = .ok (.iload_n 2, 1) := by decide +kernel
theorem dX5_buyAll_85 : decode cX5_buyAll 85 = .ok (.isub, 1) := by decide +kernel
theorem dX5_buyAll_86 : decode cX5_buyAll 86 = .ok (.putfield 18, 3) := by decide +kernel
theorem dX5_buyAll_89 : decode cX5_buyAll 89 = .ok (.iinc 4 1, 3) := by decide +kernel
theorem dX5_buyAll_92 : decode cX5_buyAll 92 = .ok (.goto (-79), 3) := by decide +kernel
theorem dX5_buyAll_95 : decode cX5_buyAll 95 = .ok (.return_, 1) := by decide +kernel
def zX5_buyAll (Qr : Option PV → Mem → Prop) : XZ := (RX5, 4, 112, 6, none, Qr)
noncomputable def fX5_buyAll_b13 : Nat → Nat → Nat → Int → Int → Int → Mem → Option Mem
  | 0, _, _, _, _, _, _ => none
  | n + 1, o, x1, x2, x3, x4, F =>
    if 48 ≤ x4 then
      some F
    else
      if x1 = 0 then none else
      (fX1_reachAll x1 F).bind fun q3 =>
      (fX5_slotToBuy x1 (xw (x2 + (q3 o 2))) x3 q3).bind fun r5 =>
      if r5 ≠ (-1) then
        if (0 : Int) ≤ (q3 o 3) ∧ (q3 o 3) < (alen (o + 1) : Int) then
          if x1 = 0 then none else
          (fX1_setHolder x1 r5 x3 (mset (mset q3 (o + 1) (q3 o 3).toNat r5) o 3 (xw (((mset q3 (o + 1) (q3 o 3).toNat r5) o 3) + 1)))).bind fun q10 =>
          if x1 = 0 then none else
          (fX1_fill x1 0 0 q10).bind fun q13 =>
          if x1 = 0 then none else
          (fX1_solve x1 (-1) q13).bind fun q16 =>
          fX5_buyAll_b13 n o x1 x2 x3 (xw (x4 + 1)) (mset q16.2 o 2 (xw (q16.1 - x2)))
        else none
      else
        some q3
noncomputable def fX5_buyAll (o : Nat) (x1 : Nat) (x2 : Int) (x3 : Int) (F : Mem) : Option Mem :=
  fX5_buyAll_b13 FU o x1 x2 x3 0 (mset (mset F o 2 0) o 3 0)
theorem fX5_buyAll_b13_ok {Qr : Option PV → Mem → Prop}  : ∀ (n : Nat) (o : Nat) (x1 : Nat) (x2 : Int) (x3 : Int) (x4 : Int) (F : Mem) (res : Mem) (ho : isK o 5) (hx1 : x1 = 0 ∨ isK x1 1), fX5_buyAll_b13 n o x1 x2 x3 x4 F = some res → Qr none res → PR cX5_buyAll (zX5_buyAll Qr) 13 [(0, vR o), (1, vR x1), (2, vI x2), (3, vI x3), (4, vI x4)] [] F := by
  intro n
  induction n with
  | zero => intro o x1 x2 x3 x4 F res ho hx1 h hq; exact nomatch (show (none : Option _) = some _ from h)
  | succ n ih =>
    intro o x1 x2 x3 x4 F res ho hx1 h hq
    refine s_iload (j := 4) dX5_buyAll_13 rfl ?_
    refine s_bipush dX5_buyAll_15 rfl (cin rfl) ?_
    refine s_icmp_ge (tgt := 95) dX5_buyAll_17 rfl (fun hc1 => ?_) (fun hc1 => ?_)
    · have h := ifp hc1 h
      have h := Option.some.inj h
      subst h
      exact s_return dX5_buyAll_95 rfl hq
    · have h := ifn hc1 h
      refine s_aload_n (j := 1) dX5_buyAll_20 rfl rfl ?_
      obtain ⟨hn2, h⟩ := gdn h
      obtain ⟨q3, hv4, h⟩ := bnd h
      refine s_callV (As := []) (rest := []) (r := none) (F' := q3) dX5_buyAll_21 (clX5_28 (Nat.le_of_ble_eq_true rfl) (Nat.le_of_ble_eq_true rfl)) (hx1.resolve_left hn2) rfl ⟨_, _, rfl, (hx1.resolve_left hn2), hv4, rfl, rfl⟩ rfl (Nat.le_of_ble_eq_true rfl) ?_
      refine s_aload_n (j := 1) dX5_buyAll_24 rfl rfl ?_
      refine s_iload_n (j := 2) dX5_buyAll_25 rfl rfl ?_
      refine s_aload_n (j := 0) dX5_buyAll_26 rfl rfl ?_
      refine s_getI dX5_buyAll_27 flX5_18 ho ?_
      refine s_iadd dX5_buyAll_30 ?_
      refine s_iload_n (j := 3) dX5_buyAll_31 rfl rfl ?_
      obtain ⟨r5, hv6, h⟩ := bnd h
      refine s_callS (As := [vR x1, vI (xw (x2 + (q3 o 2))), vI x3]) (rest := []) (r := (some (vI r5))) (F' := q3) dX5_buyAll_32 (clX5_46 (Nat.le_of_ble_eq_true rfl) (Nat.le_of_ble_eq_true rfl)) rfl ⟨_, _, _, _, rfl, hx1, hv6, rfl, rfl⟩ rfl (Nat.le_of_ble_eq_true rfl) ?_
      refine s_istore (ls' := [(5, vI r5), (0, vR o), (1, vR x1), (2, vI x2), (3, vI x3), (4, vI x4)]) dX5_buyAll_35 (Nat.le_of_ble_eq_true rfl) rfl ?_
      refine s_iload (j := 0) dX5_buyAll_37 rfl ?_
      refine s_iconst dX5_buyAll_39 (cin rfl) ?_
      refine s_icmp_ne (tgt := 44) dX5_buyAll_40 rfl (fun hc7 => ?_) (fun hc7 => ?_)
      · have h := ifp hc7 h
        refine s_aload_n (j := 1) dX5_buyAll_44 rfl rfl ?_
        refine s_getR dX5_buyAll_45 flX5_24 ho ?_
        refine s_aload_n (j := 1) dX5_buyAll_48 rfl rfl ?_
        refine s_getI dX5_buyAll_49 flX5_21 ho ?_
        refine s_iload (j := 0) dX5_buyAll_52 rfl ?_
        obtain ⟨hb8, h⟩ := gd h
        refine s_iastore dX5_buyAll_54 (trX5_4 ho) hb8.1 hb8.2 ?_
        refine s_aload_n (j := 1) dX5_buyAll_55 rfl rfl ?_
        refine s_dup dX5_buyAll_56 rfl ?_
        refine s_getI dX5_buyAll_57 flX5_21 ho ?_
        refine s_iconst dX5_buyAll_60 (cin rfl) ?_
        refine s_iadd dX5_buyAll_61 ?_
        refine s_putI dX5_buyAll_62 flX5_21 fpX5_3 ho ?_
        refine s_aload_n (j := 2) dX5_buyAll_65 rfl rfl ?_
        refine s_iload (j := 0) dX5_buyAll_66 rfl ?_
        refine s_iload_n (j := 4) dX5_buyAll_68 rfl rfl ?_
        obtain ⟨hn9, h⟩ := gdn h
        obtain ⟨q10, hv11, h⟩ := bnd h
        refine s_callV (As := [vI r5, vI x3]) (rest := []) (r := none) (F' := q10) dX5_buyAll_69 (clX5_50 (Nat.le_of_ble_eq_true rfl) (Nat.le_of_ble_eq_true rfl)) (hx1.resolve_left hn9) rfl ⟨_, _, _, _, rfl, (hx1.resolve_left hn9), hv11, rfl, rfl⟩ rfl (Nat.le_of_ble_eq_true rfl) ?_
        refine s_aload_n (j := 2) dX5_buyAll_72 rfl rfl ?_
        refine s_iconst dX5_buyAll_73 (cin rfl) ?_
        refine s_iconst dX5_buyAll_74 (cin rfl) ?_
        obtain ⟨hn12, h⟩ := gdn h
        obtain ⟨q13, hv14, h⟩ := bnd h
        refine s_callV (As := [vI 0, vI 0]) (rest := []) (r := none) (F' := q13) dX5_buyAll_75 (clX5_53 (Nat.le_of_ble_eq_true rfl) (Nat.le_of_ble_eq_true rfl)) (hx1.resolve_left hn12) rfl ⟨_, _, _, _, rfl, (hx1.resolve_left hn12), hv14, rfl, rfl⟩ rfl (Nat.le_of_ble_eq_true rfl) ?_
        refine s_aload_n (j := 1) dX5_buyAll_78 rfl rfl ?_
        refine s_aload_n (j := 2) dX5_buyAll_79 rfl rfl ?_
        refine s_iconst dX5_buyAll_80 (cin rfl) ?_
        obtain ⟨hn15, h⟩ := gdn h
        obtain ⟨q16, hv17, h⟩ := bnd h
        refine s_callV (As := [vI (-1)]) (rest := [vR o]) (r := (some (vI q16.1))) (F' := q16.2) dX5_buyAll_81 (clX5_57 (Nat.le_of_ble_eq_true rfl) (Nat.le_of_ble_eq_true rfl)) (hx1.resolve_left hn15) rfl ⟨_, _, _, rfl, (hx1.resolve_left hn15), hv17, rfl, rfl⟩ rfl (Nat.le_of_ble_eq_true rfl) ?_
        refine s_iload_n (j := 3) dX5_buyAll_84 rfl rfl ?_
        refine s_isub dX5_buyAll_85 ?_
        refine s_putI dX5_buyAll_86 flX5_18 fpX5_2 ho ?_
        refine s_iinc (ls' := [(4, vI (xw (x4 + 1))), (5, vI r5), (0, vR o), (1, vR x1), (2, vI x2), (3, vI x3)]) (j := 5) dX5_buyAll_89 rfl (Nat.le_of_ble_eq_true rfl) rfl ?_
        refine s_goto (tgt := 13) dX5_buyAll_92 rfl ?_
        exact s_sub (ks := [2, 3, 4, 5, 0]) rfl (ih o x1 x2 x3 (xw (x4 + 1)) (mset q16.2 o 2 (xw (q16.1 - x2))) _ ho hx1 h hq)
      · have h := ifn hc7 h
        have h := Option.some.inj h
        subst h
        exact s_return dX5_buyAll_43 rfl hq
theorem fX5_buyAll_ok {Qr : Option PV → Mem → Prop} : ∀ (o : Nat) (x1 : Nat) (x2 : Int) (x3 : Int) (F : Mem) (res : Mem) (ho : isK o 5) (hx1 : x1 = 0 ∨ isK x1 1), fX5_buyAll o x1 x2 x3 F = some res → Qr none res → PR cX5_buyAll (zX5_buyAll Qr) 0 [(0, vR o), (1, vR x1), (2, vI x2), (3, vI x3)] [] F := by
  intro o x1 x2 x3 F res ho hx1 h hq
  refine s_aload_n (j := 0) dX5_buyAll_0 rfl rfl ?_
  refine s_iconst dX5_buyAll_1 (cin rfl) ?_
  refine s_putI dX5_buyAll_2 flX5_18 fpX5_2 ho ?_
  refine s_aload_n (j := 0) dX5_buyAll_5 rfl rfl ?_
  refine s_iconst dX5_buyAll_6 (cin rfl) ?_
  refine s_putI dX5_buyAll_7 flX5_21 fpX5_3 ho ?_
  refine s_iconst dX5_buyAll_10 (cin rfl) ?_
  refine s_istore (ls' := [(4, vI 0), (0, vR o), (1, vR x1), (2, vI x2), (3, vI x3)]) dX5_buyAll_11 (Nat.le_of_ble_eq_true rfl) rfl ?_
  exact s_sub (ks := [1, 2, 3, 4, 0]) rfl (fX5_buyAll_b13_ok FU o x1 x2 x3 0 (mset (mset F o 2 0) o 3 0) _ ho hx1 h hq)
def gX5_buyAll : XG := fun As F r F' => ∃ o : Nat, ∃ x1 : Nat, ∃ x2 : Int, ∃ x3 : Int, ∃ res : Mem, As = [vR o, vR x1, vI x2, vI x3] ∧ isK o 5 ∧ (x1 = 0 ∨ isK x1 1) ∧ fX5_buyAll o x1 x2 x3 F = some res ∧ r = none ∧ F' = res
theorem ctX5_buyAll : xCT yX5_buyAll cX5_buyAll 6 (none) 4 112 gX5_buyAll := xmet (by decide +kernel) (fun As F r F' hg => by obtain ⟨o, x1, x2, x3, res, rfl, ho, hx1, h, rfl, rfl⟩ := hg; exact Nat.le_of_ble_eq_true rfl) (fun As F r F' hg => by obtain ⟨o, x1, x2, x3, res, rfl, ho, hx1, h, rfl, rfl⟩ := hg; exact fX5_buyAll_ok o x1 x2 x3 _ _ ho hx1 h ⟨rfl, rfl⟩)
theorem mcX5_buyAll : Cond.code yX5_buyAll cX5_buyAll 6 (none) ∈ xw_T ∧ Cond.initialized yX5_buyAll.cls ∈ xw_T ∧ Cond.instanceMethod yX5_buyAll ∈ xw_T ∧ Cond.selects yX5_buyAll.cls yX5_buyAll yX5_buyAll ∈ xw_T := ⟨(xinT 1275 (by decide +kernel) (by decide +kernel)), (xinT 126 (by decide +kernel) (by decide +kernel)), (xinT 1273 (by decide +kernel) (by decide +kernel)), (xinT 1274 (by decide +kernel) (by decide +kernel))⟩
theorem clX9_355 {fr lo : Nat} (h1 : 4 + 1 ≤ fr) (h2 : 8 + (6 + 11) + 112 ≤ lo) : xCall RX9 fr lo 0 355 5 3 gX5_buyAll := ⟨_, _, _, _, _, _, ctX5_buyAll, h1, h2, mcX5_buyAll.1, (xinT 1272 (by decide +kernel) (by decide +kernel)), mcX5_buyAll.2.1, ⟨by decide +kernel, by decide +kernel, by decide +kernel⟩, by rw [if_pos rfl]; exact ⟨mcX5_buyAll.2.2.1, mcX5_buyAll.2.2.2, _, _, rfl⟩⟩
