theorem dX8_mark_0 : decode cX8_mark 0 = .ok (.iconst 0, 1) := by decide +kernel
theorem dX8_mark_1 : decode cX8_mark 1 = .ok (.iload_n 1, 1) := by decide +kernel
theorem dX8_mark_2 : decode cX8_mark 2 = .ok (.invokestatic 64, 3) := by decide +kernel
theorem dX8_mark_5 : decode cX8_mark 5 = .ok (.istore 4, 2) := by decide +kernel
theorem dX8_mark_7 : decode cX8_mark 7 = .ok (.iload 4, 2) := by decide +kernel
theorem dX8_mark_9 : decode cX8_mark 9 = .ok (.iload_n 2, 1) := by decide +kernel
theorem dX8_mark_10 : decode cX8_mark 10 = .ok (.if_icmp .ge 24, 3) := by decide +kernel
theorem dX8_mark_13 : decode cX8_mark 13 = .ok (.iload 4, 2) := by decide +kernel
theorem dX8_mark_15 : decode cX8_mark 15 = .ok (.bipush 48, 2) := by decide +kernel
theorem dX8_mark_17 : decode cX8_mark 17 = .ok (.if_icmp .ge 17, 3) := by decide +kernel
theorem dX8_mark_20 : decode cX8_mark 20 = .ok (.aload_n 0, 1) := by decide +kernel
theorem dX8_mark_21 : decode cX8_mark 21 = .ok (.getfield 22, 3) := by decide +kernel
theorem dX8_mark_24 : decode cX8_mark 24 = .ok (.iload 4, 2) := by decide +kernel
theorem dX8_mark_26 : decode cX8_mark 26 = .ok (.iload_n 3, 1) := by decide +kernel
theorem dX8_mark_27 : decode cX8_mark 27 = .ok (.iastore, 1) := by decide +kernel
theorem dX8_mark_28 : decode cX8_mark 28 = .ok (.iinc 4 1, 3) := by decide +kernel
theorem dX8_mark_31 : decode cX8_mark 31 = .ok (.goto (-24), 3) := by decide +kernel
theorem dX8_mark_34 : decode cX8_mark 34 = .ok (.return_, 1) := by decide +kernel
def zX8_mark (Qr : Option PV → Mem → Prop) : XZ := (RX8, 1, 40, 5, none, Qr)
noncomputable def fX8_mark_b7 : Nat → Nat → Int → Int → Int → Mem → Option Mem
  | 0, _, _, _, _, _ => none
  | n + 1, o, x2, x3, x4, F =>
    if x2 ≤ x4 then
      some F
    else
      if 48 ≤ x4 then
        some F
      else
        if (0 : Int) ≤ x4 ∧ x4 < (alen (o + 1) : Int) then
          fX8_mark_b7 n o x2 x3 (xw (x4 + 1)) (mset F (o + 1) x4.toNat x3)
        else none
noncomputable def fX8_mark (o : Nat) (x1 : Int) (x2 : Int) (x3 : Int) (F : Mem) : Option Mem :=
  fX8_mark_b7 FU o x2 x3 (xmax 0 x1) F
theorem fX8_mark_b7_ok {Qr : Option PV → Mem → Prop}  : ∀ (n : Nat) (o : Nat) (x2 : Int) (x3 : Int) (x4 : Int) (F : Mem) (res : Mem) (ho : isK o 8), fX8_mark_b7 n o x2 x3 x4 F = some res → Qr none res → PR cX8_mark (zX8_mark Qr) 7 [(0, vR o), (2, vI x2), (3, vI x3), (4, vI x4)] [] F := by
  intro n
  induction n with
  | zero => intro o x2 x3 x4 F res ho h hq; exact nomatch (show (none : Option _) = some _ from h)
  | succ n ih =>
    intro o x2 x3 x4 F res ho h hq
    refine s_iload (j := 3) dX8_mark_7 rfl ?_
    refine s_iload_n (j := 1) dX8_mark_9 rfl rfl ?_
    refine s_icmp_ge (tgt := 34) dX8_mark_10 rfl (fun hc1 => ?_) (fun hc1 => ?_)
    · have h := ifp hc1 h
      have h := Option.some.inj h
      subst h
      exact s_return dX8_mark_34 rfl hq
    · have h := ifn hc1 h
      refine s_iload (j := 3) dX8_mark_13 rfl ?_
      refine s_bipush dX8_mark_15 rfl (cin rfl) ?_
      refine s_icmp_ge (tgt := 34) dX8_mark_17 rfl (fun hc2 => ?_) (fun hc2 => ?_)
      · have h := ifp hc2 h
        have h := Option.some.inj h
        subst h
        exact s_return dX8_mark_34 rfl hq
      · have h := ifn hc2 h
        refine s_aload_n (j := 0) dX8_mark_20 rfl rfl ?_
        refine s_getR dX8_mark_21 flX8_22 ho ?_
        refine s_iload (j := 3) dX8_mark_24 rfl ?_
        refine s_iload_n (j := 2) dX8_mark_26 rfl rfl ?_
        obtain ⟨hb3, h⟩ := gd h
        refine s_iastore dX8_mark_27 (trX8_3 ho) hb3.1 hb3.2 ?_
        refine s_iinc (ls' := [(4, vI (xw (x4 + 1))), (0, vR o), (2, vI x2), (3, vI x3)]) (j := 3) dX8_mark_28 rfl (Nat.le_of_ble_eq_true rfl) rfl ?_
        refine s_goto (tgt := 7) dX8_mark_31 rfl ?_
        exact s_sub (ks := [1, 2, 3, 0]) rfl (ih o x2 x3 (xw (x4 + 1)) (mset F (o + 1) x4.toNat x3) _ ho h hq)
theorem fX8_mark_ok {Qr : Option PV → Mem → Prop} : ∀ (o : Nat) (x1 : Int) (x2 : Int) (x3 : Int) (F : Mem) (res : Mem) (ho : isK o 8), fX8_mark o x1 x2 x3 F = some res → Qr none res → PR cX8_mark (zX8_mark Qr) 0 [(0, vR o), (1, vI x1), (2, vI x2), (3, vI x3)] [] F := by
  intro o x1 x2 x3 F res ho h hq
  refine s_iconst dX8_mark_0 (cin rfl) ?_
  refine s_iload_n (j := 1) dX8_mark_1 rfl rfl ?_
  refine s_mmax dX8_mark_2 mtX8_64 (Nat.le_of_ble_eq_true rfl) ?_
  refine s_istore (ls' := [(4, vI (xmax 0 x1)), (0, vR o), (1, vI x1), (2, vI x2), (3, vI x3)]) dX8_mark_5 (Nat.le_of_ble_eq_true rfl) rfl ?_
  exact s_sub (ks := [1, 3, 4, 0]) rfl (fX8_mark_b7_ok FU o x2 x3 (xmax 0 x1) F _ ho h hq)
def gX8_mark : XG := fun As F r F' => ∃ o : Nat, ∃ x1 : Int, ∃ x2 : Int, ∃ x3 : Int, ∃ res : Mem, As = [vR o, vI x1, vI x2, vI x3] ∧ isK o 8 ∧ fX8_mark o x1 x2 x3 F = some res ∧ r = none ∧ F' = res
theorem ctX8_mark : xCT yX8_mark cX8_mark 5 (none) 1 40 gX8_mark := xmet (by decide +kernel) (fun As F r F' hg => by obtain ⟨o, x1, x2, x3, res, rfl, ho, h, rfl, rfl⟩ := hg; exact Nat.le_of_ble_eq_true rfl) (fun As F r F' hg => by obtain ⟨o, x1, x2, x3, res, rfl, ho, h, rfl, rfl⟩ := hg; exact fX8_mark_ok o x1 x2 x3 _ _ ho h ⟨rfl, rfl⟩)
theorem mcX8_mark : Cond.code yX8_mark cX8_mark 5 (none) ∈ xw_T ∧ Cond.initialized yX8_mark.cls ∈ xw_T ∧ Cond.instanceMethod yX8_mark ∈ xw_T ∧ Cond.selects yX8_mark.cls yX8_mark yX8_mark ∈ xw_T := ⟨(xinT 835 (by decide +kernel) (by decide +kernel)), (xinT 123 (by decide +kernel) (by decide +kernel)), (xinT 834 (by decide +kernel) (by decide +kernel)), (xinT 11 (by decide +kernel) (by decide +kernel))⟩
theorem clX8_57 {fr lo : Nat} (h1 : 1 + 1 ≤ fr) (h2 : 8 + (5 + 11) + 40 ≤ lo) : xCall RX8 fr lo 0 57 8 3 gX8_mark := ⟨_, _, _, _, _, _, ctX8_mark, h1, h2, mcX8_mark.1, (xinT 832 (by decide +kernel) (by decide +kernel)), mcX8_mark.2.1, ⟨by decide +kernel, by decide +kernel, by decide +kernel⟩, by rw [if_pos rfl]; exact ⟨mcX8_mark.2.2.1, mcX8_mark.2.2.2, _, _, rfl⟩⟩
theorem dX8_follow_0 : decode cX8_follow 0 = .ok (.aload_n 0, 1) := by decide +kernel
theorem dX8_follow_1 : decode cX8_follow 1 = .ok (.aload_n 1, 1) := by decide +kernel
theorem dX8_follow_2 : decode cX8_follow 2 = .ok (.putfield 9, 3) := by decide +kernel
theorem dX8_follow_5 : decode cX8_follow 5 = .ok (.aload_n 0, 1) := by decide +kernel
theorem dX8_follow_6 : decode cX8_follow 6 = .ok (.iconst 0, 1) := by decide +kernel
theorem dX8_follow_7 : decode cX8_follow 7 = .ok (.putfield 15, 3) := by decide +kernel
theorem dX8_follow_10 : decode cX8_follow 10 = .ok (.aload_n 0, 1) := by decide +kernel
theorem dX8_follow_11 : decode cX8_follow 11 = .ok (.iconst 0, 1) := by decide +kernel
theorem dX8_follow_12 : decode cX8_follow 12 = .ok (.putfield 19, 3) := by decide +kernel
theorem dX8_follow_15 : decode cX8_follow 15 = .ok (.aload_n 1, 1) := by decide +kernel
theorem dX8_follow_16 : decode cX8_follow 16 = .ok (.getfield 29, 3) := by decide +kernel
theorem dX8_follow_19 : decode cX8_follow 19 = .ok (.istore_n 3, 1) := by decide +kernel
theorem dX8_follow_20 : decode cX8_follow 20 = .ok (.iconst 0, 1) := by decide +kernel
theorem dX8_follow_21 : decode cX8_follow 21 = .ok (.istore 4, 2) := by decide +kernel
theorem dX8_follow_23 : decode cX8_follow 23 = .ok (.iconst 0, 1) := by decide +kernel
theorem dX8_follow_24 : decode cX8_follow 24 = .ok (.istore 5, 2) := by decide +kernel
theorem dX8_follow_26 : decode cX8_follow 26 = .ok (.iconst 0, 1) := by decide +kernel
theorem dX8_follow_27 : decode cX8_follow 27 = .ok (.istore 6, 2) := by decide +kernel
theorem dX8_follow_29 : decode cX8_follow 29 = .ok (.iload 6, 2) := by decide +kernel
theorem dX8_follow_31 : decode cX8_follow 31 = .ok (.aload_n 2, 1) := by decide +kernel
theorem dX8_follow_32 : decode cX8_follow 32 = .ok (.getfield 34, 3) := by decide +kernel
theorem dX8_follow_35 : decode cX8_follow 35 = .ok (.if_icmp .ge 136, 3) := by decide +kernel
theorem dX8_follow_38 : decode cX8_follow 38 = .ok (.aload_n 2, 1) := by decide +kernel
theorem dX8_follow_39 : decode cX8_follow 39 = .ok (.iload 6, 2) := by decide +kernel
theorem dX8_follow_41 : decode cX8_follow 41 = .ok (.iconst 0, 1) := by decide +kernel
theorem dX8_follow_42 : decode cX8_follow 42 = .ok (.invokevirtual 39, 3) := by decide +kernel
theorem dX8_follow_45 : decode cX8_follow 45 = .ok (.istore 7, 2) := by decide +kernel
theorem dX8_follow_47 : decode cX8_follow 47 = .ok (.aload_n 2, 1) := by decide +kernel
theorem dX8_follow_48 : decode cX8_follow 48 = .ok (.iload 6, 2) := by decide +kernel
theorem dX8_follow_50 : decode cX8_follow 50 = .ok (.iconst 1, 1) := by decide +kernel
theorem dX8_follow_51 : decode cX8_follow 51 = .ok (.invokevirtual 39, 3) := by decide +kernel
theorem dX8_follow_54 : decode cX8_follow 54 = .ok (.istore 8, 2) := by decide +kernel
theorem dX8_follow_56 : decode cX8_follow 56 = .ok (.iload 8, 2) := by decide +kernel
theorem dX8_follow_58 : decode cX8_follow 58 = .ok (.aload_n 1, 1) := by decide +kernel
theorem dX8_follow_59 : decode cX8_follow 59 = .ok (.iload_n 3, 1) := by decide +kernel
theorem dX8_follow_60 : decode cX8_follow 60 = .ok (.iload 7, 2) := by decide +kernel
theorem dX8_follow_62 : decode cX8_follow 62 = .ok (.aload_n 1, 1) := by decide +kernel
theorem dX8_follow_63 : decode cX8_follow 63 = .ok (.getfield 43, 3) := by decide +kernel
theorem dX8_follow_66 : decode cX8_follow 66 = .ok (.invokevirtual 46, 3) := by decide +kernel
theorem dX8_follow_69 : decode cX8_follow 69 = .ok (.isub, 1) := by decide +kernel
theorem dX8_follow_70 : decode cX8_follow 70 = .ok (.istore 9, 2) := by decide +kernel
theorem dX8_follow_72 : decode cX8_follow 72 = .ok (.aload_n 1, 1) := by decide +kernel
theorem dX8_follow_73 : decode cX8_follow 73 = .ok (.iload 7, 2) := by decide +kernel
theorem dX8_follow_75 : decode cX8_follow 75 = .ok (.invokevirtual 50, 3) := by decide +kernel
theorem dX8_follow_78 : decode cX8_follow 78 = .ok (.ifCond .eq 93, 3) := by decide +kernel
theorem dX8_follow_81 : decode cX8_follow 81 = .ok (.aload_n 2, 1) := by decide +kernel
theorem dX8_follow_82 : decode cX8_follow 82 = .ok (.iload 6, 2) := by decide +kernel
theorem dX8_follow_84 : decode cX8_follow 84 = .ok (.iconst 2, 1) := by decide +kernel
theorem dX8_follow_85 : decode cX8_follow 85 = .ok (.invokevirtual 39, 3) := by decide +kernel
theorem dX8_follow_88 : decode cX8_follow 88 = .ok (.aload_n 1, 1) := by decide +kernel
theorem dX8_follow_89 : decode cX8_follow 89 = .ok (.getfield 54, 3) := by decide +kernel
theorem dX8_follow_92 : decode cX8_follow 92 = .ok (.if_icmp .gt 79, 3) := by decide +kernel
theorem dX8_follow_95 : decode cX8_follow 95 = .ok (.iload 9, 2) := by decide +kernel
theorem dX8_follow_97 : decode cX8_follow 97 = .ok (.iload 5, 2) := by decide +kernel
theorem dX8_follow_99 : decode cX8_follow 99 = .ok (.if_icmp .ge 6, 3) := by decide +kernel
theorem dX8_follow_102 : decode cX8_follow 102 = .ok (.goto 69, 3) := by decide +kernel
theorem dX8_follow_105 : decode cX8_follow 105 = .ok (.aload_n 0, 1) := by decide +kernel
theorem dX8_follow_106 : decode cX8_follow 106 = .ok (.iload 4, 2) := by decide +kernel
theorem dX8_follow_108 : decode cX8_follow 108 = .ok (.iload 9, 2) := by decide +kernel
theorem dX8_follow_110 : decode cX8_follow 110 = .ok (.iload_n 3, 1) := by decide +kernel
theorem dX8_follow_111 : decode cX8_follow 111 = .ok (.invokevirtual 57, 3) := by decide +kernel
theorem dX8_follow_114 : decode cX8_follow 114 = .ok (.aload_n 0, 1) := by decide +kernel
theorem dX8_follow_115 : decode cX8_follow 115 = .ok (.iload 9, 2) := by decide +kernel
theorem dX8_follow_117 : decode cX8_follow 117 = .ok (.iload 8, 2) := by decide +kernel
theorem dX8_follow_119 : decode cX8_follow 119 = .ok (.iconst (-1), 1) := by decide +kernel
theorem dX8_follow_120 : decode cX8_follow 120 = .ok (.invokevirtual 57, 3) := by decide +kernel
theorem dX8_follow_123 : decode cX8_follow 123 = .ok (.aload_n 0, 1) := by decide +kernel
theorem dX8_follow_124 : decode cX8_follow 124 = .ok (.dup, 1) := by decide +kernel
theorem dX8_follow_125 : decode cX8_follow 125 = .ok (.getfield 19, 3) := by decide +kernel
theorem dX8_follow_128 : decode cX8_follow 128 = .ok (.aload_n 1, 1) := by decide +kernel
theorem dX8_follow_129 : decode cX8_follow 129 = .ok (.iload_n 3, 1) := by decide +kernel
theorem dX8_follow_130 : decode cX8_follow 130 = .ok (.iload 7, 2) := by decide +kernel
theorem dX8_follow_132 : decode cX8_follow 132 = .ok (.invokevirtual 61, 3) := by decide +kernel
theorem dX8_follow_135 : decode cX8_follow 135 = .ok (.iadd, 1) := by decide +kernel
theorem dX8_follow_136 : decode cX8_follow 136 = .ok (.putfield 19, 3) := by decide +kernel
theorem dX8_follow_139 : decode cX8_follow 139 = .ok (.iload 7, 2) := by decide +kernel
theorem dX8_follow_141 : decode cX8_follow 141 = .ok (.istore_n 3, 1) := by decide +kernel
theorem dX8_follow_142 : decode cX8_follow 142 = .ok (.iload 8, 2) := by decide +kernel
theorem dX8_follow_144 : decode cX8_follow 144 = .ok (.istore 4, 2) := by decide +kernel
theorem dX8_follow_146 : decode cX8_follow 146 = .ok (.aload_n 2, 1) := by decide +kernel
theorem dX8_follow_147 : decode cX8_follow 147 = .ok (.iload 6, 2) := by decide +kernel
theorem dX8_follow_149 : decode cX8_follow 149 = .ok (.iconst 2, 1) := by decide +kernel
theorem dX8_follow_150 : decode cX8_follow 150 = .ok (.invokevirtual 39, 3) := by decide +kernel
theorem dX8_follow_153 : decode cX8_follow 153 = .ok (.istore 5, 2) := by decide +kernel
theorem dX8_follow_155 : decode cX8_follow 155 = .ok (.aload_n 0, 1) := by decide +kernel
theorem dX8_follow_156 : decode cX8_follow 156 = .ok (.dup, 1) := by decide +kernel
theorem dX8_follow_157 : decode cX8_follow 157 = .ok (.getfield 15, 3) := by decide +kernel
theorem dX8_follow_160 : decode cX8_follow 160 = .ok (.iconst 1, 1) := by decide +kernel
theorem dX8_follow_161 : decode cX8_follow 161 = .ok (.iadd, 1) := by decide +kernel
theorem dX8_follow_162 : decode cX8_follow 162 = .ok (.putfield 15, 3) := by decide +kernel
theorem dX8_follow_165 : decode cX8_follow 165 = .ok (.iinc 6 1, 3) := by decide +kernel
theorem dX8_follow_168 : decode cX8_follow 168 = .ok (.goto (-139), 3) := by decide +kernel
theorem dX8_follow_171 : decode cX8_follow 171 = .ok (.aload_n 0, 1) := by decide +kernel
theorem dX8_follow_172 : decode cX8_follow 172 = .ok (.iload 4, 2) := by decide +kernel
theorem dX8_follow_174 : decode cX8_follow 174 = .ok (.aload_n 1, 1) := by decide +kernel
theorem dX8_follow_175 : decode cX8_follow 175 = .ok (.getfield 54, 3) := by decide +kernel
theorem dX8_follow_178 : decode cX8_follow 178 = .ok (.iload_n 3, 1) := by decide +kernel
theorem dX8_follow_179 : decode cX8_follow 179 = .ok (.invokevirtual 57, 3) := by decide +kernel
theorem dX8_follow_182 : decode cX8_follow 182 = .ok (.return_, 1) := by decide +kernel
def zX8_follow (Qr : Option PV → Mem → Prop) : XZ := (RX8, 2, 64, 10, none, Qr)
noncomputable def fX8_follow_b171 (o : Nat) (x1 : Nat) (x3 : Int) (x4 : Int) (F : Mem) : Option Mem :=
  if x1 = 0 then none else
  (fX8_mark o x4 (F x1 0) x3 F).bind fun q2 =>
  some q2
noncomputable def fX8_follow_b29 : Nat → Nat → Nat → Nat → Int → Int → Int → Int → Mem → Option Mem
  | 0, _, _, _, _, _, _, _, _ => none
  | n + 1, o, x1, x2, x3, x4, x5, x6, F =>
    if x2 = 0 then none else
    if (F x2 3) ≤ x6 then
      fX8_follow_b171 o x1 x3 x4 F
    else
      if x2 = 0 then none else
      (fX3_cell x2 x6 0 F).bind fun r4 =>
      if x2 = 0 then none else
      (fX3_cell x2 x6 1 F).bind fun r7 =>
      if x1 = 0 then none else
      if x1 = 0 then none else
      (fX7_slotsBetween x1 x3 r4 (F x1 1) F).bind fun r11 =>
      if x1 = 0 then none else
      if (fX7_hasHouse x1 r4 F) = 0 then
        fX8_follow_b171 o x1 x3 x4 F
      else
        if x2 = 0 then none else
        (fX3_cell x2 x6 2 F).bind fun r16 =>
        if x1 = 0 then none else
        if (F x1 0) < r16 then
          fX8_follow_b171 o x1 x3 x4 F
        else
          if x5 ≤ (xw (r7 - r11)) then
            (fX8_mark o x4 (xw (r7 - r11)) x3 F).bind fun q21 =>
            (fX8_mark o (xw (r7 - r11)) r7 (-1) q21).bind fun q23 =>
            if x1 = 0 then none else
            (fX7_stepsBetween x1 x3 r4 q23).bind fun r26 =>
            if x2 = 0 then none else
            (fX3_cell x2 x6 2 (mset q23 o 2 (xw ((q23 o 2) + r26)))).bind fun r29 =>
            fX8_follow_b29 n o x1 x2 r4 r7 r29 (xw (x6 + 1)) (mset (mset q23 o 2 (xw ((q23 o 2) + r26))) o 1 (xw (((mset q23 o 2 (xw ((q23 o 2) + r26))) o 1) + 1)))
          else
            fX8_follow_b171 o x1 x3 x4 F
noncomputable def fX8_follow (o : Nat) (x1 : Nat) (x2 : Nat) (F : Mem) : Option Mem :=
  if x1 = 0 then none else
  fX8_follow_b29 FU o x1 x2 ((mset (mset (mset F o 0 (x1 : Int)) o 1 0) o 2 0) x1 4) 0 0 0 (mset (mset (mset F o 0 (x1 : Int)) o 1 0) o 2 0)
theorem fX8_follow_b171_ok {Qr : Option PV → Mem → Prop}  : ∀ (o : Nat) (x1 : Nat) (x3 : Int) (x4 : Int) (F : Mem) (res : Mem) (ho : isK o 8) (hx1 : x1 = 0 ∨ isK x1 7), fX8_follow_b171 o x1 x3 x4 F = some res → Qr none res → PR cX8_follow (zX8_follow Qr) 171 [(0, vR o), (1, vR x1), (3, vI x3), (4, vI x4)] [] F := by
  intro o x1 x3 x4 F res ho hx1 h hq
  refine s_aload_n (j := 0) dX8_follow_171 rfl rfl ?_
  refine s_iload (j := 3) dX8_follow_172 rfl ?_
  refine s_aload_n (j := 1) dX8_follow_174 rfl rfl ?_
  obtain ⟨hn1, h⟩ := gdn h
  refine s_getI dX8_follow_175 flX8_54 (hx1.resolve_left hn1) ?_
  refine s_iload_n (j := 2) dX8_follow_178 rfl rfl ?_
  obtain ⟨q2, hv3, h⟩ := bnd h
  refine s_callV (As := [vI x4, vI (F x1 0), vI x3]) (rest := []) (r := none) (F' := q2) dX8_follow_179 (clX8_57 (Nat.le_of_ble_eq_true rfl) (Nat.le_of_ble_eq_true rfl)) ho rfl ⟨_, _, _, _, _, rfl, ho, hv3, rfl, rfl⟩ rfl (Nat.le_of_ble_eq_true rfl) ?_
  have h := Option.some.inj h
  subst h
  exact s_return dX8_follow_182 rfl hq
theorem fX8_follow_b29_ok {Qr : Option PV → Mem → Prop}  : ∀ (n : Nat) (o : Nat) (x1 : Nat) (x2 : Nat) (x3 : Int) (x4 : Int) (x5 : Int) (x6 : Int) (F : Mem) (res : Mem) (ho : isK o 8) (hx1 : x1 = 0 ∨ isK x1 7) (hx2 : x2 = 0 ∨ isK x2 3), fX8_follow_b29 n o x1 x2 x3 x4 x5 x6 F = some res → Qr none res → PR cX8_follow (zX8_follow Qr) 29 [(0, vR o), (1, vR x1), (2, vR x2), (3, vI x3), (4, vI x4), (5, vI x5), (6, vI x6)] [] F := by
  intro n
  induction n with
  | zero => intro o x1 x2 x3 x4 x5 x6 F res ho hx1 hx2 h hq; exact nomatch (show (none : Option _) = some _ from h)
  | succ n ih =>
    intro o x1 x2 x3 x4 x5 x6 F res ho hx1 hx2 h hq
    refine s_iload (j := 6) dX8_follow_29 rfl ?_
    refine s_aload_n (j := 2) dX8_follow_31 rfl rfl ?_
    obtain ⟨hn1, h⟩ := gdn h
    refine s_getI dX8_follow_32 flX8_34 (hx2.resolve_left hn1) ?_
    refine s_icmp_ge (tgt := 171) dX8_follow_35 rfl (fun hc2 => ?_) (fun hc2 => ?_)
    · have h := ifp hc2 h
      exact s_sub (ks := [0, 1, 3, 4]) rfl (fX8_follow_b171_ok o x1 x3 x4 F _ ho hx1 h hq)
    · have h := ifn hc2 h
      refine s_aload_n (j := 2) dX8_follow_38 rfl rfl ?_
      refine s_iload (j := 6) dX8_follow_39 rfl ?_
      refine s_iconst dX8_follow_41 (cin rfl) ?_
      obtain ⟨hn3, h⟩ := gdn h
      obtain ⟨r4, hv5, h⟩ := bnd h
      refine s_callV (As := [vI x6, vI 0]) (rest := []) (r := (some (vI r4))) (F' := F) dX8_follow_42 (clX8_39 (Nat.le_of_ble_eq_true rfl) (Nat.le_of_ble_eq_true rfl)) (hx2.resolve_left hn3) rfl ⟨_, _, _, _, rfl, (hx2.resolve_left hn3), hv5, rfl, rfl⟩ rfl (Nat.le_of_ble_eq_true rfl) ?_
      refine s_istore (ls' := [(7, vI r4), (0, vR o), (1, vR x1), (2, vR x2), (3, vI x3), (4, vI x4), (5, vI x5), (6, vI x6)]) dX8_follow_45 (Nat.le_of_ble_eq_true rfl) rfl ?_
      refine s_aload_n (j := 3) dX8_follow_47 rfl rfl ?_
      refine s_iload (j := 7) dX8_follow_48 rfl ?_
      refine s_iconst dX8_follow_50 (cin rfl) ?_
      obtain ⟨hn6, h⟩ := gdn h
      obtain ⟨r7, hv8, h⟩ := bnd h
      refine s_callV (As := [vI x6, vI 1]) (rest := []) (r := (some (vI r7))) (F' := F) dX8_follow_51 (clX8_39 (Nat.le_of_ble_eq_true rfl) (Nat.le_of_ble_eq_true rfl)) (hx2.resolve_left hn6) rfl ⟨_, _, _, _, rfl, (hx2.resolve_left hn6), hv8, rfl, rfl⟩ rfl (Nat.le_of_ble_eq_true rfl) ?_
      refine s_istore dX8_follow_54 (Nat.le_of_ble_eq_true rfl) rfl ?_
      refine s_iload (j := 0) dX8_follow_56 rfl ?_
      refine s_aload_n (j := 3) dX8_follow_58 rfl rfl ?_
      refine s_iload_n (j := 5) dX8_follow_59 rfl rfl ?_
      refine s_iload (j := 1) dX8_follow_60 rfl ?_
      refine s_aload_n (j := 3) dX8_follow_62 rfl rfl ?_
      obtain ⟨hn9, h⟩ := gdn h
      refine s_getI dX8_follow_63 flX8_43 (hx1.resolve_left hn9) ?_
      obtain ⟨hn10, h⟩ := gdn h
      obtain ⟨r11, hv12, h⟩ := bnd h
      refine s_callV (As := [vI x3, vI r4, vI (F x1 1)]) (rest := [vI r7]) (r := (some (vI r11))) (F' := F) dX8_follow_66 (clX8_46 (Nat.le_of_ble_eq_true rfl) (Nat.le_of_ble_eq_true rfl)) (hx1.resolve_left hn10) rfl ⟨_, _, _, _, _, rfl, (hx1.resolve_left hn10), hv12, rfl, rfl⟩ rfl (Nat.le_of_ble_eq_true rfl) ?_
      refine s_isub dX8_follow_69 ?_
      refine s_istore (ls' := [(9, vI (xw (r7 - r11))), (8, vI r7), (7, vI r4), (0, vR o), (1, vR x1), (2, vR x2), (3, vI x3), (4, vI x4), (5, vI x5), (6, vI x6)]) dX8_follow_70 (Nat.le_of_ble_eq_true rfl) rfl ?_
      refine s_aload_n (j := 4) dX8_follow_72 rfl rfl ?_
      refine s_iload (j := 2) dX8_follow_73 rfl ?_
      obtain ⟨hn13, h⟩ := gdn h
      refine s_callV (As := [vI r4]) (rest := []) (r := (some (vI (fX7_hasHouse x1 r4 F)))) (F' := F) dX8_follow_75 (clX8_50 (Nat.le_of_ble_eq_true rfl) (Nat.le_of_ble_eq_true rfl)) (hx1.resolve_left hn13) rfl ⟨_, _, _, rfl, (hx1.resolve_left hn13), rfl, rfl, rfl⟩ rfl (Nat.le_of_ble_eq_true rfl) ?_
      refine s_if_eq (tgt := 171) dX8_follow_78 rfl (fun hc14 => ?_) (fun hc14 => ?_)
      · have h := ifp hc14 h
        exact s_sub (ks := [3, 4, 6, 7]) rfl (fX8_follow_b171_ok o x1 x3 x4 F _ ho hx1 h hq)
      · have h := ifn hc14 h
        refine s_aload_n (j := 5) dX8_follow_81 rfl rfl ?_
        refine s_iload (j := 9) dX8_follow_82 rfl ?_
        refine s_iconst dX8_follow_84 (cin rfl) ?_
        obtain ⟨hn15, h⟩ := gdn h
        obtain ⟨r16, hv17, h⟩ := bnd h
        refine s_callV (As := [vI x6, vI 2]) (rest := []) (r := (some (vI r16))) (F' := F) dX8_follow_85 (clX8_39 (Nat.le_of_ble_eq_true rfl) (Nat.le_of_ble_eq_true rfl)) (hx2.resolve_left hn15) rfl ⟨_, _, _, _, rfl, (hx2.resolve_left hn15), hv17, rfl, rfl⟩ rfl (Nat.le_of_ble_eq_true rfl) ?_
        refine s_aload_n (j := 4) dX8_follow_88 rfl rfl ?_
        obtain ⟨hn18, h⟩ := gdn h
        refine s_getI dX8_follow_89 flX8_54 (hx1.resolve_left hn18) ?_
        refine s_icmp_gt (tgt := 171) dX8_follow_92 rfl (fun hc19 => ?_) (fun hc19 => ?_)
        · have h := ifp hc19 h
          exact s_sub (ks := [3, 4, 6, 7]) rfl (fX8_follow_b171_ok o x1 x3 x4 F _ ho hx1 h hq)
        · have h := ifn hc19 h
          refine s_iload (j := 0) dX8_follow_95 rfl ?_
          refine s_iload (j := 8) dX8_follow_97 rfl ?_
          refine s_icmp_ge (tgt := 105) dX8_follow_99 rfl (fun hc20 => ?_) (fun hc20 => ?_)
          · have h := ifp hc20 h
            refine s_aload_n (j := 3) dX8_follow_105 rfl rfl ?_
            refine s_iload (j := 7) dX8_follow_106 rfl ?_
            refine s_iload (j := 0) dX8_follow_108 rfl ?_
            refine s_iload_n (j := 6) dX8_follow_110 rfl rfl ?_
            obtain ⟨q21, hv22, h⟩ := bnd h
            refine s_callV (As := [vI x4, vI (xw (r7 - r11)), vI x3]) (rest := []) (r := none) (F' := q21) dX8_follow_111 (clX8_57 (Nat.le_of_ble_eq_true rfl) (Nat.le_of_ble_eq_true rfl)) ho rfl ⟨_, _, _, _, _, rfl, ho, hv22, rfl, rfl⟩ rfl (Nat.le_of_ble_eq_true rfl) ?_
            refine s_aload_n (j := 3) dX8_follow_114 rfl rfl ?_
            refine s_iload (j := 0) dX8_follow_115 rfl ?_
            refine s_iload (j := 1) dX8_follow_117 rfl ?_
            refine s_iconst dX8_follow_119 (cin rfl) ?_
            obtain ⟨q23, hv24, h⟩ := bnd h
            refine s_callV (As := [vI (xw (r7 - r11)), vI r7, vI (-1)]) (rest := []) (r := none) (F' := q23) dX8_follow_120 (clX8_57 (Nat.le_of_ble_eq_true rfl) (Nat.le_of_ble_eq_true rfl)) ho rfl ⟨_, _, _, _, _, rfl, ho, hv24, rfl, rfl⟩ rfl (Nat.le_of_ble_eq_true rfl) ?_
            refine s_aload_n (j := 3) dX8_follow_123 rfl rfl ?_
            refine s_dup dX8_follow_124 rfl ?_
            refine s_getI dX8_follow_125 flX8_19 ho ?_
            refine s_aload_n (j := 4) dX8_follow_128 rfl rfl ?_
            refine s_iload_n (j := 6) dX8_follow_129 rfl rfl ?_
            refine s_iload (j := 2) dX8_follow_130 rfl ?_
            obtain ⟨hn25, h⟩ := gdn h
            obtain ⟨r26, hv27, h⟩ := bnd h
            refine s_callV (As := [vI x3, vI r4]) (rest := [vI (q23 o 2), vR o]) (r := (some (vI r26))) (F' := q23) dX8_follow_132 (clX8_61 (Nat.le_of_ble_eq_true rfl) (Nat.le_of_ble_eq_true rfl)) (hx1.resolve_left hn25) rfl ⟨_, _, _, _, rfl, (hx1.resolve_left hn25), hv27, rfl, rfl⟩ rfl (Nat.le_of_ble_eq_true rfl) ?_
            refine s_iadd dX8_follow_135 ?_
            refine s_putI dX8_follow_136 flX8_19 fpX8_2 ho ?_
            refine s_iload (j := 2) dX8_follow_139 rfl ?_
            refine s_istore_n (ls' := [(3, vI r4), (9, vI (xw (r7 - r11))), (8, vI r7), (7, vI r4), (0, vR o), (1, vR x1), (2, vR x2), (4, vI x4), (5, vI x5), (6, vI x6)]) dX8_follow_141 rfl (Nat.le_of_ble_eq_true rfl) rfl ?_
            refine s_iload (j := 2) dX8_follow_142 rfl ?_
            refine s_istore dX8_follow_144 (Nat.le_of_ble_eq_true rfl) rfl ?_
            refine s_aload_n (j := 7) dX8_follow_146 rfl rfl ?_
            refine s_iload (j := 9) dX8_follow_147 rfl ?_
            refine s_iconst dX8_follow_149 (cin rfl) ?_
            obtain ⟨hn28, h⟩ := gdn h
            obtain ⟨r29, hv30, h⟩ := bnd h
            refine s_callV (As := [vI x6, vI 2]) (rest := []) (r := (some (vI r29))) (F' := mset q23 o 2 (xw ((q23 o 2) + r26))) dX8_follow_150 (clX8_39 (Nat.le_of_ble_eq_true rfl) (Nat.le_of_ble_eq_true rfl)) (hx2.resolve_left hn28) rfl ⟨_, _, _, _, rfl, (hx2.resolve_left hn28), hv30, rfl, rfl⟩ rfl (Nat.le_of_ble_eq_true rfl) ?_
            refine s_istore (ls' := [(5, vI r29), (4, vI r7), (3, vI r4), (9, vI (xw (r7 - r11))), (8, vI r7), (7, vI r4), (0, vR o), (1, vR x1), (2, vR x2), (6, vI x6)]) dX8_follow_153 (Nat.le_of_ble_eq_true rfl) rfl ?_
            refine s_aload_n (j := 6) dX8_follow_155 rfl rfl ?_
            refine s_dup dX8_follow_156 rfl ?_
            refine s_getI dX8_follow_157 flX8_15 ho ?_
            refine s_iconst dX8_follow_160 (cin rfl) ?_
            refine s_iadd dX8_follow_161 ?_
            refine s_putI dX8_follow_162 flX8_15 fpX8_1 ho ?_
            refine s_iinc (j := 9) dX8_follow_165 rfl (Nat.le_of_ble_eq_true rfl) rfl ?_
            refine s_goto (tgt := 29) dX8_follow_168 rfl ?_
            exact s_sub (ks := [7, 8, 9, 3, 2, 1, 0]) rfl (ih o x1 x2 r4 r7 r29 (xw (x6 + 1)) (mset (mset q23 o 2 (xw ((q23 o 2) + r26))) o 1 (xw (((mset q23 o 2 (xw ((q23 o 2) + r26))) o 1) + 1))) _ ho hx1 hx2 h hq)
          · have h := ifn hc20 h
            refine s_goto (tgt := 171) dX8_follow_102 rfl ?_
            exact s_sub (ks := [3, 4, 6, 7]) rfl (fX8_follow_b171_ok o x1 x3 x4 F _ ho hx1 h hq)
theorem fX8_follow_ok {Qr : Option PV → Mem → Prop} : ∀ (o : Nat) (x1 : Nat) (x2 : Nat) (F : Mem) (res : Mem) (ho : isK o 8) (hx1 : x1 = 0 ∨ isK x1 7) (hx2 : x2 = 0 ∨ isK x2 3), fX8_follow o x1 x2 F = some res → Qr none res → PR cX8_follow (zX8_follow Qr) 0 [(0, vR o), (1, vR x1), (2, vR x2)] [] F := by
  intro o x1 x2 F res ho hx1 hx2 h hq
  refine s_aload_n (j := 0) dX8_follow_0 rfl rfl ?_
  refine s_aload_n (j := 1) dX8_follow_1 rfl rfl ?_
  refine s_putM dX8_follow_2 flX8_9 fpX8_0 (Or.inl ⟨_, rfl⟩) ho hx1 ?_
  refine s_aload_n (j := 0) dX8_follow_5 rfl rfl ?_
  refine s_iconst dX8_follow_6 (cin rfl) ?_
  refine s_putI dX8_follow_7 flX8_15 fpX8_1 ho ?_
  refine s_aload_n (j := 0) dX8_follow_10 rfl rfl ?_
  refine s_iconst dX8_follow_11 (cin rfl) ?_
  refine s_putI dX8_follow_12 flX8_19 fpX8_2 ho ?_
  refine s_aload_n (j := 1) dX8_follow_15 rfl rfl ?_
  obtain ⟨hn1, h⟩ := gdn h
  refine s_getI dX8_follow_16 flX8_29 (hx1.resolve_left hn1) ?_
  refine s_istore_n (ls' := [(3, vI ((mset (mset (mset F o 0 (x1 : Int)) o 1 0) o 2 0) x1 4)), (0, vR o), (1, vR x1), (2, vR x2)]) dX8_follow_19 rfl (Nat.le_of_ble_eq_true rfl) rfl ?_
  refine s_iconst dX8_follow_20 (cin rfl) ?_
  refine s_istore dX8_follow_21 (Nat.le_of_ble_eq_true rfl) rfl ?_
  refine s_iconst dX8_follow_23 (cin rfl) ?_
  refine s_istore (ls' := [(5, vI 0), (4, vI 0), (3, vI ((mset (mset (mset F o 0 (x1 : Int)) o 1 0) o 2 0) x1 4)), (0, vR o), (1, vR x1), (2, vR x2)]) dX8_follow_24 (Nat.le_of_ble_eq_true rfl) rfl ?_
  refine s_iconst dX8_follow_26 (cin rfl) ?_
  refine s_istore dX8_follow_27 (Nat.le_of_ble_eq_true rfl) rfl ?_
  exact s_sub (ks := [4, 5, 6, 3, 2, 1, 0]) rfl (fX8_follow_b29_ok FU o x1 x2 ((mset (mset (mset F o 0 (x1 : Int)) o 1 0) o 2 0) x1 4) 0 0 0 (mset (mset (mset F o 0 (x1 : Int)) o 1 0) o 2 0) _ ho hx1 hx2 h hq)
def gX8_follow : XG := fun As F r F' => ∃ o : Nat, ∃ x1 : Nat, ∃ x2 : Nat, ∃ res : Mem, As = [vR o, vR x1, vR x2] ∧ isK o 8 ∧ (x1 = 0 ∨ isK x1 7) ∧ (x2 = 0 ∨ isK x2 3) ∧ fX8_follow o x1 x2 F = some res ∧ r = none ∧ F' = res
theorem ctX8_follow : xCT yX8_follow cX8_follow 10 (none) 2 64 gX8_follow := xmet (by decide +kernel) (fun As F r F' hg => by obtain ⟨o, x1, x2, res, rfl, ho, hx1, hx2, h, rfl, rfl⟩ := hg; exact Nat.le_of_ble_eq_true rfl) (fun As F r F' hg => by obtain ⟨o, x1, x2, res, rfl, ho, hx1, hx2, h, rfl, rfl⟩ := hg; exact fX8_follow_ok o x1 x2 _ _ ho hx1 hx2 h ⟨rfl, rfl⟩)
theorem mcX8_follow : Cond.code yX8_follow cX8_follow 10 (none) ∈ xw_T ∧ Cond.initialized yX8_follow.cls ∈ xw_T ∧ Cond.instanceMethod yX8_follow ∈ xw_T ∧ Cond.selects yX8_follow.cls yX8_follow yX8_follow ∈ xw_T := ⟨(xinT 828 (by decide +kernel) (by decide +kernel)), (xinT 123 (by decide +kernel) (by decide +kernel)), (xinT 826 (by decide +kernel) (by decide +kernel)), (xinT 827 (by decide +kernel) (by decide +kernel))⟩
theorem clX9_379 {fr lo : Nat} (h1 : 2 + 1 ≤ fr) (h2 : 8 + (10 + 11) + 64 ≤ lo) : xCall RX9 fr lo 0 379 8 2 gX8_follow := ⟨_, _, _, _, _, _, ctX8_follow, h1, h2, mcX8_follow.1, (xinT 825 (by decide +kernel) (by decide +kernel)), mcX8_follow.2.1, ⟨by decide +kernel, by decide +kernel, by decide +kernel⟩, by rw [if_pos rfl]; exact ⟨mcX8_follow.2.2.1, mcX8_follow.2.2.2, _, _, rfl⟩⟩
theorem dX8_isRight_0 : decode cX8_isRight 0 = .ok (.aload_n 0, 1) := by decide +kernel
theorem dX8_isRight_1 : decode cX8_isRight 1 = .ok (.getfield 9, 3) := by decide +kernel
theorem dX8_isRight_4 : decode cX8_isRight 4 = .ok (.getfield 69, 3) := by decide +kernel
theorem dX8_isRight_7 : decode cX8_isRight 7 = .ok (.iload_n 1, 1) := by decide +kernel
theorem dX8_isRight_8 : decode cX8_isRight 8 = .ok (.iconst 1, 1) := by decide +kernel
theorem dX8_isRight_9 : decode cX8_isRight 9 = .ok (.invokevirtual 39, 3) := by decide +kernel
theorem dX8_isRight_12 : decode cX8_isRight 12 = .ok (.istore_n 3, 1) := by decide +kernel
theorem dX8_isRight_13 : decode cX8_isRight 13 = .ok (.iload_n 3, 1) := by decide +kernel
theorem dX8_isRight_14 : decode cX8_isRight 14 = .ok (.ifCond .ne 5, 3) := by decide +kernel
theorem dX8_isRight_17 : decode cX8_isRight 17 = .ok (.iconst 1, 1) := by decide +kernel
theorem dX8_isRight_18 : decode cX8_isRight 18 = .ok (.ireturn, 1) := by decide +kernel
theorem dX8_isRight_19 : decode cX8_isRight 19 = .ok (.iload_n 2, 1) := by decide +kernel
theorem dX8_isRight_20 : decode cX8_isRight 20 = .ok (.ifCond .lt 35, 3) := by decide +kernel
theorem dX8_isRight_23 : decode cX8_isRight 23 = .ok (.iload_n 2, 1) := by decide +kernel
theorem dX8_isRight_24 : decode cX8_isRight 24 = .ok (.bipush 48, 2) := by decide +kernel
theorem dX8_isRight_26 : decode cX8_isRight 26 = .ok (.if_icmp .ge 29, 3) := by decide +kernel
theorem dX8_isRight_29 : decode cX8_isRight 29 = .ok (.aload_n 0, 1) := by decide +kernel
theorem dX8_isRight_30 : decode cX8_isRight 30 = .ok (.getfield 22, 3) := by decide +kernel
theorem dX8_isRight_33 : decode cX8_isRight 33 = .ok (.iload_n 2, 1) := by decide +kernel
theorem dX8_isRight_34 : decode cX8_isRight 34 = .ok (.iaload, 1) := by decide +kernel
theorem dX8_isRight_35 : decode cX8_isRight 35 = .ok (.iload_n 1, 1) := by decide +kernel
theorem dX8_isRight_36 : decode cX8_isRight 36 = .ok (.if_icmp .ne 19, 3) := by decide +kernel
theorem dX8_isRight_39 : decode cX8_isRight 39 = .ok (.aload_n 0, 1) := by decide +kernel
theorem dX8_isRight_40 : decode cX8_isRight 40 = .ok (.getfield 9, 3) := by decide +kernel
theorem dX8_isRight_43 : decode cX8_isRight 43 = .ok (.iload_n 3, 1) := by decide +kernel
theorem dX8_isRight_44 : decode cX8_isRight 44 = .ok (.iload_n 2, 1) := by decide +kernel
theorem dX8_isRight_45 : decode cX8_isRight 45 = .ok (.invokevirtual 73, 3) := by decide +kernel
theorem dX8_isRight_48 : decode cX8_isRight 48 = .ok (.ifCond .eq 7, 3) := by decide +kernel
theorem dX8_isRight_51 : decode cX8_isRight 51 = .ok (.iconst 1, 1) := by decide +kernel
theorem dX8_isRight_52 : decode cX8_isRight 52 = .ok (.goto 4, 3) := by decide +kernel
theorem dX8_isRight_55 : decode cX8_isRight 55 = .ok (.iconst 0, 1) := by decide +kernel
theorem dX8_isRight_56 : decode cX8_isRight 56 = .ok (.ireturn, 1) := by decide +kernel
def zX8_isRight (Qr : Option PV → Mem → Prop) : XZ := (RX8, 1, 22, 4, some FieldType.boolean, Qr)
noncomputable def fX8_isRight (o : Nat) (x1 : Int) (x2 : Int) (F : Mem) : Option Int :=
  if (F o 0).toNat = 0 then none else
  (fX3_cell (((F o 0).toNat) + 1) x1 1 F).bind fun r3 =>
  if r3 ≠ 0 then
    if x2 < 0 then
      some 0
    else
      if 48 ≤ x2 then
        some 0
      else
        if (0 : Int) ≤ x2 ∧ x2 < (alen (o + 1) : Int) then
          if (F (o + 1) x2.toNat) ≠ x1 then
            some 0
          else
            if (F o 0).toNat = 0 then none else
            if (fX7_seesBy ((F o 0).toNat) r3 x2 F) = 0 then
              some 0
            else
              some 1
        else none
  else
    some 1
theorem fX8_isRight_ok {Qr : Option PV → Mem → Prop} : ∀ (o : Nat) (x1 : Int) (x2 : Int) (F : Mem) (res : Int) (ho : isK o 8), fX8_isRight o x1 x2 F = some res → Qr (some (vI res)) F → PR cX8_isRight (zX8_isRight Qr) 0 [(0, vR o), (1, vI x1), (2, vI x2)] [] F := by
  intro o x1 x2 F res ho h hq
  refine s_aload_n (j := 0) dX8_isRight_0 rfl rfl ?_
  refine s_getM dX8_isRight_1 flX8_9 ho (fun hm1 => ?_)
  have hm1 : _ = 0 ∨ isK ((F o 0).toNat) 7 := hm1
  obtain ⟨hn2, h⟩ := gdn h
  refine s_getR dX8_isRight_4 flX8_69 (hm1.resolve_left hn2) ?_
  refine s_iload_n (j := 1) dX8_isRight_7 rfl rfl ?_
  refine s_iconst dX8_isRight_8 (cin rfl) ?_
  obtain ⟨r3, hv4, h⟩ := bnd h
  refine s_callV (As := [vI x1, vI 1]) (rest := []) (r := (some (vI r3))) (F' := F) dX8_isRight_9 (clX8_39 (Nat.le_of_ble_eq_true rfl) (Nat.le_of_ble_eq_true rfl)) (trX7_5 (hm1.resolve_left hn2)) rfl ⟨_, _, _, _, rfl, (trX7_5 (hm1.resolve_left hn2)), hv4, rfl, rfl⟩ rfl (Nat.le_of_ble_eq_true rfl) ?_
  refine s_istore_n (ls' := [(3, vI r3), (0, vR o), (1, vI x1), (2, vI x2)]) dX8_isRight_12 rfl (Nat.le_of_ble_eq_true rfl) rfl ?_
  refine s_iload_n (j := 0) dX8_isRight_13 rfl rfl ?_
  refine s_if_ne (tgt := 19) dX8_isRight_14 rfl (fun hc5 => ?_) (fun hc5 => ?_)
  · have h := ifp hc5 h
    refine s_iload_n (j := 3) dX8_isRight_19 rfl rfl ?_
    refine s_if_lt (tgt := 55) dX8_isRight_20 rfl (fun hc6 => ?_) (fun hc6 => ?_)
    · have h := ifp hc6 h
      refine s_iconst dX8_isRight_55 (cin rfl) ?_
      have h := Option.some.inj h
      subst h
      exact s_zreturn dX8_isRight_56 rfl (Or.inl rfl) hq
    · have h := ifn hc6 h
      refine s_iload_n (j := 3) dX8_isRight_23 rfl rfl ?_
      refine s_bipush dX8_isRight_24 rfl (cin rfl) ?_
      refine s_icmp_ge (tgt := 55) dX8_isRight_26 rfl (fun hc7 => ?_) (fun hc7 => ?_)
      · have h := ifp hc7 h
        refine s_iconst dX8_isRight_55 (cin rfl) ?_
        have h := Option.some.inj h
        subst h
        exact s_zreturn dX8_isRight_56 rfl (Or.inl rfl) hq
      · have h := ifn hc7 h
        refine s_aload_n (j := 1) dX8_isRight_29 rfl rfl ?_
        refine s_getR dX8_isRight_30 flX8_22 ho ?_
        refine s_iload_n (j := 3) dX8_isRight_33 rfl rfl ?_
        obtain ⟨hb8, h⟩ := gd h
        refine s_iaload dX8_isRight_34 (trX8_3 ho) hb8.1 hb8.2 ?_
        refine s_iload_n (j := 2) dX8_isRight_35 rfl rfl ?_
        refine s_icmp_ne (tgt := 55) dX8_isRight_36 rfl (fun hc9 => ?_) (fun hc9 => ?_)
        · have h := ifp hc9 h
          refine s_iconst dX8_isRight_55 (cin rfl) ?_
          have h := Option.some.inj h
          subst h
          exact s_zreturn dX8_isRight_56 rfl (Or.inl rfl) hq
        · have h := ifn hc9 h
          refine s_aload_n (j := 1) dX8_isRight_39 rfl rfl ?_
          refine s_getM dX8_isRight_40 flX8_9 ho (fun hm10 => ?_)
          have hm10 : _ = 0 ∨ isK ((F o 0).toNat) 7 := hm10
          refine s_iload_n (j := 0) dX8_isRight_43 rfl rfl ?_
          refine s_iload_n (j := 3) dX8_isRight_44 rfl rfl ?_
          obtain ⟨hn11, h⟩ := gdn h
          refine s_callV (As := [vI r3, vI x2]) (rest := []) (r := (some (vI (fX7_seesBy ((F o 0).toNat) r3 x2 F)))) (F' := F) dX8_isRight_45 (clX8_73 (Nat.le_of_ble_eq_true rfl) (Nat.le_of_ble_eq_true rfl)) (hm10.resolve_left hn11) rfl ⟨_, _, _, _, rfl, (hm10.resolve_left hn11), rfl, rfl, rfl⟩ rfl (Nat.le_of_ble_eq_true rfl) ?_
          refine s_if_eq (tgt := 55) dX8_isRight_48 rfl (fun hc12 => ?_) (fun hc12 => ?_)
          · have h := ifp hc12 h
            refine s_iconst dX8_isRight_55 (cin rfl) ?_
            have h := Option.some.inj h
            subst h
            exact s_zreturn dX8_isRight_56 rfl (Or.inl rfl) hq
          · have h := ifn hc12 h
            refine s_iconst dX8_isRight_51 (cin rfl) ?_
            refine s_goto (tgt := 56) dX8_isRight_52 rfl ?_
            have h := Option.some.inj h
            subst h
            exact s_zreturn dX8_isRight_56 rfl (Or.inr rfl) hq
  · have h := ifn hc5 h
    refine s_iconst dX8_isRight_17 (cin rfl) ?_
    have h := Option.some.inj h
    subst h
    exact s_zreturn dX8_isRight_18 rfl (Or.inr rfl) hq
def gX8_isRight : XG := fun As F r F' => ∃ o : Nat, ∃ x1 : Int, ∃ x2 : Int, ∃ res : Int, As = [vR o, vI x1, vI x2] ∧ isK o 8 ∧ fX8_isRight o x1 x2 F = some res ∧ r = some (vI res) ∧ F' = F
theorem ctX8_isRight : xCT yX8_isRight cX8_isRight 4 (some FieldType.boolean) 1 22 gX8_isRight := xmet (by decide +kernel) (fun As F r F' hg => by obtain ⟨o, x1, x2, res, rfl, ho, h, rfl, rfl⟩ := hg; exact Nat.le_of_ble_eq_true rfl) (fun As F r F' hg => by obtain ⟨o, x1, x2, res, rfl, ho, h, rfl, rfl⟩ := hg; exact fX8_isRight_ok o x1 x2 _ _ ho h ⟨rfl, rfl⟩)
theorem mcX8_isRight : Cond.code yX8_isRight cX8_isRight 4 (some FieldType.boolean) ∈ xw_T ∧ Cond.initialized yX8_isRight.cls ∈ xw_T ∧ Cond.instanceMethod yX8_isRight ∈ xw_T ∧ Cond.selects yX8_isRight.cls yX8_isRight yX8_isRight ∈ xw_T := ⟨(xinT 845 (by decide +kernel) (by decide +kernel)), (xinT 123 (by decide +kernel) (by decide +kernel)), (xinT 843 (by decide +kernel) (by decide +kernel)), (xinT 844 (by decide +kernel) (by decide +kernel))⟩
theorem clX8_77 {fr lo : Nat} (h1 : 1 + 1 ≤ fr) (h2 : 8 + (4 + 11) + 22 ≤ lo) : xCall RX8 fr lo 0 77 8 2 gX8_isRight := ⟨_, _, _, _, _, _, ctX8_isRight, h1, h2, mcX8_isRight.1, (xinT 842 (by decide +kernel) (by decide +kernel)), mcX8_isRight.2.1, ⟨by decide +kernel, by decide +kernel, by decide +kernel⟩, by rw [if_pos rfl]; exact ⟨mcX8_isRight.2.2.1, mcX8_isRight.2.2.2, _, _, rfl⟩⟩
theorem clX9_196 {fr lo : Nat} (h1 : 1 + 1 ≤ fr) (h2 : 8 + (4 + 11) + 22 ≤ lo) : xCall RX9 fr lo 0 196 8 2 gX8_isRight := ⟨_, _, _, _, _, _, ctX8_isRight, h1, h2, mcX8_isRight.1, (xinT 878 (by decide +kernel) (by decide +kernel)), mcX8_isRight.2.1, ⟨by decide +kernel, by decide +kernel, by decide +kernel⟩, by rw [if_pos rfl]; exact ⟨mcX8_isRight.2.2.1, mcX8_isRight.2.2.2, _, _, rfl⟩⟩
theorem dX8_rowsIn_0 : decode cX8_rowsIn 0 = .ok (.aload_n 0, 1) := by decide +kernel
theorem dX8_rowsIn_1 : decode cX8_rowsIn 1 = .ok (.getfield 9, 3) := by decide +kernel
theorem dX8_rowsIn_4 : decode cX8_rowsIn 4 = .ok (.getfield 69, 3) := by decide +kernel
theorem dX8_rowsIn_7 : decode cX8_rowsIn 7 = .ok (.iload_n 1, 1) := by decide +kernel
theorem dX8_rowsIn_8 : decode cX8_rowsIn 8 = .ok (.aload_n 0, 1) := by decide +kernel
theorem dX8_rowsIn_9 : decode cX8_rowsIn 9 = .ok (.iload_n 1, 1) := by decide +kernel
theorem dX8_rowsIn_10 : decode cX8_rowsIn 10 = .ok (.iload_n 2, 1) := by decide +kernel
theorem dX8_rowsIn_11 : decode cX8_rowsIn 11 = .ok (.invokevirtual 77, 3) := by decide +kernel
theorem dX8_rowsIn_14 : decode cX8_rowsIn 14 = .ok (.ifCond .eq 7, 3) := by decide +kernel
theorem dX8_rowsIn_17 : decode cX8_rowsIn 17 = .ok (.iconst 2, 1) := by decide +kernel
theorem dX8_rowsIn_18 : decode cX8_rowsIn 18 = .ok (.goto 4, 3) := by decide +kernel
theorem dX8_rowsIn_21 : decode cX8_rowsIn 21 = .ok (.iconst 3, 1) := by decide +kernel
theorem dX8_rowsIn_22 : decode cX8_rowsIn 22 = .ok (.invokevirtual 39, 3) := by decide +kernel
theorem dX8_rowsIn_25 : decode cX8_rowsIn 25 = .ok (.ireturn, 1) := by decide +kernel
def zX8_rowsIn (Qr : Option PV → Mem → Prop) : XZ := (RX8, 2, 45, 3, some FieldType.int, Qr)
noncomputable def fX8_rowsIn_b22 (F : Mem) (s0 : Nat) (s1 : Int) (s2 : Int) : Option Int :=
  (fX3_cell s0 s1 s2 F).bind fun r1 =>
  some r1
noncomputable def fX8_rowsIn (o : Nat) (x1 : Int) (x2 : Int) (F : Mem) : Option Int :=
  if (F o 0).toNat = 0 then none else
  (fX8_isRight o x1 x2 F).bind fun r3 =>
  if r3 = 0 then
    fX8_rowsIn_b22 F (((F o 0).toNat) + 1) x1 3
  else
    fX8_rowsIn_b22 F (((F o 0).toNat) + 1) x1 2
theorem fX8_rowsIn_b22_ok {Qr : Option PV → Mem → Prop}  (F : Mem) : ∀ (s0 : Nat) (s1 : Int) (s2 : Int) (res : Int) (hs0 : isK s0 3), fX8_rowsIn_b22 F s0 s1 s2 = some res → Qr (some (vI res)) F → PR cX8_rowsIn (zX8_rowsIn Qr) 22 [] [vI s2, vI s1, vR s0] F := by
  intro s0 s1 s2 res hs0 h hq
  obtain ⟨r1, hv2, h⟩ := bnd h
  refine s_callV (As := [vI s1, vI s2]) (rest := []) (r := (some (vI r1))) (F' := F) dX8_rowsIn_22 (clX8_39 (Nat.le_of_ble_eq_true rfl) (Nat.le_of_ble_eq_true rfl)) hs0 rfl ⟨_, _, _, _, rfl, hs0, hv2, rfl, rfl⟩ rfl (Nat.le_of_ble_eq_true rfl) ?_
  have h := Option.some.inj h
  subst h
  exact s_ireturn dX8_rowsIn_25 rfl hq
theorem fX8_rowsIn_ok {Qr : Option PV → Mem → Prop} : ∀ (o : Nat) (x1 : Int) (x2 : Int) (F : Mem) (res : Int) (ho : isK o 8), fX8_rowsIn o x1 x2 F = some res → Qr (some (vI res)) F → PR cX8_rowsIn (zX8_rowsIn Qr) 0 [(0, vR o), (1, vI x1), (2, vI x2)] [] F := by
  intro o x1 x2 F res ho h hq
  refine s_aload_n (j := 0) dX8_rowsIn_0 rfl rfl ?_
  refine s_getM dX8_rowsIn_1 flX8_9 ho (fun hm1 => ?_)
  have hm1 : _ = 0 ∨ isK ((F o 0).toNat) 7 := hm1
  obtain ⟨hn2, h⟩ := gdn h
  refine s_getR dX8_rowsIn_4 flX8_69 (hm1.resolve_left hn2) ?_
  refine s_iload_n (j := 1) dX8_rowsIn_7 rfl rfl ?_
  refine s_aload_n (j := 0) dX8_rowsIn_8 rfl rfl ?_
  refine s_iload_n (j := 1) dX8_rowsIn_9 rfl rfl ?_
  refine s_iload_n (j := 2) dX8_rowsIn_10 rfl rfl ?_
  obtain ⟨r3, hv4, h⟩ := bnd h
  refine s_callV (As := [vI x1, vI x2]) (rest := [vI x1, vR (((F o 0).toNat) + 1)]) (r := (some (vI r3))) (F' := F) dX8_rowsIn_11 (clX8_77 (Nat.le_of_ble_eq_true rfl) (Nat.le_of_ble_eq_true rfl)) ho rfl ⟨_, _, _, _, rfl, ho, hv4, rfl, rfl⟩ rfl (Nat.le_of_ble_eq_true rfl) ?_
  refine s_if_eq (tgt := 21) dX8_rowsIn_14 rfl (fun hc5 => ?_) (fun hc5 => ?_)
  · have h := ifp hc5 h
    refine s_iconst dX8_rowsIn_21 (cin rfl) ?_
    exact s_sub (ks := []) rfl (fX8_rowsIn_b22_ok F (((F o 0).toNat) + 1) x1 3 _ (trX7_5 (hm1.resolve_left hn2)) h hq)
  · have h := ifn hc5 h
    refine s_iconst dX8_rowsIn_17 (cin rfl) ?_
    refine s_goto (tgt := 22) dX8_rowsIn_18 rfl ?_
    exact s_sub (ks := []) rfl (fX8_rowsIn_b22_ok F (((F o 0).toNat) + 1) x1 2 _ (trX7_5 (hm1.resolve_left hn2)) h hq)
def gX8_rowsIn : XG := fun As F r F' => ∃ o : Nat, ∃ x1 : Int, ∃ x2 : Int, ∃ res : Int, As = [vR o, vI x1, vI x2] ∧ isK o 8 ∧ fX8_rowsIn o x1 x2 F = some res ∧ r = some (vI res) ∧ F' = F
theorem ctX8_rowsIn : xCT yX8_rowsIn cX8_rowsIn 3 (some FieldType.int) 2 45 gX8_rowsIn := xmet (by decide +kernel) (fun As F r F' hg => by obtain ⟨o, x1, x2, res, rfl, ho, h, rfl, rfl⟩ := hg; exact Nat.le_of_ble_eq_true rfl) (fun As F r F' hg => by obtain ⟨o, x1, x2, res, rfl, ho, h, rfl, rfl⟩ := hg; exact fX8_rowsIn_ok o x1 x2 _ _ ho h ⟨rfl, rfl⟩)
theorem mcX8_rowsIn : Cond.code yX8_rowsIn cX8_rowsIn 3 (some FieldType.int) ∈ xw_T ∧ Cond.initialized yX8_rowsIn.cls ∈ xw_T ∧ Cond.instanceMethod yX8_rowsIn ∈ xw_T ∧ Cond.selects yX8_rowsIn.cls yX8_rowsIn yX8_rowsIn ∈ xw_T := ⟨(xinT 865 (by decide +kernel) (by decide +kernel)), (xinT 123 (by decide +kernel) (by decide +kernel)), (xinT 864 (by decide +kernel) (by decide +kernel)), (xinT 12 (by decide +kernel) (by decide +kernel))⟩
theorem clX8_88 {fr lo : Nat} (h1 : 2 + 1 ≤ fr) (h2 : 8 + (3 + 11) + 45 ≤ lo) : xCall RX8 fr lo 0 88 8 2 gX8_rowsIn := ⟨_, _, _, _, _, _, ctX8_rowsIn, h1, h2, mcX8_rowsIn.1, (xinT 862 (by decide +kernel) (by decide +kernel)), mcX8_rowsIn.2.1, ⟨by decide +kernel, by decide +kernel, by decide +kernel⟩, by rw [if_pos rfl]; exact ⟨mcX8_rowsIn.2.2.1, mcX8_rowsIn.2.2.2, _, _, rfl⟩⟩
theorem dX8_allRight_0 : decode cX8_allRight 0 = .ok (.iconst 0, 1) := by decide +kernel
theorem dX8_allRight_1 : decode cX8_allRight 1 = .ok (.istore_n 2, 1) := by decide +kernel
theorem dX8_allRight_2 : decode cX8_allRight 2 = .ok (.iconst 0, 1) := by decide +kernel
theorem dX8_allRight_3 : decode cX8_allRight 3 = .ok (.istore_n 3, 1) := by decide +kernel
theorem dX8_allRight_4 : decode cX8_allRight 4 = .ok (.iload_n 3, 1) := by decide +kernel
theorem dX8_allRight_5 : decode cX8_allRight 5 = .ok (.aload_n 0, 1) := by decide +kernel
theorem dX8_allRight_6 : decode cX8_allRight 6 = .ok (.getfield 9, 3) := by decide +kernel
theorem dX8_allRight_9 : decode cX8_allRight 9 = .ok (.getfield 69, 3) := by decide +kernel
theorem dX8_allRight_12 : decode cX8_allRight 12 = .ok (.getfield 34, 3) := by decide +kernel
theorem dX8_allRight_15 : decode cX8_allRight 15 = .ok (.if_icmp .ge 56, 3) := by decide +kernel
theorem dX8_allRight_18 : decode cX8_allRight 18 = .ok (.iconst 0, 1) := by decide +kernel
theorem dX8_allRight_19 : decode cX8_allRight 19 = .ok (.istore 4, 2) := by decide +kernel
theorem dX8_allRight_21 : decode cX8_allRight 21 = .ok (.iload 4, 2) := by decide +kernel
theorem dX8_allRight_23 : decode cX8_allRight 23 = .ok (.aload_n 0, 1) := by decide +kernel
theorem dX8_allRight_24 : decode cX8_allRight 24 = .ok (.getfield 9, 3) := by decide +kernel
theorem dX8_allRight_27 : decode cX8_allRight 27 = .ok (.getfield 54, 3) := by decide +kernel
theorem dX8_allRight_30 : decode cX8_allRight 30 = .ok (.if_icmp .ge 35, 3) := by decide +kernel
theorem dX8_allRight_33 : decode cX8_allRight 33 = .ok (.iload_n 2, 1) := by decide +kernel
theorem dX8_allRight_34 : decode cX8_allRight 34 = .ok (.aload_n 0, 1) := by decide +kernel
theorem dX8_allRight_35 : decode cX8_allRight 35 = .ok (.iload_n 3, 1) := by decide +kernel
theorem dX8_allRight_36 : decode cX8_allRight 36 = .ok (.iload 4, 2) := by decide +kernel
theorem dX8_allRight_38 : decode cX8_allRight 38 = .ok (.invokevirtual 77, 3) := by decide +kernel
theorem dX8_allRight_41 : decode cX8_allRight 41 = .ok (.ifCond .eq 15, 3) := by decide +kernel
theorem dX8_allRight_44 : decode cX8_allRight 44 = .ok (.aload_n 0, 1) := by decide +kernel
theorem dX8_allRight_45 : decode cX8_allRight 45 = .ok (.getfield 9, 3) := by decide +kernel
theorem dX8_allRight_48 : decode cX8_allRight 48 = .ok (.iload_n 3, 1) := by decide +kernel
theorem dX8_allRight_49 : decode cX8_allRight 49 = .ok (.iload_n 1, 1) := by decide +kernel
theorem dX8_allRight_50 : decode cX8_allRight 50 = .ok (.invokevirtual 80, 3) := by decide +kernel
theorem dX8_allRight_53 : decode cX8_allRight 53 = .ok (.goto 4, 3) := by decide +kernel
theorem dX8_allRight_56 : decode cX8_allRight 56 = .ok (.iconst 0, 1) := by decide +kernel
theorem dX8_allRight_57 : decode cX8_allRight 57 = .ok (.iadd, 1) := by decide +kernel
theorem dX8_allRight_58 : decode cX8_allRight 58 = .ok (.istore_n 2, 1) := by decide +kernel
theorem dX8_allRight_59 : decode cX8_allRight 59 = .ok (.iinc 4 1, 3) := by decide +kernel
theorem dX8_allRight_62 : decode cX8_allRight 62 = .ok (.goto (-41), 3) := by decide +kernel
theorem dX8_allRight_65 : decode cX8_allRight 65 = .ok (.iinc 3 1, 3) := by decide +kernel
theorem dX8_allRight_68 : decode cX8_allRight 68 = .ok (.goto (-64), 3) := by decide +kernel
theorem dX8_allRight_71 : decode cX8_allRight 71 = .ok (.iload_n 2, 1) := by decide +kernel
theorem dX8_allRight_72 : decode cX8_allRight 72 = .ok (.ireturn, 1) := by decide +kernel
def zX8_allRight (Qr : Option PV → Mem → Prop) : XZ := (RX8, 2, 45, 5, some FieldType.int, Qr)
noncomputable def fX8_allRight_b21 (F : Mem) (k4 : Nat → Int → Int → Int → Option Int) : Nat → Nat → Int → Int → Int → Int → Option Int
  | 0, _, _, _, _, _ => none
  | n + 1, o, x1, x2, x3, x4 =>
    if (F o 0).toNat = 0 then none else
    if (F ((F o 0).toNat) 0) ≤ x4 then
      k4 o x1 x2 (xw (x3 + 1))
    else
      (fX8_isRight o x3 x4 F).bind fun r4 =>
      if r4 = 0 then
        fX8_allRight_b21 F k4 n o x1 (xw (x2 + 0)) x3 (xw (x4 + 1))
      else
        if (F o 0).toNat = 0 then none else
        (fX7_rateOf ((F o 0).toNat) x3 x1 F).bind fun r9 =>
        fX8_allRight_b21 F k4 n o x1 (xw (x2 + r9)) x3 (xw (x4 + 1))
noncomputable def fX8_allRight_b4 (F : Mem) : Nat → Nat → Int → Int → Int → Option Int
  | 0, _, _, _, _ => none
  | n + 1, o, x1, x2, x3 =>
    if (F o 0).toNat = 0 then none else
    if (F (((F o 0).toNat) + 1) 3) ≤ x3 then
      some x2
    else
      fX8_allRight_b21 F (fX8_allRight_b4 F n) FU o x1 x2 x3 0
noncomputable def fX8_allRight (o : Nat) (x1 : Int) (F : Mem) : Option Int :=
  fX8_allRight_b4 F FU o x1 0 0
theorem fX8_allRight_b21_ok {Qr : Option PV → Mem → Prop}  (F : Mem) (k4 : Nat → Int → Int → Int → Option Int) (hk4 : ∀ (o : Nat) (x1 : Int) (x2 : Int) (x3 : Int) (res : Int) (ho : isK o 8), k4 o x1 x2 x3 = some res → Qr (some (vI res)) F → PR cX8_allRight (zX8_allRight Qr) 4 [(0, vR o), (1, vI x1), (2, vI x2), (3, vI x3)] [] F) : ∀ (n : Nat) (o : Nat) (x1 : Int) (x2 : Int) (x3 : Int) (x4 : Int) (res : Int) (ho : isK o 8), fX8_allRight_b21 F k4 n o x1 x2 x3 x4 = some res → Qr (some (vI res)) F → PR cX8_allRight (zX8_allRight Qr) 21 [(0, vR o), (1, vI x1), (2, vI x2), (3, vI x3), (4, vI x4)] [] F := by
  intro n
  induction n with
  | zero => intro o x1 x2 x3 x4 res ho h hq; exact nomatch (show (none : Option _) = some _ from h)
  | succ n ih =>
    intro o x1 x2 x3 x4 res ho h hq
    refine s_iload (j := 4) dX8_allRight_21 rfl ?_
    refine s_aload_n (j := 0) dX8_allRight_23 rfl rfl ?_
    refine s_getM dX8_allRight_24 flX8_9 ho (fun hm1 => ?_)
    have hm1 : _ = 0 ∨ isK ((F o 0).toNat) 7 := hm1
    obtain ⟨hn2, h⟩ := gdn h
    refine s_getI dX8_allRight_27 flX8_54 (hm1.resolve_left hn2) ?_
    refine s_icmp_ge (tgt := 65) dX8_allRight_30 rfl (fun hc3 => ?_) (fun hc3 => ?_)
    · have h := ifp hc3 h
      refine s_iinc (ls' := [(3, vI (xw (x3 + 1))), (0, vR o), (1, vI x1), (2, vI x2), (4, vI x4)]) (j := 3) dX8_allRight_65 rfl (Nat.le_of_ble_eq_true rfl) rfl ?_
      refine s_goto (tgt := 4) dX8_allRight_68 rfl ?_
      exact s_sub (ks := [1, 2, 3, 0]) rfl (hk4 o x1 x2 (xw (x3 + 1)) _ ho h hq)
    · have h := ifn hc3 h
      refine s_iload_n (j := 2) dX8_allRight_33 rfl rfl ?_
      refine s_aload_n (j := 0) dX8_allRight_34 rfl rfl ?_
      refine s_iload_n (j := 3) dX8_allRight_35 rfl rfl ?_
      refine s_iload (j := 4) dX8_allRight_36 rfl ?_
      obtain ⟨r4, hv5, h⟩ := bnd h
      refine s_callV (As := [vI x3, vI x4]) (rest := [vI x2]) (r := (some (vI r4))) (F' := F) dX8_allRight_38 (clX8_77 (Nat.le_of_ble_eq_true rfl) (Nat.le_of_ble_eq_true rfl)) ho rfl ⟨_, _, _, _, rfl, ho, hv5, rfl, rfl⟩ rfl (Nat.le_of_ble_eq_true rfl) ?_
      refine s_if_eq (tgt := 56) dX8_allRight_41 rfl (fun hc6 => ?_) (fun hc6 => ?_)
      · have h := ifp hc6 h
        refine s_iconst dX8_allRight_56 (cin rfl) ?_
        refine s_iadd dX8_allRight_57 ?_
        refine s_istore_n (ls' := [(2, vI (xw (x2 + 0))), (0, vR o), (1, vI x1), (3, vI x3), (4, vI x4)]) dX8_allRight_58 rfl (Nat.le_of_ble_eq_true rfl) rfl ?_
        refine s_iinc (j := 4) dX8_allRight_59 rfl (Nat.le_of_ble_eq_true rfl) rfl ?_
        refine s_goto (tgt := 21) dX8_allRight_62 rfl ?_
        exact s_sub (ks := [2, 3, 1, 4, 0]) rfl (ih o x1 (xw (x2 + 0)) x3 (xw (x4 + 1)) _ ho h hq)
      · have h := ifn hc6 h
        refine s_aload_n (j := 0) dX8_allRight_44 rfl rfl ?_
        refine s_getM dX8_allRight_45 flX8_9 ho (fun hm7 => ?_)
        have hm7 : _ = 0 ∨ isK ((F o 0).toNat) 7 := hm7
        refine s_iload_n (j := 3) dX8_allRight_48 rfl rfl ?_
        refine s_iload_n (j := 1) dX8_allRight_49 rfl rfl ?_
        obtain ⟨hn8, h⟩ := gdn h
        obtain ⟨r9, hv10, h⟩ := bnd h
        refine s_callV (As := [vI x3, vI x1]) (rest := [vI x2]) (r := (some (vI r9))) (F' := F) dX8_allRight_50 (clX8_80 (Nat.le_of_ble_eq_true rfl) (Nat.le_of_ble_eq_true rfl)) (hm7.resolve_left hn8) rfl ⟨_, _, _, _, rfl, (hm7.resolve_left hn8), hv10, rfl, rfl⟩ rfl (Nat.le_of_ble_eq_true rfl) ?_
        refine s_goto (tgt := 57) dX8_allRight_53 rfl ?_
        refine s_iadd dX8_allRight_57 ?_
        refine s_istore_n (ls' := [(2, vI (xw (x2 + r9))), (0, vR o), (1, vI x1), (3, vI x3), (4, vI x4)]) dX8_allRight_58 rfl (Nat.le_of_ble_eq_true rfl) rfl ?_
        refine s_iinc (j := 4) dX8_allRight_59 rfl (Nat.le_of_ble_eq_true rfl) rfl ?_
        refine s_goto (tgt := 21) dX8_allRight_62 rfl ?_
        exact s_sub (ks := [2, 3, 1, 4, 0]) rfl (ih o x1 (xw (x2 + r9)) x3 (xw (x4 + 1)) _ ho h hq)
theorem fX8_allRight_b4_ok {Qr : Option PV → Mem → Prop}  (F : Mem) : ∀ (n : Nat) (o : Nat) (x1 : Int) (x2 : Int) (x3 : Int) (res : Int) (ho : isK o 8), fX8_allRight_b4 F n o x1 x2 x3 = some res → Qr (some (vI res)) F → PR cX8_allRight (zX8_allRight Qr) 4 [(0, vR o), (1, vI x1), (2, vI x2), (3, vI x3)] [] F := by
  intro n
  induction n with
  | zero => intro o x1 x2 x3 res ho h hq; exact nomatch (show (none : Option _) = some _ from h)
  | succ n ih =>
    intro o x1 x2 x3 res ho h hq
    refine s_iload_n (j := 3) dX8_allRight_4 rfl rfl ?_
    refine s_aload_n (j := 0) dX8_allRight_5 rfl rfl ?_
    refine s_getM dX8_allRight_6 flX8_9 ho (fun hm1 => ?_)
    have hm1 : _ = 0 ∨ isK ((F o 0).toNat) 7 := hm1
    obtain ⟨hn2, h⟩ := gdn h
    refine s_getR dX8_allRight_9 flX8_69 (hm1.resolve_left hn2) ?_
    refine s_getI dX8_allRight_12 flX8_34 (trX7_5 (hm1.resolve_left hn2)) ?_
    refine s_icmp_ge (tgt := 71) dX8_allRight_15 rfl (fun hc3 => ?_) (fun hc3 => ?_)
    · have h := ifp hc3 h
      refine s_iload_n (j := 2) dX8_allRight_71 rfl rfl ?_
      have h := Option.some.inj h
      subst h
      exact s_ireturn dX8_allRight_72 rfl hq
    · have h := ifn hc3 h
      refine s_iconst dX8_allRight_18 (cin rfl) ?_
      refine s_istore (ls' := [(4, vI 0), (0, vR o), (1, vI x1), (2, vI x2), (3, vI x3)]) dX8_allRight_19 (Nat.le_of_ble_eq_true rfl) rfl ?_
      exact s_sub (ks := [1, 2, 3, 4, 0]) rfl (fX8_allRight_b21_ok F (fX8_allRight_b4 F n) ih FU o x1 x2 x3 0 _ ho h hq)
theorem fX8_allRight_ok {Qr : Option PV → Mem → Prop} : ∀ (o : Nat) (x1 : Int) (F : Mem) (res : Int) (ho : isK o 8), fX8_allRight o x1 F = some res → Qr (some (vI res)) F → PR cX8_allRight (zX8_allRight Qr) 0 [(0, vR o), (1, vI x1)] [] F := by
  intro o x1 F res ho h hq
  refine s_iconst dX8_allRight_0 (cin rfl) ?_
  refine s_istore_n (ls' := [(2, vI 0), (0, vR o), (1, vI x1)]) dX8_allRight_1 rfl (Nat.le_of_ble_eq_true rfl) rfl ?_
  refine s_iconst dX8_allRight_2 (cin rfl) ?_
  refine s_istore_n dX8_allRight_3 rfl (Nat.le_of_ble_eq_true rfl) rfl ?_
  exact s_sub (ks := [2, 3, 1, 0]) rfl (fX8_allRight_b4_ok F FU o x1 0 0 _ ho h hq)
def gX8_allRight : XG := fun As F r F' => ∃ o : Nat, ∃ x1 : Int, ∃ res : Int, As = [vR o, vI x1] ∧ isK o 8 ∧ fX8_allRight o x1 F = some res ∧ r = some (vI res) ∧ F' = F
theorem ctX8_allRight : xCT yX8_allRight cX8_allRight 5 (some FieldType.int) 2 45 gX8_allRight := xmet (by decide +kernel) (fun As F r F' hg => by obtain ⟨o, x1, res, rfl, ho, h, rfl, rfl⟩ := hg; exact Nat.le_of_ble_eq_true rfl) (fun As F r F' hg => by obtain ⟨o, x1, res, rfl, ho, h, rfl, rfl⟩ := hg; exact fX8_allRight_ok o x1 _ _ ho h ⟨rfl, rfl⟩)
theorem mcX8_allRight : Cond.code yX8_allRight cX8_allRight 5 (some FieldType.int) ∈ xw_T ∧ Cond.initialized yX8_allRight.cls ∈ xw_T ∧ Cond.instanceMethod yX8_allRight ∈ xw_T ∧ Cond.selects yX8_allRight.cls yX8_allRight yX8_allRight ∈ xw_T := ⟨(xinT 841 (by decide +kernel) (by decide +kernel)), (xinT 123 (by decide +kernel) (by decide +kernel)), (xinT 839 (by decide +kernel) (by decide +kernel)), (xinT 840 (by decide +kernel) (by decide +kernel))⟩
theorem clX9_175 {fr lo : Nat} (h1 : 2 + 1 ≤ fr) (h2 : 8 + (5 + 11) + 45 ≤ lo) : xCall RX9 fr lo 0 175 8 1 gX8_allRight := ⟨_, _, _, _, _, _, ctX8_allRight, h1, h2, mcX8_allRight.1, (xinT 838 (by decide +kernel) (by decide +kernel)), mcX8_allRight.2.1, ⟨by decide +kernel, by decide +kernel, by decide +kernel⟩, by rw [if_pos rfl]; exact ⟨mcX8_allRight.2.2.1, mcX8_allRight.2.2.2, _, _, rfl⟩⟩
theorem dX8_wrongRows_0 : decode cX8_wrongRows 0 = .ok (.iconst 0, 1) := by decide +kernel
theorem dX8_wrongRows_1 : decode cX8_wrongRows 1 = .ok (.istore_n 2, 1) := by decide +kernel
theorem dX8_wrongRows_2 : decode cX8_wrongRows 2 = .ok (.iconst 0, 1) := by decide +kernel
theorem dX8_wrongRows_3 : decode cX8_wrongRows 3 = .ok (.istore_n 3, 1) := by decide +kernel
theorem dX8_wrongRows_4 : decode cX8_wrongRows 4 = .ok (.iload_n 3, 1) := by decide +kernel
theorem dX8_wrongRows_5 : decode cX8_wrongRows 5 = .ok (.aload_n 0, 1) := by decide +kernel
theorem dX8_wrongRows_6 : decode cX8_wrongRows 6 = .ok (.getfield 9, 3) := by decide +kernel
theorem dX8_wrongRows_9 : decode cX8_wrongRows 9 = .ok (.getfield 54, 3) := by decide +kernel
theorem dX8_wrongRows_12 : decode cX8_wrongRows 12 = .ok (.if_icmp .ge 31, 3) := by decide +kernel
theorem dX8_wrongRows_15 : decode cX8_wrongRows 15 = .ok (.iload_n 2, 1) := by decide +kernel
theorem dX8_wrongRows_16 : decode cX8_wrongRows 16 = .ok (.aload_n 0, 1) := by decide +kernel
theorem dX8_wrongRows_17 : decode cX8_wrongRows 17 = .ok (.iload_n 1, 1) := by decide +kernel
theorem dX8_wrongRows_18 : decode cX8_wrongRows 18 = .ok (.iload_n 3, 1) := by decide +kernel
theorem dX8_wrongRows_19 : decode cX8_wrongRows 19 = .ok (.invokevirtual 77, 3) := by decide +kernel
theorem dX8_wrongRows_22 : decode cX8_wrongRows 22 = .ok (.ifCond .eq 7, 3) := by decide +kernel
theorem dX8_wrongRows_25 : decode cX8_wrongRows 25 = .ok (.iconst 0, 1) := by decide +kernel
theorem dX8_wrongRows_26 : decode cX8_wrongRows 26 = .ok (.goto 9, 3) := by decide +kernel
theorem dX8_wrongRows_29 : decode cX8_wrongRows 29 = .ok (.aload_n 0, 1) := by decide +kernel
theorem dX8_wrongRows_30 : decode cX8_wrongRows 30 = .ok (.iload_n 1, 1) := by decide +kernel
theorem dX8_wrongRows_31 : decode cX8_wrongRows 31 = .ok (.iload_n 3, 1) := by decide +kernel
theorem dX8_wrongRows_32 : decode cX8_wrongRows 32 = .ok (.invokevirtual 88, 3) := by decide +kernel
theorem dX8_wrongRows_35 : decode cX8_wrongRows 35 = .ok (.iadd, 1) := by decide +kernel
theorem dX8_wrongRows_36 : decode cX8_wrongRows 36 = .ok (.istore_n 2, 1) := by decide +kernel
theorem dX8_wrongRows_37 : decode cX8_wrongRows 37 = .ok (.iinc 3 1, 3) := by decide +kernel
theorem dX8_wrongRows_40 : decode cX8_wrongRows 40 = .ok (.goto (-36), 3) := by decide +kernel
theorem dX8_wrongRows_43 : decode cX8_wrongRows 43 = .ok (.iload_n 2, 1) := by decide +kernel
theorem dX8_wrongRows_44 : decode cX8_wrongRows 44 = .ok (.ireturn, 1) := by decide +kernel
def zX8_wrongRows (Qr : Option PV → Mem → Prop) : XZ := (RX8, 3, 67, 4, some FieldType.int, Qr)
noncomputable def fX8_wrongRows_b4 (F : Mem) : Nat → Nat → Int → Int → Int → Option Int
  | 0, _, _, _, _ => none
  | n + 1, o, x1, x2, x3 =>
    if (F o 0).toNat = 0 then none else
    if (F ((F o 0).toNat) 0) ≤ x3 then
      some x2
    else
      (fX8_isRight o x1 x3 F).bind fun r4 =>
      if r4 = 0 then
        (fX8_rowsIn o x1 x3 F).bind fun r7 =>
        fX8_wrongRows_b4 F n o x1 (xw (x2 + r7)) (xw (x3 + 1))
      else
        fX8_wrongRows_b4 F n o x1 (xw (x2 + 0)) (xw (x3 + 1))
noncomputable def fX8_wrongRows (o : Nat) (x1 : Int) (F : Mem) : Option Int :=
  fX8_wrongRows_b4 F FU o x1 0 0
theorem fX8_wrongRows_b4_ok {Qr : Option PV → Mem → Prop}  (F : Mem) : ∀ (n : Nat) (o : Nat) (x1 : Int) (x2 : Int) (x3 : Int) (res : Int) (ho : isK o 8), fX8_wrongRows_b4 F n o x1 x2 x3 = some res → Qr (some (vI res)) F → PR cX8_wrongRows (zX8_wrongRows Qr) 4 [(0, vR o), (1, vI x1), (2, vI x2), (3, vI x3)] [] F := by
  intro n
  induction n with
  | zero => intro o x1 x2 x3 res ho h hq; exact nomatch (show (none : Option _) = some _ from h)
  | succ n ih =>
    intro o x1 x2 x3 res ho h hq
    refine s_iload_n (j := 3) dX8_wrongRows_4 rfl rfl ?_
    refine s_aload_n (j := 0) dX8_wrongRows_5 rfl rfl ?_
    refine s_getM dX8_wrongRows_6 flX8_9 ho (fun hm1 => ?_)
    have hm1 : _ = 0 ∨ isK ((F o 0).toNat) 7 := hm1
    obtain ⟨hn2, h⟩ := gdn h
    refine s_getI dX8_wrongRows_9 flX8_54 (hm1.resolve_left hn2) ?_
    refine s_icmp_ge (tgt := 43) dX8_wrongRows_12 rfl (fun hc3 => ?_) (fun hc3 => ?_)
    · have h := ifp hc3 h
      refine s_iload_n (j := 2) dX8_wrongRows_43 rfl rfl ?_
      have h := Option.some.inj h
      subst h
      exact s_ireturn dX8_wrongRows_44 rfl hq
    · have h := ifn hc3 h
      refine s_iload_n (j := 2) dX8_wrongRows_15 rfl rfl ?_
      refine s_aload_n (j := 0) dX8_wrongRows_16 rfl rfl ?_
      refine s_iload_n (j := 1) dX8_wrongRows_17 rfl rfl ?_
      refine s_iload_n (j := 3) dX8_wrongRows_18 rfl rfl ?_
      obtain ⟨r4, hv5, h⟩ := bnd h
      refine s_callV (As := [vI x1, vI x3]) (rest := [vI x2]) (r := (some (vI r4))) (F' := F) dX8_wrongRows_19 (clX8_77 (Nat.le_of_ble_eq_true rfl) (Nat.le_of_ble_eq_true rfl)) ho rfl ⟨_, _, _, _, rfl, ho, hv5, rfl, rfl⟩ rfl (Nat.le_of_ble_eq_true rfl) ?_
      refine s_if_eq (tgt := 29) dX8_wrongRows_22 rfl (fun hc6 => ?_) (fun hc6 => ?_)
      · have h := ifp hc6 h
        refine s_aload_n (j := 0) dX8_wrongRows_29 rfl rfl ?_
        refine s_iload_n (j := 1) dX8_wrongRows_30 rfl rfl ?_
        refine s_iload_n (j := 3) dX8_wrongRows_31 rfl rfl ?_
        obtain ⟨r7, hv8, h⟩ := bnd h
        refine s_callV (As := [vI x1, vI x3]) (rest := [vI x2]) (r := (some (vI r7))) (F' := F) dX8_wrongRows_32 (clX8_88 (Nat.le_of_ble_eq_true rfl) (Nat.le_of_ble_eq_true rfl)) ho rfl ⟨_, _, _, _, rfl, ho, hv8, rfl, rfl⟩ rfl (Nat.le_of_ble_eq_true rfl) ?_
        refine s_iadd dX8_wrongRows_35 ?_
        refine s_istore_n (ls' := [(2, vI (xw (x2 + r7))), (0, vR o), (1, vI x1), (3, vI x3)]) dX8_wrongRows_36 rfl (Nat.le_of_ble_eq_true rfl) rfl ?_
        refine s_iinc (j := 3) dX8_wrongRows_37 rfl (Nat.le_of_ble_eq_true rfl) rfl ?_
        refine s_goto (tgt := 4) dX8_wrongRows_40 rfl ?_
        exact s_sub (ks := [2, 3, 1, 0]) rfl (ih o x1 (xw (x2 + r7)) (xw (x3 + 1)) _ ho h hq)
      · have h := ifn hc6 h
        refine s_iconst dX8_wrongRows_25 (cin rfl) ?_
        refine s_goto (tgt := 35) dX8_wrongRows_26 rfl ?_
        refine s_iadd dX8_wrongRows_35 ?_
        refine s_istore_n (ls' := [(2, vI (xw (x2 + 0))), (0, vR o), (1, vI x1), (3, vI x3)]) dX8_wrongRows_36 rfl (Nat.le_of_ble_eq_true rfl) rfl ?_
        refine s_iinc (j := 3) dX8_wrongRows_37 rfl (Nat.le_of_ble_eq_true rfl) rfl ?_
        refine s_goto (tgt := 4) dX8_wrongRows_40 rfl ?_
        exact s_sub (ks := [2, 3, 1, 0]) rfl (ih o x1 (xw (x2 + 0)) (xw (x3 + 1)) _ ho h hq)
theorem fX8_wrongRows_ok {Qr : Option PV → Mem → Prop} : ∀ (o : Nat) (x1 : Int) (F : Mem) (res : Int) (ho : isK o 8), fX8_wrongRows o x1 F = some res → Qr (some (vI res)) F → PR cX8_wrongRows (zX8_wrongRows Qr) 0 [(0, vR o), (1, vI x1)] [] F := by
  intro o x1 F res ho h hq
  refine s_iconst dX8_wrongRows_0 (cin rfl) ?_
  refine s_istore_n (ls' := [(2, vI 0), (0, vR o), (1, vI x1)]) dX8_wrongRows_1 rfl (Nat.le_of_ble_eq_true rfl) rfl ?_
  refine s_iconst dX8_wrongRows_2 (cin rfl) ?_
  refine s_istore_n dX8_wrongRows_3 rfl (Nat.le_of_ble_eq_true rfl) rfl ?_
  exact s_sub (ks := [2, 3, 1, 0]) rfl (fX8_wrongRows_b4_ok F FU o x1 0 0 _ ho h hq)
def gX8_wrongRows : XG := fun As F r F' => ∃ o : Nat, ∃ x1 : Int, ∃ res : Int, As = [vR o, vI x1] ∧ isK o 8 ∧ fX8_wrongRows o x1 F = some res ∧ r = some (vI res) ∧ F' = F
theorem ctX8_wrongRows : xCT yX8_wrongRows cX8_wrongRows 4 (some FieldType.int) 3 67 gX8_wrongRows := xmet (by decide +kernel) (fun As F r F' hg => by obtain ⟨o, x1, res, rfl, ho, h, rfl, rfl⟩ := hg; exact Nat.le_of_ble_eq_true rfl) (fun As F r F' hg => by obtain ⟨o, x1, res, rfl, ho, h, rfl, rfl⟩ := hg; exact fX8_wrongRows_ok o x1 _ _ ho h ⟨rfl, rfl⟩)
theorem mcX8_wrongRows : Cond.code yX8_wrongRows cX8_wrongRows 4 (some FieldType.int) ∈ xw_T ∧ Cond.initialized yX8_wrongRows.cls ∈ xw_T ∧ Cond.instanceMethod yX8_wrongRows ∈ xw_T ∧ Cond.selects yX8_wrongRows.cls yX8_wrongRows yX8_wrongRows ∈ xw_T := ⟨(xinT 861 (by decide +kernel) (by decide +kernel)), (xinT 123 (by decide +kernel) (by decide +kernel)), (xinT 859 (by decide +kernel) (by decide +kernel)), (xinT 860 (by decide +kernel) (by decide +kernel))⟩
theorem clX8_84 {fr lo : Nat} (h1 : 3 + 1 ≤ fr) (h2 : 8 + (4 + 11) + 67 ≤ lo) : xCall RX8 fr lo 0 84 8 1 gX8_wrongRows := ⟨_, _, _, _, _, _, ctX8_wrongRows, h1, h2, mcX8_wrongRows.1, (xinT 858 (by decide +kernel) (by decide +kernel)), mcX8_wrongRows.2.1, ⟨by decide +kernel, by decide +kernel, by decide +kernel⟩, by rw [if_pos rfl]; exact ⟨mcX8_wrongRows.2.2.1, mcX8_wrongRows.2.2.2, _, _, rfl⟩⟩
theorem clX9_202 {fr lo : Nat} (h1 : 3 + 1 ≤ fr) (h2 : 8 + (4 + 11) + 67 ≤ lo) : xCall RX9 fr lo 0 202 8 1 gX8_wrongRows := ⟨_, _, _, _, _, _, ctX8_wrongRows, h1, h2, mcX8_wrongRows.1, (xinT 887 (by decide +kernel) (by decide +kernel)), mcX8_wrongRows.2.1, ⟨by decide +kernel, by decide +kernel, by decide +kernel⟩, by rw [if_pos rfl]; exact ⟨mcX8_wrongRows.2.2.1, mcX8_wrongRows.2.2.2, _, _, rfl⟩⟩
theorem dX8_allWrong_0 : decode cX8_allWrong 0 = .ok (.iconst 0, 1) := by decide +kernel
theorem dX8_allWrong_1 : decode cX8_allWrong 1 = .ok (.istore_n 1, 1) := by decide +kernel
theorem dX8_allWrong_2 : decode cX8_allWrong 2 = .ok (.iconst 0, 1) := by decide +kernel
theorem dX8_allWrong_3 : decode cX8_allWrong 3 = .ok (.istore_n 2, 1) := by decide +kernel
theorem dX8_allWrong_4 : decode cX8_allWrong 4 = .ok (.iload_n 2, 1) := by decide +kernel
theorem dX8_allWrong_5 : decode cX8_allWrong 5 = .ok (.aload_n 0, 1) := by decide +kernel
theorem dX8_allWrong_6 : decode cX8_allWrong 6 = .ok (.getfield 9, 3) := by decide +kernel
theorem dX8_allWrong_9 : decode cX8_allWrong 9 = .ok (.getfield 69, 3) := by decide +kernel
theorem dX8_allWrong_12 : decode cX8_allWrong 12 = .ok (.getfield 34, 3) := by decide +kernel
theorem dX8_allWrong_15 : decode cX8_allWrong 15 = .ok (.if_icmp .ge 17, 3) := by decide +kernel
theorem dX8_allWrong_18 : decode cX8_allWrong 18 = .ok (.iload_n 1, 1) := by decide +kernel
theorem dX8_allWrong_19 : decode cX8_allWrong 19 = .ok (.aload_n 0, 1) := by decide +kernel
theorem dX8_allWrong_20 : decode cX8_allWrong 20 = .ok (.iload_n 2, 1) := by decide +kernel
theorem dX8_allWrong_21 : decode cX8_allWrong 21 = .ok (.invokevirtual 84, 3) := by decide +kernel
theorem dX8_allWrong_24 : decode cX8_allWrong 24 = .ok (.iadd, 1) := by decide +kernel
theorem dX8_allWrong_25 : decode cX8_allWrong 25 = .ok (.istore_n 1, 1) := by decide +kernel
theorem dX8_allWrong_26 : decode cX8_allWrong 26 = .ok (.iinc 2 1, 3) := by decide +kernel
theorem dX8_allWrong_29 : decode cX8_allWrong 29 = .ok (.goto (-25), 3) := by decide +kernel
theorem dX8_allWrong_32 : decode cX8_allWrong 32 = .ok (.iload_n 1, 1) := by decide +kernel
theorem dX8_allWrong_33 : decode cX8_allWrong 33 = .ok (.ireturn, 1) := by decide +kernel
def zX8_allWrong (Qr : Option PV → Mem → Prop) : XZ := (RX8, 4, 90, 3, some FieldType.int, Qr)
noncomputable def fX8_allWrong_b4 (F : Mem) : Nat → Nat → Int → Int → Option Int
  | 0, _, _, _ => none
  | n + 1, o, x1, x2 =>
    if (F o 0).toNat = 0 then none else
    if (F (((F o 0).toNat) + 1) 3) ≤ x2 then
      some x1
    else
      (fX8_wrongRows o x2 F).bind fun r4 =>
      fX8_allWrong_b4 F n o (xw (x1 + r4)) (xw (x2 + 1))
noncomputable def fX8_allWrong (o : Nat) (F : Mem) : Option Int :=
  fX8_allWrong_b4 F FU o 0 0
theorem fX8_allWrong_b4_ok {Qr : Option PV → Mem → Prop}  (F : Mem) : ∀ (n : Nat) (o : Nat) (x1 : Int) (x2 : Int) (res : Int) (ho : isK o 8), fX8_allWrong_b4 F n o x1 x2 = some res → Qr (some (vI res)) F → PR cX8_allWrong (zX8_allWrong Qr) 4 [(0, vR o), (1, vI x1), (2, vI x2)] [] F := by
  intro n
  induction n with
  | zero => intro o x1 x2 res ho h hq; exact nomatch (show (none : Option _) = some _ from h)
  | succ n ih =>
    intro o x1 x2 res ho h hq
    refine s_iload_n (j := 2) dX8_allWrong_4 rfl rfl ?_
    refine s_aload_n (j := 0) dX8_allWrong_5 rfl rfl ?_
    refine s_getM dX8_allWrong_6 flX8_9 ho (fun hm1 => ?_)
    have hm1 : _ = 0 ∨ isK ((F o 0).toNat) 7 := hm1
    obtain ⟨hn2, h⟩ := gdn h
    refine s_getR dX8_allWrong_9 flX8_69 (hm1.resolve_left hn2) ?_
    refine s_getI dX8_allWrong_12 flX8_34 (trX7_5 (hm1.resolve_left hn2)) ?_
    refine s_icmp_ge (tgt := 32) dX8_allWrong_15 rfl (fun hc3 => ?_) (fun hc3 => ?_)
    · have h := ifp hc3 h
      refine s_iload_n (j := 1) dX8_allWrong_32 rfl rfl ?_
      have h := Option.some.inj h
      subst h
      exact s_ireturn dX8_allWrong_33 rfl hq
    · have h := ifn hc3 h
      refine s_iload_n (j := 1) dX8_allWrong_18 rfl rfl ?_
      refine s_aload_n (j := 0) dX8_allWrong_19 rfl rfl ?_
      refine s_iload_n (j := 2) dX8_allWrong_20 rfl rfl ?_
      obtain ⟨r4, hv5, h⟩ := bnd h
      refine s_callV (As := [vI x2]) (rest := [vI x1]) (r := (some (vI r4))) (F' := F) dX8_allWrong_21 (clX8_84 (Nat.le_of_ble_eq_true rfl) (Nat.le_of_ble_eq_true rfl)) ho rfl ⟨_, _, _, rfl, ho, hv5, rfl, rfl⟩ rfl (Nat.le_of_ble_eq_true rfl) ?_
      refine s_iadd dX8_allWrong_24 ?_
      refine s_istore_n (ls' := [(1, vI (xw (x1 + r4))), (0, vR o), (2, vI x2)]) dX8_allWrong_25 rfl (Nat.le_of_ble_eq_true rfl) rfl ?_
      refine s_iinc (j := 2) dX8_allWrong_26 rfl (Nat.le_of_ble_eq_true rfl) rfl ?_
      refine s_goto (tgt := 4) dX8_allWrong_29 rfl ?_
      exact s_sub (ks := [2, 1, 0]) rfl (ih o (xw (x1 + r4)) (xw (x2 + 1)) _ ho h hq)
theorem fX8_allWrong_ok {Qr : Option PV → Mem → Prop} : ∀ (o : Nat) (F : Mem) (res : Int) (ho : isK o 8), fX8_allWrong o F = some res → Qr (some (vI res)) F → PR cX8_allWrong (zX8_allWrong Qr) 0 [(0, vR o)] [] F := by
  intro o F res ho h hq
  refine s_iconst dX8_allWrong_0 (cin rfl) ?_
  refine s_istore_n (ls' := [(1, vI 0), (0, vR o)]) dX8_allWrong_1 rfl (Nat.le_of_ble_eq_true rfl) rfl ?_
  refine s_iconst dX8_allWrong_2 (cin rfl) ?_
  refine s_istore_n dX8_allWrong_3 rfl (Nat.le_of_ble_eq_true rfl) rfl ?_
  exact s_sub (ks := [2, 1, 0]) rfl (fX8_allWrong_b4_ok F FU o 0 0 _ ho h hq)
def gX8_allWrong : XG := fun As F r F' => ∃ o : Nat, ∃ res : Int, As = [vR o] ∧ isK o 8 ∧ fX8_allWrong o F = some res ∧ r = some (vI res) ∧ F' = F
theorem ctX8_allWrong : xCT yX8_allWrong cX8_allWrong 3 (some FieldType.int) 4 90 gX8_allWrong := xmet (by decide +kernel) (fun As F r F' hg => by obtain ⟨o, res, rfl, ho, h, rfl, rfl⟩ := hg; exact Nat.le_of_ble_eq_true rfl) (fun As F r F' hg => by obtain ⟨o, res, rfl, ho, h, rfl, rfl⟩ := hg; exact fX8_allWrong_ok o _ _ ho h ⟨rfl, rfl⟩)
theorem mcX8_allWrong : Cond.code yX8_allWrong cX8_allWrong 3 (some FieldType.int) ∈ xw_T ∧ Cond.initialized yX8_allWrong.cls ∈ xw_T ∧ Cond.instanceMethod yX8_allWrong ∈ xw_T ∧ Cond.selects yX8_allWrong.cls yX8_allWrong yX8_allWrong ∈ xw_T := ⟨(xinT 857 (by decide +kernel) (by decide +kernel)), (xinT 123 (by decide +kernel) (by decide +kernel)), (xinT 855 (by decide +kernel) (by decide +kernel)), (xinT 856 (by decide +kernel) (by decide +kernel))⟩
theorem clX9_179 {fr lo : Nat} (h1 : 4 + 1 ≤ fr) (h2 : 8 + (3 + 11) + 90 ≤ lo) : xCall RX9 fr lo 0 179 8 0 gX8_allWrong := ⟨_, _, _, _, _, _, ctX8_allWrong, h1, h2, mcX8_allWrong.1, (xinT 854 (by decide +kernel) (by decide +kernel)), mcX8_allWrong.2.1, ⟨by decide +kernel, by decide +kernel, by decide +kernel⟩, by rw [if_pos rfl]; exact ⟨mcX8_allWrong.2.2.1, mcX8_allWrong.2.2.2, _, _, rfl⟩⟩
theorem dX8_isSpoiled_0 : decode cX8_isSpoiled 0 = .ok (.aload_n 0, 1) := by decide +kernel
theorem dX8_isSpoiled_1 : decode cX8_isSpoiled 1 = .ok (.iload_n 1, 1) := by decide +kernel
theorem dX8_isSpoiled_2 : decode cX8_isSpoiled 2 = .ok (.iload_n 2, 1) := by decide +kernel
theorem dX8_isSpoiled_3 : decode cX8_isSpoiled 3 = .ok (.invokevirtual 77, 3) := by decide +kernel
theorem dX8_isSpoiled_6 : decode cX8_isSpoiled 6 = .ok (.ifCond .ne 16, 3) := by decide +kernel
theorem dX8_isSpoiled_9 : decode cX8_isSpoiled 9 = .ok (.aload_n 0, 1) := by decide +kernel
theorem dX8_isSpoiled_10 : decode cX8_isSpoiled 10 = .ok (.iload_n 1, 1) := by decide +kernel
theorem dX8_isSpoiled_11 : decode cX8_isSpoiled 11 = .ok (.iload_n 2, 1) := by decide +kernel
theorem dX8_isSpoiled_12 : decode cX8_isSpoiled 12 = .ok (.invokevirtual 88, 3) := by decide +kernel
theorem dX8_isSpoiled_15 : decode cX8_isSpoiled 15 = .ok (.ifCond .le 7, 3) := by decide +kernel
theorem dX8_isSpoiled_18 : decode cX8_isSpoiled 18 = .ok (.iconst 1, 1) := by decide +kernel
theorem dX8_isSpoiled_19 : decode cX8_isSpoiled 19 = .ok (.goto 4, 3) := by decide +kernel
theorem dX8_isSpoiled_22 : decode cX8_isSpoiled 22 = .ok (.iconst 0, 1) := by decide +kernel
theorem dX8_isSpoiled_23 : decode cX8_isSpoiled 23 = .ok (.ireturn, 1) := by decide +kernel
def zX8_isSpoiled (Qr : Option PV → Mem → Prop) : XZ := (RX8, 3, 67, 3, some FieldType.boolean, Qr)
noncomputable def fX8_isSpoiled (o : Nat) (x1 : Int) (x2 : Int) (F : Mem) : Option Int :=
  (fX8_isRight o x1 x2 F).bind fun r1 =>
  if r1 ≠ 0 then
    some 0
  else
    (fX8_rowsIn o x1 x2 F).bind fun r4 =>
    if r4 ≤ 0 then
      some 0
    else
      some 1
theorem fX8_isSpoiled_ok {Qr : Option PV → Mem → Prop} : ∀ (o : Nat) (x1 : Int) (x2 : Int) (F : Mem) (res : Int) (ho : isK o 8), fX8_isSpoiled o x1 x2 F = some res → Qr (some (vI res)) F → PR cX8_isSpoiled (zX8_isSpoiled Qr) 0 [(0, vR o), (1, vI x1), (2, vI x2)] [] F := by
  intro o x1 x2 F res ho h hq
  refine s_aload_n (j := 0) dX8_isSpoiled_0 rfl rfl ?_
  refine s_iload_n (j := 1) dX8_isSpoiled_1 rfl rfl ?_
  refine s_iload_n (j := 2) dX8_isSpoiled_2 rfl rfl ?_
  obtain ⟨r1, hv2, h⟩ := bnd h
  refine s_callV (As := [vI x1, vI x2]) (rest := []) (r := (some (vI r1))) (F' := F) dX8_isSpoiled_3 (clX8_77 (Nat.le_of_ble_eq_true rfl) (Nat.le_of_ble_eq_true rfl)) ho rfl ⟨_, _, _, _, rfl, ho, hv2, rfl, rfl⟩ rfl (Nat.le_of_ble_eq_true rfl) ?_
  refine s_if_ne (tgt := 22) dX8_isSpoiled_6 rfl (fun hc3 => ?_) (fun hc3 => ?_)
  · have h := ifp hc3 h
    refine s_iconst dX8_isSpoiled_22 (cin rfl) ?_
    have h := Option.some.inj h
    subst h
    exact s_zreturn dX8_isSpoiled_23 rfl (Or.inl rfl) hq
  · have h := ifn hc3 h
    refine s_aload_n (j := 0) dX8_isSpoiled_9 rfl rfl ?_
    refine s_iload_n (j := 1) dX8_isSpoiled_10 rfl rfl ?_
    refine s_iload_n (j := 2) dX8_isSpoiled_11 rfl rfl ?_
    obtain ⟨r4, hv5, h⟩ := bnd h
    refine s_callV (As := [vI x1, vI x2]) (rest := []) (r := (some (vI r4))) (F' := F) dX8_isSpoiled_12 (clX8_88 (Nat.le_of_ble_eq_true rfl) (Nat.le_of_ble_eq_true rfl)) ho rfl ⟨_, _, _, _, rfl, ho, hv5, rfl, rfl⟩ rfl (Nat.le_of_ble_eq_true rfl) ?_
    refine s_if_le (tgt := 22) dX8_isSpoiled_15 rfl (fun hc6 => ?_) (fun hc6 => ?_)
    · have h := ifp hc6 h
      refine s_iconst dX8_isSpoiled_22 (cin rfl) ?_
      have h := Option.some.inj h
      subst h
      exact s_zreturn dX8_isSpoiled_23 rfl (Or.inl rfl) hq
    · have h := ifn hc6 h
      refine s_iconst dX8_isSpoiled_18 (cin rfl) ?_
      refine s_goto (tgt := 23) dX8_isSpoiled_19 rfl ?_
      have h := Option.some.inj h
      subst h
      exact s_zreturn dX8_isSpoiled_23 rfl (Or.inr rfl) hq
def gX8_isSpoiled : XG := fun As F r F' => ∃ o : Nat, ∃ x1 : Int, ∃ x2 : Int, ∃ res : Int, As = [vR o, vI x1, vI x2] ∧ isK o 8 ∧ fX8_isSpoiled o x1 x2 F = some res ∧ r = some (vI res) ∧ F' = F
theorem ctX8_isSpoiled : xCT yX8_isSpoiled cX8_isSpoiled 3 (some FieldType.boolean) 3 67 gX8_isSpoiled := xmet (by decide +kernel) (fun As F r F' hg => by obtain ⟨o, x1, x2, res, rfl, ho, h, rfl, rfl⟩ := hg; exact Nat.le_of_ble_eq_true rfl) (fun As F r F' hg => by obtain ⟨o, x1, x2, res, rfl, ho, h, rfl, rfl⟩ := hg; exact fX8_isSpoiled_ok o x1 x2 _ _ ho h ⟨rfl, rfl⟩)
theorem mcX8_isSpoiled : Cond.code yX8_isSpoiled cX8_isSpoiled 3 (some FieldType.boolean) ∈ xw_T ∧ Cond.initialized yX8_isSpoiled.cls ∈ xw_T ∧ Cond.instanceMethod yX8_isSpoiled ∈ xw_T ∧ Cond.selects yX8_isSpoiled.cls yX8_isSpoiled yX8_isSpoiled ∈ xw_T := ⟨(xinT 895 (by decide +kernel) (by decide +kernel)), (xinT 123 (by decide +kernel) (by decide +kernel)), (xinT 894 (by decide +kernel) (by decide +kernel)), (xinT 13 (by decide +kernel) (by decide +kernel))⟩
theorem clX8_91 {fr lo : Nat} (h1 : 3 + 1 ≤ fr) (h2 : 8 + (3 + 11) + 67 ≤ lo) : xCall RX8 fr lo 0 91 8 2 gX8_isSpoiled := ⟨_, _, _, _, _, _, ctX8_isSpoiled, h1, h2, mcX8_isSpoiled.1, (xinT 892 (by decide +kernel) (by decide +kernel)), mcX8_isSpoiled.2.1, ⟨by decide +kernel, by decide +kernel, by decide +kernel⟩, by rw [if_pos rfl]; exact ⟨mcX8_isSpoiled.2.2.1, mcX8_isSpoiled.2.2.2, _, _, rfl⟩⟩
theorem dX8_wrongSlots_0 : decode cX8_wrongSlots 0 = .ok (.iconst 0, 1) := by decide +kernel
theorem dX8_wrongSlots_1 : decode cX8_wrongSlots 1 = .ok (.istore_n 2, 1) := by decide +kernel
theorem dX8_wrongSlots_2 : decode cX8_wrongSlots 2 = .ok (.iconst 0, 1) := by decide +kernel
theorem dX8_wrongSlots_3 : decode cX8_wrongSlots 3 = .ok (.istore_n 3, 1) := by decide +kernel
theorem dX8_wrongSlots_4 : decode cX8_wrongSlots 4 = .ok (.iload_n 3, 1) := by decide +kernel
theorem dX8_wrongSlots_5 : decode cX8_wrongSlots 5 = .ok (.aload_n 0, 1) := by decide +kernel
theorem dX8_wrongSlots_6 : decode cX8_wrongSlots 6 = .ok (.getfield 9, 3) := by decide +kernel
theorem dX8_wrongSlots_9 : decode cX8_wrongSlots 9 = .ok (.getfield 54, 3) := by decide +kernel
theorem dX8_wrongSlots_12 : decode cX8_wrongSlots 12 = .ok (.if_icmp .ge 26, 3) := by decide +kernel
theorem dX8_wrongSlots_15 : decode cX8_wrongSlots 15 = .ok (.iload_n 2, 1) := by decide +kernel
theorem dX8_wrongSlots_16 : decode cX8_wrongSlots 16 = .ok (.aload_n 0, 1) := by decide +kernel
theorem dX8_wrongSlots_17 : decode cX8_wrongSlots 17 = .ok (.iload_n 1, 1) := by decide +kernel
theorem dX8_wrongSlots_18 : decode cX8_wrongSlots 18 = .ok (.iload_n 3, 1) := by decide +kernel
theorem dX8_wrongSlots_19 : decode cX8_wrongSlots 19 = .ok (.invokevirtual 91, 3) := by decide +kernel
theorem dX8_wrongSlots_22 : decode cX8_wrongSlots 22 = .ok (.ifCond .eq 7, 3) := by decide +kernel
theorem dX8_wrongSlots_25 : decode cX8_wrongSlots 25 = .ok (.iconst 1, 1) := by decide +kernel
theorem dX8_wrongSlots_26 : decode cX8_wrongSlots 26 = .ok (.goto 4, 3) := by decide +kernel
theorem dX8_wrongSlots_29 : decode cX8_wrongSlots 29 = .ok (.iconst 0, 1) := by decide +kernel
theorem dX8_wrongSlots_30 : decode cX8_wrongSlots 30 = .ok (.iadd, 1) := by decide +kernel
theorem dX8_wrongSlots_31 : decode cX8_wrongSlots 31 = .ok (.istore_n 2, 1) := by decide +kernel
theorem dX8_wrongSlots_32 : decode cX8_wrongSlots 32 = .ok (.iinc 3 1, 3) := by decide +kernel
theorem dX8_wrongSlots_35 : decode cX8_wrongSlots 35 = .ok (.goto (-31), 3) := by decide +kernel
theorem dX8_wrongSlots_38 : decode cX8_wrongSlots 38 = .ok (.iload_n 2, 1) := by decide +kernel
theorem dX8_wrongSlots_39 : decode cX8_wrongSlots 39 = .ok (.ireturn, 1) := by decide +kernel
def zX8_wrongSlots (Qr : Option PV → Mem → Prop) : XZ := (RX8, 4, 89, 4, some FieldType.int, Qr)
noncomputable def fX8_wrongSlots_b4 (F : Mem) : Nat → Nat → Int → Int → Int → Option Int
  | 0, _, _, _, _ => none
  | n + 1, o, x1, x2, x3 =>
    if (F o 0).toNat = 0 then none else
    if (F ((F o 0).toNat) 0) ≤ x3 then
      some x2
    else
      (fX8_isSpoiled o x1 x3 F).bind fun r4 =>
      if r4 = 0 then
        fX8_wrongSlots_b4 F n o x1 (xw (x2 + 0)) (xw (x3 + 1))
      else
        fX8_wrongSlots_b4 F n o x1 (xw (x2 + 1)) (xw (x3 + 1))
noncomputable def fX8_wrongSlots (o : Nat) (x1 : Int) (F : Mem) : Option Int :=
  fX8_wrongSlots_b4 F FU o x1 0 0
theorem fX8_wrongSlots_b4_ok {Qr : Option PV → Mem → Prop}  (F : Mem) : ∀ (n : Nat) (o : Nat) (x1 : Int) (x2 : Int) (x3 : Int) (res : Int) (ho : isK o 8), fX8_wrongSlots_b4 F n o x1 x2 x3 = some res → Qr (some (vI res)) F → PR cX8_wrongSlots (zX8_wrongSlots Qr) 4 [(0, vR o), (1, vI x1), (2, vI x2), (3, vI x3)] [] F := by
  intro n
  induction n with
  | zero => intro o x1 x2 x3 res ho h hq; exact nomatch (show (none : Option _) = some _ from h)
  | succ n ih =>
    intro o x1 x2 x3 res ho h hq
    refine s_iload_n (j := 3) dX8_wrongSlots_4 rfl rfl ?_
    refine s_aload_n (j := 0) dX8_wrongSlots_5 rfl rfl ?_
    refine s_getM dX8_wrongSlots_6 flX8_9 ho (fun hm1 => ?_)
    have hm1 : _ = 0 ∨ isK ((F o 0).toNat) 7 := hm1
    obtain ⟨hn2, h⟩ := gdn h
    refine s_getI dX8_wrongSlots_9 flX8_54 (hm1.resolve_left hn2) ?_
    refine s_icmp_ge (tgt := 38) dX8_wrongSlots_12 rfl (fun hc3 => ?_) (fun hc3 => ?_)
    · have h := ifp hc3 h
      refine s_iload_n (j := 2) dX8_wrongSlots_38 rfl rfl ?_
      have h := Option.some.inj h
      subst h
      exact s_ireturn dX8_wrongSlots_39 rfl hq
    · have h := ifn hc3 h
      refine s_iload_n (j := 2) dX8_wrongSlots_15 rfl rfl ?_
      refine s_aload_n (j := 0) dX8_wrongSlots_16 rfl rfl ?_
      refine s_iload_n (j := 1) dX8_wrongSlots_17 rfl rfl ?_
      refine s_iload_n (j := 3) dX8_wrongSlots_18 rfl rfl ?_
      obtain ⟨r4, hv5, h⟩ := bnd h
      refine s_callV (As := [vI x1, vI x3]) (rest := [vI x2]) (r := (some (vI r4))) (F' := F) dX8_wrongSlots_19 (clX8_91 (Nat.le_of_ble_eq_true rfl) (Nat.le_of_ble_eq_true rfl)) ho rfl ⟨_, _, _, _, rfl, ho, hv5, rfl, rfl⟩ rfl (Nat.le_of_ble_eq_true rfl) ?_
      refine s_if_eq (tgt := 29) dX8_wrongSlots_22 rfl (fun hc6 => ?_) (fun hc6 => ?_)
      · have h := ifp hc6 h
        refine s_iconst dX8_wrongSlots_29 (cin rfl) ?_
        refine s_iadd dX8_wrongSlots_30 ?_
        refine s_istore_n (ls' := [(2, vI (xw (x2 + 0))), (0, vR o), (1, vI x1), (3, vI x3)]) dX8_wrongSlots_31 rfl (Nat.le_of_ble_eq_true rfl) rfl ?_
        refine s_iinc (j := 3) dX8_wrongSlots_32 rfl (Nat.le_of_ble_eq_true rfl) rfl ?_
        refine s_goto (tgt := 4) dX8_wrongSlots_35 rfl ?_
        exact s_sub (ks := [2, 3, 1, 0]) rfl (ih o x1 (xw (x2 + 0)) (xw (x3 + 1)) _ ho h hq)
      · have h := ifn hc6 h
        refine s_iconst dX8_wrongSlots_25 (cin rfl) ?_
        refine s_goto (tgt := 30) dX8_wrongSlots_26 rfl ?_
        refine s_iadd dX8_wrongSlots_30 ?_
        refine s_istore_n (ls' := [(2, vI (xw (x2 + 1))), (0, vR o), (1, vI x1), (3, vI x3)]) dX8_wrongSlots_31 rfl (Nat.le_of_ble_eq_true rfl) rfl ?_
        refine s_iinc (j := 3) dX8_wrongSlots_32 rfl (Nat.le_of_ble_eq_true rfl) rfl ?_
        refine s_goto (tgt := 4) dX8_wrongSlots_35 rfl ?_
        exact s_sub (ks := [2, 3, 1, 0]) rfl (ih o x1 (xw (x2 + 1)) (xw (x3 + 1)) _ ho h hq)
theorem fX8_wrongSlots_ok {Qr : Option PV → Mem → Prop} : ∀ (o : Nat) (x1 : Int) (F : Mem) (res : Int) (ho : isK o 8), fX8_wrongSlots o x1 F = some res → Qr (some (vI res)) F → PR cX8_wrongSlots (zX8_wrongSlots Qr) 0 [(0, vR o), (1, vI x1)] [] F := by
  intro o x1 F res ho h hq
  refine s_iconst dX8_wrongSlots_0 (cin rfl) ?_
  refine s_istore_n (ls' := [(2, vI 0), (0, vR o), (1, vI x1)]) dX8_wrongSlots_1 rfl (Nat.le_of_ble_eq_true rfl) rfl ?_
  refine s_iconst dX8_wrongSlots_2 (cin rfl) ?_
  refine s_istore_n dX8_wrongSlots_3 rfl (Nat.le_of_ble_eq_true rfl) rfl ?_
  exact s_sub (ks := [2, 3, 1, 0]) rfl (fX8_wrongSlots_b4_ok F FU o x1 0 0 _ ho h hq)
def gX8_wrongSlots : XG := fun As F r F' => ∃ o : Nat, ∃ x1 : Int, ∃ res : Int, As = [vR o, vI x1] ∧ isK o 8 ∧ fX8_wrongSlots o x1 F = some res ∧ r = some (vI res) ∧ F' = F
theorem ctX8_wrongSlots : xCT yX8_wrongSlots cX8_wrongSlots 4 (some FieldType.int) 4 89 gX8_wrongSlots := xmet (by decide +kernel) (fun As F r F' hg => by obtain ⟨o, x1, res, rfl, ho, h, rfl, rfl⟩ := hg; exact Nat.le_of_ble_eq_true rfl) (fun As F r F' hg => by obtain ⟨o, x1, res, rfl, ho, h, rfl, rfl⟩ := hg; exact fX8_wrongSlots_ok o x1 _ _ ho h ⟨rfl, rfl⟩)
theorem mcX8_wrongSlots : Cond.code yX8_wrongSlots cX8_wrongSlots 4 (some FieldType.int) ∈ xw_T ∧ Cond.initialized yX8_wrongSlots.cls ∈ xw_T ∧ Cond.instanceMethod yX8_wrongSlots ∈ xw_T ∧ Cond.selects yX8_wrongSlots.cls yX8_wrongSlots yX8_wrongSlots ∈ xw_T := ⟨(xinT 900 (by decide +kernel) (by decide +kernel)), (xinT 123 (by decide +kernel) (by decide +kernel)), (xinT 898 (by decide +kernel) (by decide +kernel)), (xinT 899 (by decide +kernel) (by decide +kernel))⟩
theorem clX9_209 {fr lo : Nat} (h1 : 4 + 1 ≤ fr) (h2 : 8 + (4 + 11) + 89 ≤ lo) : xCall RX9 fr lo 0 209 8 1 gX8_wrongSlots := ⟨_, _, _, _, _, _, ctX8_wrongSlots, h1, h2, mcX8_wrongSlots.1, (xinT 897 (by decide +kernel) (by decide +kernel)), mcX8_wrongSlots.2.1, ⟨by decide +kernel, by decide +kernel, by decide +kernel⟩, by rw [if_pos rfl]; exact ⟨mcX8_wrongSlots.2.2.1, mcX8_wrongSlots.2.2.2, _, _, rfl⟩⟩
theorem dX8_rowsBefore_0 : decode cX8_rowsBefore 0 = .ok (.iconst 0, 1) := by decide +kernel
theorem dX8_rowsBefore_1 : decode cX8_rowsBefore 1 = .ok (.istore_n 3, 1) := by decide +kernel
theorem dX8_rowsBefore_2 : decode cX8_rowsBefore 2 = .ok (.iconst 0, 1) := by decide +kernel
theorem dX8_rowsBefore_3 : decode cX8_rowsBefore 3 = .ok (.istore 4, 2) := by decide +kernel
theorem dX8_rowsBefore_5 : decode cX8_rowsBefore 5 = .ok (.iload 4, 2) := by decide +kernel
theorem dX8_rowsBefore_7 : decode cX8_rowsBefore 7 = .ok (.iload_n 2, 1) := by decide +kernel
theorem dX8_rowsBefore_8 : decode cX8_rowsBefore 8 = .ok (.if_icmp .ge 19, 3) := by decide +kernel
theorem dX8_rowsBefore_11 : decode cX8_rowsBefore 11 = .ok (.iload_n 3, 1) := by decide +kernel
theorem dX8_rowsBefore_12 : decode cX8_rowsBefore 12 = .ok (.aload_n 0, 1) := by decide +kernel
theorem dX8_rowsBefore_13 : decode cX8_rowsBefore 13 = .ok (.iload_n 1, 1) := by decide +kernel
theorem dX8_rowsBefore_14 : decode cX8_rowsBefore 14 = .ok (.iload 4, 2) := by decide +kernel
theorem dX8_rowsBefore_16 : decode cX8_rowsBefore 16 = .ok (.invokevirtual 88, 3) := by decide +kernel
theorem dX8_rowsBefore_19 : decode cX8_rowsBefore 19 = .ok (.iadd, 1) := by decide +kernel
theorem dX8_rowsBefore_20 : decode cX8_rowsBefore 20 = .ok (.istore_n 3, 1) := by decide +kernel
theorem dX8_rowsBefore_21 : decode cX8_rowsBefore 21 = .ok (.iinc 4 1, 3) := by decide +kernel
theorem dX8_rowsBefore_24 : decode cX8_rowsBefore 24 = .ok (.goto (-19), 3) := by decide +kernel
theorem dX8_rowsBefore_27 : decode cX8_rowsBefore 27 = .ok (.iload_n 3, 1) := by decide +kernel
theorem dX8_rowsBefore_28 : decode cX8_rowsBefore 28 = .ok (.ireturn, 1) := by decide +kernel
def zX8_rowsBefore (Qr : Option PV → Mem → Prop) : XZ := (RX8, 3, 67, 5, some FieldType.int, Qr)
noncomputable def fX8_rowsBefore_b5 (F : Mem) : Nat → Nat → Int → Int → Int → Int → Option Int
  | 0, _, _, _, _, _ => none
  | n + 1, o, x1, x2, x3, x4 =>
    if x2 ≤ x4 then
      some x3
    else
      (fX8_rowsIn o x1 x4 F).bind fun r2 =>
      fX8_rowsBefore_b5 F n o x1 x2 (xw (x3 + r2)) (xw (x4 + 1))
noncomputable def fX8_rowsBefore (o : Nat) (x1 : Int) (x2 : Int) (F : Mem) : Option Int :=
  fX8_rowsBefore_b5 F FU o x1 x2 0 0
theorem fX8_rowsBefore_b5_ok {Qr : Option PV → Mem → Prop}  (F : Mem) : ∀ (n : Nat) (o : Nat) (x1 : Int) (x2 : Int) (x3 : Int) (x4 : Int) (res : Int) (ho : isK o 8), fX8_rowsBefore_b5 F n o x1 x2 x3 x4 = some res → Qr (some (vI res)) F → PR cX8_rowsBefore (zX8_rowsBefore Qr) 5 [(0, vR o), (1, vI x1), (2, vI x2), (3, vI x3), (4, vI x4)] [] F := by
  intro n
  induction n with
  | zero => intro o x1 x2 x3 x4 res ho h hq; exact nomatch (show (none : Option _) = some _ from h)
  | succ n ih =>
    intro o x1 x2 x3 x4 res ho h hq
    refine s_iload (j := 4) dX8_rowsBefore_5 rfl ?_
    refine s_iload_n (j := 2) dX8_rowsBefore_7 rfl rfl ?_
    refine s_icmp_ge (tgt := 27) dX8_rowsBefore_8 rfl (fun hc1 => ?_) (fun hc1 => ?_)
    · have h := ifp hc1 h
      refine s_iload_n (j := 3) dX8_rowsBefore_27 rfl rfl ?_
      have h := Option.some.inj h
      subst h
      exact s_ireturn dX8_rowsBefore_28 rfl hq
    · have h := ifn hc1 h
      refine s_iload_n (j := 3) dX8_rowsBefore_11 rfl rfl ?_
      refine s_aload_n (j := 0) dX8_rowsBefore_12 rfl rfl ?_
      refine s_iload_n (j := 1) dX8_rowsBefore_13 rfl rfl ?_
      refine s_iload (j := 4) dX8_rowsBefore_14 rfl ?_
      obtain ⟨r2, hv3, h⟩ := bnd h
      refine s_callV (As := [vI x1, vI x4]) (rest := [vI x3]) (r := (some (vI r2))) (F' := F) dX8_rowsBefore_16 (clX8_88 (Nat.le_of_ble_eq_true rfl) (Nat.le_of_ble_eq_true rfl)) ho rfl ⟨_, _, _, _, rfl, ho, hv3, rfl, rfl⟩ rfl (Nat.le_of_ble_eq_true rfl) ?_
      refine s_iadd dX8_rowsBefore_19 ?_
      refine s_istore_n (ls' := [(3, vI (xw (x3 + r2))), (0, vR o), (1, vI x1), (2, vI x2), (4, vI x4)]) dX8_rowsBefore_20 rfl (Nat.le_of_ble_eq_true rfl) rfl ?_
      refine s_iinc (j := 4) dX8_rowsBefore_21 rfl (Nat.le_of_ble_eq_true rfl) rfl ?_
      refine s_goto (tgt := 5) dX8_rowsBefore_24 rfl ?_
      exact s_sub (ks := [2, 3, 4, 1, 0]) rfl (ih o x1 x2 (xw (x3 + r2)) (xw (x4 + 1)) _ ho h hq)
theorem fX8_rowsBefore_ok {Qr : Option PV → Mem → Prop} : ∀ (o : Nat) (x1 : Int) (x2 : Int) (F : Mem) (res : Int) (ho : isK o 8), fX8_rowsBefore o x1 x2 F = some res → Qr (some (vI res)) F → PR cX8_rowsBefore (zX8_rowsBefore Qr) 0 [(0, vR o), (1, vI x1), (2, vI x2)] [] F := by
  intro o x1 x2 F res ho h hq
  refine s_iconst dX8_rowsBefore_0 (cin rfl) ?_
  refine s_istore_n (ls' := [(3, vI 0), (0, vR o), (1, vI x1), (2, vI x2)]) dX8_rowsBefore_1 rfl (Nat.le_of_ble_eq_true rfl) rfl ?_
  refine s_iconst dX8_rowsBefore_2 (cin rfl) ?_
  refine s_istore dX8_rowsBefore_3 (Nat.le_of_ble_eq_true rfl) rfl ?_
  exact s_sub (ks := [2, 3, 4, 1, 0]) rfl (fX8_rowsBefore_b5_ok F FU o x1 x2 0 0 _ ho h hq)
def gX8_rowsBefore : XG := fun As F r F' => ∃ o : Nat, ∃ x1 : Int, ∃ x2 : Int, ∃ res : Int, As = [vR o, vI x1, vI x2] ∧ isK o 8 ∧ fX8_rowsBefore o x1 x2 F = some res ∧ r = some (vI res) ∧ F' = F
theorem ctX8_rowsBefore : xCT yX8_rowsBefore cX8_rowsBefore 5 (some FieldType.int) 3 67 gX8_rowsBefore := xmet (by decide +kernel) (fun As F r F' hg => by obtain ⟨o, x1, x2, res, rfl, ho, h, rfl, rfl⟩ := hg; exact Nat.le_of_ble_eq_true rfl) (fun As F r F' hg => by obtain ⟨o, x1, x2, res, rfl, ho, h, rfl, rfl⟩ := hg; exact fX8_rowsBefore_ok o x1 x2 _ _ ho h ⟨rfl, rfl⟩)
theorem mcX8_rowsBefore : Cond.code yX8_rowsBefore cX8_rowsBefore 5 (some FieldType.int) ∈ xw_T ∧ Cond.initialized yX8_rowsBefore.cls ∈ xw_T ∧ Cond.instanceMethod yX8_rowsBefore ∈ xw_T ∧ Cond.selects yX8_rowsBefore.cls yX8_rowsBefore yX8_rowsBefore ∈ xw_T := ⟨(xinT 886 (by decide +kernel) (by decide +kernel)), (xinT 123 (by decide +kernel) (by decide +kernel)), (xinT 884 (by decide +kernel) (by decide +kernel)), (xinT 885 (by decide +kernel) (by decide +kernel))⟩
theorem clX8_94 {fr lo : Nat} (h1 : 3 + 1 ≤ fr) (h2 : 8 + (5 + 11) + 67 ≤ lo) : xCall RX8 fr lo 0 94 8 2 gX8_rowsBefore := ⟨_, _, _, _, _, _, ctX8_rowsBefore, h1, h2, mcX8_rowsBefore.1, (xinT 896 (by decide +kernel) (by decide +kernel)), mcX8_rowsBefore.2.1, ⟨by decide +kernel, by decide +kernel, by decide +kernel⟩, by rw [if_pos rfl]; exact ⟨mcX8_rowsBefore.2.2.1, mcX8_rowsBefore.2.2.2, _, _, rfl⟩⟩
theorem clX9_199 {fr lo : Nat} (h1 : 3 + 1 ≤ fr) (h2 : 8 + (5 + 11) + 67 ≤ lo) : xCall RX9 fr lo 0 199 8 2 gX8_rowsBefore := ⟨_, _, _, _, _, _, ctX8_rowsBefore, h1, h2, mcX8_rowsBefore.1, (xinT 883 (by decide +kernel) (by decide +kernel)), mcX8_rowsBefore.2.1, ⟨by decide +kernel, by decide +kernel, by decide +kernel⟩, by rw [if_pos rfl]; exact ⟨mcX8_rowsBefore.2.2.1, mcX8_rowsBefore.2.2.2, _, _, rfl⟩⟩
theorem dX8_firstWrong_0 : decode cX8_firstWrong 0 = .ok (.iconst 0, 1) := by decide +kernel
theorem dX8_firstWrong_1 : decode cX8_firstWrong 1 = .ok (.istore_n 2, 1) := by decide +kernel
theorem dX8_firstWrong_2 : decode cX8_firstWrong 2 = .ok (.iload_n 2, 1) := by decide +kernel
theorem dX8_firstWrong_3 : decode cX8_firstWrong 3 = .ok (.aload_n 0, 1) := by decide +kernel
theorem dX8_firstWrong_4 : decode cX8_firstWrong 4 = .ok (.getfield 9, 3) := by decide +kernel
theorem dX8_firstWrong_7 : decode cX8_firstWrong 7 = .ok (.getfield 54, 3) := by decide +kernel
theorem dX8_firstWrong_10 : decode cX8_firstWrong 10 = .ok (.if_icmp .ge 25, 3) := by decide +kernel
theorem dX8_firstWrong_13 : decode cX8_firstWrong 13 = .ok (.aload_n 0, 1) := by decide +kernel
theorem dX8_firstWrong_14 : decode cX8_firstWrong 14 = .ok (.iload_n 1, 1) := by decide +kernel
theorem dX8_firstWrong_15 : decode cX8_firstWrong 15 = .ok (.iload_n 2, 1) := by decide +kernel
theorem dX8_firstWrong_16 : decode cX8_firstWrong 16 = .ok (.invokevirtual 91, 3) := by decide +kernel
theorem dX8_firstWrong_19 : decode cX8_firstWrong 19 = .ok (.ifCond .eq 10, 3) := by decide +kernel
theorem dX8_firstWrong_22 : decode cX8_firstWrong 22 = .ok (.aload_n 0, 1) := by decide +kernel
theorem dX8_firstWrong_23 : decode cX8_firstWrong 23 = .ok (.iload_n 1, 1) := by decide +kernel
theorem dX8_firstWrong_24 : decode cX8_firstWrong 24 = .ok (.iload_n 2, 1) := by decide +kernel
theorem dX8_firstWrong_25 : decode cX8_firstWrong 25 = .ok (.invokevirtual 94, 3) := by decide +kernel
theorem dX8_firstWrong_28 : decode cX8_firstWrong 28 = .ok (.ireturn, 1) := by decide +kernel
theorem dX8_firstWrong_29 : decode cX8_firstWrong 29 = .ok (.iinc 2 1, 3) := by decide +kernel
theorem dX8_firstWrong_32 : decode cX8_firstWrong 32 = .ok (.goto (-30), 3) := by decide +kernel
theorem dX8_firstWrong_35 : decode cX8_firstWrong 35 = .ok (.iconst (-1), 1) := by decide +kernel
theorem dX8_firstWrong_36 : decode cX8_firstWrong 36 = .ok (.ireturn, 1) := by decide +kernel
def zX8_firstWrong (Qr : Option PV → Mem → Prop) : XZ := (RX8, 4, 91, 3, some FieldType.int, Qr)
noncomputable def fX8_firstWrong_b2 (F : Mem) : Nat → Nat → Int → Int → Option Int
  | 0, _, _, _ => none
  | n + 1, o, x1, x2 =>
    if (F o 0).toNat = 0 then none else
    if (F ((F o 0).toNat) 0) ≤ x2 then
      some (-1)
    else
      (fX8_isSpoiled o x1 x2 F).bind fun r4 =>
      if r4 = 0 then
        fX8_firstWrong_b2 F n o x1 (xw (x2 + 1))
      else
        (fX8_rowsBefore o x1 x2 F).bind fun r7 =>
        some r7
noncomputable def fX8_firstWrong (o : Nat) (x1 : Int) (F : Mem) : Option Int :=
  fX8_firstWrong_b2 F FU o x1 0
theorem fX8_firstWrong_b2_ok {Qr : Option PV → Mem → Prop}  (F : Mem) : ∀ (n : Nat) (o : Nat) (x1 : Int) (x2 : Int) (res : Int) (ho : isK o 8), fX8_firstWrong_b2 F n o x1 x2 = some res → Qr (some (vI res)) F → PR cX8_firstWrong (zX8_firstWrong Qr) 2 [(0, vR o), (1, vI x1), (2, vI x2)] [] F := by
  intro n
  induction n with
  | zero => intro o x1 x2 res ho h hq; exact nomatch (show (none : Option _) = some _ from h)
  | succ n ih =>
    intro o x1 x2 res ho h hq
    refine s_iload_n (j := 2) dX8_firstWrong_2 rfl rfl ?_
    refine s_aload_n (j := 0) dX8_firstWrong_3 rfl rfl ?_
    refine s_getM dX8_firstWrong_4 flX8_9 ho (fun hm1 => ?_)
    have hm1 : _ = 0 ∨ isK ((F o 0).toNat) 7 := hm1
    obtain ⟨hn2, h⟩ := gdn h
    refine s_getI dX8_firstWrong_7 flX8_54 (hm1.resolve_left hn2) ?_
    refine s_icmp_ge (tgt := 35) dX8_firstWrong_10 rfl (fun hc3 => ?_) (fun hc3 => ?_)
    · have h := ifp hc3 h
      refine s_iconst dX8_firstWrong_35 (cin rfl) ?_
      have h := Option.some.inj h
      subst h
      exact s_ireturn dX8_firstWrong_36 rfl hq
    · have h := ifn hc3 h
      refine s_aload_n (j := 0) dX8_firstWrong_13 rfl rfl ?_
      refine s_iload_n (j := 1) dX8_firstWrong_14 rfl rfl ?_
      refine s_iload_n (j := 2) dX8_firstWrong_15 rfl rfl ?_
      obtain ⟨r4, hv5, h⟩ := bnd h
      refine s_callV (As := [vI x1, vI x2]) (rest := []) (r := (some (vI r4))) (F' := F) dX8_firstWrong_16 (clX8_91 (Nat.le_of_ble_eq_true rfl) (Nat.le_of_ble_eq_true rfl)) ho rfl ⟨_, _, _, _, rfl, ho, hv5, rfl, rfl⟩ rfl (Nat.le_of_ble_eq_true rfl) ?_
      refine s_if_eq (tgt := 29) dX8_firstWrong_19 rfl (fun hc6 => ?_) (fun hc6 => ?_)
      · have h := ifp hc6 h
        refine s_iinc (ls' := [(2, vI (xw (x2 + 1))), (0, vR o), (1, vI x1)]) (j := 2) dX8_firstWrong_29 rfl (Nat.le_of_ble_eq_true rfl) rfl ?_
        refine s_goto (tgt := 2) dX8_firstWrong_32 rfl ?_
        exact s_sub (ks := [1, 2, 0]) rfl (ih o x1 (xw (x2 + 1)) _ ho h hq)
      · have h := ifn hc6 h
        refine s_aload_n (j := 0) dX8_firstWrong_22 rfl rfl ?_
        refine s_iload_n (j := 1) dX8_firstWrong_23 rfl rfl ?_
        refine s_iload_n (j := 2) dX8_firstWrong_24 rfl rfl ?_
        obtain ⟨r7, hv8, h⟩ := bnd h
        refine s_callV (As := [vI x1, vI x2]) (rest := []) (r := (some (vI r7))) (F' := F) dX8_firstWrong_25 (clX8_94 (Nat.le_of_ble_eq_true rfl) (Nat.le_of_ble_eq_true rfl)) ho rfl ⟨_, _, _, _, rfl, ho, hv8, rfl, rfl⟩ rfl (Nat.le_of_ble_eq_true rfl) ?_
        have h := Option.some.inj h
        subst h
        exact s_ireturn dX8_firstWrong_28 rfl hq
theorem fX8_firstWrong_ok {Qr : Option PV → Mem → Prop} : ∀ (o : Nat) (x1 : Int) (F : Mem) (res : Int) (ho : isK o 8), fX8_firstWrong o x1 F = some res → Qr (some (vI res)) F → PR cX8_firstWrong (zX8_firstWrong Qr) 0 [(0, vR o), (1, vI x1)] [] F := by
  intro o x1 F res ho h hq
  refine s_iconst dX8_firstWrong_0 (cin rfl) ?_
  refine s_istore_n (ls' := [(2, vI 0), (0, vR o), (1, vI x1)]) dX8_firstWrong_1 rfl (Nat.le_of_ble_eq_true rfl) rfl ?_
  exact s_sub (ks := [1, 2, 0]) rfl (fX8_firstWrong_b2_ok F FU o x1 0 _ ho h hq)
def gX8_firstWrong : XG := fun As F r F' => ∃ o : Nat, ∃ x1 : Int, ∃ res : Int, As = [vR o, vI x1] ∧ isK o 8 ∧ fX8_firstWrong o x1 F = some res ∧ r = some (vI res) ∧ F' = F
theorem ctX8_firstWrong : xCT yX8_firstWrong cX8_firstWrong 3 (some FieldType.int) 4 91 gX8_firstWrong := xmet (by decide +kernel) (fun As F r F' hg => by obtain ⟨o, x1, res, rfl, ho, h, rfl, rfl⟩ := hg; exact Nat.le_of_ble_eq_true rfl) (fun As F r F' hg => by obtain ⟨o, x1, res, rfl, ho, h, rfl, rfl⟩ := hg; exact fX8_firstWrong_ok o x1 _ _ ho h ⟨rfl, rfl⟩)
theorem mcX8_firstWrong : Cond.code yX8_firstWrong cX8_firstWrong 3 (some FieldType.int) ∈ xw_T ∧ Cond.initialized yX8_firstWrong.cls ∈ xw_T ∧ Cond.instanceMethod yX8_firstWrong ∈ xw_T ∧ Cond.selects yX8_firstWrong.cls yX8_firstWrong yX8_firstWrong ∈ xw_T := ⟨(xinT 891 (by decide +kernel) (by decide +kernel)), (xinT 123 (by decide +kernel) (by decide +kernel)), (xinT 889 (by decide +kernel) (by decide +kernel)), (xinT 890 (by decide +kernel) (by decide +kernel))⟩
theorem clX9_206 {fr lo : Nat} (h1 : 4 + 1 ≤ fr) (h2 : 8 + (3 + 11) + 91 ≤ lo) : xCall RX9 fr lo 0 206 8 1 gX8_firstWrong := ⟨_, _, _, _, _, _, ctX8_firstWrong, h1, h2, mcX8_firstWrong.1, (xinT 888 (by decide +kernel) (by decide +kernel)), mcX8_firstWrong.2.1, ⟨by decide +kernel, by decide +kernel, by decide +kernel⟩, by rw [if_pos rfl]; exact ⟨mcX8_firstWrong.2.2.1, mcX8_firstWrong.2.2.2, _, _, rfl⟩⟩
theorem dX8_slotOfRow_0 : decode cX8_slotOfRow 0 = .ok (.aload_n 0, 1) := by decide +kernel
theorem dX8_slotOfRow_1 : decode cX8_slotOfRow 1 = .ok (.getfield 9, 3) := by decide +kernel
theorem dX8_slotOfRow_4 : decode cX8_slotOfRow 4 = .ok (.iload_n 1, 1) := by decide +kernel
theorem dX8_slotOfRow_5 : decode cX8_slotOfRow 5 = .ok (.invokevirtual 50, 3) := by decide +kernel
theorem dX8_slotOfRow_8 : decode cX8_slotOfRow 8 = .ok (.ifCond .eq 7, 3) := by decide +kernel
theorem dX8_slotOfRow_11 : decode cX8_slotOfRow 11 = .ok (.iload_n 2, 1) := by decide +kernel
theorem dX8_slotOfRow_12 : decode cX8_slotOfRow 12 = .ok (.ifCond .ge 5, 3) := by decide +kernel
theorem dX8_slotOfRow_15 : decode cX8_slotOfRow 15 = .ok (.iconst (-1), 1) := by decide +kernel
theorem dX8_slotOfRow_16 : decode cX8_slotOfRow 16 = .ok (.ireturn, 1) := by decide +kernel
theorem dX8_slotOfRow_17 : decode cX8_slotOfRow 17 = .ok (.iconst 0, 1) := by decide +kernel
theorem dX8_slotOfRow_18 : decode cX8_slotOfRow 18 = .ok (.istore_n 3, 1) := by decide +kernel
theorem dX8_slotOfRow_19 : decode cX8_slotOfRow 19 = .ok (.iconst 0, 1) := by decide +kernel
theorem dX8_slotOfRow_20 : decode cX8_slotOfRow 20 = .ok (.istore 4, 2) := by decide +kernel
theorem dX8_slotOfRow_22 : decode cX8_slotOfRow 22 = .ok (.iload 4, 2) := by decide +kernel
theorem dX8_slotOfRow_24 : decode cX8_slotOfRow 24 = .ok (.aload_n 0, 1) := by decide +kernel
theorem dX8_slotOfRow_25 : decode cX8_slotOfRow 25 = .ok (.getfield 9, 3) := by decide +kernel
theorem dX8_slotOfRow_28 : decode cX8_slotOfRow 28 = .ok (.getfield 54, 3) := by decide +kernel
theorem dX8_slotOfRow_31 : decode cX8_slotOfRow 31 = .ok (.if_icmp .ge 27, 3) := by decide +kernel
theorem dX8_slotOfRow_34 : decode cX8_slotOfRow 34 = .ok (.iload_n 3, 1) := by decide +kernel
theorem dX8_slotOfRow_35 : decode cX8_slotOfRow 35 = .ok (.aload_n 0, 1) := by decide +kernel
theorem dX8_slotOfRow_36 : decode cX8_slotOfRow 36 = .ok (.iload_n 1, 1) := by decide +kernel
theorem dX8_slotOfRow_37 : decode cX8_slotOfRow 37 = .ok (.iload 4, 2) := by decide +kernel
theorem dX8_slotOfRow_39 : decode cX8_slotOfRow 39 = .ok (.invokevirtual 88, 3) := by decide +kernel
theorem dX8_slotOfRow_42 : decode cX8_slotOfRow 42 = .ok (.iadd, 1) := by decide +kernel
theorem dX8_slotOfRow_43 : decode cX8_slotOfRow 43 = .ok (.istore_n 3, 1) := by decide +kernel
theorem dX8_slotOfRow_44 : decode cX8_slotOfRow 44 = .ok (.iload_n 2, 1) := by decide +kernel
theorem dX8_slotOfRow_45 : decode cX8_slotOfRow 45 = .ok (.iload_n 3, 1) := by decide +kernel
theorem dX8_slotOfRow_46 : decode cX8_slotOfRow 46 = .ok (.if_icmp .ge 6, 3) := by decide +kernel
theorem dX8_slotOfRow_49 : decode cX8_slotOfRow 49 = .ok (.iload 4, 2) := by decide +kernel
theorem dX8_slotOfRow_51 : decode cX8_slotOfRow 51 = .ok (.ireturn, 1) := by decide +kernel
theorem dX8_slotOfRow_52 : decode cX8_slotOfRow 52 = .ok (.iinc 4 1, 3) := by decide +kernel
theorem dX8_slotOfRow_55 : decode cX8_slotOfRow 55 = .ok (.goto (-33), 3) := by decide +kernel
theorem dX8_slotOfRow_58 : decode cX8_slotOfRow 58 = .ok (.iconst (-1), 1) := by decide +kernel
theorem dX8_slotOfRow_59 : decode cX8_slotOfRow 59 = .ok (.ireturn, 1) := by decide +kernel
def zX8_slotOfRow (Qr : Option PV → Mem → Prop) : XZ := (RX8, 3, 67, 5, some FieldType.int, Qr)
noncomputable def fX8_slotOfRow_b22 (F : Mem) : Nat → Nat → Int → Int → Int → Int → Option Int
  | 0, _, _, _, _, _ => none
  | n + 1, o, x1, x2, x3, x4 =>
    if (F o 0).toNat = 0 then none else
    if (F ((F o 0).toNat) 0) ≤ x4 then
      some (-1)
    else
      (fX8_rowsIn o x1 x4 F).bind fun r4 =>
      if (xw (x3 + r4)) ≤ x2 then
        fX8_slotOfRow_b22 F n o x1 x2 (xw (x3 + r4)) (xw (x4 + 1))
      else
        some x4
noncomputable def fX8_slotOfRow (o : Nat) (x1 : Int) (x2 : Int) (F : Mem) : Option Int :=
  if (F o 0).toNat = 0 then none else
  if (fX7_hasHouse ((F o 0).toNat) x1 F) = 0 then
    some (-1)
  else
    if 0 ≤ x2 then
      fX8_slotOfRow_b22 F FU o x1 x2 0 0
    else
      some (-1)
theorem fX8_slotOfRow_b22_ok {Qr : Option PV → Mem → Prop}  (F : Mem) : ∀ (n : Nat) (o : Nat) (x1 : Int) (x2 : Int) (x3 : Int) (x4 : Int) (res : Int) (ho : isK o 8), fX8_slotOfRow_b22 F n o x1 x2 x3 x4 = some res → Qr (some (vI res)) F → PR cX8_slotOfRow (zX8_slotOfRow Qr) 22 [(0, vR o), (1, vI x1), (2, vI x2), (3, vI x3), (4, vI x4)] [] F := by
  intro n
  induction n with
  | zero => intro o x1 x2 x3 x4 res ho h hq; exact nomatch (show (none : Option _) = some _ from h)
  | succ n ih =>
    intro o x1 x2 x3 x4 res ho h hq
    refine s_iload (j := 4) dX8_slotOfRow_22 rfl ?_
    refine s_aload_n (j := 0) dX8_slotOfRow_24 rfl rfl ?_
    refine s_getM dX8_slotOfRow_25 flX8_9 ho (fun hm1 => ?_)
    have hm1 : _ = 0 ∨ isK ((F o 0).toNat) 7 := hm1
    obtain ⟨hn2, h⟩ := gdn h
    refine s_getI dX8_slotOfRow_28 flX8_54 (hm1.resolve_left hn2) ?_
    refine s_icmp_ge (tgt := 58) dX8_slotOfRow_31 rfl (fun hc3 => ?_) (fun hc3 => ?_)
    · have h := ifp hc3 h
      refine s_iconst dX8_slotOfRow_58 (cin rfl) ?_
      have h := Option.some.inj h
      subst h
      exact s_ireturn dX8_slotOfRow_59 rfl hq
    · have h := ifn hc3 h
      refine s_iload_n (j := 3) dX8_slotOfRow_34 rfl rfl ?_
      refine s_aload_n (j := 0) dX8_slotOfRow_35 rfl rfl ?_
      refine s_iload_n (j := 1) dX8_slotOfRow_36 rfl rfl ?_
      refine s_iload (j := 4) dX8_slotOfRow_37 rfl ?_
      obtain ⟨r4, hv5, h⟩ := bnd h
      refine s_callV (As := [vI x1, vI x4]) (rest := [vI x3]) (r := (some (vI r4))) (F' := F) dX8_slotOfRow_39 (clX8_88 (Nat.le_of_ble_eq_true rfl) (Nat.le_of_ble_eq_true rfl)) ho rfl ⟨_, _, _, _, rfl, ho, hv5, rfl, rfl⟩ rfl (Nat.le_of_ble_eq_true rfl) ?_
      refine s_iadd dX8_slotOfRow_42 ?_
      refine s_istore_n (ls' := [(3, vI (xw (x3 + r4))), (0, vR o), (1, vI x1), (2, vI x2), (4, vI x4)]) dX8_slotOfRow_43 rfl (Nat.le_of_ble_eq_true rfl) rfl ?_
      refine s_iload_n (j := 3) dX8_slotOfRow_44 rfl rfl ?_
      refine s_iload_n (j := 0) dX8_slotOfRow_45 rfl rfl ?_
      refine s_icmp_ge (tgt := 52) dX8_slotOfRow_46 rfl (fun hc6 => ?_) (fun hc6 => ?_)
      · have h := ifp hc6 h
        refine s_iinc (ls' := [(4, vI (xw (x4 + 1))), (3, vI (xw (x3 + r4))), (0, vR o), (1, vI x1), (2, vI x2)]) (j := 4) dX8_slotOfRow_52 rfl (Nat.le_of_ble_eq_true rfl) rfl ?_
        refine s_goto (tgt := 22) dX8_slotOfRow_55 rfl ?_
        exact s_sub (ks := [2, 3, 4, 1, 0]) rfl (ih o x1 x2 (xw (x3 + r4)) (xw (x4 + 1)) _ ho h hq)
      · have h := ifn hc6 h
        refine s_iload (j := 4) dX8_slotOfRow_49 rfl ?_
        have h := Option.some.inj h
        subst h
        exact s_ireturn dX8_slotOfRow_51 rfl hq
theorem fX8_slotOfRow_ok {Qr : Option PV → Mem → Prop} : ∀ (o : Nat) (x1 : Int) (x2 : Int) (F : Mem) (res : Int) (ho : isK o 8), fX8_slotOfRow o x1 x2 F = some res → Qr (some (vI res)) F → PR cX8_slotOfRow (zX8_slotOfRow Qr) 0 [(0, vR o), (1, vI x1), (2, vI x2)] [] F := by
  intro o x1 x2 F res ho h hq
  refine s_aload_n (j := 0) dX8_slotOfRow_0 rfl rfl ?_
  refine s_getM dX8_slotOfRow_1 flX8_9 ho (fun hm1 => ?_)
  have hm1 : _ = 0 ∨ isK ((F o 0).toNat) 7 := hm1
  refine s_iload_n (j := 1) dX8_slotOfRow_4 rfl rfl ?_
  obtain ⟨hn2, h⟩ := gdn h
  refine s_callV (As := [vI x1]) (rest := []) (r := (some (vI (fX7_hasHouse ((F o 0).toNat) x1 F)))) (F' := F) dX8_slotOfRow_5 (clX8_50 (Nat.le_of_ble_eq_true rfl) (Nat.le_of_ble_eq_true rfl)) (hm1.resolve_left hn2) rfl ⟨_, _, _, rfl, (hm1.resolve_left hn2), rfl, rfl, rfl⟩ rfl (Nat.le_of_ble_eq_true rfl) ?_
  refine s_if_eq (tgt := 15) dX8_slotOfRow_8 rfl (fun hc3 => ?_) (fun hc3 => ?_)
  · have h := ifp hc3 h
    refine s_iconst dX8_slotOfRow_15 (cin rfl) ?_
    have h := Option.some.inj h
    subst h
    exact s_ireturn dX8_slotOfRow_16 rfl hq
  · have h := ifn hc3 h
    refine s_iload_n (j := 2) dX8_slotOfRow_11 rfl rfl ?_
    refine s_if_ge (tgt := 17) dX8_slotOfRow_12 rfl (fun hc4 => ?_) (fun hc4 => ?_)
    · have h := ifp hc4 h
      refine s_iconst dX8_slotOfRow_17 (cin rfl) ?_
      refine s_istore_n (ls' := [(3, vI 0), (0, vR o), (1, vI x1), (2, vI x2)]) dX8_slotOfRow_18 rfl (Nat.le_of_ble_eq_true rfl) rfl ?_
      refine s_iconst dX8_slotOfRow_19 (cin rfl) ?_
      refine s_istore dX8_slotOfRow_20 (Nat.le_of_ble_eq_true rfl) rfl ?_
      exact s_sub (ks := [2, 3, 4, 1, 0]) rfl (fX8_slotOfRow_b22_ok F FU o x1 x2 0 0 _ ho h hq)
    · have h := ifn hc4 h
      refine s_iconst dX8_slotOfRow_15 (cin rfl) ?_
      have h := Option.some.inj h
      subst h
      exact s_ireturn dX8_slotOfRow_16 rfl hq
def gX8_slotOfRow : XG := fun As F r F' => ∃ o : Nat, ∃ x1 : Int, ∃ x2 : Int, ∃ res : Int, As = [vR o, vI x1, vI x2] ∧ isK o 8 ∧ fX8_slotOfRow o x1 x2 F = some res ∧ r = some (vI res) ∧ F' = F
theorem ctX8_slotOfRow : xCT yX8_slotOfRow cX8_slotOfRow 5 (some FieldType.int) 3 67 gX8_slotOfRow := xmet (by decide +kernel) (fun As F r F' hg => by obtain ⟨o, x1, x2, res, rfl, ho, h, rfl, rfl⟩ := hg; exact Nat.le_of_ble_eq_true rfl) (fun As F r F' hg => by obtain ⟨o, x1, x2, res, rfl, ho, h, rfl, rfl⟩ := hg; exact fX8_slotOfRow_ok o x1 x2 _ _ ho h ⟨rfl, rfl⟩)
theorem mcX8_slotOfRow : Cond.code yX8_slotOfRow cX8_slotOfRow 5 (some FieldType.int) ∈ xw_T ∧ Cond.initialized yX8_slotOfRow.cls ∈ xw_T ∧ Cond.instanceMethod yX8_slotOfRow ∈ xw_T ∧ Cond.selects yX8_slotOfRow.cls yX8_slotOfRow yX8_slotOfRow ∈ xw_T := ⟨(xinT 877 (by decide +kernel) (by decide +kernel)), (xinT 123 (by decide +kernel) (by decide +kernel)), (xinT 875 (by decide +kernel) (by decide +kernel)), (xinT 876 (by decide +kernel) (by decide +kernel))⟩
theorem clX8_97 {fr lo : Nat} (h1 : 3 + 1 ≤ fr) (h2 : 8 + (5 + 11) + 67 ≤ lo) : xCall RX8 fr lo 0 97 8 2 gX8_slotOfRow := ⟨_, _, _, _, _, _, ctX8_slotOfRow, h1, h2, mcX8_slotOfRow.1, (xinT 1309 (by decide +kernel) (by decide +kernel)), mcX8_slotOfRow.2.1, ⟨by decide +kernel, by decide +kernel, by decide +kernel⟩, by rw [if_pos rfl]; exact ⟨mcX8_slotOfRow.2.2.1, mcX8_slotOfRow.2.2.2, _, _, rfl⟩⟩
theorem clX9_193 {fr lo : Nat} (h1 : 3 + 1 ≤ fr) (h2 : 8 + (5 + 11) + 67 ≤ lo) : xCall RX9 fr lo 0 193 8 2 gX8_slotOfRow := ⟨_, _, _, _, _, _, ctX8_slotOfRow, h1, h2, mcX8_slotOfRow.1, (xinT 874 (by decide +kernel) (by decide +kernel)), mcX8_slotOfRow.2.1, ⟨by decide +kernel, by decide +kernel, by decide +kernel⟩, by rw [if_pos rfl]; exact ⟨mcX8_slotOfRow.2.2.1, mcX8_slotOfRow.2.2.2, _, _, rfl⟩⟩
theorem dX8_isExplained_0 : decode cX8_isExplained 0 = .ok (.aload_n 0, 1) := by decide +kernel
theorem dX8_isExplained_1 : decode cX8_isExplained 1 = .ok (.aload_n 1, 1) := by decide +kernel
theorem dX8_isExplained_2 : decode cX8_isExplained 2 = .ok (.iload_n 2, 1) := by decide +kernel
theorem dX8_isExplained_3 : decode cX8_isExplained 3 = .ok (.iconst 0, 1) := by decide +kernel
theorem dX8_isExplained_4 : decode cX8_isExplained 4 = .ok (.invokevirtual 39, 3) := by decide +kernel
theorem dX8_isExplained_7 : decode cX8_isExplained 7 = .ok (.aload_n 1, 1) := by decide +kernel
theorem dX8_isExplained_8 : decode cX8_isExplained 8 = .ok (.iload_n 2, 1) := by decide +kernel
theorem dX8_isExplained_9 : decode cX8_isExplained 9 = .ok (.iconst 1, 1) := by decide +kernel
theorem dX8_isExplained_10 : decode cX8_isExplained 10 = .ok (.invokevirtual 39, 3) := by decide +kernel
theorem dX8_isExplained_13 : decode cX8_isExplained 13 = .ok (.invokevirtual 97, 3) := by decide +kernel
theorem dX8_isExplained_16 : decode cX8_isExplained 16 = .ok (.istore_n 3, 1) := by decide +kernel
theorem dX8_isExplained_17 : decode cX8_isExplained 17 = .ok (.iload_n 3, 1) := by decide +kernel
theorem dX8_isExplained_18 : decode cX8_isExplained 18 = .ok (.iconst (-1), 1) := by decide +kernel
theorem dX8_isExplained_19 : decode cX8_isExplained 19 = .ok (.if_icmp .eq 21, 3) := by decide +kernel
theorem dX8_isExplained_22 : decode cX8_isExplained 22 = .ok (.aload_n 0, 1) := by decide +kernel
theorem dX8_isExplained_23 : decode cX8_isExplained 23 = .ok (.aload_n 1, 1) := by decide +kernel
theorem dX8_isExplained_24 : decode cX8_isExplained 24 = .ok (.iload_n 2, 1) := by decide +kernel
theorem dX8_isExplained_25 : decode cX8_isExplained 25 = .ok (.iconst 0, 1) := by decide +kernel
theorem dX8_isExplained_26 : decode cX8_isExplained 26 = .ok (.invokevirtual 39, 3) := by decide +kernel
theorem dX8_isExplained_29 : decode cX8_isExplained 29 = .ok (.iload_n 3, 1) := by decide +kernel
theorem dX8_isExplained_30 : decode cX8_isExplained 30 = .ok (.invokevirtual 77, 3) := by decide +kernel
theorem dX8_isExplained_33 : decode cX8_isExplained 33 = .ok (.ifCond .ne 7, 3) := by decide +kernel
theorem dX8_isExplained_36 : decode cX8_isExplained 36 = .ok (.iconst 1, 1) := by decide +kernel
theorem dX8_isExplained_37 : decode cX8_isExplained 37 = .ok (.goto 4, 3) := by decide +kernel
theorem dX8_isExplained_40 : decode cX8_isExplained 40 = .ok (.iconst 0, 1) := by decide +kernel
theorem dX8_isExplained_41 : decode cX8_isExplained 41 = .ok (.ireturn, 1) := by decide +kernel
def zX8_isExplained (Qr : Option PV → Mem → Prop) : XZ := (RX8, 4, 91, 4, some FieldType.boolean, Qr)
noncomputable def fX8_isExplained (o : Nat) (x1 : Nat) (x2 : Int) (F : Mem) : Option Int :=
  if x1 = 0 then none else
  (fX3_cell x1 x2 0 F).bind fun r2 =>
  if x1 = 0 then none else
  (fX3_cell x1 x2 1 F).bind fun r5 =>
  (fX8_slotOfRow o r2 r5 F).bind fun r7 =>
  if r7 = (-1) then
    some 0
  else
    if x1 = 0 then none else
    (fX3_cell x1 x2 0 F).bind fun r11 =>
    (fX8_isRight o r11 r7 F).bind fun r13 =>
    if r13 ≠ 0 then
      some 0
    else
      some 1
theorem fX8_isExplained_ok {Qr : Option PV → Mem → Prop} : ∀ (o : Nat) (x1 : Nat) (x2 : Int) (F : Mem) (res : Int) (ho : isK o 8) (hx1 : x1 = 0 ∨ isK x1 3), fX8_isExplained o x1 x2 F = some res → Qr (some (vI res)) F → PR cX8_isExplained (zX8_isExplained Qr) 0 [(0, vR o), (1, vR x1), (2, vI x2)] [] F := by
  intro o x1 x2 F res ho hx1 h hq
  refine s_aload_n (j := 0) dX8_isExplained_0 rfl rfl ?_
  refine s_aload_n (j := 1) dX8_isExplained_1 rfl rfl ?_
  refine s_iload_n (j := 2) dX8_isExplained_2 rfl rfl ?_
  refine s_iconst dX8_isExplained_3 (cin rfl) ?_
  obtain ⟨hn1, h⟩ := gdn h
  obtain ⟨r2, hv3, h⟩ := bnd h
  refine s_callV (As := [vI x2, vI 0]) (rest := [vR o]) (r := (some (vI r2))) (F' := F) dX8_isExplained_4 (clX8_39 (Nat.le_of_ble_eq_true rfl) (Nat.le_of_ble_eq_true rfl)) (hx1.resolve_left hn1) rfl ⟨_, _, _, _, rfl, (hx1.resolve_left hn1), hv3, rfl, rfl⟩ rfl (Nat.le_of_ble_eq_true rfl) ?_
  refine s_aload_n (j := 1) dX8_isExplained_7 rfl rfl ?_
  refine s_iload_n (j := 2) dX8_isExplained_8 rfl rfl ?_
  refine s_iconst dX8_isExplained_9 (cin rfl) ?_
  obtain ⟨hn4, h⟩ := gdn h
  obtain ⟨r5, hv6, h⟩ := bnd h
  refine s_callV (As := [vI x2, vI 1]) (rest := [vI r2, vR o]) (r := (some (vI r5))) (F' := F) dX8_isExplained_10 (clX8_39 (Nat.le_of_ble_eq_true rfl) (Nat.le_of_ble_eq_true rfl)) (hx1.resolve_left hn4) rfl ⟨_, _, _, _, rfl, (hx1.resolve_left hn4), hv6, rfl, rfl⟩ rfl (Nat.le_of_ble_eq_true rfl) ?_
  obtain ⟨r7, hv8, h⟩ := bnd h
  refine s_callV (As := [vI r2, vI r5]) (rest := []) (r := (some (vI r7))) (F' := F) dX8_isExplained_13 (clX8_97 (Nat.le_of_ble_eq_true rfl) (Nat.le_of_ble_eq_true rfl)) ho rfl ⟨_, _, _, _, rfl, ho, hv8, rfl, rfl⟩ rfl (Nat.le_of_ble_eq_true rfl) ?_
  refine s_istore_n (ls' := [(3, vI r7), (0, vR o), (1, vR x1), (2, vI x2)]) dX8_isExplained_16 rfl (Nat.le_of_ble_eq_true rfl) rfl ?_
  refine s_iload_n (j := 0) dX8_isExplained_17 rfl rfl ?_
  refine s_iconst dX8_isExplained_18 (cin rfl) ?_
  refine s_icmp_eq (tgt := 40) dX8_isExplained_19 rfl (fun hc9 => ?_) (fun hc9 => ?_)
  · have h := ifp hc9 h
    refine s_iconst dX8_isExplained_40 (cin rfl) ?_
    have h := Option.some.inj h
    subst h
    exact s_zreturn dX8_isExplained_41 rfl (Or.inl rfl) hq
  · have h := ifn hc9 h
    refine s_aload_n (j := 1) dX8_isExplained_22 rfl rfl ?_
    refine s_aload_n (j := 2) dX8_isExplained_23 rfl rfl ?_
    refine s_iload_n (j := 3) dX8_isExplained_24 rfl rfl ?_
    refine s_iconst dX8_isExplained_25 (cin rfl) ?_
    obtain ⟨hn10, h⟩ := gdn h
    obtain ⟨r11, hv12, h⟩ := bnd h
    refine s_callV (As := [vI x2, vI 0]) (rest := [vR o]) (r := (some (vI r11))) (F' := F) dX8_isExplained_26 (clX8_39 (Nat.le_of_ble_eq_true rfl) (Nat.le_of_ble_eq_true rfl)) (hx1.resolve_left hn10) rfl ⟨_, _, _, _, rfl, (hx1.resolve_left hn10), hv12, rfl, rfl⟩ rfl (Nat.le_of_ble_eq_true rfl) ?_
    refine s_iload_n (j := 0) dX8_isExplained_29 rfl rfl ?_
    obtain ⟨r13, hv14, h⟩ := bnd h
    refine s_callV (As := [vI r11, vI r7]) (rest := []) (r := (some (vI r13))) (F' := F) dX8_isExplained_30 (clX8_77 (Nat.le_of_ble_eq_true rfl) (Nat.le_of_ble_eq_true rfl)) ho rfl ⟨_, _, _, _, rfl, ho, hv14, rfl, rfl⟩ rfl (Nat.le_of_ble_eq_true rfl) ?_
    refine s_if_ne (tgt := 40) dX8_isExplained_33 rfl (fun hc15 => ?_) (fun hc15 => ?_)
    · have h := ifp hc15 h
      refine s_iconst dX8_isExplained_40 (cin rfl) ?_
      have h := Option.some.inj h
      subst h
      exact s_zreturn dX8_isExplained_41 rfl (Or.inl rfl) hq
    · have h := ifn hc15 h
      refine s_iconst dX8_isExplained_36 (cin rfl) ?_
      refine s_goto (tgt := 41) dX8_isExplained_37 rfl ?_
      have h := Option.some.inj h
      subst h
      exact s_zreturn dX8_isExplained_41 rfl (Or.inr rfl) hq
def gX8_isExplained : XG := fun As F r F' => ∃ o : Nat, ∃ x1 : Nat, ∃ x2 : Int, ∃ res : Int, As = [vR o, vR x1, vI x2] ∧ isK o 8 ∧ (x1 = 0 ∨ isK x1 3) ∧ fX8_isExplained o x1 x2 F = some res ∧ r = some (vI res) ∧ F' = F
theorem ctX8_isExplained : xCT yX8_isExplained cX8_isExplained 4 (some FieldType.boolean) 4 91 gX8_isExplained := xmet (by decide +kernel) (fun As F r F' hg => by obtain ⟨o, x1, x2, res, rfl, ho, hx1, h, rfl, rfl⟩ := hg; exact Nat.le_of_ble_eq_true rfl) (fun As F r F' hg => by obtain ⟨o, x1, x2, res, rfl, ho, hx1, h, rfl, rfl⟩ := hg; exact fX8_isExplained_ok o x1 x2 _ _ ho hx1 h ⟨rfl, rfl⟩)
theorem mcX8_isExplained : Cond.code yX8_isExplained cX8_isExplained 4 (some FieldType.boolean) ∈ xw_T ∧ Cond.initialized yX8_isExplained.cls ∈ xw_T ∧ Cond.instanceMethod yX8_isExplained ∈ xw_T ∧ Cond.selects yX8_isExplained.cls yX8_isExplained yX8_isExplained ∈ xw_T := ⟨(xinT 1308 (by decide +kernel) (by decide +kernel)), (xinT 123 (by decide +kernel) (by decide +kernel)), (xinT 1307 (by decide +kernel) (by decide +kernel)), (xinT 39 (by decide +kernel) (by decide +kernel))⟩
theorem clX8_100 {fr lo : Nat} (h1 : 4 + 1 ≤ fr) (h2 : 8 + (4 + 11) + 91 ≤ lo) : xCall RX8 fr lo 0 100 8 2 gX8_isExplained := ⟨_, _, _, _, _, _, ctX8_isExplained, h1, h2, mcX8_isExplained.1, (xinT 1305 (by decide +kernel) (by decide +kernel)), mcX8_isExplained.2.1, ⟨by decide +kernel, by decide +kernel, by decide +kernel⟩, by rw [if_pos rfl]; exact ⟨mcX8_isExplained.2.2.1, mcX8_isExplained.2.2.2, _, _, rfl⟩⟩
theorem dX8_isToldAhead_0 : decode cX8_isToldAhead 0 = .ok (.iconst 0, 1) := by decide +kernel
theorem dX8_isToldAhead_1 : decode cX8_isToldAhead 1 = .ok (.istore_n 2, 1) := by decide +kernel
theorem dX8_isToldAhead_2 : decode cX8_isToldAhead 2 = .ok (.iload_n 2, 1) := by decide +kernel
theorem dX8_isToldAhead_3 : decode cX8_isToldAhead 3 = .ok (.iload_n 1, 1) := by decide +kernel
theorem dX8_isToldAhead_4 : decode cX8_isToldAhead 4 = .ok (.if_icmp .ge 41, 3) := by decide +kernel
theorem dX8_isToldAhead_7 : decode cX8_isToldAhead 7 = .ok (.aload_n 0, 1) := by decide +kernel
theorem dX8_isToldAhead_8 : decode cX8_isToldAhead 8 = .ok (.iload_n 2, 1) := by decide +kernel
theorem dX8_isToldAhead_9 : decode cX8_isToldAhead 9 = .ok (.iconst 0, 1) := by decide +kernel
theorem dX8_isToldAhead_10 : decode cX8_isToldAhead 10 = .ok (.invokevirtual 39, 3) := by decide +kernel
theorem dX8_isToldAhead_13 : decode cX8_isToldAhead 13 = .ok (.aload_n 0, 1) := by decide +kernel
theorem dX8_isToldAhead_14 : decode cX8_isToldAhead 14 = .ok (.iload_n 1, 1) := by decide +kernel
theorem dX8_isToldAhead_15 : decode cX8_isToldAhead 15 = .ok (.iconst 0, 1) := by decide +kernel
theorem dX8_isToldAhead_16 : decode cX8_isToldAhead 16 = .ok (.invokevirtual 39, 3) := by decide +kernel
theorem dX8_isToldAhead_19 : decode cX8_isToldAhead 19 = .ok (.if_icmp .ne 20, 3) := by decide +kernel
theorem dX8_isToldAhead_22 : decode cX8_isToldAhead 22 = .ok (.aload_n 0, 1) := by decide +kernel
theorem dX8_isToldAhead_23 : decode cX8_isToldAhead 23 = .ok (.iload_n 2, 1) := by decide +kernel
theorem dX8_isToldAhead_24 : decode cX8_isToldAhead 24 = .ok (.iconst 1, 1) := by decide +kernel
theorem dX8_isToldAhead_25 : decode cX8_isToldAhead 25 = .ok (.invokevirtual 39, 3) := by decide +kernel
theorem dX8_isToldAhead_28 : decode cX8_isToldAhead 28 = .ok (.aload_n 0, 1) := by decide +kernel
theorem dX8_isToldAhead_29 : decode cX8_isToldAhead 29 = .ok (.iload_n 1, 1) := by decide +kernel
theorem dX8_isToldAhead_30 : decode cX8_isToldAhead 30 = .ok (.iconst 1, 1) := by decide +kernel
theorem dX8_isToldAhead_31 : decode cX8_isToldAhead 31 = .ok (.invokevirtual 39, 3) := by decide +kernel
theorem dX8_isToldAhead_34 : decode cX8_isToldAhead 34 = .ok (.if_icmp .ne 5, 3) := by decide +kernel
theorem dX8_isToldAhead_37 : decode cX8_isToldAhead 37 = .ok (.iconst 1, 1) := by decide +kernel
theorem dX8_isToldAhead_38 : decode cX8_isToldAhead 38 = .ok (.ireturn, 1) := by decide +kernel
theorem dX8_isToldAhead_39 : decode cX8_isToldAhead 39 = .ok (.iinc 2 1, 3) := by decide +kernel
theorem dX8_isToldAhead_42 : decode cX8_isToldAhead 42 = .ok (.goto (-40), 3) := by decide +kernel
theorem dX8_isToldAhead_45 : decode cX8_isToldAhead 45 = .ok (.iconst 0, 1) := by decide +kernel
theorem dX8_isToldAhead_46 : decode cX8_isToldAhead 46 = .ok (.ireturn, 1) := by decide +kernel
def zX8_isToldAhead (Qr : Option PV → Mem → Prop) : XZ := (RX8, 1, 22, 3, some FieldType.boolean, Qr)
noncomputable def fX8_isToldAhead_b2 (F : Mem) : Nat → Nat → Int → Int → Option Int
  | 0, _, _, _ => none
  | n + 1, x0, x1, x2 =>
    if x1 ≤ x2 then
      some 0
    else
      if x0 = 0 then none else
      (fX3_cell x0 x2 0 F).bind fun r3 =>
      if x0 = 0 then none else
      (fX3_cell x0 x1 0 F).bind fun r6 =>
      if r3 ≠ r6 then
        fX8_isToldAhead_b2 F n x0 x1 (xw (x2 + 1))
      else
        if x0 = 0 then none else
        (fX3_cell x0 x2 1 F).bind fun r10 =>
        if x0 = 0 then none else
        (fX3_cell x0 x1 1 F).bind fun r13 =>
        if r10 ≠ r13 then
          fX8_isToldAhead_b2 F n x0 x1 (xw (x2 + 1))
        else
          some 1
noncomputable def fX8_isToldAhead (x0 : Nat) (x1 : Int) (F : Mem) : Option Int :=
  fX8_isToldAhead_b2 F FU x0 x1 0
theorem fX8_isToldAhead_b2_ok {Qr : Option PV → Mem → Prop}  (F : Mem) : ∀ (n : Nat) (x0 : Nat) (x1 : Int) (x2 : Int) (res : Int) (hx0 : x0 = 0 ∨ isK x0 3), fX8_isToldAhead_b2 F n x0 x1 x2 = some res → Qr (some (vI res)) F → PR cX8_isToldAhead (zX8_isToldAhead Qr) 2 [(0, vR x0), (1, vI x1), (2, vI x2)] [] F := by
  intro n
  induction n with
  | zero => intro x0 x1 x2 res hx0 h hq; exact nomatch (show (none : Option _) = some _ from h)
  | succ n ih =>
    intro x0 x1 x2 res hx0 h hq
    refine s_iload_n (j := 2) dX8_isToldAhead_2 rfl rfl ?_
    refine s_iload_n (j := 1) dX8_isToldAhead_3 rfl rfl ?_
    refine s_icmp_ge (tgt := 45) dX8_isToldAhead_4 rfl (fun hc1 => ?_) (fun hc1 => ?_)
    · have h := ifp hc1 h
      refine s_iconst dX8_isToldAhead_45 (cin rfl) ?_
      have h := Option.some.inj h
      subst h
      exact s_zreturn dX8_isToldAhead_46 rfl (Or.inl rfl) hq
    · have h := ifn hc1 h
      refine s_aload_n (j := 0) dX8_isToldAhead_7 rfl rfl ?_
      refine s_iload_n (j := 2) dX8_isToldAhead_8 rfl rfl ?_
      refine s_iconst dX8_isToldAhead_9 (cin rfl) ?_
      obtain ⟨hn2, h⟩ := gdn h
      obtain ⟨r3, hv4, h⟩ := bnd h
      refine s_callV (As := [vI x2, vI 0]) (rest := []) (r := (some (vI r3))) (F' := F) dX8_isToldAhead_10 (clX8_39 (Nat.le_of_ble_eq_true rfl) (Nat.le_of_ble_eq_true rfl)) (hx0.resolve_left hn2) rfl ⟨_, _, _, _, rfl, (hx0.resolve_left hn2), hv4, rfl, rfl⟩ rfl (Nat.le_of_ble_eq_true rfl) ?_
      refine s_aload_n (j := 0) dX8_isToldAhead_13 rfl rfl ?_
      refine s_iload_n (j := 1) dX8_isToldAhead_14 rfl rfl ?_
      refine s_iconst dX8_isToldAhead_15 (cin rfl) ?_
      obtain ⟨hn5, h⟩ := gdn h
      obtain ⟨r6, hv7, h⟩ := bnd h
      refine s_callV (As := [vI x1, vI 0]) (rest := [vI r3]) (r := (some (vI r6))) (F' := F) dX8_isToldAhead_16 (clX8_39 (Nat.le_of_ble_eq_true rfl) (Nat.le_of_ble_eq_true rfl)) (hx0.resolve_left hn5) rfl ⟨_, _, _, _, rfl, (hx0.resolve_left hn5), hv7, rfl, rfl⟩ rfl (Nat.le_of_ble_eq_true rfl) ?_
      refine s_icmp_ne (tgt := 39) dX8_isToldAhead_19 rfl (fun hc8 => ?_) (fun hc8 => ?_)
      · have h := ifp hc8 h
        refine s_iinc (ls' := [(2, vI (xw (x2 + 1))), (0, vR x0), (1, vI x1)]) (j := 2) dX8_isToldAhead_39 rfl (Nat.le_of_ble_eq_true rfl) rfl ?_
        refine s_goto (tgt := 2) dX8_isToldAhead_42 rfl ?_
        exact s_sub (ks := [1, 2, 0]) rfl (ih x0 x1 (xw (x2 + 1)) _ hx0 h hq)
      · have h := ifn hc8 h
        refine s_aload_n (j := 0) dX8_isToldAhead_22 rfl rfl ?_
        refine s_iload_n (j := 2) dX8_isToldAhead_23 rfl rfl ?_
        refine s_iconst dX8_isToldAhead_24 (cin rfl) ?_
        obtain ⟨hn9, h⟩ := gdn h
        obtain ⟨r10, hv11, h⟩ := bnd h
        refine s_callV (As := [vI x2, vI 1]) (rest := []) (r := (some (vI r10))) (F' := F) dX8_isToldAhead_25 (clX8_39 (Nat.le_of_ble_eq_true rfl) (Nat.le_of_ble_eq_true rfl)) (hx0.resolve_left hn9) rfl ⟨_, _, _, _, rfl, (hx0.resolve_left hn9), hv11, rfl, rfl⟩ rfl (Nat.le_of_ble_eq_true rfl) ?_
        refine s_aload_n (j := 0) dX8_isToldAhead_28 rfl rfl ?_
        refine s_iload_n (j := 1) dX8_isToldAhead_29 rfl rfl ?_
        refine s_iconst dX8_isToldAhead_30 (cin rfl) ?_
        obtain ⟨hn12, h⟩ := gdn h
        obtain ⟨r13, hv14, h⟩ := bnd h
        refine s_callV (As := [vI x1, vI 1]) (rest := [vI r10]) (r := (some (vI r13))) (F' := F) dX8_isToldAhead_31 (clX8_39 (Nat.le_of_ble_eq_true rfl) (Nat.le_of_ble_eq_true rfl)) (hx0.resolve_left hn12) rfl ⟨_, _, _, _, rfl, (hx0.resolve_left hn12), hv14, rfl, rfl⟩ rfl (Nat.le_of_ble_eq_true rfl) ?_
        refine s_icmp_ne (tgt := 39) dX8_isToldAhead_34 rfl (fun hc15 => ?_) (fun hc15 => ?_)
        · have h := ifp hc15 h
          refine s_iinc (ls' := [(2, vI (xw (x2 + 1))), (0, vR x0), (1, vI x1)]) (j := 2) dX8_isToldAhead_39 rfl (Nat.le_of_ble_eq_true rfl) rfl ?_
          refine s_goto (tgt := 2) dX8_isToldAhead_42 rfl ?_
          exact s_sub (ks := [1, 2, 0]) rfl (ih x0 x1 (xw (x2 + 1)) _ hx0 h hq)
        · have h := ifn hc15 h
          refine s_iconst dX8_isToldAhead_37 (cin rfl) ?_
          have h := Option.some.inj h
          subst h
          exact s_zreturn dX8_isToldAhead_38 rfl (Or.inr rfl) hq
theorem fX8_isToldAhead_ok {Qr : Option PV → Mem → Prop} : ∀ (x0 : Nat) (x1 : Int) (F : Mem) (res : Int) (hx0 : x0 = 0 ∨ isK x0 3), fX8_isToldAhead x0 x1 F = some res → Qr (some (vI res)) F → PR cX8_isToldAhead (zX8_isToldAhead Qr) 0 [(0, vR x0), (1, vI x1)] [] F := by
  intro x0 x1 F res hx0 h hq
  refine s_iconst dX8_isToldAhead_0 (cin rfl) ?_
  refine s_istore_n (ls' := [(2, vI 0), (0, vR x0), (1, vI x1)]) dX8_isToldAhead_1 rfl (Nat.le_of_ble_eq_true rfl) rfl ?_
  exact s_sub (ks := [1, 2, 0]) rfl (fX8_isToldAhead_b2_ok F FU x0 x1 0 _ hx0 h hq)
def gX8_isToldAhead : XG := fun As F r F' => ∃ x0 : Nat, ∃ x1 : Int, ∃ res : Int, As = [vR x0, vI x1] ∧ (x0 = 0 ∨ isK x0 3) ∧ fX8_isToldAhead x0 x1 F = some res ∧ r = some (vI res) ∧ F' = F
theorem ctX8_isToldAhead : xCT yX8_isToldAhead cX8_isToldAhead 3 (some FieldType.boolean) 1 22 gX8_isToldAhead := xmet (by decide +kernel) (fun As F r F' hg => by obtain ⟨x0, x1, res, rfl, hx0, h, rfl, rfl⟩ := hg; exact Nat.le_of_ble_eq_true rfl) (fun As F r F' hg => by obtain ⟨x0, x1, res, rfl, hx0, h, rfl, rfl⟩ := hg; exact fX8_isToldAhead_ok x0 x1 _ _ hx0 h ⟨rfl, rfl⟩)
theorem mcX8_isToldAhead : Cond.code yX8_isToldAhead cX8_isToldAhead 3 (some FieldType.boolean) ∈ xw_T ∧ Cond.initialized yX8_isToldAhead.cls ∈ xw_T ∧ Cond.static yX8_isToldAhead ∈ xw_T := ⟨(xinT 1312 (by decide +kernel) (by decide +kernel)), (xinT 123 (by decide +kernel) (by decide +kernel)), (xinT 1311 (by decide +kernel) (by decide +kernel))⟩
theorem clX8_104 {fr lo : Nat} (h1 : 1 + 1 ≤ fr) (h2 : 8 + (3 + 11) + 22 ≤ lo) : xCall RX8 fr lo 1 104 0 2 gX8_isToldAhead := ⟨_, _, _, _, _, _, ctX8_isToldAhead, h1, h2, mcX8_isToldAhead.1, (xinT 1310 (by decide +kernel) (by decide +kernel)), mcX8_isToldAhead.2.1, ⟨by decide +kernel, by decide +kernel, by decide +kernel⟩, by rw [if_neg (by decide)]; exact mcX8_isToldAhead.2.2⟩
theorem dX8_explained_0 : decode cX8_explained 0 = .ok (.iconst 0, 1) := by decide +kernel
theorem dX8_explained_1 : decode cX8_explained 1 = .ok (.istore_n 3, 1) := by decide +kernel
theorem dX8_explained_2 : decode cX8_explained 2 = .ok (.iconst 0, 1) := by decide +kernel
theorem dX8_explained_3 : decode cX8_explained 3 = .ok (.istore 4, 2) := by decide +kernel
theorem dX8_explained_5 : decode cX8_explained 5 = .ok (.iload 4, 2) := by decide +kernel
theorem dX8_explained_7 : decode cX8_explained 7 = .ok (.aload_n 1, 1) := by decide +kernel
theorem dX8_explained_8 : decode cX8_explained 8 = .ok (.getfield 34, 3) := by decide +kernel
theorem dX8_explained_11 : decode cX8_explained 11 = .ok (.if_icmp .ge 35, 3) := by decide +kernel
theorem dX8_explained_14 : decode cX8_explained 14 = .ok (.aload_n 0, 1) := by decide +kernel
theorem dX8_explained_15 : decode cX8_explained 15 = .ok (.aload_n 1, 1) := by decide +kernel
theorem dX8_explained_16 : decode cX8_explained 16 = .ok (.iload 4, 2) := by decide +kernel
theorem dX8_explained_18 : decode cX8_explained 18 = .ok (.invokevirtual 100, 3) := by decide +kernel
theorem dX8_explained_21 : decode cX8_explained 21 = .ok (.ifCond .eq 19, 3) := by decide +kernel
theorem dX8_explained_24 : decode cX8_explained 24 = .ok (.iload_n 2, 1) := by decide +kernel
theorem dX8_explained_25 : decode cX8_explained 25 = .ok (.ifCond .eq 12, 3) := by decide +kernel
theorem dX8_explained_28 : decode cX8_explained 28 = .ok (.aload_n 1, 1) := by decide +kernel
theorem dX8_explained_29 : decode cX8_explained 29 = .ok (.iload 4, 2) := by decide +kernel
theorem dX8_explained_31 : decode cX8_explained 31 = .ok (.invokestatic 104, 3) := by decide +kernel
theorem dX8_explained_34 : decode cX8_explained 34 = .ok (.ifCond .ne 6, 3) := by decide +kernel
theorem dX8_explained_37 : decode cX8_explained 37 = .ok (.iinc 3 1, 3) := by decide +kernel
theorem dX8_explained_40 : decode cX8_explained 40 = .ok (.iinc 4 1, 3) := by decide +kernel
theorem dX8_explained_43 : decode cX8_explained 43 = .ok (.goto (-38), 3) := by decide +kernel
theorem dX8_explained_46 : decode cX8_explained 46 = .ok (.iload_n 3, 1) := by decide +kernel
theorem dX8_explained_47 : decode cX8_explained 47 = .ok (.ireturn, 1) := by decide +kernel
def zX8_explained (Qr : Option PV → Mem → Prop) : XZ := (RX8, 5, 114, 5, some FieldType.int, Qr)
noncomputable def fX8_explained_b5 (F : Mem) : Nat → Nat → Nat → Int → Int → Int → Option Int
  | 0, _, _, _, _, _ => none
  | n + 1, o, x1, x2, x3, x4 =>
    if x1 = 0 then none else
    if (F x1 3) ≤ x4 then
      some x3
    else
      (fX8_isExplained o x1 x4 F).bind fun r3 =>
      if r3 = 0 then
        fX8_explained_b5 F n o x1 x2 x3 (xw (x4 + 1))
      else
        if x2 = 0 then
          fX8_explained_b5 F n o x1 x2 (xw (x3 + 1)) (xw (x4 + 1))
        else
          (fX8_isToldAhead x1 x4 F).bind fun r7 =>
          if r7 ≠ 0 then
            fX8_explained_b5 F n o x1 x2 x3 (xw (x4 + 1))
          else
            fX8_explained_b5 F n o x1 x2 (xw (x3 + 1)) (xw (x4 + 1))
noncomputable def fX8_explained (o : Nat) (x1 : Nat) (x2 : Int) (F : Mem) : Option Int :=
  fX8_explained_b5 F FU o x1 x2 0 0
theorem fX8_explained_b5_ok {Qr : Option PV → Mem → Prop}  (F : Mem) : ∀ (n : Nat) (o : Nat) (x1 : Nat) (x2 : Int) (x3 : Int) (x4 : Int) (res : Int) (ho : isK o 8) (hx1 : x1 = 0 ∨ isK x1 3), fX8_explained_b5 F n o x1 x2 x3 x4 = some res → Qr (some (vI res)) F → PR cX8_explained (zX8_explained Qr) 5 [(0, vR o), (1, vR x1), (2, vI x2), (3, vI x3), (4, vI x4)] [] F := by
  intro n
  induction n with
  | zero => intro o x1 x2 x3 x4 res ho hx1 h hq; exact nomatch (show (none : Option _) = some _ from h)
  | succ n ih =>
    intro o x1 x2 x3 x4 res ho hx1 h hq
    refine s_iload (j := 4) dX8_explained_5 rfl ?_
    refine s_aload_n (j := 1) dX8_explained_7 rfl rfl ?_
    obtain ⟨hn1, h⟩ := gdn h
    refine s_getI dX8_explained_8 flX8_34 (hx1.resolve_left hn1) ?_
    refine s_icmp_ge (tgt := 46) dX8_explained_11 rfl (fun hc2 => ?_) (fun hc2 => ?_)
    · have h := ifp hc2 h
      refine s_iload_n (j := 3) dX8_explained_46 rfl rfl ?_
      have h := Option.some.inj h
      subst h
      exact s_ireturn dX8_explained_47 rfl hq
    · have h := ifn hc2 h
      refine s_aload_n (j := 0) dX8_explained_14 rfl rfl ?_
      refine s_aload_n (j := 1) dX8_explained_15 rfl rfl ?_
      refine s_iload (j := 4) dX8_explained_16 rfl ?_
      obtain ⟨r3, hv4, h⟩ := bnd h
      refine s_callV (As := [vR x1, vI x4]) (rest := []) (r := (some (vI r3))) (F' := F) dX8_explained_18 (clX8_100 (Nat.le_of_ble_eq_true rfl) (Nat.le_of_ble_eq_true rfl)) ho rfl ⟨_, _, _, _, rfl, ho, hx1, hv4, rfl, rfl⟩ rfl (Nat.le_of_ble_eq_true rfl) ?_
      refine s_if_eq (tgt := 40) dX8_explained_21 rfl (fun hc5 => ?_) (fun hc5 => ?_)
      · have h := ifp hc5 h
        refine s_iinc (ls' := [(4, vI (xw (x4 + 1))), (0, vR o), (1, vR x1), (2, vI x2), (3, vI x3)]) (j := 4) dX8_explained_40 rfl (Nat.le_of_ble_eq_true rfl) rfl ?_
        refine s_goto (tgt := 5) dX8_explained_43 rfl ?_
        exact s_sub (ks := [1, 2, 3, 4, 0]) rfl (ih o x1 x2 x3 (xw (x4 + 1)) _ ho hx1 h hq)
      · have h := ifn hc5 h
        refine s_iload_n (j := 2) dX8_explained_24 rfl rfl ?_
        refine s_if_eq (tgt := 37) dX8_explained_25 rfl (fun hc6 => ?_) (fun hc6 => ?_)
        · have h := ifp hc6 h
          refine s_iinc (ls' := [(3, vI (xw (x3 + 1))), (0, vR o), (1, vR x1), (2, vI x2), (4, vI x4)]) (j := 3) dX8_explained_37 rfl (Nat.le_of_ble_eq_true rfl) rfl ?_
          refine s_iinc (j := 4) dX8_explained_40 rfl (Nat.le_of_ble_eq_true rfl) rfl ?_
          refine s_goto (tgt := 5) dX8_explained_43 rfl ?_
          exact s_sub (ks := [2, 3, 4, 1, 0]) rfl (ih o x1 x2 (xw (x3 + 1)) (xw (x4 + 1)) _ ho hx1 h hq)
        · have h := ifn hc6 h
          refine s_aload_n (j := 1) dX8_explained_28 rfl rfl ?_
          refine s_iload (j := 4) dX8_explained_29 rfl ?_
          obtain ⟨r7, hv8, h⟩ := bnd h
          refine s_callS (As := [vR x1, vI x4]) (rest := []) (r := (some (vI r7))) (F' := F) dX8_explained_31 (clX8_104 (Nat.le_of_ble_eq_true rfl) (Nat.le_of_ble_eq_true rfl)) rfl ⟨_, _, _, rfl, hx1, hv8, rfl, rfl⟩ rfl (Nat.le_of_ble_eq_true rfl) ?_
          refine s_if_ne (tgt := 40) dX8_explained_34 rfl (fun hc9 => ?_) (fun hc9 => ?_)
          · have h := ifp hc9 h
            refine s_iinc (ls' := [(4, vI (xw (x4 + 1))), (0, vR o), (1, vR x1), (2, vI x2), (3, vI x3)]) (j := 4) dX8_explained_40 rfl (Nat.le_of_ble_eq_true rfl) rfl ?_
            refine s_goto (tgt := 5) dX8_explained_43 rfl ?_
            exact s_sub (ks := [1, 2, 3, 4, 0]) rfl (ih o x1 x2 x3 (xw (x4 + 1)) _ ho hx1 h hq)
          · have h := ifn hc9 h
            refine s_iinc (ls' := [(3, vI (xw (x3 + 1))), (0, vR o), (1, vR x1), (2, vI x2), (4, vI x4)]) (j := 3) dX8_explained_37 rfl (Nat.le_of_ble_eq_true rfl) rfl ?_
            refine s_iinc (j := 4) dX8_explained_40 rfl (Nat.le_of_ble_eq_true rfl) rfl ?_
            refine s_goto (tgt := 5) dX8_explained_43 rfl ?_
            exact s_sub (ks := [2, 3, 4, 1, 0]) rfl (ih o x1 x2 (xw (x3 + 1)) (xw (x4 + 1)) _ ho hx1 h hq)
theorem fX8_explained_ok {Qr : Option PV → Mem → Prop} : ∀ (o : Nat) (x1 : Nat) (x2 : Int) (F : Mem) (res : Int) (ho : isK o 8) (hx1 : x1 = 0 ∨ isK x1 3), fX8_explained o x1 x2 F = some res → Qr (some (vI res)) F → PR cX8_explained (zX8_explained Qr) 0 [(0, vR o), (1, vR x1), (2, vI x2)] [] F := by
  intro o x1 x2 F res ho hx1 h hq
  refine s_iconst dX8_explained_0 (cin rfl) ?_
  refine s_istore_n (ls' := [(3, vI 0), (0, vR o), (1, vR x1), (2, vI x2)]) dX8_explained_1 rfl (Nat.le_of_ble_eq_true rfl) rfl ?_
  refine s_iconst dX8_explained_2 (cin rfl) ?_
  refine s_istore dX8_explained_3 (Nat.le_of_ble_eq_true rfl) rfl ?_
  exact s_sub (ks := [2, 3, 4, 1, 0]) rfl (fX8_explained_b5_ok F FU o x1 x2 0 0 _ ho hx1 h hq)
def gX8_explained : XG := fun As F r F' => ∃ o : Nat, ∃ x1 : Nat, ∃ x2 : Int, ∃ res : Int, As = [vR o, vR x1, vI x2] ∧ isK o 8 ∧ (x1 = 0 ∨ isK x1 3) ∧ fX8_explained o x1 x2 F = some res ∧ r = some (vI res) ∧ F' = F
theorem ctX8_explained : xCT yX8_explained cX8_explained 5 (some FieldType.int) 5 114 gX8_explained := xmet (by decide +kernel) (fun As F r F' hg => by obtain ⟨o, x1, x2, res, rfl, ho, hx1, h, rfl, rfl⟩ := hg; exact Nat.le_of_ble_eq_true rfl) (fun As F r F' hg => by obtain ⟨o, x1, x2, res, rfl, ho, hx1, h, rfl, rfl⟩ := hg; exact fX8_explained_ok o x1 x2 _ _ ho hx1 h ⟨rfl, rfl⟩)
theorem mcX8_explained : Cond.code yX8_explained cX8_explained 5 (some FieldType.int) ∈ xw_T ∧ Cond.initialized yX8_explained.cls ∈ xw_T ∧ Cond.instanceMethod yX8_explained ∈ xw_T ∧ Cond.selects yX8_explained.cls yX8_explained yX8_explained ∈ xw_T := ⟨(xinT 1304 (by decide +kernel) (by decide +kernel)), (xinT 123 (by decide +kernel) (by decide +kernel)), (xinT 1302 (by decide +kernel) (by decide +kernel)), (xinT 1303 (by decide +kernel) (by decide +kernel))⟩
theorem clX9_367 {fr lo : Nat} (h1 : 5 + 1 ≤ fr) (h2 : 8 + (5 + 11) + 114 ≤ lo) : xCall RX9 fr lo 0 367 8 2 gX8_explained := ⟨_, _, _, _, _, _, ctX8_explained, h1, h2, mcX8_explained.1, (xinT 1301 (by decide +kernel) (by decide +kernel)), mcX8_explained.2.1, ⟨by decide +kernel, by decide +kernel, by decide +kernel⟩, by rw [if_pos rfl]; exact ⟨mcX8_explained.2.2.1, mcX8_explained.2.2.2, _, _, rfl⟩⟩
theorem dX8_culprit_0 : decode cX8_culprit 0 = .ok (.iconst 0, 1) := by decide +kernel
theorem dX8_culprit_1 : decode cX8_culprit 1 = .ok (.istore_n 2, 1) := by decide +kernel
theorem dX8_culprit_2 : decode cX8_culprit 2 = .ok (.iload_n 2, 1) := by decide +kernel
theorem dX8_culprit_3 : decode cX8_culprit 3 = .ok (.bipush 8, 2) := by decide +kernel
theorem dX8_culprit_5 : decode cX8_culprit 5 = .ok (.if_icmp .ge 16, 3) := by decide +kernel
theorem dX8_culprit_8 : decode cX8_culprit 8 = .ok (.aload_n 0, 1) := by decide +kernel
theorem dX8_culprit_9 : decode cX8_culprit 9 = .ok (.getfield 26, 3) := by decide +kernel
theorem dX8_culprit_12 : decode cX8_culprit 12 = .ok (.iload_n 2, 1) := by decide +kernel
theorem dX8_culprit_13 : decode cX8_culprit 13 = .ok (.iconst 0, 1) := by decide +kernel
theorem dX8_culprit_14 : decode cX8_culprit 14 = .ok (.iastore, 1) := by decide +kernel
theorem dX8_culprit_15 : decode cX8_culprit 15 = .ok (.iinc 2 1, 3) := by decide +kernel
theorem dX8_culprit_18 : decode cX8_culprit 18 = .ok (.goto (-16), 3) := by decide +kernel
theorem dX8_culprit_21 : decode cX8_culprit 21 = .ok (.iconst 0, 1) := by decide +kernel
theorem dX8_culprit_22 : decode cX8_culprit 22 = .ok (.istore_n 2, 1) := by decide +kernel
theorem dX8_culprit_23 : decode cX8_culprit 23 = .ok (.iload_n 2, 1) := by decide +kernel
theorem dX8_culprit_24 : decode cX8_culprit 24 = .ok (.aload_n 1, 1) := by decide +kernel
theorem dX8_culprit_25 : decode cX8_culprit 25 = .ok (.getfield 34, 3) := by decide +kernel
theorem dX8_culprit_28 : decode cX8_culprit 28 = .ok (.if_icmp .ge 80, 3) := by decide +kernel
theorem dX8_culprit_31 : decode cX8_culprit 31 = .ok (.aload_n 0, 1) := by decide +kernel
theorem dX8_culprit_32 : decode cX8_culprit 32 = .ok (.aload_n 1, 1) := by decide +kernel
theorem dX8_culprit_33 : decode cX8_culprit 33 = .ok (.iload_n 2, 1) := by decide +kernel
theorem dX8_culprit_34 : decode cX8_culprit 34 = .ok (.iconst 0, 1) := by decide +kernel
theorem dX8_culprit_35 : decode cX8_culprit 35 = .ok (.invokevirtual 39, 3) := by decide +kernel
theorem dX8_culprit_38 : decode cX8_culprit 38 = .ok (.aload_n 1, 1) := by decide +kernel
theorem dX8_culprit_39 : decode cX8_culprit 39 = .ok (.iload_n 2, 1) := by decide +kernel
theorem dX8_culprit_40 : decode cX8_culprit 40 = .ok (.iconst 1, 1) := by decide +kernel
theorem dX8_culprit_41 : decode cX8_culprit 41 = .ok (.invokevirtual 39, 3) := by decide +kernel
theorem dX8_culprit_44 : decode cX8_culprit 44 = .ok (.invokevirtual 97, 3) := by decide +kernel
theorem dX8_culprit_47 : decode cX8_culprit 47 = .ok (.istore_n 3, 1) := by decide +kernel
theorem dX8_culprit_48 : decode cX8_culprit 48 = .ok (.iload_n 3, 1) := by decide +kernel
theorem dX8_culprit_49 : decode cX8_culprit 49 = .ok (.ifCond .lt 18, 3) := by decide +kernel
theorem dX8_culprit_52 : decode cX8_culprit 52 = .ok (.iload_n 3, 1) := by decide +kernel
theorem dX8_culprit_53 : decode cX8_culprit 53 = .ok (.bipush 48, 2) := by decide +kernel
theorem dX8_culprit_55 : decode cX8_culprit 55 = .ok (.if_icmp .ge 12, 3) := by decide +kernel
theorem dX8_culprit_58 : decode cX8_culprit 58 = .ok (.aload_n 0, 1) := by decide +kernel
theorem dX8_culprit_59 : decode cX8_culprit 59 = .ok (.getfield 22, 3) := by decide +kernel
theorem dX8_culprit_62 : decode cX8_culprit 62 = .ok (.iload_n 3, 1) := by decide +kernel
theorem dX8_culprit_63 : decode cX8_culprit 63 = .ok (.iaload, 1) := by decide +kernel
theorem dX8_culprit_64 : decode cX8_culprit 64 = .ok (.goto 4, 3) := by decide +kernel
theorem dX8_culprit_67 : decode cX8_culprit 67 = .ok (.iconst (-1), 1) := by decide +kernel
theorem dX8_culprit_68 : decode cX8_culprit 68 = .ok (.istore 4, 2) := by decide +kernel
theorem dX8_culprit_70 : decode cX8_culprit 70 = .ok (.iload 4, 2) := by decide +kernel
theorem dX8_culprit_72 : decode cX8_culprit 72 = .ok (.ifCond .lt 30, 3) := by decide +kernel
theorem dX8_culprit_75 : decode cX8_culprit 75 = .ok (.iload 4, 2) := by decide +kernel
theorem dX8_culprit_77 : decode cX8_culprit 77 = .ok (.bipush 8, 2) := by decide +kernel
theorem dX8_culprit_79 : decode cX8_culprit 79 = .ok (.if_icmp .ge 23, 3) := by decide +kernel
theorem dX8_culprit_82 : decode cX8_culprit 82 = .ok (.aload_n 0, 1) := by decide +kernel
theorem dX8_culprit_83 : decode cX8_culprit 83 = .ok (.aload_n 1, 1) := by decide +kernel
theorem dX8_culprit_84 : decode cX8_culprit 84 = .ok (.iload_n 2, 1) := by decide +kernel
theorem dX8_culprit_85 : decode cX8_culprit 85 = .ok (.invokevirtual 100, 3) := by decide +kernel
theorem dX8_culprit_88 : decode cX8_culprit 88 = .ok (.ifCond .eq 14, 3) := by decide +kernel
theorem dX8_culprit_91 : decode cX8_culprit 91 = .ok (.aload_n 0, 1) := by decide +kernel
theorem dX8_culprit_92 : decode cX8_culprit 92 = .ok (.getfield 26, 3) := by decide +kernel
theorem dX8_culprit_95 : decode cX8_culprit 95 = .ok (.iload 4, 2) := by decide +kernel
theorem dX8_culprit_97 : decode cX8_culprit 97 = .ok (.dup2, 1) := by decide +kernel
theorem dX8_culprit_98 : decode cX8_culprit 98 = .ok (.iaload, 1) := by decide +kernel
theorem dX8_culprit_99 : decode cX8_culprit 99 = .ok (.iconst 1, 1) := by decide +kernel
theorem dX8_culprit_100 : decode cX8_culprit 100 = .ok (.iadd, 1) := by decide +kernel
theorem dX8_culprit_101 : decode cX8_culprit 101 = .ok (.iastore, 1) := by decide +kernel
theorem dX8_culprit_102 : decode cX8_culprit 102 = .ok (.iinc 2 1, 3) := by decide +kernel
theorem dX8_culprit_105 : decode cX8_culprit 105 = .ok (.goto (-82), 3) := by decide +kernel
theorem dX8_culprit_108 : decode cX8_culprit 108 = .ok (.iconst (-1), 1) := by decide +kernel
theorem dX8_culprit_109 : decode cX8_culprit 109 = .ok (.istore_n 2, 1) := by decide +kernel
theorem dX8_culprit_110 : decode cX8_culprit 110 = .ok (.iconst 0, 1) := by decide +kernel
theorem dX8_culprit_111 : decode cX8_culprit 111 = .ok (.istore_n 3, 1) := by decide +kernel
theorem dX8_culprit_112 : decode cX8_culprit 112 = .ok (.iconst 0, 1) := by decide +kernel
theorem dX8_culprit_113 : decode cX8_culprit 113 = .ok (.istore 4, 2) := by decide +kernel
theorem dX8_culprit_115 : decode cX8_culprit 115 = .ok (.iload 4, 2) := by decide +kernel
theorem dX8_culprit_117 : decode cX8_culprit 117 = .ok (.bipush 8, 2) := by decide +kernel
theorem dX8_culprit_119 : decode cX8_culprit 119 = .ok (.if_icmp .ge 31, 3) := by decide +kernel
theorem dX8_culprit_122 : decode cX8_culprit 122 = .ok (.aload_n 0, 1) := by decide +kernel
theorem dX8_culprit_123 : decode cX8_culprit 123 = .ok (.getfield 26, 3) := by decide +kernel
theorem dX8_culprit_126 : decode cX8_culprit 126 = .ok (.iload 4, 2) := by decide +kernel
theorem dX8_culprit_128 : decode cX8_culprit 128 = .ok (.iaload, 1) := by decide +kernel
theorem dX8_culprit_129 : decode cX8_culprit 129 = .ok (.iload_n 3, 1) := by decide +kernel
theorem dX8_culprit_130 : decode cX8_culprit 130 = .ok (.if_icmp .le 14, 3) := by decide +kernel
theorem dX8_culprit_133 : decode cX8_culprit 133 = .ok (.aload_n 0, 1) := by decide +kernel
theorem dX8_culprit_134 : decode cX8_culprit 134 = .ok (.getfield 26, 3) := by decide +kernel
theorem dX8_culprit_137 : decode cX8_culprit 137 = .ok (.iload 4, 2) := by decide +kernel
theorem dX8_culprit_139 : decode cX8_culprit 139 = .ok (.iaload, 1) := by decide +kernel
theorem dX8_culprit_140 : decode cX8_culprit 140 = .ok (.istore_n 3, 1) := by decide +kernel
theorem dX8_culprit_141 : decode cX8_culprit 141 = .ok (.iload 4, 2) := by decide +kernel
theorem dX8_culprit_143 : decode cX8_culprit 143 = .ok (.istore_n 2, 1) := by decide +kernel
theorem dX8_culprit_144 : decode cX8_culprit 144 = .ok (.iinc 4 1, 3) := by decide +kernel
theorem dX8_culprit_147 : decode cX8_culprit 147 = .ok (.goto (-32), 3) := by decide +kernel
theorem dX8_culprit_150 : decode cX8_culprit 150 = .ok (.iload_n 2, 1) := by decide +kernel
theorem dX8_culprit_151 : decode cX8_culprit 151 = .ok (.ireturn, 1) := by decide +kernel
def zX8_culprit (Qr : Option PV → Mem → Prop) : XZ := (RX8, 5, 114, 5, some FieldType.int, Qr)
noncomputable def fX8_culprit_b115 : Nat → Nat → Int → Int → Int → Mem → Option (Int × Mem)
  | 0, _, _, _, _, _ => none
  | n + 1, o, x2, x3, x4, F =>
    if 8 ≤ x4 then
      some (x2, F)
    else
      if (0 : Int) ≤ x4 ∧ x4 < (alen (o + 2) : Int) then
        if (F (o + 2) x4.toNat) ≤ x3 then
          fX8_culprit_b115 n o x2 x3 (xw (x4 + 1)) F
        else
          if (0 : Int) ≤ x4 ∧ x4 < (alen (o + 2) : Int) then
            fX8_culprit_b115 n o x4 (F (o + 2) x4.toNat) (xw (x4 + 1)) F
          else none
      else none
noncomputable def fX8_culprit_b68 (k23 : Nat → Nat → Int → Mem → Option (Int × Mem)) (o : Nat) (x1 : Nat) (x2 : Int) (s0 : Int) (F : Mem) : Option (Int × Mem) :=
  if s0 < 0 then
    k23 o x1 (xw (x2 + 1)) F
  else
    if 8 ≤ s0 then
      k23 o x1 (xw (x2 + 1)) F
    else
      (fX8_isExplained o x1 x2 F).bind fun r3 =>
      if r3 = 0 then
        k23 o x1 (xw (x2 + 1)) F
      else
        if (0 : Int) ≤ s0 ∧ s0 < (alen (o + 2) : Int) then
          if (0 : Int) ≤ s0 ∧ s0 < (alen (o + 2) : Int) then
            k23 o x1 (xw (x2 + 1)) (mset F (o + 2) s0.toNat (xw ((F (o + 2) s0.toNat) + 1)))
          else none
        else none
noncomputable def fX8_culprit_b23 : Nat → Nat → Nat → Int → Mem → Option (Int × Mem)
  | 0, _, _, _, _ => none
  | n + 1, o, x1, x2, F =>
    if x1 = 0 then none else
    if (F x1 3) ≤ x2 then
      fX8_culprit_b115 FU o (-1) 0 0 F
    else
      if x1 = 0 then none else
      (fX3_cell x1 x2 0 F).bind fun r4 =>
      if x1 = 0 then none else
      (fX3_cell x1 x2 1 F).bind fun r7 =>
      (fX8_slotOfRow o r4 r7 F).bind fun r9 =>
      if r9 < 0 then
        fX8_culprit_b68 (fX8_culprit_b23 n) o x1 x2 (-1) F
      else
        if 48 ≤ r9 then
          fX8_culprit_b68 (fX8_culprit_b23 n) o x1 x2 (-1) F
        else
          if (0 : Int) ≤ r9 ∧ r9 < (alen (o + 1) : Int) then
            fX8_culprit_b68 (fX8_culprit_b23 n) o x1 x2 (F (o + 1) r9.toNat) F
          else none
noncomputable def fX8_culprit_b2 : Nat → Nat → Nat → Int → Mem → Option (Int × Mem)
  | 0, _, _, _, _ => none
  | n + 1, o, x1, x2, F =>
    if 8 ≤ x2 then
      fX8_culprit_b23 FU o x1 0 F
    else
      if (0 : Int) ≤ x2 ∧ x2 < (alen (o + 2) : Int) then
        fX8_culprit_b2 n o x1 (xw (x2 + 1)) (mset F (o + 2) x2.toNat 0)
      else none
noncomputable def fX8_culprit (o : Nat) (x1 : Nat) (F : Mem) : Option (Int × Mem) :=
  fX8_culprit_b2 FU o x1 0 F
theorem fX8_culprit_b115_ok {Qr : Option PV → Mem → Prop}  : ∀ (n : Nat) (o : Nat) (x2 : Int) (x3 : Int) (x4 : Int) (F : Mem) (res : (Int × Mem)) (ho : isK o 8), fX8_culprit_b115 n o x2 x3 x4 F = some res → Qr (some (vI res.1)) res.2 → PR cX8_culprit (zX8_culprit Qr) 115 [(0, vR o), (2, vI x2), (3, vI x3), (4, vI x4)] [] F := by
  intro n
  induction n with
  | zero => intro o x2 x3 x4 F res ho h hq; exact nomatch (show (none : Option _) = some _ from h)
  | succ n ih =>
    intro o x2 x3 x4 F res ho h hq
    refine s_iload (j := 3) dX8_culprit_115 rfl ?_
    refine s_bipush dX8_culprit_117 rfl (cin rfl) ?_
    refine s_icmp_ge (tgt := 150) dX8_culprit_119 rfl (fun hc1 => ?_) (fun hc1 => ?_)
    · have h := ifp hc1 h
      refine s_iload_n (j := 1) dX8_culprit_150 rfl rfl ?_
      have h := Option.some.inj h
      subst h
      exact s_ireturn dX8_culprit_151 rfl hq
    · have h := ifn hc1 h
      refine s_aload_n (j := 0) dX8_culprit_122 rfl rfl ?_
      refine s_getR dX8_culprit_123 flX8_26 ho ?_
      refine s_iload (j := 3) dX8_culprit_126 rfl ?_
      obtain ⟨hb2, h⟩ := gd h
      refine s_iaload dX8_culprit_128 (trX8_4 ho) hb2.1 hb2.2 ?_
      refine s_iload_n (j := 2) dX8_culprit_129 rfl rfl ?_
      refine s_icmp_le (tgt := 144) dX8_culprit_130 rfl (fun hc3 => ?_) (fun hc3 => ?_)
      · have h := ifp hc3 h
        refine s_iinc (ls' := [(4, vI (xw (x4 + 1))), (0, vR o), (2, vI x2), (3, vI x3)]) (j := 3) dX8_culprit_144 rfl (Nat.le_of_ble_eq_true rfl) rfl ?_
        refine s_goto (tgt := 115) dX8_culprit_147 rfl ?_
        exact s_sub (ks := [1, 2, 3, 0]) rfl (ih o x2 x3 (xw (x4 + 1)) F _ ho h hq)
      · have h := ifn hc3 h
        refine s_aload_n (j := 0) dX8_culprit_133 rfl rfl ?_
        refine s_getR dX8_culprit_134 flX8_26 ho ?_
        refine s_iload (j := 3) dX8_culprit_137 rfl ?_
        obtain ⟨hb4, h⟩ := gd h
        refine s_iaload dX8_culprit_139 (trX8_4 ho) hb4.1 hb4.2 ?_
        refine s_istore_n (ls' := [(3, vI (F (o + 2) x4.toNat)), (0, vR o), (2, vI x2), (4, vI x4)]) dX8_culprit_140 rfl (Nat.le_of_ble_eq_true rfl) rfl ?_
        refine s_iload (j := 3) dX8_culprit_141 rfl ?_
        refine s_istore_n dX8_culprit_143 rfl (Nat.le_of_ble_eq_true rfl) rfl ?_
        refine s_iinc (ls' := [(4, vI (xw (x4 + 1))), (2, vI x4), (3, vI (F (o + 2) x4.toNat)), (0, vR o)]) (j := 3) dX8_culprit_144 rfl (Nat.le_of_ble_eq_true rfl) rfl ?_
        refine s_goto (tgt := 115) dX8_culprit_147 rfl ?_
        exact s_sub (ks := [3, 1, 2, 0]) rfl (ih o x4 (F (o + 2) x4.toNat) (xw (x4 + 1)) F _ ho h hq)
theorem fX8_culprit_b68_ok {Qr : Option PV → Mem → Prop}  (k23 : Nat → Nat → Int → Mem → Option (Int × Mem)) (hk23 : ∀ (o : Nat) (x1 : Nat) (x2 : Int) (F : Mem) (res : (Int × Mem)) (ho : isK o 8) (hx1 : x1 = 0 ∨ isK x1 3), k23 o x1 x2 F = some res → Qr (some (vI res.1)) res.2 → PR cX8_culprit (zX8_culprit Qr) 23 [(0, vR o), (1, vR x1), (2, vI x2)] [] F) : ∀ (o : Nat) (x1 : Nat) (x2 : Int) (s0 : Int) (F : Mem) (res : (Int × Mem)) (ho : isK o 8) (hx1 : x1 = 0 ∨ isK x1 3), fX8_culprit_b68 k23 o x1 x2 s0 F = some res → Qr (some (vI res.1)) res.2 → PR cX8_culprit (zX8_culprit Qr) 68 [(0, vR o), (1, vR x1), (2, vI x2)] [vI s0] F := by
  intro o x1 x2 s0 F res ho hx1 h hq
  refine s_istore (ls' := [(4, vI s0), (0, vR o), (1, vR x1), (2, vI x2)]) dX8_culprit_68 (Nat.le_of_ble_eq_true rfl) rfl ?_
  refine s_iload (j := 0) dX8_culprit_70 rfl ?_
  refine s_if_lt (tgt := 102) dX8_culprit_72 rfl (fun hc1 => ?_) (fun hc1 => ?_)
  · have h := ifp hc1 h
    refine s_iinc (ls' := [(2, vI (xw (x2 + 1))), (4, vI s0), (0, vR o), (1, vR x1)]) (j := 3) dX8_culprit_102 rfl (Nat.le_of_ble_eq_true rfl) rfl ?_
    refine s_goto (tgt := 23) dX8_culprit_105 rfl ?_
    exact s_sub (ks := [2, 3, 0]) rfl (hk23 o x1 (xw (x2 + 1)) F _ ho hx1 h hq)
  · have h := ifn hc1 h
    refine s_iload (j := 0) dX8_culprit_75 rfl ?_
    refine s_bipush dX8_culprit_77 rfl (cin rfl) ?_
    refine s_icmp_ge (tgt := 102) dX8_culprit_79 rfl (fun hc2 => ?_) (fun hc2 => ?_)
    · have h := ifp hc2 h
      refine s_iinc (ls' := [(2, vI (xw (x2 + 1))), (4, vI s0), (0, vR o), (1, vR x1)]) (j := 3) dX8_culprit_102 rfl (Nat.le_of_ble_eq_true rfl) rfl ?_
      refine s_goto (tgt := 23) dX8_culprit_105 rfl ?_
      exact s_sub (ks := [2, 3, 0]) rfl (hk23 o x1 (xw (x2 + 1)) F _ ho hx1 h hq)
    · have h := ifn hc2 h
      refine s_aload_n (j := 1) dX8_culprit_82 rfl rfl ?_
      refine s_aload_n (j := 2) dX8_culprit_83 rfl rfl ?_
      refine s_iload_n (j := 3) dX8_culprit_84 rfl rfl ?_
      obtain ⟨r3, hv4, h⟩ := bnd h
      refine s_callV (As := [vR x1, vI x2]) (rest := []) (r := (some (vI r3))) (F' := F) dX8_culprit_85 (clX8_100 (Nat.le_of_ble_eq_true rfl) (Nat.le_of_ble_eq_true rfl)) ho rfl ⟨_, _, _, _, rfl, ho, hx1, hv4, rfl, rfl⟩ rfl (Nat.le_of_ble_eq_true rfl) ?_
      refine s_if_eq (tgt := 102) dX8_culprit_88 rfl (fun hc5 => ?_) (fun hc5 => ?_)
      · have h := ifp hc5 h
        refine s_iinc (ls' := [(2, vI (xw (x2 + 1))), (4, vI s0), (0, vR o), (1, vR x1)]) (j := 3) dX8_culprit_102 rfl (Nat.le_of_ble_eq_true rfl) rfl ?_
        refine s_goto (tgt := 23) dX8_culprit_105 rfl ?_
        exact s_sub (ks := [2, 3, 0]) rfl (hk23 o x1 (xw (x2 + 1)) F _ ho hx1 h hq)
      · have h := ifn hc5 h
        refine s_aload_n (j := 1) dX8_culprit_91 rfl rfl ?_
        refine s_getR dX8_culprit_92 flX8_26 ho ?_
        refine s_iload (j := 0) dX8_culprit_95 rfl ?_
        refine s_dup2 dX8_culprit_97 rfl rfl ?_
        obtain ⟨hb6, h⟩ := gd h
        refine s_iaload dX8_culprit_98 (trX8_4 ho) hb6.1 hb6.2 ?_
        refine s_iconst dX8_culprit_99 (cin rfl) ?_
        refine s_iadd dX8_culprit_100 ?_
        obtain ⟨hb7, h⟩ := gd h
        refine s_iastore dX8_culprit_101 (trX8_4 ho) hb7.1 hb7.2 ?_
        refine s_iinc (ls' := [(2, vI (xw (x2 + 1))), (4, vI s0), (0, vR o), (1, vR x1)]) (j := 3) dX8_culprit_102 rfl (Nat.le_of_ble_eq_true rfl) rfl ?_
        refine s_goto (tgt := 23) dX8_culprit_105 rfl ?_
        exact s_sub (ks := [2, 3, 0]) rfl (hk23 o x1 (xw (x2 + 1)) (mset F (o + 2) s0.toNat (xw ((F (o + 2) s0.toNat) + 1))) _ ho hx1 h hq)
theorem fX8_culprit_b23_ok {Qr : Option PV → Mem → Prop}  : ∀ (n : Nat) (o : Nat) (x1 : Nat) (x2 : Int) (F : Mem) (res : (Int × Mem)) (ho : isK o 8) (hx1 : x1 = 0 ∨ isK x1 3), fX8_culprit_b23 n o x1 x2 F = some res → Qr (some (vI res.1)) res.2 → PR cX8_culprit (zX8_culprit Qr) 23 [(0, vR o), (1, vR x1), (2, vI x2)] [] F := by
  intro n
  induction n with
  | zero => intro o x1 x2 F res ho hx1 h hq; exact nomatch (show (none : Option _) = some _ from h)
  | succ n ih =>
    intro o x1 x2 F res ho hx1 h hq
    refine s_iload_n (j := 2) dX8_culprit_23 rfl rfl ?_
    refine s_aload_n (j := 1) dX8_culprit_24 rfl rfl ?_
    obtain ⟨hn1, h⟩ := gdn h
    refine s_getI dX8_culprit_25 flX8_34 (hx1.resolve_left hn1) ?_
    refine s_icmp_ge (tgt := 108) dX8_culprit_28 rfl (fun hc2 => ?_) (fun hc2 => ?_)
    · have h := ifp hc2 h
      refine s_iconst dX8_culprit_108 (cin rfl) ?_
      refine s_istore_n (ls' := [(2, vI (-1)), (0, vR o), (1, vR x1)]) dX8_culprit_109 rfl (Nat.le_of_ble_eq_true rfl) rfl ?_
      refine s_iconst dX8_culprit_110 (cin rfl) ?_
      refine s_istore_n dX8_culprit_111 rfl (Nat.le_of_ble_eq_true rfl) rfl ?_
      refine s_iconst dX8_culprit_112 (cin rfl) ?_
      refine s_istore (ls' := [(4, vI 0), (3, vI 0), (2, vI (-1)), (0, vR o), (1, vR x1)]) dX8_culprit_113 (Nat.le_of_ble_eq_true rfl) rfl ?_
      exact s_sub (ks := [3, 2, 1, 0]) rfl (fX8_culprit_b115_ok FU o (-1) 0 0 F _ ho h hq)
    · have h := ifn hc2 h
      refine s_aload_n (j := 0) dX8_culprit_31 rfl rfl ?_
      refine s_aload_n (j := 1) dX8_culprit_32 rfl rfl ?_
      refine s_iload_n (j := 2) dX8_culprit_33 rfl rfl ?_
      refine s_iconst dX8_culprit_34 (cin rfl) ?_
      obtain ⟨hn3, h⟩ := gdn h
      obtain ⟨r4, hv5, h⟩ := bnd h
      refine s_callV (As := [vI x2, vI 0]) (rest := [vR o]) (r := (some (vI r4))) (F' := F) dX8_culprit_35 (clX8_39 (Nat.le_of_ble_eq_true rfl) (Nat.le_of_ble_eq_true rfl)) (hx1.resolve_left hn3) rfl ⟨_, _, _, _, rfl, (hx1.resolve_left hn3), hv5, rfl, rfl⟩ rfl (Nat.le_of_ble_eq_true rfl) ?_
      refine s_aload_n (j := 1) dX8_culprit_38 rfl rfl ?_
      refine s_iload_n (j := 2) dX8_culprit_39 rfl rfl ?_
      refine s_iconst dX8_culprit_40 (cin rfl) ?_
      obtain ⟨hn6, h⟩ := gdn h
      obtain ⟨r7, hv8, h⟩ := bnd h
      refine s_callV (As := [vI x2, vI 1]) (rest := [vI r4, vR o]) (r := (some (vI r7))) (F' := F) dX8_culprit_41 (clX8_39 (Nat.le_of_ble_eq_true rfl) (Nat.le_of_ble_eq_true rfl)) (hx1.resolve_left hn6) rfl ⟨_, _, _, _, rfl, (hx1.resolve_left hn6), hv8, rfl, rfl⟩ rfl (Nat.le_of_ble_eq_true rfl) ?_
      obtain ⟨r9, hv10, h⟩ := bnd h
      refine s_callV (As := [vI r4, vI r7]) (rest := []) (r := (some (vI r9))) (F' := F) dX8_culprit_44 (clX8_97 (Nat.le_of_ble_eq_true rfl) (Nat.le_of_ble_eq_true rfl)) ho rfl ⟨_, _, _, _, rfl, ho, hv10, rfl, rfl⟩ rfl (Nat.le_of_ble_eq_true rfl) ?_
      refine s_istore_n (ls' := [(3, vI r9), (0, vR o), (1, vR x1), (2, vI x2)]) dX8_culprit_47 rfl (Nat.le_of_ble_eq_true rfl) rfl ?_
      refine s_iload_n (j := 0) dX8_culprit_48 rfl rfl ?_
      refine s_if_lt (tgt := 67) dX8_culprit_49 rfl (fun hc11 => ?_) (fun hc11 => ?_)
      · have h := ifp hc11 h
        refine s_iconst dX8_culprit_67 (cin rfl) ?_
        exact s_sub (ks := [1, 2, 3]) rfl (fX8_culprit_b68_ok (fX8_culprit_b23 n) ih o x1 x2 (-1) F _ ho hx1 h hq)
      · have h := ifn hc11 h
        refine s_iload_n (j := 0) dX8_culprit_52 rfl rfl ?_
        refine s_bipush dX8_culprit_53 rfl (cin rfl) ?_
        refine s_icmp_ge (tgt := 67) dX8_culprit_55 rfl (fun hc12 => ?_) (fun hc12 => ?_)
        · have h := ifp hc12 h
          refine s_iconst dX8_culprit_67 (cin rfl) ?_
          exact s_sub (ks := [1, 2, 3]) rfl (fX8_culprit_b68_ok (fX8_culprit_b23 n) ih o x1 x2 (-1) F _ ho hx1 h hq)
        · have h := ifn hc12 h
          refine s_aload_n (j := 1) dX8_culprit_58 rfl rfl ?_
          refine s_getR dX8_culprit_59 flX8_22 ho ?_
          refine s_iload_n (j := 0) dX8_culprit_62 rfl rfl ?_
          obtain ⟨hb13, h⟩ := gd h
          refine s_iaload dX8_culprit_63 (trX8_3 ho) hb13.1 hb13.2 ?_
          refine s_goto (tgt := 68) dX8_culprit_64 rfl ?_
          exact s_sub (ks := [1, 2, 3]) rfl (fX8_culprit_b68_ok (fX8_culprit_b23 n) ih o x1 x2 (F (o + 1) r9.toNat) F _ ho hx1 h hq)
theorem fX8_culprit_b2_ok {Qr : Option PV → Mem → Prop}  : ∀ (n : Nat) (o : Nat) (x1 : Nat) (x2 : Int) (F : Mem) (res : (Int × Mem)) (ho : isK o 8) (hx1 : x1 = 0 ∨ isK x1 3), fX8_culprit_b2 n o x1 x2 F = some res → Qr (some (vI res.1)) res.2 → PR cX8_culprit (zX8_culprit Qr) 2 [(0, vR o), (1, vR x1), (2, vI x2)] [] F := by
  intro n
  induction n with
  | zero => intro o x1 x2 F res ho hx1 h hq; exact nomatch (show (none : Option _) = some _ from h)
  | succ n ih =>
    intro o x1 x2 F res ho hx1 h hq
    refine s_iload_n (j := 2) dX8_culprit_2 rfl rfl ?_
    refine s_bipush dX8_culprit_3 rfl (cin rfl) ?_
    refine s_icmp_ge (tgt := 21) dX8_culprit_5 rfl (fun hc1 => ?_) (fun hc1 => ?_)
    · have h := ifp hc1 h
      refine s_iconst dX8_culprit_21 (cin rfl) ?_
      refine s_istore_n (ls' := [(2, vI 0), (0, vR o), (1, vR x1)]) dX8_culprit_22 rfl (Nat.le_of_ble_eq_true rfl) rfl ?_
      exact s_sub (ks := [1, 2, 0]) rfl (fX8_culprit_b23_ok FU o x1 0 F _ ho hx1 h hq)
    · have h := ifn hc1 h
      refine s_aload_n (j := 0) dX8_culprit_8 rfl rfl ?_
      refine s_getR dX8_culprit_9 flX8_26 ho ?_
      refine s_iload_n (j := 2) dX8_culprit_12 rfl rfl ?_
      refine s_iconst dX8_culprit_13 (cin rfl) ?_
      obtain ⟨hb2, h⟩ := gd h
      refine s_iastore dX8_culprit_14 (trX8_4 ho) hb2.1 hb2.2 ?_
      refine s_iinc (ls' := [(2, vI (xw (x2 + 1))), (0, vR o), (1, vR x1)]) (j := 2) dX8_culprit_15 rfl (Nat.le_of_ble_eq_true rfl) rfl ?_
      refine s_goto (tgt := 2) dX8_culprit_18 rfl ?_
      exact s_sub (ks := [1, 2, 0]) rfl (ih o x1 (xw (x2 + 1)) (mset F (o + 2) x2.toNat 0) _ ho hx1 h hq)
theorem fX8_culprit_ok {Qr : Option PV → Mem → Prop} : ∀ (o : Nat) (x1 : Nat) (F : Mem) (res : (Int × Mem)) (ho : isK o 8) (hx1 : x1 = 0 ∨ isK x1 3), fX8_culprit o x1 F = some res → Qr (some (vI res.1)) res.2 → PR cX8_culprit (zX8_culprit Qr) 0 [(0, vR o), (1, vR x1)] [] F := by
  intro o x1 F res ho hx1 h hq
  refine s_iconst dX8_culprit_0 (cin rfl) ?_
  refine s_istore_n (ls' := [(2, vI 0), (0, vR o), (1, vR x1)]) dX8_culprit_1 rfl (Nat.le_of_ble_eq_true rfl) rfl ?_
  exact s_sub (ks := [1, 2, 0]) rfl (fX8_culprit_b2_ok FU o x1 0 F _ ho hx1 h hq)
def gX8_culprit : XG := fun As F r F' => ∃ o : Nat, ∃ x1 : Nat, ∃ res : (Int × Mem), As = [vR o, vR x1] ∧ isK o 8 ∧ (x1 = 0 ∨ isK x1 3) ∧ fX8_culprit o x1 F = some res ∧ r = some (vI res.1) ∧ F' = res.2
theorem ctX8_culprit : xCT yX8_culprit cX8_culprit 5 (some FieldType.int) 5 114 gX8_culprit := xmet (by decide +kernel) (fun As F r F' hg => by obtain ⟨o, x1, res, rfl, ho, hx1, h, rfl, rfl⟩ := hg; exact Nat.le_of_ble_eq_true rfl) (fun As F r F' hg => by obtain ⟨o, x1, res, rfl, ho, hx1, h, rfl, rfl⟩ := hg; exact fX8_culprit_ok o x1 _ _ ho hx1 h ⟨rfl, rfl⟩)
theorem mcX8_culprit : Cond.code yX8_culprit cX8_culprit 5 (some FieldType.int) ∈ xw_T ∧ Cond.initialized yX8_culprit.cls ∈ xw_T ∧ Cond.instanceMethod yX8_culprit ∈ xw_T ∧ Cond.selects yX8_culprit.cls yX8_culprit yX8_culprit ∈ xw_T := ⟨(xinT 1316 (by decide +kernel) (by decide +kernel)), (xinT 123 (by decide +kernel) (by decide +kernel)), (xinT 1314 (by decide +kernel) (by decide +kernel)), (xinT 1315 (by decide +kernel) (by decide +kernel))⟩
theorem clX9_371 {fr lo : Nat} (h1 : 5 + 1 ≤ fr) (h2 : 8 + (5 + 11) + 114 ≤ lo) : xCall RX9 fr lo 0 371 8 1 gX8_culprit := ⟨_, _, _, _, _, _, ctX8_culprit, h1, h2, mcX8_culprit.1, (xinT 1313 (by decide +kernel) (by decide +kernel)), mcX8_culprit.2.1, ⟨by decide +kernel, by decide +kernel, by decide +kernel⟩, by rw [if_pos rfl]; exact ⟨mcX8_culprit.2.2.1, mcX8_culprit.2.2.2, _, _, rfl⟩⟩
