theorem dX9_day_0 : decode cX9_day 0 = .ok (.aload_n 0, 1) := by decide +kernel
theorem dX9_day_1 : decode cX9_day 1 = .ok (.iload_n 1, 1) := by decide +kernel
theorem dX9_day_2 : decode cX9_day 2 = .ok (.iload_n 2, 1) := by decide +kernel
theorem dX9_day_3 : decode cX9_day 3 = .ok (.iload_n 3, 1) := by decide +kernel
theorem dX9_day_4 : decode cX9_day 4 = .ok (.iload 4, 2) := by decide +kernel
theorem dX9_day_6 : decode cX9_day 6 = .ok (.invokevirtual 265, 3) := by decide +kernel
theorem dX9_day_9 : decode cX9_day 9 = .ok (.istore 6, 2) := by decide +kernel
theorem dX9_day_11 : decode cX9_day 11 = .ok (.iload 6, 2) := by decide +kernel
theorem dX9_day_13 : decode cX9_day 13 = .ok (.iconst (-1), 1) := by decide +kernel
theorem dX9_day_14 : decode cX9_day 14 = .ok (.if_icmp .ne 6, 3) := by decide +kernel
theorem dX9_day_17 : decode cX9_day 17 = .ok (.bipush (-2), 2) := by decide +kernel
theorem dX9_day_19 : decode cX9_day 19 = .ok (.ireturn, 1) := by decide +kernel
theorem dX9_day_20 : decode cX9_day 20 = .ok (.aload_n 0, 1) := by decide +kernel
theorem dX9_day_21 : decode cX9_day 21 = .ok (.getfield 58, 3) := by decide +kernel
theorem dX9_day_24 : decode cX9_day 24 = .ok (.aload_n 0, 1) := by decide +kernel
theorem dX9_day_25 : decode cX9_day 25 = .ok (.getfield 51, 3) := by decide +kernel
theorem dX9_day_28 : decode cX9_day 28 = .ok (.invokevirtual 260, 3) := by decide +kernel
theorem dX9_day_31 : decode cX9_day 31 = .ok (.iload 5, 2) := by decide +kernel
theorem dX9_day_33 : decode cX9_day 33 = .ok (.tableswitch 136 0 7 #[47, 59, 71, 86, 102, 117, 124, 131], 47) := by decide +kernel
theorem dX9_day_80 : decode cX9_day 80 = .ok (.iload 6, 2) := by decide +kernel
theorem dX9_day_82 : decode cX9_day 82 = .ok (.aload_n 0, 1) := by decide +kernel
theorem dX9_day_83 : decode cX9_day 83 = .ok (.getfield 51, 3) := by decide +kernel
theorem dX9_day_86 : decode cX9_day 86 = .ok (.iconst 0, 1) := by decide +kernel
theorem dX9_day_87 : decode cX9_day 87 = .ok (.invokevirtual 320, 3) := by decide +kernel
theorem dX9_day_90 : decode cX9_day 90 = .ok (.iadd, 1) := by decide +kernel
theorem dX9_day_91 : decode cX9_day 91 = .ok (.ireturn, 1) := by decide +kernel
theorem dX9_day_92 : decode cX9_day 92 = .ok (.aload_n 0, 1) := by decide +kernel
theorem dX9_day_93 : decode cX9_day 93 = .ok (.getfield 58, 3) := by decide +kernel
theorem dX9_day_96 : decode cX9_day 96 = .ok (.aload_n 0, 1) := by decide +kernel
theorem dX9_day_97 : decode cX9_day 97 = .ok (.getfield 51, 3) := by decide +kernel
theorem dX9_day_100 : decode cX9_day 100 = .ok (.invokevirtual 323, 3) := by decide +kernel
theorem dX9_day_103 : decode cX9_day 103 = .ok (.ireturn, 1) := by decide +kernel
theorem dX9_day_104 : decode cX9_day 104 = .ok (.aload_n 0, 1) := by decide +kernel
theorem dX9_day_105 : decode cX9_day 105 = .ok (.getfield 58, 3) := by decide +kernel
theorem dX9_day_108 : decode cX9_day 108 = .ok (.aload_n 0, 1) := by decide +kernel
theorem dX9_day_109 : decode cX9_day 109 = .ok (.getfield 51, 3) := by decide +kernel
theorem dX9_day_112 : decode cX9_day 112 = .ok (.getfield 327, 3) := by decide +kernel
theorem dX9_day_115 : decode cX9_day 115 = .ok (.invokevirtual 328, 3) := by decide +kernel
theorem dX9_day_118 : decode cX9_day 118 = .ok (.ireturn, 1) := by decide +kernel
theorem dX9_day_119 : decode cX9_day 119 = .ok (.aload_n 0, 1) := by decide +kernel
theorem dX9_day_120 : decode cX9_day 120 = .ok (.getfield 58, 3) := by decide +kernel
theorem dX9_day_123 : decode cX9_day 123 = .ok (.iconst (-1), 1) := by decide +kernel
theorem dX9_day_124 : decode cX9_day 124 = .ok (.aload_n 0, 1) := by decide +kernel
theorem dX9_day_125 : decode cX9_day 125 = .ok (.getfield 51, 3) := by decide +kernel
theorem dX9_day_128 : decode cX9_day 128 = .ok (.getfield 327, 3) := by decide +kernel
theorem dX9_day_131 : decode cX9_day 131 = .ok (.invokevirtual 331, 3) := by decide +kernel
theorem dX9_day_134 : decode cX9_day 134 = .ok (.ireturn, 1) := by decide +kernel
theorem dX9_day_135 : decode cX9_day 135 = .ok (.aload_n 0, 1) := by decide +kernel
theorem dX9_day_136 : decode cX9_day 136 = .ok (.getfield 58, 3) := by decide +kernel
theorem dX9_day_139 : decode cX9_day 139 = .ok (.aload_n 0, 1) := by decide +kernel
theorem dX9_day_140 : decode cX9_day 140 = .ok (.getfield 51, 3) := by decide +kernel
theorem dX9_day_143 : decode cX9_day 143 = .ok (.getfield 327, 3) := by decide +kernel
theorem dX9_day_146 : decode cX9_day 146 = .ok (.invokevirtual 334, 3) := by decide +kernel
theorem dX9_day_149 : decode cX9_day 149 = .ok (.ireturn, 1) := by decide +kernel
theorem dX9_day_150 : decode cX9_day 150 = .ok (.aload_n 0, 1) := by decide +kernel
theorem dX9_day_151 : decode cX9_day 151 = .ok (.iload 6, 2) := by decide +kernel
theorem dX9_day_153 : decode cX9_day 153 = .ok (.invokevirtual 337, 3) := by decide +kernel
theorem dX9_day_156 : decode cX9_day 156 = .ok (.ireturn, 1) := by decide +kernel
theorem dX9_day_157 : decode cX9_day 157 = .ok (.aload_n 0, 1) := by decide +kernel
theorem dX9_day_158 : decode cX9_day 158 = .ok (.iload 6, 2) := by decide +kernel
theorem dX9_day_160 : decode cX9_day 160 = .ok (.invokevirtual 340, 3) := by decide +kernel
theorem dX9_day_163 : decode cX9_day 163 = .ok (.ireturn, 1) := by decide +kernel
theorem dX9_day_164 : decode cX9_day 164 = .ok (.aload_n 0, 1) := by decide +kernel
theorem dX9_day_165 : decode cX9_day 165 = .ok (.invokevirtual 343, 3) := by decide +kernel
theorem dX9_day_168 : decode cX9_day 168 = .ok (.ireturn, 1) := by decide +kernel
theorem dX9_day_169 : decode cX9_day 169 = .ok (.iload 5, 2) := by decide +kernel
theorem dX9_day_171 : decode cX9_day 171 = .ok (.bipush 10, 2) := by decide +kernel
theorem dX9_day_173 : decode cX9_day 173 = .ok (.if_icmp .ge 7, 3) := by decide +kernel
theorem dX9_day_176 : decode cX9_day 176 = .ok (.iconst (-1), 1) := by decide +kernel
theorem dX9_day_177 : decode cX9_day 177 = .ok (.goto 8, 3) := by decide +kernel
theorem dX9_day_180 : decode cX9_day 180 = .ok (.iload 5, 2) := by decide +kernel
theorem dX9_day_182 : decode cX9_day 182 = .ok (.bipush 10, 2) := by decide +kernel
theorem dX9_day_184 : decode cX9_day 184 = .ok (.isub, 1) := by decide +kernel
theorem dX9_day_185 : decode cX9_day 185 = .ok (.istore 7, 2) := by decide +kernel
theorem dX9_day_187 : decode cX9_day 187 = .ok (.aload_n 0, 1) := by decide +kernel
theorem dX9_day_188 : decode cX9_day 188 = .ok (.getfield 51, 3) := by decide +kernel
theorem dX9_day_191 : decode cX9_day 191 = .ok (.getfield 259, 3) := by decide +kernel
theorem dX9_day_194 : decode cX9_day 194 = .ok (.iload 7, 2) := by decide +kernel
theorem dX9_day_196 : decode cX9_day 196 = .ok (.invokevirtual 141, 3) := by decide +kernel
theorem dX9_day_199 : decode cX9_day 199 = .ok (.ifCond .eq 22, 3) := by decide +kernel
theorem dX9_day_202 : decode cX9_day 202 = .ok (.aload_n 0, 1) := by decide +kernel
theorem dX9_day_203 : decode cX9_day 203 = .ok (.getfield 58, 3) := by decide +kernel
theorem dX9_day_206 : decode cX9_day 206 = .ok (.iload 7, 2) := by decide +kernel
theorem dX9_day_208 : decode cX9_day 208 = .ok (.aload_n 0, 1) := by decide +kernel
theorem dX9_day_209 : decode cX9_day 209 = .ok (.getfield 51, 3) := by decide +kernel
theorem dX9_day_212 : decode cX9_day 212 = .ok (.getfield 327, 3) := by decide +kernel
theorem dX9_day_215 : decode cX9_day 215 = .ok (.invokevirtual 331, 3) := by decide +kernel
theorem dX9_day_218 : decode cX9_day 218 = .ok (.goto 5, 3) := by decide +kernel
theorem dX9_day_221 : decode cX9_day 221 = .ok (.bipush (-2), 2) := by decide +kernel
theorem dX9_day_223 : decode cX9_day 223 = .ok (.ireturn, 1) := by decide +kernel
def zX9_day (Qr : Option PV → Mem → Prop) : XZ := (RX9, 7, 166, 8, some FieldType.int, Qr)
noncomputable def fX9_day_b185 (o : Nat) (s0 : Int) (F : Mem) : Option (Int × Mem) :=
  if (F (o + 62) 0).toNat = 0 then none else
  if (fX7_hasHouse ((F (o + 62) 0).toNat) s0 F) = 0 then
    some ((-2), F)
  else
    (fX6_slotsAt (o + 71) s0 (F (o + 62) 4) F).bind fun r4 =>
    some (r4, F)
noncomputable def fX9_day (o : Nat) (x1 : Int) (x2 : Int) (x3 : Int) (x4 : Int) (x5 : Int) (F : Mem) : Option (Int × Mem) :=
  (fX9_gainOfDay o x1 x2 x3 x4 F).bind fun q1 =>
  if q1.1 ≠ (-1) then
    (fX6_follow (o + 71) (o + 62) q1.2).bind fun q4 =>
    if x5 = 0 then
      (fX1_touchRows (o + 62) 0 q4).bind fun r7 =>
      some (xw (q1.1 + r7), q4)
    else
    if x5 = 1 then
      (fX6_spoiled (o + 71) (o + 62) q4).bind fun r10 =>
      some (r10, q4)
    else
    if x5 = 2 then
      (fX6_idle (o + 71) (q4 (o + 62) 4) q4).bind fun r13 =>
      some (r13, q4)
    else
    if x5 = 3 then
      (fX6_slotsAt (o + 71) (-1) (q4 (o + 62) 4) q4).bind fun r16 =>
      some (r16, q4)
    else
    if x5 = 4 then
      (fX6_longest (o + 71) (q4 (o + 62) 4) q4).bind fun r19 =>
      some (r19, q4)
    else
    if x5 = 5 then
      (fX9_dearest o q1.1 q4).bind fun q22 =>
      some (q22.1, q22.2)
    else
    if x5 = 6 then
      (fX9_lesson o q1.1 q4).bind fun q25 =>
      some (q25.1, q25.2)
    else
    if x5 = 7 then
      (fX9_enough o q4).bind fun q28 =>
      some (q28.1, q28.2)
    else
    if 10 ≤ x5 then
      fX9_day_b185 o (xw (x5 - 10)) q4
    else
      fX9_day_b185 o (-1) q4
  else
    some ((-2), q1.2)
theorem fX9_day_b185_ok {Qr : Option PV → Mem → Prop}  : ∀ (o : Nat) (s0 : Int) (F : Mem) (res : (Int × Mem)) (ho : isK o 9), fX9_day_b185 o s0 F = some res → Qr (some (vI res.1)) res.2 → PR cX9_day (zX9_day Qr) 185 [(0, vR o)] [vI s0] F := by
  intro o s0 F res ho h hq
  refine s_istore (ls' := [(7, vI s0), (0, vR o)]) dX9_day_185 (Nat.le_of_ble_eq_true rfl) rfl ?_
  refine s_aload_n (j := 1) dX9_day_187 rfl rfl ?_
  refine s_getR dX9_day_188 flX9_51 ho ?_
  refine s_getM dX9_day_191 flX9_259 (trX9_7 ho) (fun hm1 => ?_)
  have hm1 : _ = 0 ∨ isK ((F (o + 62) 0).toNat) 7 := hm1
  refine s_iload (j := 0) dX9_day_194 rfl ?_
  obtain ⟨hn2, h⟩ := gdn h
  refine s_callV (As := [vI s0]) (rest := []) (r := (some (vI (fX7_hasHouse ((F (o + 62) 0).toNat) s0 F)))) (F' := F) dX9_day_196 (clX9_141 (Nat.le_of_ble_eq_true rfl) (Nat.le_of_ble_eq_true rfl)) (hm1.resolve_left hn2) rfl ⟨_, _, _, rfl, (hm1.resolve_left hn2), rfl, rfl, rfl⟩ rfl (Nat.le_of_ble_eq_true rfl) ?_
  refine s_if_eq (tgt := 221) dX9_day_199 rfl (fun hc3 => ?_) (fun hc3 => ?_)
  · have h := ifp hc3 h
    refine s_bipush dX9_day_221 rfl (cin rfl) ?_
    have h := Option.some.inj h
    subst h
    exact s_ireturn dX9_day_223 rfl hq
  · have h := ifn hc3 h
    refine s_aload_n (j := 1) dX9_day_202 rfl rfl ?_
    refine s_getR dX9_day_203 flX9_58 ho ?_
    refine s_iload (j := 0) dX9_day_206 rfl ?_
    refine s_aload_n (j := 1) dX9_day_208 rfl rfl ?_
    refine s_getR dX9_day_209 flX9_51 ho ?_
    refine s_getI dX9_day_212 flX9_327 (trX9_7 ho) ?_
    obtain ⟨r4, hv5, h⟩ := bnd h
    refine s_callV (As := [vI s0, vI (F (o + 62) 4)]) (rest := []) (r := (some (vI r4))) (F' := F) dX9_day_215 (clX9_331 (Nat.le_of_ble_eq_true rfl) (Nat.le_of_ble_eq_true rfl)) (trX9_8 ho) rfl ⟨_, _, _, _, rfl, (trX9_8 ho), hv5, rfl, rfl⟩ rfl (Nat.le_of_ble_eq_true rfl) ?_
    refine s_goto (tgt := 223) dX9_day_218 rfl ?_
    have h := Option.some.inj h
    subst h
    exact s_ireturn dX9_day_223 rfl hq
theorem fX9_day_ok {Qr : Option PV → Mem → Prop} : ∀ (o : Nat) (x1 : Int) (x2 : Int) (x3 : Int) (x4 : Int) (x5 : Int) (F : Mem) (res : (Int × Mem)) (ho : isK o 9), fX9_day o x1 x2 x3 x4 x5 F = some res → Qr (some (vI res.1)) res.2 → PR cX9_day (zX9_day Qr) 0 [(0, vR o), (1, vI x1), (2, vI x2), (3, vI x3), (4, vI x4), (5, vI x5)] [] F := by
  intro o x1 x2 x3 x4 x5 F res ho h hq
  refine s_aload_n (j := 0) dX9_day_0 rfl rfl ?_
  refine s_iload_n (j := 1) dX9_day_1 rfl rfl ?_
  refine s_iload_n (j := 2) dX9_day_2 rfl rfl ?_
  refine s_iload_n (j := 3) dX9_day_3 rfl rfl ?_
  refine s_iload (j := 4) dX9_day_4 rfl ?_
  obtain ⟨q1, hv2, h⟩ := bnd h
  refine s_callV (As := [vI x1, vI x2, vI x3, vI x4]) (rest := []) (r := (some (vI q1.1))) (F' := q1.2) dX9_day_6 (clX9_265 (Nat.le_of_ble_eq_true rfl) (Nat.le_of_ble_eq_true rfl)) ho rfl ⟨_, _, _, _, _, _, rfl, ho, hv2, rfl, rfl⟩ rfl (Nat.le_of_ble_eq_true rfl) ?_
  refine s_istore (ls' := [(6, vI q1.1), (0, vR o), (1, vI x1), (2, vI x2), (3, vI x3), (4, vI x4), (5, vI x5)]) dX9_day_9 (Nat.le_of_ble_eq_true rfl) rfl ?_
  refine s_iload (j := 0) dX9_day_11 rfl ?_
  refine s_iconst dX9_day_13 (cin rfl) ?_
  refine s_icmp_ne (tgt := 20) dX9_day_14 rfl (fun hc3 => ?_) (fun hc3 => ?_)
  · have h := ifp hc3 h
    refine s_aload_n (j := 1) dX9_day_20 rfl rfl ?_
    refine s_getR dX9_day_21 flX9_58 ho ?_
    refine s_aload_n (j := 1) dX9_day_24 rfl rfl ?_
    refine s_getR dX9_day_25 flX9_51 ho ?_
    obtain ⟨q4, hv5, h⟩ := bnd h
    refine s_callV (As := [vR (o + 62)]) (rest := []) (r := none) (F' := q4) dX9_day_28 (clX9_260 (Nat.le_of_ble_eq_true rfl) (Nat.le_of_ble_eq_true rfl)) (trX9_8 ho) rfl ⟨_, _, _, rfl, (trX9_8 ho), (Or.inr (trX9_7 ho)), hv5, rfl, rfl⟩ rfl (Nat.le_of_ble_eq_true rfl) ?_
    refine s_iload (j := 6) dX9_day_31 rfl ?_
    by_cases hc6 : x5 = 0
    · have h := ifp hc6 h
      refine s_tabIn (tgt := 80) (off := 47) dX9_day_33 (by omega) (by omega) (by rw [hc6]; rfl) rfl ?_
      refine s_iload (j := 0) dX9_day_80 rfl ?_
      refine s_aload_n (j := 1) dX9_day_82 rfl rfl ?_
      refine s_getR dX9_day_83 flX9_51 ho ?_
      refine s_iconst dX9_day_86 (cin rfl) ?_
      obtain ⟨r7, hv8, h⟩ := bnd h
      refine s_callV (As := [vI 0]) (rest := [vI q1.1]) (r := (some (vI r7))) (F' := q4) dX9_day_87 (clX9_320 (Nat.le_of_ble_eq_true rfl) (Nat.le_of_ble_eq_true rfl)) (trX9_7 ho) rfl ⟨_, _, _, rfl, (trX9_7 ho), hv8, rfl, rfl⟩ rfl (Nat.le_of_ble_eq_true rfl) ?_
      refine s_iadd dX9_day_90 ?_
      have h := Option.some.inj h
      subst h
      exact s_ireturn dX9_day_91 rfl hq
    have h := ifn hc6 h
    by_cases hc9 : x5 = 1
    · have h := ifp hc9 h
      refine s_tabIn (tgt := 92) (off := 59) dX9_day_33 (by omega) (by omega) (by rw [hc9]; rfl) rfl ?_
      refine s_aload_n (j := 1) dX9_day_92 rfl rfl ?_
      refine s_getR dX9_day_93 flX9_58 ho ?_
      refine s_aload_n (j := 1) dX9_day_96 rfl rfl ?_
      refine s_getR dX9_day_97 flX9_51 ho ?_
      obtain ⟨r10, hv11, h⟩ := bnd h
      refine s_callV (As := [vR (o + 62)]) (rest := []) (r := (some (vI r10))) (F' := q4) dX9_day_100 (clX9_323 (Nat.le_of_ble_eq_true rfl) (Nat.le_of_ble_eq_true rfl)) (trX9_8 ho) rfl ⟨_, _, _, rfl, (trX9_8 ho), (Or.inr (trX9_7 ho)), hv11, rfl, rfl⟩ rfl (Nat.le_of_ble_eq_true rfl) ?_
      have h := Option.some.inj h
      subst h
      exact s_ireturn dX9_day_103 rfl hq
    have h := ifn hc9 h
    by_cases hc12 : x5 = 2
    · have h := ifp hc12 h
      refine s_tabIn (tgt := 104) (off := 71) dX9_day_33 (by omega) (by omega) (by rw [hc12]; rfl) rfl ?_
      refine s_aload_n (j := 1) dX9_day_104 rfl rfl ?_
      refine s_getR dX9_day_105 flX9_58 ho ?_
      refine s_aload_n (j := 1) dX9_day_108 rfl rfl ?_
      refine s_getR dX9_day_109 flX9_51 ho ?_
      refine s_getI dX9_day_112 flX9_327 (trX9_7 ho) ?_
      obtain ⟨r13, hv14, h⟩ := bnd h
      refine s_callV (As := [vI (q4 (o + 62) 4)]) (rest := []) (r := (some (vI r13))) (F' := q4) dX9_day_115 (clX9_328 (Nat.le_of_ble_eq_true rfl) (Nat.le_of_ble_eq_true rfl)) (trX9_8 ho) rfl ⟨_, _, _, rfl, (trX9_8 ho), hv14, rfl, rfl⟩ rfl (Nat.le_of_ble_eq_true rfl) ?_
      have h := Option.some.inj h
      subst h
      exact s_ireturn dX9_day_118 rfl hq
    have h := ifn hc12 h
    by_cases hc15 : x5 = 3
    · have h := ifp hc15 h
      refine s_tabIn (tgt := 119) (off := 86) dX9_day_33 (by omega) (by omega) (by rw [hc15]; rfl) rfl ?_
      refine s_aload_n (j := 1) dX9_day_119 rfl rfl ?_
      refine s_getR dX9_day_120 flX9_58 ho ?_
      refine s_iconst dX9_day_123 (cin rfl) ?_
      refine s_aload_n (j := 1) dX9_day_124 rfl rfl ?_
      refine s_getR dX9_day_125 flX9_51 ho ?_
      refine s_getI dX9_day_128 flX9_327 (trX9_7 ho) ?_
      obtain ⟨r16, hv17, h⟩ := bnd h
      refine s_callV (As := [vI (-1), vI (q4 (o + 62) 4)]) (rest := []) (r := (some (vI r16))) (F' := q4) dX9_day_131 (clX9_331 (Nat.le_of_ble_eq_true rfl) (Nat.le_of_ble_eq_true rfl)) (trX9_8 ho) rfl ⟨_, _, _, _, rfl, (trX9_8 ho), hv17, rfl, rfl⟩ rfl (Nat.le_of_ble_eq_true rfl) ?_
      have h := Option.some.inj h
      subst h
      exact s_ireturn dX9_day_134 rfl hq
    have h := ifn hc15 h
    by_cases hc18 : x5 = 4
    · have h := ifp hc18 h
      refine s_tabIn (tgt := 135) (off := 102) dX9_day_33 (by omega) (by omega) (by rw [hc18]; rfl) rfl ?_
      refine s_aload_n (j := 1) dX9_day_135 rfl rfl ?_
      refine s_getR dX9_day_136 flX9_58 ho ?_
      refine s_aload_n (j := 1) dX9_day_139 rfl rfl ?_
      refine s_getR dX9_day_140 flX9_51 ho ?_
      refine s_getI dX9_day_143 flX9_327 (trX9_7 ho) ?_
      obtain ⟨r19, hv20, h⟩ := bnd h
      refine s_callV (As := [vI (q4 (o + 62) 4)]) (rest := []) (r := (some (vI r19))) (F' := q4) dX9_day_146 (clX9_334 (Nat.le_of_ble_eq_true rfl) (Nat.le_of_ble_eq_true rfl)) (trX9_8 ho) rfl ⟨_, _, _, rfl, (trX9_8 ho), hv20, rfl, rfl⟩ rfl (Nat.le_of_ble_eq_true rfl) ?_
      have h := Option.some.inj h
      subst h
      exact s_ireturn dX9_day_149 rfl hq
    have h := ifn hc18 h
    by_cases hc21 : x5 = 5
    · have h := ifp hc21 h
      refine s_tabIn (tgt := 150) (off := 117) dX9_day_33 (by omega) (by omega) (by rw [hc21]; rfl) rfl ?_
      refine s_aload_n (j := 1) dX9_day_150 rfl rfl ?_
      refine s_iload (j := 0) dX9_day_151 rfl ?_
      obtain ⟨q22, hv23, h⟩ := bnd h
      refine s_callV (As := [vI q1.1]) (rest := []) (r := (some (vI q22.1))) (F' := q22.2) dX9_day_153 (clX9_337 (Nat.le_of_ble_eq_true rfl) (Nat.le_of_ble_eq_true rfl)) ho rfl ⟨_, _, _, rfl, ho, hv23, rfl, rfl⟩ rfl (Nat.le_of_ble_eq_true rfl) ?_
      have h := Option.some.inj h
      subst h
      exact s_ireturn dX9_day_156 rfl hq
    have h := ifn hc21 h
    by_cases hc24 : x5 = 6
    · have h := ifp hc24 h
      refine s_tabIn (tgt := 157) (off := 124) dX9_day_33 (by omega) (by omega) (by rw [hc24]; rfl) rfl ?_
      refine s_aload_n (j := 1) dX9_day_157 rfl rfl ?_
      refine s_iload (j := 0) dX9_day_158 rfl ?_
      obtain ⟨q25, hv26, h⟩ := bnd h
      refine s_callV (As := [vI q1.1]) (rest := []) (r := (some (vI q25.1))) (F' := q25.2) dX9_day_160 (clX9_340 (Nat.le_of_ble_eq_true rfl) (Nat.le_of_ble_eq_true rfl)) ho rfl ⟨_, _, _, rfl, ho, hv26, rfl, rfl⟩ rfl (Nat.le_of_ble_eq_true rfl) ?_
      have h := Option.some.inj h
      subst h
      exact s_ireturn dX9_day_163 rfl hq
    have h := ifn hc24 h
    by_cases hc27 : x5 = 7
    · have h := ifp hc27 h
      refine s_tabIn (tgt := 164) (off := 131) dX9_day_33 (by omega) (by omega) (by rw [hc27]; rfl) rfl ?_
      refine s_aload_n (j := 1) dX9_day_164 rfl rfl ?_
      obtain ⟨q28, hv29, h⟩ := bnd h
      refine s_callV (As := []) (rest := []) (r := (some (vI q28.1))) (F' := q28.2) dX9_day_165 (clX9_343 (Nat.le_of_ble_eq_true rfl) (Nat.le_of_ble_eq_true rfl)) ho rfl ⟨_, _, rfl, ho, hv29, rfl, rfl⟩ rfl (Nat.le_of_ble_eq_true rfl) ?_
      have h := Option.some.inj h
      subst h
      exact s_ireturn dX9_day_168 rfl hq
    have h := ifn hc27 h
    refine s_tabOut (tgt := 169) dX9_day_33 (by omega) rfl ?_
    refine s_iload (j := 6) dX9_day_169 rfl ?_
    refine s_bipush dX9_day_171 rfl (cin rfl) ?_
    refine s_icmp_ge (tgt := 180) dX9_day_173 rfl (fun hc30 => ?_) (fun hc30 => ?_)
    · have h := ifp hc30 h
      refine s_iload (j := 6) dX9_day_180 rfl ?_
      refine s_bipush dX9_day_182 rfl (cin rfl) ?_
      refine s_isub dX9_day_184 ?_
      exact s_sub (ks := [1]) rfl (fX9_day_b185_ok o (xw (x5 - 10)) q4 _ ho h hq)
    · have h := ifn hc30 h
      refine s_iconst dX9_day_176 (cin rfl) ?_
      refine s_goto (tgt := 185) dX9_day_177 rfl ?_
      exact s_sub (ks := [1]) rfl (fX9_day_b185_ok o (-1) q4 _ ho h hq)
  · have h := ifn hc3 h
    refine s_bipush dX9_day_17 rfl (cin rfl) ?_
    have h := Option.some.inj h
    subst h
    exact s_ireturn dX9_day_19 rfl hq
def gX9_day : XG := fun As F r F' => ∃ o : Nat, ∃ x1 : Int, ∃ x2 : Int, ∃ x3 : Int, ∃ x4 : Int, ∃ x5 : Int, ∃ res : (Int × Mem), As = [vR o, vI x1, vI x2, vI x3, vI x4, vI x5] ∧ isK o 9 ∧ fX9_day o x1 x2 x3 x4 x5 F = some res ∧ r = some (vI res.1) ∧ F' = res.2
theorem ctX9_day : xCT yX9_day cX9_day 8 (some FieldType.int) 7 166 gX9_day := xmet (by decide +kernel) (fun As F r F' hg => by obtain ⟨o, x1, x2, x3, x4, x5, res, rfl, ho, h, rfl, rfl⟩ := hg; exact Nat.le_of_ble_eq_true rfl) (fun As F r F' hg => by obtain ⟨o, x1, x2, x3, x4, x5, res, rfl, ho, h, rfl, rfl⟩ := hg; exact fX9_day_ok o x1 x2 x3 x4 x5 _ _ ho h ⟨rfl, rfl⟩)
theorem mcX9_day : Cond.code yX9_day cX9_day 8 (some FieldType.int) ∈ xw_T ∧ Cond.initialized yX9_day.cls ∈ xw_T ∧ Cond.instanceMethod yX9_day ∈ xw_T ∧ Cond.selects yX9_day.cls yX9_day yX9_day ∈ xw_T := ⟨(xinT 1194 (by decide +kernel) (by decide +kernel)), (xinT 116 (by decide +kernel) (by decide +kernel)), (xinT 1192 (by decide +kernel) (by decide +kernel)), (xinT 1193 (by decide +kernel) (by decide +kernel))⟩
theorem dX9_home_0 : decode cX9_home 0 = .ok (.iload 5, 2) := by decide +kernel
theorem dX9_home_2 : decode cX9_home 2 = .ok (.ifCond .lt 22, 3) := by decide +kernel
theorem dX9_home_5 : decode cX9_home 5 = .ok (.iload 5, 2) := by decide +kernel
theorem dX9_home_7 : decode cX9_home 7 = .ok (.iconst 1, 1) := by decide +kernel
theorem dX9_home_8 : decode cX9_home 8 = .ok (.if_icmp .gt 16, 3) := by decide +kernel
theorem dX9_home_11 : decode cX9_home 11 = .ok (.aload_n 0, 1) := by decide +kernel
theorem dX9_home_12 : decode cX9_home 12 = .ok (.iload_n 1, 1) := by decide +kernel
theorem dX9_home_13 : decode cX9_home 13 = .ok (.iload_n 2, 1) := by decide +kernel
theorem dX9_home_14 : decode cX9_home 14 = .ok (.iload_n 3, 1) := by decide +kernel
theorem dX9_home_15 : decode cX9_home 15 = .ok (.iload 4, 2) := by decide +kernel
theorem dX9_home_17 : decode cX9_home 17 = .ok (.invokevirtual 265, 3) := by decide +kernel
theorem dX9_home_20 : decode cX9_home 20 = .ok (.iconst (-1), 1) := by decide +kernel
theorem dX9_home_21 : decode cX9_home 21 = .ok (.if_icmp .ne 6, 3) := by decide +kernel
theorem dX9_home_24 : decode cX9_home 24 = .ok (.bipush (-2), 2) := by decide +kernel
theorem dX9_home_26 : decode cX9_home 26 = .ok (.ireturn, 1) := by decide +kernel
theorem dX9_home_27 : decode cX9_home 27 = .ok (.iload 5, 2) := by decide +kernel
theorem dX9_home_29 : decode cX9_home 29 = .ok (.ifCond .ne 21, 3) := by decide +kernel
theorem dX9_home_32 : decode cX9_home 32 = .ok (.aload_n 0, 1) := by decide +kernel
theorem dX9_home_33 : decode cX9_home 33 = .ok (.getfield 51, 3) := by decide +kernel
theorem dX9_home_36 : decode cX9_home 36 = .ok (.aload_n 0, 1) := by decide +kernel
theorem dX9_home_37 : decode cX9_home 37 = .ok (.getfield 51, 3) := by decide +kernel
theorem dX9_home_40 : decode cX9_home 40 = .ok (.getfield 259, 3) := by decide +kernel
theorem dX9_home_43 : decode cX9_home 43 = .ok (.getfield 123, 3) := by decide +kernel
theorem dX9_home_46 : decode cX9_home 46 = .ok (.invokevirtual 254, 3) := by decide +kernel
theorem dX9_home_49 : decode cX9_home 49 = .ok (.ireturn, 1) := by decide +kernel
theorem dX9_home_50 : decode cX9_home 50 = .ok (.aload_n 0, 1) := by decide +kernel
theorem dX9_home_51 : decode cX9_home 51 = .ok (.getfield 58, 3) := by decide +kernel
theorem dX9_home_54 : decode cX9_home 54 = .ok (.aload_n 0, 1) := by decide +kernel
theorem dX9_home_55 : decode cX9_home 55 = .ok (.getfield 51, 3) := by decide +kernel
theorem dX9_home_58 : decode cX9_home 58 = .ok (.invokevirtual 260, 3) := by decide +kernel
theorem dX9_home_61 : decode cX9_home 61 = .ok (.aload_n 0, 1) := by decide +kernel
theorem dX9_home_62 : decode cX9_home 62 = .ok (.getfield 58, 3) := by decide +kernel
theorem dX9_home_65 : decode cX9_home 65 = .ok (.getfield 346, 3) := by decide +kernel
theorem dX9_home_68 : decode cX9_home 68 = .ok (.ireturn, 1) := by decide +kernel
def zX9_home (Qr : Option PV → Mem → Prop) : XZ := (RX9, 7, 166, 6, some FieldType.int, Qr)
noncomputable def fX9_home (o : Nat) (x1 : Int) (x2 : Int) (x3 : Int) (x4 : Int) (x5 : Int) (F : Mem) : Option (Int × Mem) :=
  if x5 < 0 then
    some ((-2), F)
  else
    if 1 < x5 then
      some ((-2), F)
    else
      (fX9_gainOfDay o x1 x2 x3 x4 F).bind fun q3 =>
      if q3.1 ≠ (-1) then
        if x5 ≠ 0 then
          (fX6_follow (o + 71) (o + 62) q3.2).bind fun q7 =>
          some (q7 (o + 71) 4, q7)
        else
          if (q3.2 (o + 62) 0).toNat = 0 then none else
          (fX1_solve (o + 62) (q3.2 ((q3.2 (o + 62) 0).toNat) 4) q3.2).bind fun q11 =>
          some (q11.1, q11.2)
      else
        some ((-2), q3.2)
theorem fX9_home_ok {Qr : Option PV → Mem → Prop} : ∀ (o : Nat) (x1 : Int) (x2 : Int) (x3 : Int) (x4 : Int) (x5 : Int) (F : Mem) (res : (Int × Mem)) (ho : isK o 9), fX9_home o x1 x2 x3 x4 x5 F = some res → Qr (some (vI res.1)) res.2 → PR cX9_home (zX9_home Qr) 0 [(0, vR o), (1, vI x1), (2, vI x2), (3, vI x3), (4, vI x4), (5, vI x5)] [] F := by
  intro o x1 x2 x3 x4 x5 F res ho h hq
  refine s_iload (j := 5) dX9_home_0 rfl ?_
  refine s_if_lt (tgt := 24) dX9_home_2 rfl (fun hc1 => ?_) (fun hc1 => ?_)
  · have h := ifp hc1 h
    refine s_bipush dX9_home_24 rfl (cin rfl) ?_
    have h := Option.some.inj h
    subst h
    exact s_ireturn dX9_home_26 rfl hq
  · have h := ifn hc1 h
    refine s_iload (j := 5) dX9_home_5 rfl ?_
    refine s_iconst dX9_home_7 (cin rfl) ?_
    refine s_icmp_gt (tgt := 24) dX9_home_8 rfl (fun hc2 => ?_) (fun hc2 => ?_)
    · have h := ifp hc2 h
      refine s_bipush dX9_home_24 rfl (cin rfl) ?_
      have h := Option.some.inj h
      subst h
      exact s_ireturn dX9_home_26 rfl hq
    · have h := ifn hc2 h
      refine s_aload_n (j := 0) dX9_home_11 rfl rfl ?_
      refine s_iload_n (j := 1) dX9_home_12 rfl rfl ?_
      refine s_iload_n (j := 2) dX9_home_13 rfl rfl ?_
      refine s_iload_n (j := 3) dX9_home_14 rfl rfl ?_
      refine s_iload (j := 4) dX9_home_15 rfl ?_
      obtain ⟨q3, hv4, h⟩ := bnd h
      refine s_callV (As := [vI x1, vI x2, vI x3, vI x4]) (rest := []) (r := (some (vI q3.1))) (F' := q3.2) dX9_home_17 (clX9_265 (Nat.le_of_ble_eq_true rfl) (Nat.le_of_ble_eq_true rfl)) ho rfl ⟨_, _, _, _, _, _, rfl, ho, hv4, rfl, rfl⟩ rfl (Nat.le_of_ble_eq_true rfl) ?_
      refine s_iconst dX9_home_20 (cin rfl) ?_
      refine s_icmp_ne (tgt := 27) dX9_home_21 rfl (fun hc5 => ?_) (fun hc5 => ?_)
      · have h := ifp hc5 h
        refine s_iload (j := 5) dX9_home_27 rfl ?_
        refine s_if_ne (tgt := 50) dX9_home_29 rfl (fun hc6 => ?_) (fun hc6 => ?_)
        · have h := ifp hc6 h
          refine s_aload_n (j := 0) dX9_home_50 rfl rfl ?_
          refine s_getR dX9_home_51 flX9_58 ho ?_
          refine s_aload_n (j := 0) dX9_home_54 rfl rfl ?_
          refine s_getR dX9_home_55 flX9_51 ho ?_
          obtain ⟨q7, hv8, h⟩ := bnd h
          refine s_callV (As := [vR (o + 62)]) (rest := []) (r := none) (F' := q7) dX9_home_58 (clX9_260 (Nat.le_of_ble_eq_true rfl) (Nat.le_of_ble_eq_true rfl)) (trX9_8 ho) rfl ⟨_, _, _, rfl, (trX9_8 ho), (Or.inr (trX9_7 ho)), hv8, rfl, rfl⟩ rfl (Nat.le_of_ble_eq_true rfl) ?_
          refine s_aload_n (j := 0) dX9_home_61 rfl rfl ?_
          refine s_getR dX9_home_62 flX9_58 ho ?_
          refine s_getI dX9_home_65 flX9_346 (trX9_8 ho) ?_
          have h := Option.some.inj h
          subst h
          exact s_ireturn dX9_home_68 rfl hq
        · have h := ifn hc6 h
          refine s_aload_n (j := 0) dX9_home_32 rfl rfl ?_
          refine s_getR dX9_home_33 flX9_51 ho ?_
          refine s_aload_n (j := 0) dX9_home_36 rfl rfl ?_
          refine s_getR dX9_home_37 flX9_51 ho ?_
          refine s_getM dX9_home_40 flX9_259 (trX9_7 ho) (fun hm9 => ?_)
          have hm9 : _ = 0 ∨ isK ((q3.2 (o + 62) 0).toNat) 7 := hm9
          obtain ⟨hn10, h⟩ := gdn h
          refine s_getI dX9_home_43 flX9_123 (hm9.resolve_left hn10) ?_
          obtain ⟨q11, hv12, h⟩ := bnd h
          refine s_callV (As := [vI (q3.2 ((q3.2 (o + 62) 0).toNat) 4)]) (rest := []) (r := (some (vI q11.1))) (F' := q11.2) dX9_home_46 (clX9_254 (Nat.le_of_ble_eq_true rfl) (Nat.le_of_ble_eq_true rfl)) (trX9_7 ho) rfl ⟨_, _, _, rfl, (trX9_7 ho), hv12, rfl, rfl⟩ rfl (Nat.le_of_ble_eq_true rfl) ?_
          have h := Option.some.inj h
          subst h
          exact s_ireturn dX9_home_49 rfl hq
      · have h := ifn hc5 h
        refine s_bipush dX9_home_24 rfl (cin rfl) ?_
        have h := Option.some.inj h
        subst h
        exact s_ireturn dX9_home_26 rfl hq
def gX9_home : XG := fun As F r F' => ∃ o : Nat, ∃ x1 : Int, ∃ x2 : Int, ∃ x3 : Int, ∃ x4 : Int, ∃ x5 : Int, ∃ res : (Int × Mem), As = [vR o, vI x1, vI x2, vI x3, vI x4, vI x5] ∧ isK o 9 ∧ fX9_home o x1 x2 x3 x4 x5 F = some res ∧ r = some (vI res.1) ∧ F' = res.2
theorem ctX9_home : xCT yX9_home cX9_home 6 (some FieldType.int) 7 166 gX9_home := xmet (by decide +kernel) (fun As F r F' hg => by obtain ⟨o, x1, x2, x3, x4, x5, res, rfl, ho, h, rfl, rfl⟩ := hg; exact Nat.le_of_ble_eq_true rfl) (fun As F r F' hg => by obtain ⟨o, x1, x2, x3, x4, x5, res, rfl, ho, h, rfl, rfl⟩ := hg; exact fX9_home_ok o x1 x2 x3 x4 x5 _ _ ho h ⟨rfl, rfl⟩)
theorem mcX9_home : Cond.code yX9_home cX9_home 6 (some FieldType.int) ∈ xw_T ∧ Cond.initialized yX9_home.cls ∈ xw_T ∧ Cond.instanceMethod yX9_home ∈ xw_T ∧ Cond.selects yX9_home.cls yX9_home yX9_home ∈ xw_T := ⟨(xinT 1247 (by decide +kernel) (by decide +kernel)), (xinT 116 (by decide +kernel) (by decide +kernel)), (xinT 1245 (by decide +kernel) (by decide +kernel)), (xinT 1246 (by decide +kernel) (by decide +kernel))⟩
theorem dX9_ways_0 : decode cX9_ways 0 = .ok (.aload_n 0, 1) := by decide +kernel
theorem dX9_ways_1 : decode cX9_ways 1 = .ok (.iload_n 1, 1) := by decide +kernel
theorem dX9_ways_2 : decode cX9_ways 2 = .ok (.iload_n 2, 1) := by decide +kernel
theorem dX9_ways_3 : decode cX9_ways 3 = .ok (.iload_n 3, 1) := by decide +kernel
theorem dX9_ways_4 : decode cX9_ways 4 = .ok (.iload 4, 2) := by decide +kernel
theorem dX9_ways_6 : decode cX9_ways 6 = .ok (.invokevirtual 265, 3) := by decide +kernel
theorem dX9_ways_9 : decode cX9_ways 9 = .ok (.iconst (-1), 1) := by decide +kernel
theorem dX9_ways_10 : decode cX9_ways 10 = .ok (.if_icmp .ne 9, 3) := by decide +kernel
theorem dX9_ways_13 : decode cX9_ways 13 = .ok (.ldc2_w 349, 3) := by decide +kernel
theorem dX9_ways_16 : decode cX9_ways 16 = .ok (.goto 14, 3) := by decide +kernel
theorem dX9_ways_19 : decode cX9_ways 19 = .ok (.aload_n 0, 1) := by decide +kernel
theorem dX9_ways_20 : decode cX9_ways 20 = .ok (.getfield 58, 3) := by decide +kernel
theorem dX9_ways_23 : decode cX9_ways 23 = .ok (.aload_n 0, 1) := by decide +kernel
theorem dX9_ways_24 : decode cX9_ways 24 = .ok (.getfield 51, 3) := by decide +kernel
theorem dX9_ways_27 : decode cX9_ways 27 = .ok (.invokevirtual 351, 3) := by decide +kernel
theorem dX9_ways_30 : decode cX9_ways 30 = .ok (.lreturn, 1) := by decide +kernel
def zX9_ways (Qr : Option PV → Mem → Prop) : XZ := (RX9, 7, 166, 5, some FieldType.long, Qr)
noncomputable def fX9_ways (o : Nat) (x1 : Int) (x2 : Int) (x3 : Int) (x4 : Int) (F : Mem) : Option (Int × Mem) :=
  (fX9_gainOfDay o x1 x2 x3 x4 F).bind fun q1 =>
  if q1.1 ≠ (-1) then
    (fX6_countWays (o + 71) (o + 62) q1.2).bind fun q4 =>
    some (q4.1, q4.2)
  else
    some ((-2), q1.2)
theorem fX9_ways_ok {Qr : Option PV → Mem → Prop} : ∀ (o : Nat) (x1 : Int) (x2 : Int) (x3 : Int) (x4 : Int) (F : Mem) (res : (Int × Mem)) (ho : isK o 9), fX9_ways o x1 x2 x3 x4 F = some res → Qr (some (vL res.1)) res.2 → PR cX9_ways (zX9_ways Qr) 0 [(0, vR o), (1, vI x1), (2, vI x2), (3, vI x3), (4, vI x4)] [] F := by
  intro o x1 x2 x3 x4 F res ho h hq
  refine s_aload_n (j := 0) dX9_ways_0 rfl rfl ?_
  refine s_iload_n (j := 1) dX9_ways_1 rfl rfl ?_
  refine s_iload_n (j := 2) dX9_ways_2 rfl rfl ?_
  refine s_iload_n (j := 3) dX9_ways_3 rfl rfl ?_
  refine s_iload (j := 4) dX9_ways_4 rfl ?_
  obtain ⟨q1, hv2, h⟩ := bnd h
  refine s_callV (As := [vI x1, vI x2, vI x3, vI x4]) (rest := []) (r := (some (vI q1.1))) (F' := q1.2) dX9_ways_6 (clX9_265 (Nat.le_of_ble_eq_true rfl) (Nat.le_of_ble_eq_true rfl)) ho rfl ⟨_, _, _, _, _, _, rfl, ho, hv2, rfl, rfl⟩ rfl (Nat.le_of_ble_eq_true rfl) ?_
  refine s_iconst dX9_ways_9 (cin rfl) ?_
  refine s_icmp_ne (tgt := 19) dX9_ways_10 rfl (fun hc3 => ?_) (fun hc3 => ?_)
  · have h := ifp hc3 h
    refine s_aload_n (j := 0) dX9_ways_19 rfl rfl ?_
    refine s_getR dX9_ways_20 flX9_58 ho ?_
    refine s_aload_n (j := 0) dX9_ways_23 rfl rfl ?_
    refine s_getR dX9_ways_24 flX9_51 ho ?_
    obtain ⟨q4, hv5, h⟩ := bnd h
    refine s_callV (As := [vR (o + 62)]) (rest := []) (r := (some (vL q4.1))) (F' := q4.2) dX9_ways_27 (clX9_351 (Nat.le_of_ble_eq_true rfl) (Nat.le_of_ble_eq_true rfl)) (trX9_8 ho) rfl ⟨_, _, _, rfl, (trX9_8 ho), (Or.inr (trX9_7 ho)), hv5, rfl, rfl⟩ rfl (Nat.le_of_ble_eq_true rfl) ?_
    have h := Option.some.inj h
    subst h
    exact s_lreturn dX9_ways_30 rfl hq
  · have h := ifn hc3 h
    refine s_ldc2 dX9_ways_13 kcX9_349 (cin64 rfl) ?_
    refine s_goto (tgt := 30) dX9_ways_16 rfl ?_
    have h := Option.some.inj h
    subst h
    exact s_lreturn dX9_ways_30 rfl hq
def gX9_ways : XG := fun As F r F' => ∃ o : Nat, ∃ x1 : Int, ∃ x2 : Int, ∃ x3 : Int, ∃ x4 : Int, ∃ res : (Int × Mem), As = [vR o, vI x1, vI x2, vI x3, vI x4] ∧ isK o 9 ∧ fX9_ways o x1 x2 x3 x4 F = some res ∧ r = some (vL res.1) ∧ F' = res.2
theorem ctX9_ways : xCT yX9_ways cX9_ways 5 (some FieldType.long) 7 166 gX9_ways := xmet (by decide +kernel) (fun As F r F' hg => by obtain ⟨o, x1, x2, x3, x4, res, rfl, ho, h, rfl, rfl⟩ := hg; exact Nat.le_of_ble_eq_true rfl) (fun As F r F' hg => by obtain ⟨o, x1, x2, x3, x4, res, rfl, ho, h, rfl, rfl⟩ := hg; exact fX9_ways_ok o x1 x2 x3 x4 _ _ ho h ⟨rfl, rfl⟩)
theorem mcX9_ways : Cond.code yX9_ways cX9_ways 5 (some FieldType.long) ∈ xw_T ∧ Cond.initialized yX9_ways.cls ∈ xw_T ∧ Cond.instanceMethod yX9_ways ∈ xw_T ∧ Cond.selects yX9_ways.cls yX9_ways yX9_ways ∈ xw_T := ⟨(xinT 1251 (by decide +kernel) (by decide +kernel)), (xinT 116 (by decide +kernel) (by decide +kernel)), (xinT 1249 (by decide +kernel) (by decide +kernel)), (xinT 1250 (by decide +kernel) (by decide +kernel))⟩
theorem dX9_buys_0 : decode cX9_buys 0 = .ok (.aload_n 0, 1) := by decide +kernel
theorem dX9_buys_1 : decode cX9_buys 1 = .ok (.iload_n 1, 1) := by decide +kernel
theorem dX9_buys_2 : decode cX9_buys 2 = .ok (.iload_n 2, 1) := by decide +kernel
theorem dX9_buys_3 : decode cX9_buys 3 = .ok (.iload_n 3, 1) := by decide +kernel
theorem dX9_buys_4 : decode cX9_buys 4 = .ok (.iload 4, 2) := by decide +kernel
theorem dX9_buys_6 : decode cX9_buys 6 = .ok (.invokevirtual 265, 3) := by decide +kernel
theorem dX9_buys_9 : decode cX9_buys 9 = .ok (.istore 7, 2) := by decide +kernel
theorem dX9_buys_11 : decode cX9_buys 11 = .ok (.iload 7, 2) := by decide +kernel
theorem dX9_buys_13 : decode cX9_buys 13 = .ok (.iconst (-1), 1) := by decide +kernel
theorem dX9_buys_14 : decode cX9_buys 14 = .ok (.if_icmp .eq 18, 3) := by decide +kernel
theorem dX9_buys_17 : decode cX9_buys 17 = .ok (.aload_n 0, 1) := by decide +kernel
theorem dX9_buys_18 : decode cX9_buys 18 = .ok (.getfield 51, 3) := by decide +kernel
theorem dX9_buys_21 : decode cX9_buys 21 = .ok (.getfield 259, 3) := by decide +kernel
theorem dX9_buys_24 : decode cX9_buys 24 = .ok (.iload 5, 2) := by decide +kernel
theorem dX9_buys_26 : decode cX9_buys 26 = .ok (.invokevirtual 141, 3) := by decide +kernel
theorem dX9_buys_29 : decode cX9_buys 29 = .ok (.ifCond .ne 6, 3) := by decide +kernel
theorem dX9_buys_32 : decode cX9_buys 32 = .ok (.bipush (-2), 2) := by decide +kernel
theorem dX9_buys_34 : decode cX9_buys 34 = .ok (.ireturn, 1) := by decide +kernel
theorem dX9_buys_35 : decode cX9_buys 35 = .ok (.aload_n 0, 1) := by decide +kernel
theorem dX9_buys_36 : decode cX9_buys 36 = .ok (.getfield 65, 3) := by decide +kernel
theorem dX9_buys_39 : decode cX9_buys 39 = .ok (.aload_n 0, 1) := by decide +kernel
theorem dX9_buys_40 : decode cX9_buys 40 = .ok (.getfield 51, 3) := by decide +kernel
theorem dX9_buys_43 : decode cX9_buys 43 = .ok (.iload 7, 2) := by decide +kernel
theorem dX9_buys_45 : decode cX9_buys 45 = .ok (.iload 5, 2) := by decide +kernel
theorem dX9_buys_47 : decode cX9_buys 47 = .ok (.invokevirtual 355, 3) := by decide +kernel
theorem dX9_buys_50 : decode cX9_buys 50 = .ok (.iload 6, 2) := by decide +kernel
theorem dX9_buys_52 : decode cX9_buys 52 = .ok (.iconst (-1), 1) := by decide +kernel
theorem dX9_buys_53 : decode cX9_buys 53 = .ok (.if_icmp .ne 11, 3) := by decide +kernel
theorem dX9_buys_56 : decode cX9_buys 56 = .ok (.aload_n 0, 1) := by decide +kernel
theorem dX9_buys_57 : decode cX9_buys 57 = .ok (.getfield 65, 3) := by decide +kernel
theorem dX9_buys_60 : decode cX9_buys 60 = .ok (.getfield 359, 3) := by decide +kernel
theorem dX9_buys_63 : decode cX9_buys 63 = .ok (.ireturn, 1) := by decide +kernel
theorem dX9_buys_64 : decode cX9_buys 64 = .ok (.iload 6, 2) := by decide +kernel
theorem dX9_buys_66 : decode cX9_buys 66 = .ok (.bipush (-2), 2) := by decide +kernel
theorem dX9_buys_68 : decode cX9_buys 68 = .ok (.if_icmp .ne 14, 3) := by decide +kernel
theorem dX9_buys_71 : decode cX9_buys 71 = .ok (.iload 7, 2) := by decide +kernel
theorem dX9_buys_73 : decode cX9_buys 73 = .ok (.aload_n 0, 1) := by decide +kernel
theorem dX9_buys_74 : decode cX9_buys 74 = .ok (.getfield 65, 3) := by decide +kernel
theorem dX9_buys_77 : decode cX9_buys 77 = .ok (.getfield 291, 3) := by decide +kernel
theorem dX9_buys_80 : decode cX9_buys 80 = .ok (.iadd, 1) := by decide +kernel
theorem dX9_buys_81 : decode cX9_buys 81 = .ok (.ireturn, 1) := by decide +kernel
theorem dX9_buys_82 : decode cX9_buys 82 = .ok (.iload 6, 2) := by decide +kernel
theorem dX9_buys_84 : decode cX9_buys 84 = .ok (.ifCond .lt 15, 3) := by decide +kernel
theorem dX9_buys_87 : decode cX9_buys 87 = .ok (.iload 6, 2) := by decide +kernel
theorem dX9_buys_89 : decode cX9_buys 89 = .ok (.aload_n 0, 1) := by decide +kernel
theorem dX9_buys_90 : decode cX9_buys 90 = .ok (.getfield 65, 3) := by decide +kernel
theorem dX9_buys_93 : decode cX9_buys 93 = .ok (.getfield 359, 3) := by decide +kernel
theorem dX9_buys_96 : decode cX9_buys 96 = .ok (.if_icmp .lt 8, 3) := by decide +kernel
theorem dX9_buys_99 : decode cX9_buys 99 = .ok (.bipush (-2), 2) := by decide +kernel
theorem dX9_buys_101 : decode cX9_buys 101 = .ok (.goto 13, 3) := by decide +kernel
theorem dX9_buys_104 : decode cX9_buys 104 = .ok (.aload_n 0, 1) := by decide +kernel
theorem dX9_buys_105 : decode cX9_buys 105 = .ok (.getfield 65, 3) := by decide +kernel
theorem dX9_buys_108 : decode cX9_buys 108 = .ok (.getfield 362, 3) := by decide +kernel
theorem dX9_buys_111 : decode cX9_buys 111 = .ok (.iload 6, 2) := by decide +kernel
theorem dX9_buys_113 : decode cX9_buys 113 = .ok (.iaload, 1) := by decide +kernel
theorem dX9_buys_114 : decode cX9_buys 114 = .ok (.ireturn, 1) := by decide +kernel
def zX9_buys (Qr : Option PV → Mem → Prop) : XZ := (RX9, 7, 166, 8, some FieldType.int, Qr)
noncomputable def fX9_buys (o : Nat) (x1 : Int) (x2 : Int) (x3 : Int) (x4 : Int) (x5 : Int) (x6 : Int) (F : Mem) : Option (Int × Mem) :=
  (fX9_gainOfDay o x1 x2 x3 x4 F).bind fun q1 =>
  if q1.1 = (-1) then
    some ((-2), q1.2)
  else
    if (q1.2 (o + 62) 0).toNat = 0 then none else
    if (fX7_hasHouse ((q1.2 (o + 62) 0).toNat) x5 q1.2) ≠ 0 then
      (fX5_buyAll (o + 77) (o + 62) q1.1 x5 q1.2).bind fun q7 =>
      if x6 ≠ (-1) then
        if x6 ≠ (-2) then
          if x6 < 0 then
            some ((-2), q7)
          else
            if x6 < (q7 (o + 77) 3) then
              if (0 : Int) ≤ x6 ∧ x6 < (alen ((o + 77) + 1) : Int) then
                some (q7 ((o + 77) + 1) x6.toNat, q7)
              else none
            else
              some ((-2), q7)
        else
          some (xw (q1.1 + (q7 (o + 77) 2)), q7)
      else
        some (q7 (o + 77) 3, q7)
    else
      some ((-2), q1.2)
theorem fX9_buys_ok {Qr : Option PV → Mem → Prop} : ∀ (o : Nat) (x1 : Int) (x2 : Int) (x3 : Int) (x4 : Int) (x5 : Int) (x6 : Int) (F : Mem) (res : (Int × Mem)) (ho : isK o 9), fX9_buys o x1 x2 x3 x4 x5 x6 F = some res → Qr (some (vI res.1)) res.2 → PR cX9_buys (zX9_buys Qr) 0 [(0, vR o), (1, vI x1), (2, vI x2), (3, vI x3), (4, vI x4), (5, vI x5), (6, vI x6)] [] F := by
  intro o x1 x2 x3 x4 x5 x6 F res ho h hq
  refine s_aload_n (j := 0) dX9_buys_0 rfl rfl ?_
  refine s_iload_n (j := 1) dX9_buys_1 rfl rfl ?_
  refine s_iload_n (j := 2) dX9_buys_2 rfl rfl ?_
  refine s_iload_n (j := 3) dX9_buys_3 rfl rfl ?_
  refine s_iload (j := 4) dX9_buys_4 rfl ?_
  obtain ⟨q1, hv2, h⟩ := bnd h
  refine s_callV (As := [vI x1, vI x2, vI x3, vI x4]) (rest := []) (r := (some (vI q1.1))) (F' := q1.2) dX9_buys_6 (clX9_265 (Nat.le_of_ble_eq_true rfl) (Nat.le_of_ble_eq_true rfl)) ho rfl ⟨_, _, _, _, _, _, rfl, ho, hv2, rfl, rfl⟩ rfl (Nat.le_of_ble_eq_true rfl) ?_
  refine s_istore (ls' := [(7, vI q1.1), (0, vR o), (1, vI x1), (2, vI x2), (3, vI x3), (4, vI x4), (5, vI x5), (6, vI x6)]) dX9_buys_9 (Nat.le_of_ble_eq_true rfl) rfl ?_
  refine s_iload (j := 0) dX9_buys_11 rfl ?_
  refine s_iconst dX9_buys_13 (cin rfl) ?_
  refine s_icmp_eq (tgt := 32) dX9_buys_14 rfl (fun hc3 => ?_) (fun hc3 => ?_)
  · have h := ifp hc3 h
    refine s_bipush dX9_buys_32 rfl (cin rfl) ?_
    have h := Option.some.inj h
    subst h
    exact s_ireturn dX9_buys_34 rfl hq
  · have h := ifn hc3 h
    refine s_aload_n (j := 1) dX9_buys_17 rfl rfl ?_
    refine s_getR dX9_buys_18 flX9_51 ho ?_
    refine s_getM dX9_buys_21 flX9_259 (trX9_7 ho) (fun hm4 => ?_)
    have hm4 : _ = 0 ∨ isK ((q1.2 (o + 62) 0).toNat) 7 := hm4
    refine s_iload (j := 6) dX9_buys_24 rfl ?_
    obtain ⟨hn5, h⟩ := gdn h
    refine s_callV (As := [vI x5]) (rest := []) (r := (some (vI (fX7_hasHouse ((q1.2 (o + 62) 0).toNat) x5 q1.2)))) (F' := q1.2) dX9_buys_26 (clX9_141 (Nat.le_of_ble_eq_true rfl) (Nat.le_of_ble_eq_true rfl)) (hm4.resolve_left hn5) rfl ⟨_, _, _, rfl, (hm4.resolve_left hn5), rfl, rfl, rfl⟩ rfl (Nat.le_of_ble_eq_true rfl) ?_
    refine s_if_ne (tgt := 35) dX9_buys_29 rfl (fun hc6 => ?_) (fun hc6 => ?_)
    · have h := ifp hc6 h
      refine s_aload_n (j := 1) dX9_buys_35 rfl rfl ?_
      refine s_getR dX9_buys_36 flX9_65 ho ?_
      refine s_aload_n (j := 1) dX9_buys_39 rfl rfl ?_
      refine s_getR dX9_buys_40 flX9_51 ho ?_
      refine s_iload (j := 0) dX9_buys_43 rfl ?_
      refine s_iload (j := 6) dX9_buys_45 rfl ?_
      obtain ⟨q7, hv8, h⟩ := bnd h
      refine s_callV (As := [vR (o + 62), vI q1.1, vI x5]) (rest := []) (r := none) (F' := q7) dX9_buys_47 (clX9_355 (Nat.le_of_ble_eq_true rfl) (Nat.le_of_ble_eq_true rfl)) (trX9_9 ho) rfl ⟨_, _, _, _, _, rfl, (trX9_9 ho), (Or.inr (trX9_7 ho)), hv8, rfl, rfl⟩ rfl (Nat.le_of_ble_eq_true rfl) ?_
      refine s_iload (j := 7) dX9_buys_50 rfl ?_
      refine s_iconst dX9_buys_52 (cin rfl) ?_
      refine s_icmp_ne (tgt := 64) dX9_buys_53 rfl (fun hc9 => ?_) (fun hc9 => ?_)
      · have h := ifp hc9 h
        refine s_iload (j := 7) dX9_buys_64 rfl ?_
        refine s_bipush dX9_buys_66 rfl (cin rfl) ?_
        refine s_icmp_ne (tgt := 82) dX9_buys_68 rfl (fun hc10 => ?_) (fun hc10 => ?_)
        · have h := ifp hc10 h
          refine s_iload (j := 7) dX9_buys_82 rfl ?_
          refine s_if_lt (tgt := 99) dX9_buys_84 rfl (fun hc11 => ?_) (fun hc11 => ?_)
          · have h := ifp hc11 h
            refine s_bipush dX9_buys_99 rfl (cin rfl) ?_
            refine s_goto (tgt := 114) dX9_buys_101 rfl ?_
            have h := Option.some.inj h
            subst h
            exact s_ireturn dX9_buys_114 rfl hq
          · have h := ifn hc11 h
            refine s_iload (j := 7) dX9_buys_87 rfl ?_
            refine s_aload_n (j := 1) dX9_buys_89 rfl rfl ?_
            refine s_getR dX9_buys_90 flX9_65 ho ?_
            refine s_getI dX9_buys_93 flX9_359 (trX9_9 ho) ?_
            refine s_icmp_lt (tgt := 104) dX9_buys_96 rfl (fun hc12 => ?_) (fun hc12 => ?_)
            · have h := ifp hc12 h
              refine s_aload_n (j := 1) dX9_buys_104 rfl rfl ?_
              refine s_getR dX9_buys_105 flX9_65 ho ?_
              refine s_getR dX9_buys_108 flX9_362 (trX9_9 ho) ?_
              refine s_iload (j := 7) dX9_buys_111 rfl ?_
              obtain ⟨hb13, h⟩ := gd h
              refine s_iaload dX9_buys_113 (trX5_4 (trX9_9 ho)) hb13.1 hb13.2 ?_
              have h := Option.some.inj h
              subst h
              exact s_ireturn dX9_buys_114 rfl hq
            · have h := ifn hc12 h
              refine s_bipush dX9_buys_99 rfl (cin rfl) ?_
              refine s_goto (tgt := 114) dX9_buys_101 rfl ?_
              have h := Option.some.inj h
              subst h
              exact s_ireturn dX9_buys_114 rfl hq
        · have h := ifn hc10 h
          refine s_iload (j := 0) dX9_buys_71 rfl ?_
          refine s_aload_n (j := 1) dX9_buys_73 rfl rfl ?_
          refine s_getR dX9_buys_74 flX9_65 ho ?_
          refine s_getI dX9_buys_77 flX9_291 (trX9_9 ho) ?_
          refine s_iadd dX9_buys_80 ?_
          have h := Option.some.inj h
          subst h
          exact s_ireturn dX9_buys_81 rfl hq
      · have h := ifn hc9 h
        refine s_aload_n (j := 1) dX9_buys_56 rfl rfl ?_
        refine s_getR dX9_buys_57 flX9_65 ho ?_
        refine s_getI dX9_buys_60 flX9_359 (trX9_9 ho) ?_
        have h := Option.some.inj h
        subst h
        exact s_ireturn dX9_buys_63 rfl hq
    · have h := ifn hc6 h
      refine s_bipush dX9_buys_32 rfl (cin rfl) ?_
      have h := Option.some.inj h
      subst h
      exact s_ireturn dX9_buys_34 rfl hq
def gX9_buys : XG := fun As F r F' => ∃ o : Nat, ∃ x1 : Int, ∃ x2 : Int, ∃ x3 : Int, ∃ x4 : Int, ∃ x5 : Int, ∃ x6 : Int, ∃ res : (Int × Mem), As = [vR o, vI x1, vI x2, vI x3, vI x4, vI x5, vI x6] ∧ isK o 9 ∧ fX9_buys o x1 x2 x3 x4 x5 x6 F = some res ∧ r = some (vI res.1) ∧ F' = res.2
theorem ctX9_buys : xCT yX9_buys cX9_buys 8 (some FieldType.int) 7 166 gX9_buys := xmet (by decide +kernel) (fun As F r F' hg => by obtain ⟨o, x1, x2, x3, x4, x5, x6, res, rfl, ho, h, rfl, rfl⟩ := hg; exact Nat.le_of_ble_eq_true rfl) (fun As F r F' hg => by obtain ⟨o, x1, x2, x3, x4, x5, x6, res, rfl, ho, h, rfl, rfl⟩ := hg; exact fX9_buys_ok o x1 x2 x3 x4 x5 x6 _ _ ho h ⟨rfl, rfl⟩)
theorem mcX9_buys : Cond.code yX9_buys cX9_buys 8 (some FieldType.int) ∈ xw_T ∧ Cond.initialized yX9_buys.cls ∈ xw_T ∧ Cond.instanceMethod yX9_buys ∈ xw_T ∧ Cond.selects yX9_buys.cls yX9_buys yX9_buys ∈ xw_T := ⟨(xinT 1271 (by decide +kernel) (by decide +kernel)), (xinT 116 (by decide +kernel) (by decide +kernel)), (xinT 1269 (by decide +kernel) (by decide +kernel)), (xinT 1270 (by decide +kernel) (by decide +kernel))⟩
theorem dX9_both_0 : decode cX9_both 0 = .ok (.aload_n 0, 1) := by decide +kernel
theorem dX9_both_1 : decode cX9_both 1 = .ok (.iload_n 1, 1) := by decide +kernel
theorem dX9_both_2 : decode cX9_both 2 = .ok (.iload_n 2, 1) := by decide +kernel
theorem dX9_both_3 : decode cX9_both 3 = .ok (.iload_n 3, 1) := by decide +kernel
theorem dX9_both_4 : decode cX9_both 4 = .ok (.iload 4, 2) := by decide +kernel
theorem dX9_both_6 : decode cX9_both 6 = .ok (.invokevirtual 265, 3) := by decide +kernel
theorem dX9_both_9 : decode cX9_both 9 = .ok (.istore 6, 2) := by decide +kernel
theorem dX9_both_11 : decode cX9_both 11 = .ok (.iload 6, 2) := by decide +kernel
theorem dX9_both_13 : decode cX9_both 13 = .ok (.iconst (-1), 1) := by decide +kernel
theorem dX9_both_14 : decode cX9_both 14 = .ok (.if_icmp .ne 6, 3) := by decide +kernel
theorem dX9_both_17 : decode cX9_both 17 = .ok (.bipush (-2), 2) := by decide +kernel
theorem dX9_both_19 : decode cX9_both 19 = .ok (.ireturn, 1) := by decide +kernel
theorem dX9_both_20 : decode cX9_both 20 = .ok (.iload 6, 2) := by decide +kernel
theorem dX9_both_22 : decode cX9_both 22 = .ok (.aload_n 0, 1) := by decide +kernel
theorem dX9_both_23 : decode cX9_both 23 = .ok (.getfield 51, 3) := by decide +kernel
theorem dX9_both_26 : decode cX9_both 26 = .ok (.iconst 0, 1) := by decide +kernel
theorem dX9_both_27 : decode cX9_both 27 = .ok (.invokevirtual 320, 3) := by decide +kernel
theorem dX9_both_30 : decode cX9_both 30 = .ok (.iadd, 1) := by decide +kernel
theorem dX9_both_31 : decode cX9_both 31 = .ok (.istore 7, 2) := by decide +kernel
theorem dX9_both_33 : decode cX9_both 33 = .ok (.iconst (-1), 1) := by decide +kernel
theorem dX9_both_34 : decode cX9_both 34 = .ok (.istore 8, 2) := by decide +kernel
theorem dX9_both_36 : decode cX9_both 36 = .ok (.aload_n 0, 1) := by decide +kernel
theorem dX9_both_37 : decode cX9_both 37 = .ok (.getfield 51, 3) := by decide +kernel
theorem dX9_both_40 : decode cX9_both 40 = .ok (.getfield 259, 3) := by decide +kernel
theorem dX9_both_43 : decode cX9_both 43 = .ok (.getfield 126, 3) := by decide +kernel
theorem dX9_both_46 : decode cX9_both 46 = .ok (.getfield 130, 3) := by decide +kernel
theorem dX9_both_49 : decode cX9_both 49 = .ok (.istore 9, 2) := by decide +kernel
theorem dX9_both_51 : decode cX9_both 51 = .ok (.iconst 0, 1) := by decide +kernel
theorem dX9_both_52 : decode cX9_both 52 = .ok (.istore 10, 2) := by decide +kernel
theorem dX9_both_54 : decode cX9_both 54 = .ok (.iload 10, 2) := by decide +kernel
theorem dX9_both_56 : decode cX9_both 56 = .ok (.iload 9, 2) := by decide +kernel
theorem dX9_both_58 : decode cX9_both 58 = .ok (.if_icmp .ge 71, 3) := by decide +kernel
theorem dX9_both_61 : decode cX9_both 61 = .ok (.iload 10, 2) := by decide +kernel
theorem dX9_both_63 : decode cX9_both 63 = .ok (.iconst 1, 1) := by decide +kernel
theorem dX9_both_64 : decode cX9_both 64 = .ok (.iadd, 1) := by decide +kernel
theorem dX9_both_65 : decode cX9_both 65 = .ok (.istore 11, 2) := by decide +kernel
theorem dX9_both_67 : decode cX9_both 67 = .ok (.iload 11, 2) := by decide +kernel
theorem dX9_both_69 : decode cX9_both 69 = .ok (.iload 9, 2) := by decide +kernel
theorem dX9_both_71 : decode cX9_both 71 = .ok (.if_icmp .ge 52, 3) := by decide +kernel
theorem dX9_both_74 : decode cX9_both 74 = .ok (.aload_n 0, 1) := by decide +kernel
theorem dX9_both_75 : decode cX9_both 75 = .ok (.getfield 51, 3) := by decide +kernel
theorem dX9_both_78 : decode cX9_both 78 = .ok (.iconst 1, 1) := by decide +kernel
theorem dX9_both_79 : decode cX9_both 79 = .ok (.iload 10, 2) := by decide +kernel
theorem dX9_both_81 : decode cX9_both 81 = .ok (.ishl, 1) := by decide +kernel
theorem dX9_both_82 : decode cX9_both 82 = .ok (.iconst 1, 1) := by decide +kernel
theorem dX9_both_83 : decode cX9_both 83 = .ok (.iload 11, 2) := by decide +kernel
theorem dX9_both_85 : decode cX9_both 85 = .ok (.ishl, 1) := by decide +kernel
theorem dX9_both_86 : decode cX9_both 86 = .ok (.ior, 1) := by decide +kernel
theorem dX9_both_87 : decode cX9_both 87 = .ok (.invokevirtual 364, 3) := by decide +kernel
theorem dX9_both_90 : decode cX9_both 90 = .ok (.istore 12, 2) := by decide +kernel
theorem dX9_both_92 : decode cX9_both 92 = .ok (.iload 12, 2) := by decide +kernel
theorem dX9_both_94 : decode cX9_both 94 = .ok (.iload 7, 2) := by decide +kernel
theorem dX9_both_96 : decode cX9_both 96 = .ok (.if_icmp .le 21, 3) := by decide +kernel
theorem dX9_both_99 : decode cX9_both 99 = .ok (.iload 12, 2) := by decide +kernel
theorem dX9_both_101 : decode cX9_both 101 = .ok (.istore 7, 2) := by decide +kernel
theorem dX9_both_103 : decode cX9_both 103 = .ok (.iload 5, 2) := by decide +kernel
theorem dX9_both_105 : decode cX9_both 105 = .ok (.ifCond .eq 8, 3) := by decide +kernel
theorem dX9_both_108 : decode cX9_both 108 = .ok (.iload 11, 2) := by decide +kernel
theorem dX9_both_110 : decode cX9_both 110 = .ok (.goto 5, 3) := by decide +kernel
theorem dX9_both_113 : decode cX9_both 113 = .ok (.iload 10, 2) := by decide +kernel
theorem dX9_both_115 : decode cX9_both 115 = .ok (.istore 8, 2) := by decide +kernel
theorem dX9_both_117 : decode cX9_both 117 = .ok (.iinc 11 1, 3) := by decide +kernel
theorem dX9_both_120 : decode cX9_both 120 = .ok (.goto (-53), 3) := by decide +kernel
theorem dX9_both_123 : decode cX9_both 123 = .ok (.iinc 10 1, 3) := by decide +kernel
theorem dX9_both_126 : decode cX9_both 126 = .ok (.goto (-72), 3) := by decide +kernel
theorem dX9_both_129 : decode cX9_both 129 = .ok (.iload 8, 2) := by decide +kernel
theorem dX9_both_131 : decode cX9_both 131 = .ok (.ireturn, 1) := by decide +kernel
def zX9_both (Qr : Option PV → Mem → Prop) : XZ := (RX9, 7, 166, 13, some FieldType.int, Qr)
noncomputable def fX9_both_b67 (k54 : Nat → Int → Int → Int → Int → Int → Mem → Option (Int × Mem)) : Nat → Nat → Int → Int → Int → Int → Int → Int → Mem → Option (Int × Mem)
  | 0, _, _, _, _, _, _, _, _ => none
  | n + 1, o, x5, x7, x8, x9, x10, x11, F =>
    if x9 ≤ x11 then
      k54 o x5 x7 x8 x9 (xw (x10 + 1)) F
    else
      (fX1_yieldWith (o + 62) (xor_ (xshl 1 x10) (xshl 1 x11)) F).bind fun q2 =>
      if q2.1 ≤ x7 then
        fX9_both_b67 k54 n o x5 x7 x8 x9 x10 (xw (x11 + 1)) q2.2
      else
        if x5 = 0 then
          fX9_both_b67 k54 n o x5 q2.1 x10 x9 x10 (xw (x11 + 1)) q2.2
        else
          fX9_both_b67 k54 n o x5 q2.1 x11 x9 x10 (xw (x11 + 1)) q2.2
noncomputable def fX9_both_b54 : Nat → Nat → Int → Int → Int → Int → Int → Mem → Option (Int × Mem)
  | 0, _, _, _, _, _, _, _ => none
  | n + 1, o, x5, x7, x8, x9, x10, F =>
    if x9 ≤ x10 then
      some (x8, F)
    else
      fX9_both_b67 (fX9_both_b54 n) FU o x5 x7 x8 x9 x10 (xw (x10 + 1)) F
noncomputable def fX9_both (o : Nat) (x1 : Int) (x2 : Int) (x3 : Int) (x4 : Int) (x5 : Int) (F : Mem) : Option (Int × Mem) :=
  (fX9_gainOfDay o x1 x2 x3 x4 F).bind fun q1 =>
  if q1.1 ≠ (-1) then
    (fX1_touchRows (o + 62) 0 q1.2).bind fun r4 =>
    if (q1.2 (o + 62) 0).toNat = 0 then none else
    fX9_both_b54 FU o x5 (xw (q1.1 + r4)) (-1) (q1.2 (((q1.2 (o + 62) 0).toNat) + 1) 3) 0 q1.2
  else
    some ((-2), q1.2)
theorem fX9_both_b67_ok {Qr : Option PV → Mem → Prop}  (k54 : Nat → Int → Int → Int → Int → Int → Mem → Option (Int × Mem)) (hk54 : ∀ (o : Nat) (x5 : Int) (x7 : Int) (x8 : Int) (x9 : Int) (x10 : Int) (F : Mem) (res : (Int × Mem)) (ho : isK o 9), k54 o x5 x7 x8 x9 x10 F = some res → Qr (some (vI res.1)) res.2 → PR cX9_both (zX9_both Qr) 54 [(0, vR o), (5, vI x5), (7, vI x7), (8, vI x8), (9, vI x9), (10, vI x10)] [] F) : ∀ (n : Nat) (o : Nat) (x5 : Int) (x7 : Int) (x8 : Int) (x9 : Int) (x10 : Int) (x11 : Int) (F : Mem) (res : (Int × Mem)) (ho : isK o 9), fX9_both_b67 k54 n o x5 x7 x8 x9 x10 x11 F = some res → Qr (some (vI res.1)) res.2 → PR cX9_both (zX9_both Qr) 67 [(0, vR o), (5, vI x5), (7, vI x7), (8, vI x8), (9, vI x9), (10, vI x10), (11, vI x11)] [] F := by
  intro n
  induction n with
  | zero => intro o x5 x7 x8 x9 x10 x11 F res ho h hq; exact nomatch (show (none : Option _) = some _ from h)
  | succ n ih =>
    intro o x5 x7 x8 x9 x10 x11 F res ho h hq
    refine s_iload (j := 6) dX9_both_67 rfl ?_
    refine s_iload (j := 4) dX9_both_69 rfl ?_
    refine s_icmp_ge (tgt := 123) dX9_both_71 rfl (fun hc1 => ?_) (fun hc1 => ?_)
    · have h := ifp hc1 h
      refine s_iinc (ls' := [(10, vI (xw (x10 + 1))), (0, vR o), (5, vI x5), (7, vI x7), (8, vI x8), (9, vI x9), (11, vI x11)]) (j := 5) dX9_both_123 rfl (Nat.le_of_ble_eq_true rfl) rfl ?_
      refine s_goto (tgt := 54) dX9_both_126 rfl ?_
      exact s_sub (ks := [1, 2, 3, 4, 5, 0]) rfl (hk54 o x5 x7 x8 x9 (xw (x10 + 1)) F _ ho h hq)
    · have h := ifn hc1 h
      refine s_aload_n (j := 0) dX9_both_74 rfl rfl ?_
      refine s_getR dX9_both_75 flX9_51 ho ?_
      refine s_iconst dX9_both_78 (cin rfl) ?_
      refine s_iload (j := 5) dX9_both_79 rfl ?_
      refine s_ishl dX9_both_81 ?_
      refine s_iconst dX9_both_82 (cin rfl) ?_
      refine s_iload (j := 6) dX9_both_83 rfl ?_
      refine s_ishl dX9_both_85 ?_
      refine s_ior dX9_both_86 ?_
      obtain ⟨q2, hv3, h⟩ := bnd h
      refine s_callV (As := [vI (xor_ (xshl 1 x10) (xshl 1 x11))]) (rest := []) (r := (some (vI q2.1))) (F' := q2.2) dX9_both_87 (clX9_364 (Nat.le_of_ble_eq_true rfl) (Nat.le_of_ble_eq_true rfl)) (trX9_7 ho) rfl ⟨_, _, _, rfl, (trX9_7 ho), hv3, rfl, rfl⟩ rfl (Nat.le_of_ble_eq_true rfl) ?_
      refine s_istore (ls' := [(12, vI q2.1), (0, vR o), (5, vI x5), (7, vI x7), (8, vI x8), (9, vI x9), (10, vI x10), (11, vI x11)]) dX9_both_90 (Nat.le_of_ble_eq_true rfl) rfl ?_
      refine s_iload (j := 0) dX9_both_92 rfl ?_
      refine s_iload (j := 3) dX9_both_94 rfl ?_
      refine s_icmp_le (tgt := 117) dX9_both_96 rfl (fun hc4 => ?_) (fun hc4 => ?_)
      · have h := ifp hc4 h
        refine s_iinc (ls' := [(11, vI (xw (x11 + 1))), (12, vI q2.1), (0, vR o), (5, vI x5), (7, vI x7), (8, vI x8), (9, vI x9), (10, vI x10)]) (j := 7) dX9_both_117 rfl (Nat.le_of_ble_eq_true rfl) rfl ?_
        refine s_goto (tgt := 67) dX9_both_120 rfl ?_
        exact s_sub (ks := [2, 3, 4, 5, 6, 7, 0]) rfl (ih o x5 x7 x8 x9 x10 (xw (x11 + 1)) q2.2 _ ho h hq)
      · have h := ifn hc4 h
        refine s_iload (j := 0) dX9_both_99 rfl ?_
        refine s_istore (ls' := [(7, vI q2.1), (12, vI q2.1), (0, vR o), (5, vI x5), (8, vI x8), (9, vI x9), (10, vI x10), (11, vI x11)]) dX9_both_101 (Nat.le_of_ble_eq_true rfl) rfl ?_
        refine s_iload (j := 3) dX9_both_103 rfl ?_
        refine s_if_eq (tgt := 113) dX9_both_105 rfl (fun hc5 => ?_) (fun hc5 => ?_)
        · have h := ifp hc5 h
          refine s_iload (j := 6) dX9_both_113 rfl ?_
          refine s_istore (ls' := [(8, vI x10), (7, vI q2.1), (12, vI q2.1), (0, vR o), (5, vI x5), (9, vI x9), (10, vI x10), (11, vI x11)]) dX9_both_115 (Nat.le_of_ble_eq_true rfl) rfl ?_
          refine s_iinc (j := 7) dX9_both_117 rfl (Nat.le_of_ble_eq_true rfl) rfl ?_
          refine s_goto (tgt := 67) dX9_both_120 rfl ?_
          exact s_sub (ks := [4, 5, 2, 1, 6, 7, 0]) rfl (ih o x5 q2.1 x10 x9 x10 (xw (x11 + 1)) q2.2 _ ho h hq)
        · have h := ifn hc5 h
          refine s_iload (j := 7) dX9_both_108 rfl ?_
          refine s_goto (tgt := 115) dX9_both_110 rfl ?_
          refine s_istore (ls' := [(8, vI x11), (7, vI q2.1), (12, vI q2.1), (0, vR o), (5, vI x5), (9, vI x9), (10, vI x10), (11, vI x11)]) dX9_both_115 (Nat.le_of_ble_eq_true rfl) rfl ?_
          refine s_iinc (j := 7) dX9_both_117 rfl (Nat.le_of_ble_eq_true rfl) rfl ?_
          refine s_goto (tgt := 67) dX9_both_120 rfl ?_
          exact s_sub (ks := [4, 5, 2, 1, 6, 7, 0]) rfl (ih o x5 q2.1 x11 x9 x10 (xw (x11 + 1)) q2.2 _ ho h hq)
theorem fX9_both_b54_ok {Qr : Option PV → Mem → Prop}  : ∀ (n : Nat) (o : Nat) (x5 : Int) (x7 : Int) (x8 : Int) (x9 : Int) (x10 : Int) (F : Mem) (res : (Int × Mem)) (ho : isK o 9), fX9_both_b54 n o x5 x7 x8 x9 x10 F = some res → Qr (some (vI res.1)) res.2 → PR cX9_both (zX9_both Qr) 54 [(0, vR o), (5, vI x5), (7, vI x7), (8, vI x8), (9, vI x9), (10, vI x10)] [] F := by
  intro n
  induction n with
  | zero => intro o x5 x7 x8 x9 x10 F res ho h hq; exact nomatch (show (none : Option _) = some _ from h)
  | succ n ih =>
    intro o x5 x7 x8 x9 x10 F res ho h hq
    refine s_iload (j := 5) dX9_both_54 rfl ?_
    refine s_iload (j := 4) dX9_both_56 rfl ?_
    refine s_icmp_ge (tgt := 129) dX9_both_58 rfl (fun hc1 => ?_) (fun hc1 => ?_)
    · have h := ifp hc1 h
      refine s_iload (j := 3) dX9_both_129 rfl ?_
      have h := Option.some.inj h
      subst h
      exact s_ireturn dX9_both_131 rfl hq
    · have h := ifn hc1 h
      refine s_iload (j := 5) dX9_both_61 rfl ?_
      refine s_iconst dX9_both_63 (cin rfl) ?_
      refine s_iadd dX9_both_64 ?_
      refine s_istore (ls' := [(11, vI (xw (x10 + 1))), (0, vR o), (5, vI x5), (7, vI x7), (8, vI x8), (9, vI x9), (10, vI x10)]) dX9_both_65 (Nat.le_of_ble_eq_true rfl) rfl ?_
      exact s_sub (ks := [1, 2, 3, 4, 5, 6, 0]) rfl (fX9_both_b67_ok (fX9_both_b54 n) ih FU o x5 x7 x8 x9 x10 (xw (x10 + 1)) F _ ho h hq)
theorem fX9_both_ok {Qr : Option PV → Mem → Prop} : ∀ (o : Nat) (x1 : Int) (x2 : Int) (x3 : Int) (x4 : Int) (x5 : Int) (F : Mem) (res : (Int × Mem)) (ho : isK o 9), fX9_both o x1 x2 x3 x4 x5 F = some res → Qr (some (vI res.1)) res.2 → PR cX9_both (zX9_both Qr) 0 [(0, vR o), (1, vI x1), (2, vI x2), (3, vI x3), (4, vI x4), (5, vI x5)] [] F := by
  intro o x1 x2 x3 x4 x5 F res ho h hq
  refine s_aload_n (j := 0) dX9_both_0 rfl rfl ?_
  refine s_iload_n (j := 1) dX9_both_1 rfl rfl ?_
  refine s_iload_n (j := 2) dX9_both_2 rfl rfl ?_
  refine s_iload_n (j := 3) dX9_both_3 rfl rfl ?_
  refine s_iload (j := 4) dX9_both_4 rfl ?_
  obtain ⟨q1, hv2, h⟩ := bnd h
  refine s_callV (As := [vI x1, vI x2, vI x3, vI x4]) (rest := []) (r := (some (vI q1.1))) (F' := q1.2) dX9_both_6 (clX9_265 (Nat.le_of_ble_eq_true rfl) (Nat.le_of_ble_eq_true rfl)) ho rfl ⟨_, _, _, _, _, _, rfl, ho, hv2, rfl, rfl⟩ rfl (Nat.le_of_ble_eq_true rfl) ?_
  refine s_istore (ls' := [(6, vI q1.1), (0, vR o), (1, vI x1), (2, vI x2), (3, vI x3), (4, vI x4), (5, vI x5)]) dX9_both_9 (Nat.le_of_ble_eq_true rfl) rfl ?_
  refine s_iload (j := 0) dX9_both_11 rfl ?_
  refine s_iconst dX9_both_13 (cin rfl) ?_
  refine s_icmp_ne (tgt := 20) dX9_both_14 rfl (fun hc3 => ?_) (fun hc3 => ?_)
  · have h := ifp hc3 h
    refine s_iload (j := 0) dX9_both_20 rfl ?_
    refine s_aload_n (j := 1) dX9_both_22 rfl rfl ?_
    refine s_getR dX9_both_23 flX9_51 ho ?_
    refine s_iconst dX9_both_26 (cin rfl) ?_
    obtain ⟨r4, hv5, h⟩ := bnd h
    refine s_callV (As := [vI 0]) (rest := [vI q1.1]) (r := (some (vI r4))) (F' := q1.2) dX9_both_27 (clX9_320 (Nat.le_of_ble_eq_true rfl) (Nat.le_of_ble_eq_true rfl)) (trX9_7 ho) rfl ⟨_, _, _, rfl, (trX9_7 ho), hv5, rfl, rfl⟩ rfl (Nat.le_of_ble_eq_true rfl) ?_
    refine s_iadd dX9_both_30 ?_
    refine s_istore (ls' := [(7, vI (xw (q1.1 + r4))), (6, vI q1.1), (0, vR o), (1, vI x1), (2, vI x2), (3, vI x3), (4, vI x4), (5, vI x5)]) dX9_both_31 (Nat.le_of_ble_eq_true rfl) rfl ?_
    refine s_iconst dX9_both_33 (cin rfl) ?_
    refine s_istore dX9_both_34 (Nat.le_of_ble_eq_true rfl) rfl ?_
    refine s_aload_n (j := 3) dX9_both_36 rfl rfl ?_
    refine s_getR dX9_both_37 flX9_51 ho ?_
    refine s_getM dX9_both_40 flX9_259 (trX9_7 ho) (fun hm6 => ?_)
    have hm6 : _ = 0 ∨ isK ((q1.2 (o + 62) 0).toNat) 7 := hm6
    obtain ⟨hn7, h⟩ := gdn h
    refine s_getR dX9_both_43 flX9_126 (hm6.resolve_left hn7) ?_
    refine s_getI dX9_both_46 flX9_130 (trX7_5 (hm6.resolve_left hn7)) ?_
    refine s_istore (ls' := [(9, vI (q1.2 (((q1.2 (o + 62) 0).toNat) + 1) 3)), (8, vI (-1)), (7, vI (xw (q1.1 + r4))), (6, vI q1.1), (0, vR o), (1, vI x1), (2, vI x2), (3, vI x3), (4, vI x4), (5, vI x5)]) dX9_both_49 (Nat.le_of_ble_eq_true rfl) rfl ?_
    refine s_iconst dX9_both_51 (cin rfl) ?_
    refine s_istore dX9_both_52 (Nat.le_of_ble_eq_true rfl) rfl ?_
    exact s_sub (ks := [5, 10, 3, 2, 1, 0]) rfl (fX9_both_b54_ok FU o x5 (xw (q1.1 + r4)) (-1) (q1.2 (((q1.2 (o + 62) 0).toNat) + 1) 3) 0 q1.2 _ ho h hq)
  · have h := ifn hc3 h
    refine s_bipush dX9_both_17 rfl (cin rfl) ?_
    have h := Option.some.inj h
    subst h
    exact s_ireturn dX9_both_19 rfl hq
def gX9_both : XG := fun As F r F' => ∃ o : Nat, ∃ x1 : Int, ∃ x2 : Int, ∃ x3 : Int, ∃ x4 : Int, ∃ x5 : Int, ∃ res : (Int × Mem), As = [vR o, vI x1, vI x2, vI x3, vI x4, vI x5] ∧ isK o 9 ∧ fX9_both o x1 x2 x3 x4 x5 F = some res ∧ r = some (vI res.1) ∧ F' = res.2
theorem ctX9_both : xCT yX9_both cX9_both 13 (some FieldType.int) 7 166 gX9_both := xmet (by decide +kernel) (fun As F r F' hg => by obtain ⟨o, x1, x2, x3, x4, x5, res, rfl, ho, h, rfl, rfl⟩ := hg; exact Nat.le_of_ble_eq_true rfl) (fun As F r F' hg => by obtain ⟨o, x1, x2, x3, x4, x5, res, rfl, ho, h, rfl, rfl⟩ := hg; exact fX9_both_ok o x1 x2 x3 x4 x5 _ _ ho h ⟨rfl, rfl⟩)
theorem mcX9_both : Cond.code yX9_both cX9_both 13 (some FieldType.int) ∈ xw_T ∧ Cond.initialized yX9_both.cls ∈ xw_T ∧ Cond.instanceMethod yX9_both ∈ xw_T ∧ Cond.selects yX9_both.cls yX9_both yX9_both ∈ xw_T := ⟨(xinT 1292 (by decide +kernel) (by decide +kernel)), (xinT 116 (by decide +kernel) (by decide +kernel)), (xinT 1290 (by decide +kernel) (by decide +kernel)), (xinT 1291 (by decide +kernel) (by decide +kernel))⟩
theorem dX9_ease_0 : decode cX9_ease 0 = .ok (.aload_n 0, 1) := by decide +kernel
theorem dX9_ease_1 : decode cX9_ease 1 = .ok (.iload_n 1, 1) := by decide +kernel
theorem dX9_ease_2 : decode cX9_ease 2 = .ok (.iload_n 2, 1) := by decide +kernel
theorem dX9_ease_3 : decode cX9_ease 3 = .ok (.iload_n 3, 1) := by decide +kernel
theorem dX9_ease_4 : decode cX9_ease 4 = .ok (.iload 4, 2) := by decide +kernel
theorem dX9_ease_6 : decode cX9_ease 6 = .ok (.invokevirtual 265, 3) := by decide +kernel
theorem dX9_ease_9 : decode cX9_ease 9 = .ok (.istore 8, 2) := by decide +kernel
theorem dX9_ease_11 : decode cX9_ease 11 = .ok (.iload 8, 2) := by decide +kernel
theorem dX9_ease_13 : decode cX9_ease 13 = .ok (.iconst (-1), 1) := by decide +kernel
theorem dX9_ease_14 : decode cX9_ease 14 = .ok (.if_icmp .eq 39, 3) := by decide +kernel
theorem dX9_ease_17 : decode cX9_ease 17 = .ok (.aload_n 0, 1) := by decide +kernel
theorem dX9_ease_18 : decode cX9_ease 18 = .ok (.getfield 51, 3) := by decide +kernel
theorem dX9_ease_21 : decode cX9_ease 21 = .ok (.getfield 259, 3) := by decide +kernel
theorem dX9_ease_24 : decode cX9_ease 24 = .ok (.iload 5, 2) := by decide +kernel
theorem dX9_ease_26 : decode cX9_ease 26 = .ok (.invokevirtual 141, 3) := by decide +kernel
theorem dX9_ease_29 : decode cX9_ease 29 = .ok (.ifCond .eq 24, 3) := by decide +kernel
theorem dX9_ease_32 : decode cX9_ease 32 = .ok (.iload 6, 2) := by decide +kernel
theorem dX9_ease_34 : decode cX9_ease 34 = .ok (.iconst 1, 1) := by decide +kernel
theorem dX9_ease_35 : decode cX9_ease 35 = .ok (.if_icmp .lt 18, 3) := by decide +kernel
theorem dX9_ease_38 : decode cX9_ease 38 = .ok (.iload 6, 2) := by decide +kernel
theorem dX9_ease_40 : decode cX9_ease 40 = .ok (.aload_n 0, 1) := by decide +kernel
theorem dX9_ease_41 : decode cX9_ease 41 = .ok (.getfield 51, 3) := by decide +kernel
theorem dX9_ease_44 : decode cX9_ease 44 = .ok (.getfield 259, 3) := by decide +kernel
theorem dX9_ease_47 : decode cX9_ease 47 = .ok (.getfield 109, 3) := by decide +kernel
theorem dX9_ease_50 : decode cX9_ease 50 = .ok (.if_icmp .le 6, 3) := by decide +kernel
theorem dX9_ease_53 : decode cX9_ease 53 = .ok (.bipush (-2), 2) := by decide +kernel
theorem dX9_ease_55 : decode cX9_ease 55 = .ok (.ireturn, 1) := by decide +kernel
theorem dX9_ease_56 : decode cX9_ease 56 = .ok (.aload_n 0, 1) := by decide +kernel
theorem dX9_ease_57 : decode cX9_ease 57 = .ok (.getfield 51, 3) := by decide +kernel
theorem dX9_ease_60 : decode cX9_ease 60 = .ok (.invokevirtual 272, 3) := by decide +kernel
theorem dX9_ease_63 : decode cX9_ease 63 = .ok (.iconst (-1), 1) := by decide +kernel
theorem dX9_ease_64 : decode cX9_ease 64 = .ok (.istore 9, 2) := by decide +kernel
theorem dX9_ease_66 : decode cX9_ease 66 = .ok (.iconst (-1), 1) := by decide +kernel
theorem dX9_ease_67 : decode cX9_ease 67 = .ok (.istore 10, 2) := by decide +kernel
theorem dX9_ease_69 : decode cX9_ease 69 = .ok (.iconst 0, 1) := by decide +kernel
theorem dX9_ease_70 : decode cX9_ease 70 = .ok (.istore 11, 2) := by decide +kernel
theorem dX9_ease_72 : decode cX9_ease 72 = .ok (.iload 11, 2) := by decide +kernel
theorem dX9_ease_74 : decode cX9_ease 74 = .ok (.aload_n 0, 1) := by decide +kernel
theorem dX9_ease_75 : decode cX9_ease 75 = .ok (.getfield 51, 3) := by decide +kernel
theorem dX9_ease_78 : decode cX9_ease 78 = .ok (.getfield 259, 3) := by decide +kernel
theorem dX9_ease_81 : decode cX9_ease 81 = .ok (.getfield 109, 3) := by decide +kernel
theorem dX9_ease_84 : decode cX9_ease 84 = .ok (.iload 6, 2) := by decide +kernel
theorem dX9_ease_86 : decode cX9_ease 86 = .ok (.isub, 1) := by decide +kernel
theorem dX9_ease_87 : decode cX9_ease 87 = .ok (.if_icmp .gt 56, 3) := by decide +kernel
theorem dX9_ease_90 : decode cX9_ease 90 = .ok (.aload_n 0, 1) := by decide +kernel
theorem dX9_ease_91 : decode cX9_ease 91 = .ok (.getfield 51, 3) := by decide +kernel
theorem dX9_ease_94 : decode cX9_ease 94 = .ok (.iload 8, 2) := by decide +kernel
theorem dX9_ease_96 : decode cX9_ease 96 = .ok (.iload 5, 2) := by decide +kernel
theorem dX9_ease_98 : decode cX9_ease 98 = .ok (.iload 11, 2) := by decide +kernel
theorem dX9_ease_100 : decode cX9_ease 100 = .ok (.iload 11, 2) := by decide +kernel
theorem dX9_ease_102 : decode cX9_ease 102 = .ok (.iload 6, 2) := by decide +kernel
theorem dX9_ease_104 : decode cX9_ease 104 = .ok (.iadd, 1) := by decide +kernel
theorem dX9_ease_105 : decode cX9_ease 105 = .ok (.invokevirtual 275, 3) := by decide +kernel
theorem dX9_ease_108 : decode cX9_ease 108 = .ok (.istore 12, 2) := by decide +kernel
theorem dX9_ease_110 : decode cX9_ease 110 = .ok (.iload 12, 2) := by decide +kernel
theorem dX9_ease_112 : decode cX9_ease 112 = .ok (.iconst (-1), 1) := by decide +kernel
theorem dX9_ease_113 : decode cX9_ease 113 = .ok (.if_icmp .eq 24, 3) := by decide +kernel
theorem dX9_ease_116 : decode cX9_ease 116 = .ok (.iload 9, 2) := by decide +kernel
theorem dX9_ease_118 : decode cX9_ease 118 = .ok (.iconst (-1), 1) := by decide +kernel
theorem dX9_ease_119 : decode cX9_ease 119 = .ok (.if_icmp .eq 10, 3) := by decide +kernel
theorem dX9_ease_122 : decode cX9_ease 122 = .ok (.iload 12, 2) := by decide +kernel
theorem dX9_ease_124 : decode cX9_ease 124 = .ok (.iload 9, 2) := by decide +kernel
theorem dX9_ease_126 : decode cX9_ease 126 = .ok (.if_icmp .ge 11, 3) := by decide +kernel
theorem dX9_ease_129 : decode cX9_ease 129 = .ok (.iload 12, 2) := by decide +kernel
theorem dX9_ease_131 : decode cX9_ease 131 = .ok (.istore 9, 2) := by decide +kernel
theorem dX9_ease_133 : decode cX9_ease 133 = .ok (.iload 11, 2) := by decide +kernel
theorem dX9_ease_135 : decode cX9_ease 135 = .ok (.istore 10, 2) := by decide +kernel
theorem dX9_ease_137 : decode cX9_ease 137 = .ok (.iinc 11 1, 3) := by decide +kernel
theorem dX9_ease_140 : decode cX9_ease 140 = .ok (.goto (-68), 3) := by decide +kernel
theorem dX9_ease_143 : decode cX9_ease 143 = .ok (.iload 7, 2) := by decide +kernel
theorem dX9_ease_145 : decode cX9_ease 145 = .ok (.ifCond .eq 8, 3) := by decide +kernel
theorem dX9_ease_148 : decode cX9_ease 148 = .ok (.iload 9, 2) := by decide +kernel
theorem dX9_ease_150 : decode cX9_ease 150 = .ok (.goto 5, 3) := by decide +kernel
theorem dX9_ease_153 : decode cX9_ease 153 = .ok (.iload 10, 2) := by decide +kernel
theorem dX9_ease_155 : decode cX9_ease 155 = .ok (.ireturn, 1) := by decide +kernel
def zX9_ease (Qr : Option PV → Mem → Prop) : XZ := (RX9, 7, 166, 13, some FieldType.int, Qr)
noncomputable def fX9_ease_b72 : Nat → Nat → Int → Int → Int → Int → Int → Int → Int → Mem → Option (Int × Mem)
  | 0, _, _, _, _, _, _, _, _, _ => none
  | n + 1, o, x5, x6, x7, x8, x9, x10, x11, F =>
    if (F (o + 62) 0).toNat = 0 then none else
    if (xw ((F ((F (o + 62) 0).toNat) 0) - x6)) < x11 then
      if x7 = 0 then
        some (x10, F)
      else
        some (x9, F)
    else
      (fX1_harmOf (o + 62) x8 x5 x11 (xw (x11 + x6)) F).bind fun r5 =>
      if r5 = (-1) then
        fX9_ease_b72 n o x5 x6 x7 x8 x9 x10 (xw (x11 + 1)) F
      else
        if x9 = (-1) then
          fX9_ease_b72 n o x5 x6 x7 x8 r5 x11 (xw (x11 + 1)) F
        else
          if x9 ≤ r5 then
            fX9_ease_b72 n o x5 x6 x7 x8 x9 x10 (xw (x11 + 1)) F
          else
            fX9_ease_b72 n o x5 x6 x7 x8 r5 x11 (xw (x11 + 1)) F
noncomputable def fX9_ease (o : Nat) (x1 : Int) (x2 : Int) (x3 : Int) (x4 : Int) (x5 : Int) (x6 : Int) (x7 : Int) (F : Mem) : Option (Int × Mem) :=
  (fX9_gainOfDay o x1 x2 x3 x4 F).bind fun q1 =>
  if q1.1 = (-1) then
    some ((-2), q1.2)
  else
    if (q1.2 (o + 62) 0).toNat = 0 then none else
    if (fX7_hasHouse ((q1.2 (o + 62) 0).toNat) x5 q1.2) = 0 then
      some ((-2), q1.2)
    else
      if x6 < 1 then
        some ((-2), q1.2)
      else
        if (q1.2 (o + 62) 0).toNat = 0 then none else
        if x6 ≤ (q1.2 ((q1.2 (o + 62) 0).toNat) 0) then
          (fX1_reachAll (o + 62) q1.2).bind fun q11 =>
          fX9_ease_b72 FU o x5 x6 x7 q1.1 (-1) (-1) 0 q11
        else
          some ((-2), q1.2)
theorem fX9_ease_b72_ok {Qr : Option PV → Mem → Prop}  : ∀ (n : Nat) (o : Nat) (x5 : Int) (x6 : Int) (x7 : Int) (x8 : Int) (x9 : Int) (x10 : Int) (x11 : Int) (F : Mem) (res : (Int × Mem)) (ho : isK o 9), fX9_ease_b72 n o x5 x6 x7 x8 x9 x10 x11 F = some res → Qr (some (vI res.1)) res.2 → PR cX9_ease (zX9_ease Qr) 72 [(0, vR o), (5, vI x5), (6, vI x6), (7, vI x7), (8, vI x8), (9, vI x9), (10, vI x10), (11, vI x11)] [] F := by
  intro n
  induction n with
  | zero => intro o x5 x6 x7 x8 x9 x10 x11 F res ho h hq; exact nomatch (show (none : Option _) = some _ from h)
  | succ n ih =>
    intro o x5 x6 x7 x8 x9 x10 x11 F res ho h hq
    refine s_iload (j := 7) dX9_ease_72 rfl ?_
    refine s_aload_n (j := 0) dX9_ease_74 rfl rfl ?_
    refine s_getR dX9_ease_75 flX9_51 ho ?_
    refine s_getM dX9_ease_78 flX9_259 (trX9_7 ho) (fun hm1 => ?_)
    have hm1 : _ = 0 ∨ isK ((F (o + 62) 0).toNat) 7 := hm1
    obtain ⟨hn2, h⟩ := gdn h
    refine s_getI dX9_ease_81 flX9_109 (hm1.resolve_left hn2) ?_
    refine s_iload (j := 2) dX9_ease_84 rfl ?_
    refine s_isub dX9_ease_86 ?_
    refine s_icmp_gt (tgt := 143) dX9_ease_87 rfl (fun hc3 => ?_) (fun hc3 => ?_)
    · have h := ifp hc3 h
      refine s_iload (j := 3) dX9_ease_143 rfl ?_
      refine s_if_eq (tgt := 153) dX9_ease_145 rfl (fun hc4 => ?_) (fun hc4 => ?_)
      · have h := ifp hc4 h
        refine s_iload (j := 6) dX9_ease_153 rfl ?_
        have h := Option.some.inj h
        subst h
        exact s_ireturn dX9_ease_155 rfl hq
      · have h := ifn hc4 h
        refine s_iload (j := 5) dX9_ease_148 rfl ?_
        refine s_goto (tgt := 155) dX9_ease_150 rfl ?_
        have h := Option.some.inj h
        subst h
        exact s_ireturn dX9_ease_155 rfl hq
    · have h := ifn hc3 h
      refine s_aload_n (j := 0) dX9_ease_90 rfl rfl ?_
      refine s_getR dX9_ease_91 flX9_51 ho ?_
      refine s_iload (j := 4) dX9_ease_94 rfl ?_
      refine s_iload (j := 1) dX9_ease_96 rfl ?_
      refine s_iload (j := 7) dX9_ease_98 rfl ?_
      refine s_iload (j := 7) dX9_ease_100 rfl ?_
      refine s_iload (j := 2) dX9_ease_102 rfl ?_
      refine s_iadd dX9_ease_104 ?_
      obtain ⟨r5, hv6, h⟩ := bnd h
      refine s_callV (As := [vI x8, vI x5, vI x11, vI (xw (x11 + x6))]) (rest := []) (r := (some (vI r5))) (F' := F) dX9_ease_105 (clX9_275 (Nat.le_of_ble_eq_true rfl) (Nat.le_of_ble_eq_true rfl)) (trX9_7 ho) rfl ⟨_, _, _, _, _, _, rfl, (trX9_7 ho), hv6, rfl, rfl⟩ rfl (Nat.le_of_ble_eq_true rfl) ?_
      refine s_istore (ls' := [(12, vI r5), (0, vR o), (5, vI x5), (6, vI x6), (7, vI x7), (8, vI x8), (9, vI x9), (10, vI x10), (11, vI x11)]) dX9_ease_108 (Nat.le_of_ble_eq_true rfl) rfl ?_
      refine s_iload (j := 0) dX9_ease_110 rfl ?_
      refine s_iconst dX9_ease_112 (cin rfl) ?_
      refine s_icmp_eq (tgt := 137) dX9_ease_113 rfl (fun hc7 => ?_) (fun hc7 => ?_)
      · have h := ifp hc7 h
        refine s_iinc (ls' := [(11, vI (xw (x11 + 1))), (12, vI r5), (0, vR o), (5, vI x5), (6, vI x6), (7, vI x7), (8, vI x8), (9, vI x9), (10, vI x10)]) (j := 8) dX9_ease_137 rfl (Nat.le_of_ble_eq_true rfl) rfl ?_
        refine s_goto (tgt := 72) dX9_ease_140 rfl ?_
        exact s_sub (ks := [2, 3, 4, 5, 6, 7, 8, 0]) rfl (ih o x5 x6 x7 x8 x9 x10 (xw (x11 + 1)) F _ ho h hq)
      · have h := ifn hc7 h
        refine s_iload (j := 6) dX9_ease_116 rfl ?_
        refine s_iconst dX9_ease_118 (cin rfl) ?_
        refine s_icmp_eq (tgt := 129) dX9_ease_119 rfl (fun hc8 => ?_) (fun hc8 => ?_)
        · have h := ifp hc8 h
          refine s_iload (j := 0) dX9_ease_129 rfl ?_
          refine s_istore (ls' := [(9, vI r5), (12, vI r5), (0, vR o), (5, vI x5), (6, vI x6), (7, vI x7), (8, vI x8), (10, vI x10), (11, vI x11)]) dX9_ease_131 (Nat.le_of_ble_eq_true rfl) rfl ?_
          refine s_iload (j := 8) dX9_ease_133 rfl ?_
          refine s_istore dX9_ease_135 (Nat.le_of_ble_eq_true rfl) rfl ?_
          refine s_iinc (ls' := [(11, vI (xw (x11 + 1))), (10, vI x11), (9, vI r5), (12, vI r5), (0, vR o), (5, vI x5), (6, vI x6), (7, vI x7), (8, vI x8)]) (j := 8) dX9_ease_137 rfl (Nat.le_of_ble_eq_true rfl) rfl ?_
          refine s_goto (tgt := 72) dX9_ease_140 rfl ?_
          exact s_sub (ks := [4, 5, 6, 7, 8, 2, 1, 0]) rfl (ih o x5 x6 x7 x8 r5 x11 (xw (x11 + 1)) F _ ho h hq)
        · have h := ifn hc8 h
          refine s_iload (j := 0) dX9_ease_122 rfl ?_
          refine s_iload (j := 6) dX9_ease_124 rfl ?_
          refine s_icmp_ge (tgt := 137) dX9_ease_126 rfl (fun hc9 => ?_) (fun hc9 => ?_)
          · have h := ifp hc9 h
            refine s_iinc (ls' := [(11, vI (xw (x11 + 1))), (12, vI r5), (0, vR o), (5, vI x5), (6, vI x6), (7, vI x7), (8, vI x8), (9, vI x9), (10, vI x10)]) (j := 8) dX9_ease_137 rfl (Nat.le_of_ble_eq_true rfl) rfl ?_
            refine s_goto (tgt := 72) dX9_ease_140 rfl ?_
            exact s_sub (ks := [2, 3, 4, 5, 6, 7, 8, 0]) rfl (ih o x5 x6 x7 x8 x9 x10 (xw (x11 + 1)) F _ ho h hq)
          · have h := ifn hc9 h
            refine s_iload (j := 0) dX9_ease_129 rfl ?_
            refine s_istore (ls' := [(9, vI r5), (12, vI r5), (0, vR o), (5, vI x5), (6, vI x6), (7, vI x7), (8, vI x8), (10, vI x10), (11, vI x11)]) dX9_ease_131 (Nat.le_of_ble_eq_true rfl) rfl ?_
            refine s_iload (j := 8) dX9_ease_133 rfl ?_
            refine s_istore dX9_ease_135 (Nat.le_of_ble_eq_true rfl) rfl ?_
            refine s_iinc (ls' := [(11, vI (xw (x11 + 1))), (10, vI x11), (9, vI r5), (12, vI r5), (0, vR o), (5, vI x5), (6, vI x6), (7, vI x7), (8, vI x8)]) (j := 8) dX9_ease_137 rfl (Nat.le_of_ble_eq_true rfl) rfl ?_
            refine s_goto (tgt := 72) dX9_ease_140 rfl ?_
            exact s_sub (ks := [4, 5, 6, 7, 8, 2, 1, 0]) rfl (ih o x5 x6 x7 x8 r5 x11 (xw (x11 + 1)) F _ ho h hq)
theorem fX9_ease_ok {Qr : Option PV → Mem → Prop} : ∀ (o : Nat) (x1 : Int) (x2 : Int) (x3 : Int) (x4 : Int) (x5 : Int) (x6 : Int) (x7 : Int) (F : Mem) (res : (Int × Mem)) (ho : isK o 9), fX9_ease o x1 x2 x3 x4 x5 x6 x7 F = some res → Qr (some (vI res.1)) res.2 → PR cX9_ease (zX9_ease Qr) 0 [(0, vR o), (1, vI x1), (2, vI x2), (3, vI x3), (4, vI x4), (5, vI x5), (6, vI x6), (7, vI x7)] [] F := by
  intro o x1 x2 x3 x4 x5 x6 x7 F res ho h hq
  refine s_aload_n (j := 0) dX9_ease_0 rfl rfl ?_
  refine s_iload_n (j := 1) dX9_ease_1 rfl rfl ?_
  refine s_iload_n (j := 2) dX9_ease_2 rfl rfl ?_
  refine s_iload_n (j := 3) dX9_ease_3 rfl rfl ?_
  refine s_iload (j := 4) dX9_ease_4 rfl ?_
  obtain ⟨q1, hv2, h⟩ := bnd h
  refine s_callV (As := [vI x1, vI x2, vI x3, vI x4]) (rest := []) (r := (some (vI q1.1))) (F' := q1.2) dX9_ease_6 (clX9_265 (Nat.le_of_ble_eq_true rfl) (Nat.le_of_ble_eq_true rfl)) ho rfl ⟨_, _, _, _, _, _, rfl, ho, hv2, rfl, rfl⟩ rfl (Nat.le_of_ble_eq_true rfl) ?_
  refine s_istore (ls' := [(8, vI q1.1), (0, vR o), (1, vI x1), (2, vI x2), (3, vI x3), (4, vI x4), (5, vI x5), (6, vI x6), (7, vI x7)]) dX9_ease_9 (Nat.le_of_ble_eq_true rfl) rfl ?_
  refine s_iload (j := 0) dX9_ease_11 rfl ?_
  refine s_iconst dX9_ease_13 (cin rfl) ?_
  refine s_icmp_eq (tgt := 53) dX9_ease_14 rfl (fun hc3 => ?_) (fun hc3 => ?_)
  · have h := ifp hc3 h
    refine s_bipush dX9_ease_53 rfl (cin rfl) ?_
    have h := Option.some.inj h
    subst h
    exact s_ireturn dX9_ease_55 rfl hq
  · have h := ifn hc3 h
    refine s_aload_n (j := 1) dX9_ease_17 rfl rfl ?_
    refine s_getR dX9_ease_18 flX9_51 ho ?_
    refine s_getM dX9_ease_21 flX9_259 (trX9_7 ho) (fun hm4 => ?_)
    have hm4 : _ = 0 ∨ isK ((q1.2 (o + 62) 0).toNat) 7 := hm4
    refine s_iload (j := 6) dX9_ease_24 rfl ?_
    obtain ⟨hn5, h⟩ := gdn h
    refine s_callV (As := [vI x5]) (rest := []) (r := (some (vI (fX7_hasHouse ((q1.2 (o + 62) 0).toNat) x5 q1.2)))) (F' := q1.2) dX9_ease_26 (clX9_141 (Nat.le_of_ble_eq_true rfl) (Nat.le_of_ble_eq_true rfl)) (hm4.resolve_left hn5) rfl ⟨_, _, _, rfl, (hm4.resolve_left hn5), rfl, rfl, rfl⟩ rfl (Nat.le_of_ble_eq_true rfl) ?_
    refine s_if_eq (tgt := 53) dX9_ease_29 rfl (fun hc6 => ?_) (fun hc6 => ?_)
    · have h := ifp hc6 h
      refine s_bipush dX9_ease_53 rfl (cin rfl) ?_
      have h := Option.some.inj h
      subst h
      exact s_ireturn dX9_ease_55 rfl hq
    · have h := ifn hc6 h
      refine s_iload (j := 7) dX9_ease_32 rfl ?_
      refine s_iconst dX9_ease_34 (cin rfl) ?_
      refine s_icmp_lt (tgt := 53) dX9_ease_35 rfl (fun hc7 => ?_) (fun hc7 => ?_)
      · have h := ifp hc7 h
        refine s_bipush dX9_ease_53 rfl (cin rfl) ?_
        have h := Option.some.inj h
        subst h
        exact s_ireturn dX9_ease_55 rfl hq
      · have h := ifn hc7 h
        refine s_iload (j := 7) dX9_ease_38 rfl ?_
        refine s_aload_n (j := 1) dX9_ease_40 rfl rfl ?_
        refine s_getR dX9_ease_41 flX9_51 ho ?_
        refine s_getM dX9_ease_44 flX9_259 (trX9_7 ho) (fun hm8 => ?_)
        have hm8 : _ = 0 ∨ isK ((q1.2 (o + 62) 0).toNat) 7 := hm8
        obtain ⟨hn9, h⟩ := gdn h
        refine s_getI dX9_ease_47 flX9_109 (hm8.resolve_left hn9) ?_
        refine s_icmp_le (tgt := 56) dX9_ease_50 rfl (fun hc10 => ?_) (fun hc10 => ?_)
        · have h := ifp hc10 h
          refine s_aload_n (j := 1) dX9_ease_56 rfl rfl ?_
          refine s_getR dX9_ease_57 flX9_51 ho ?_
          obtain ⟨q11, hv12, h⟩ := bnd h
          refine s_callV (As := []) (rest := []) (r := none) (F' := q11) dX9_ease_60 (clX9_272 (Nat.le_of_ble_eq_true rfl) (Nat.le_of_ble_eq_true rfl)) (trX9_7 ho) rfl ⟨_, _, rfl, (trX9_7 ho), hv12, rfl, rfl⟩ rfl (Nat.le_of_ble_eq_true rfl) ?_
          refine s_iconst dX9_ease_63 (cin rfl) ?_
          refine s_istore (ls' := [(9, vI (-1)), (8, vI q1.1), (0, vR o), (1, vI x1), (2, vI x2), (3, vI x3), (4, vI x4), (5, vI x5), (6, vI x6), (7, vI x7)]) dX9_ease_64 (Nat.le_of_ble_eq_true rfl) rfl ?_
          refine s_iconst dX9_ease_66 (cin rfl) ?_
          refine s_istore dX9_ease_67 (Nat.le_of_ble_eq_true rfl) rfl ?_
          refine s_iconst dX9_ease_69 (cin rfl) ?_
          refine s_istore (ls' := [(11, vI 0), (10, vI (-1)), (9, vI (-1)), (8, vI q1.1), (0, vR o), (1, vI x1), (2, vI x2), (3, vI x3), (4, vI x4), (5, vI x5), (6, vI x6), (7, vI x7)]) dX9_ease_70 (Nat.le_of_ble_eq_true rfl) rfl ?_
          exact s_sub (ks := [4, 9, 10, 11, 3, 2, 1, 0]) rfl (fX9_ease_b72_ok FU o x5 x6 x7 q1.1 (-1) (-1) 0 q11 _ ho h hq)
        · have h := ifn hc10 h
          refine s_bipush dX9_ease_53 rfl (cin rfl) ?_
          have h := Option.some.inj h
          subst h
          exact s_ireturn dX9_ease_55 rfl hq
def gX9_ease : XG := fun As F r F' => ∃ o : Nat, ∃ x1 : Int, ∃ x2 : Int, ∃ x3 : Int, ∃ x4 : Int, ∃ x5 : Int, ∃ x6 : Int, ∃ x7 : Int, ∃ res : (Int × Mem), As = [vR o, vI x1, vI x2, vI x3, vI x4, vI x5, vI x6, vI x7] ∧ isK o 9 ∧ fX9_ease o x1 x2 x3 x4 x5 x6 x7 F = some res ∧ r = some (vI res.1) ∧ F' = res.2
theorem ctX9_ease : xCT yX9_ease cX9_ease 13 (some FieldType.int) 7 166 gX9_ease := xmet (by decide +kernel) (fun As F r F' hg => by obtain ⟨o, x1, x2, x3, x4, x5, x6, x7, res, rfl, ho, h, rfl, rfl⟩ := hg; exact Nat.le_of_ble_eq_true rfl) (fun As F r F' hg => by obtain ⟨o, x1, x2, x3, x4, x5, x6, x7, res, rfl, ho, h, rfl, rfl⟩ := hg; exact fX9_ease_ok o x1 x2 x3 x4 x5 x6 x7 _ _ ho h ⟨rfl, rfl⟩)
theorem mcX9_ease : Cond.code yX9_ease cX9_ease 13 (some FieldType.int) ∈ xw_T ∧ Cond.initialized yX9_ease.cls ∈ xw_T ∧ Cond.instanceMethod yX9_ease ∈ xw_T ∧ Cond.selects yX9_ease.cls yX9_ease yX9_ease ∈ xw_T := ⟨(xinT 1296 (by decide +kernel) (by decide +kernel)), (xinT 116 (by decide +kernel) (by decide +kernel)), (xinT 1294 (by decide +kernel) (by decide +kernel)), (xinT 1295 (by decide +kernel) (by decide +kernel))⟩
theorem dX9_blame_0 : decode cX9_blame 0 = .ok (.aload_n 0, 1) := by decide +kernel
theorem dX9_blame_1 : decode cX9_blame 1 = .ok (.getfield 10, 3) := by decide +kernel
theorem dX9_blame_4 : decode cX9_blame 4 = .ok (.iconst 3, 1) := by decide +kernel
theorem dX9_blame_5 : decode cX9_blame 5 = .ok (.iload_n 3, 1) := by decide +kernel
theorem dX9_blame_6 : decode cX9_blame 6 = .ok (.invokevirtual 152, 3) := by decide +kernel
theorem dX9_blame_9 : decode cX9_blame 9 = .ok (.astore 5, 2) := by decide +kernel
theorem dX9_blame_11 : decode cX9_blame 11 = .ok (.aload 5, 2) := by decide +kernel
theorem dX9_blame_13 : decode cX9_blame 13 = .ok (.ifnull 12, 3) := by decide +kernel
theorem dX9_blame_16 : decode cX9_blame 16 = .ok (.aload_n 0, 1) := by decide +kernel
theorem dX9_blame_17 : decode cX9_blame 17 = .ok (.iload_n 1, 1) := by decide +kernel
theorem dX9_blame_18 : decode cX9_blame 18 = .ok (.iload_n 2, 1) := by decide +kernel
theorem dX9_blame_19 : decode cX9_blame 19 = .ok (.invokevirtual 168, 3) := by decide +kernel
theorem dX9_blame_22 : decode cX9_blame 22 = .ok (.ifCond .ne 6, 3) := by decide +kernel
theorem dX9_blame_25 : decode cX9_blame 25 = .ok (.bipush (-2), 2) := by decide +kernel
theorem dX9_blame_27 : decode cX9_blame 27 = .ok (.ireturn, 1) := by decide +kernel
theorem dX9_blame_28 : decode cX9_blame 28 = .ok (.iload 4, 2) := by decide +kernel
theorem dX9_blame_30 : decode cX9_blame 30 = .ok (.tableswitch 66 0 2 #[26, 37, 56], 26) := by decide +kernel
theorem dX9_blame_56 : decode cX9_blame 56 = .ok (.aload_n 0, 1) := by decide +kernel
theorem dX9_blame_57 : decode cX9_blame 57 = .ok (.getfield 44, 3) := by decide +kernel
theorem dX9_blame_60 : decode cX9_blame 60 = .ok (.aload 5, 2) := by decide +kernel
theorem dX9_blame_62 : decode cX9_blame 62 = .ok (.iconst 0, 1) := by decide +kernel
theorem dX9_blame_63 : decode cX9_blame 63 = .ok (.invokevirtual 367, 3) := by decide +kernel
theorem dX9_blame_66 : decode cX9_blame 66 = .ok (.ireturn, 1) := by decide +kernel
theorem dX9_blame_67 : decode cX9_blame 67 = .ok (.aload_n 0, 1) := by decide +kernel
theorem dX9_blame_68 : decode cX9_blame 68 = .ok (.getfield 44, 3) := by decide +kernel
theorem dX9_blame_71 : decode cX9_blame 71 = .ok (.invokevirtual 179, 3) := by decide +kernel
theorem dX9_blame_74 : decode cX9_blame 74 = .ok (.aload_n 0, 1) := by decide +kernel
theorem dX9_blame_75 : decode cX9_blame 75 = .ok (.getfield 44, 3) := by decide +kernel
theorem dX9_blame_78 : decode cX9_blame 78 = .ok (.aload 5, 2) := by decide +kernel
theorem dX9_blame_80 : decode cX9_blame 80 = .ok (.iconst 1, 1) := by decide +kernel
theorem dX9_blame_81 : decode cX9_blame 81 = .ok (.invokevirtual 367, 3) := by decide +kernel
theorem dX9_blame_84 : decode cX9_blame 84 = .ok (.isub, 1) := by decide +kernel
theorem dX9_blame_85 : decode cX9_blame 85 = .ok (.ireturn, 1) := by decide +kernel
theorem dX9_blame_86 : decode cX9_blame 86 = .ok (.aload_n 0, 1) := by decide +kernel
theorem dX9_blame_87 : decode cX9_blame 87 = .ok (.getfield 44, 3) := by decide +kernel
theorem dX9_blame_90 : decode cX9_blame 90 = .ok (.aload 5, 2) := by decide +kernel
theorem dX9_blame_92 : decode cX9_blame 92 = .ok (.invokevirtual 371, 3) := by decide +kernel
theorem dX9_blame_95 : decode cX9_blame 95 = .ok (.ireturn, 1) := by decide +kernel
theorem dX9_blame_96 : decode cX9_blame 96 = .ok (.iload 4, 2) := by decide +kernel
theorem dX9_blame_98 : decode cX9_blame 98 = .ok (.bipush 10, 2) := by decide +kernel
theorem dX9_blame_100 : decode cX9_blame 100 = .ok (.if_icmp .ge 7, 3) := by decide +kernel
theorem dX9_blame_103 : decode cX9_blame 103 = .ok (.iconst (-1), 1) := by decide +kernel
theorem dX9_blame_104 : decode cX9_blame 104 = .ok (.goto 8, 3) := by decide +kernel
theorem dX9_blame_107 : decode cX9_blame 107 = .ok (.iload 4, 2) := by decide +kernel
theorem dX9_blame_109 : decode cX9_blame 109 = .ok (.bipush 10, 2) := by decide +kernel
theorem dX9_blame_111 : decode cX9_blame 111 = .ok (.isub, 1) := by decide +kernel
theorem dX9_blame_112 : decode cX9_blame 112 = .ok (.istore 6, 2) := by decide +kernel
theorem dX9_blame_114 : decode cX9_blame 114 = .ok (.iload 6, 2) := by decide +kernel
theorem dX9_blame_116 : decode cX9_blame 116 = .ok (.ifCond .lt 13, 3) := by decide +kernel
theorem dX9_blame_119 : decode cX9_blame 119 = .ok (.iload 6, 2) := by decide +kernel
theorem dX9_blame_121 : decode cX9_blame 121 = .ok (.aload 5, 2) := by decide +kernel
theorem dX9_blame_123 : decode cX9_blame 123 = .ok (.getfield 130, 3) := by decide +kernel
theorem dX9_blame_126 : decode cX9_blame 126 = .ok (.if_icmp .lt 6, 3) := by decide +kernel
theorem dX9_blame_129 : decode cX9_blame 129 = .ok (.bipush (-2), 2) := by decide +kernel
theorem dX9_blame_131 : decode cX9_blame 131 = .ok (.ireturn, 1) := by decide +kernel
theorem dX9_blame_132 : decode cX9_blame 132 = .ok (.aload_n 0, 1) := by decide +kernel
theorem dX9_blame_133 : decode cX9_blame 133 = .ok (.getfield 44, 3) := by decide +kernel
theorem dX9_blame_136 : decode cX9_blame 136 = .ok (.aload 5, 2) := by decide +kernel
theorem dX9_blame_138 : decode cX9_blame 138 = .ok (.iload 6, 2) := by decide +kernel
theorem dX9_blame_140 : decode cX9_blame 140 = .ok (.iconst 0, 1) := by decide +kernel
theorem dX9_blame_141 : decode cX9_blame 141 = .ok (.invokevirtual 138, 3) := by decide +kernel
theorem dX9_blame_144 : decode cX9_blame 144 = .ok (.aload 5, 2) := by decide +kernel
theorem dX9_blame_146 : decode cX9_blame 146 = .ok (.iload 6, 2) := by decide +kernel
theorem dX9_blame_148 : decode cX9_blame 148 = .ok (.iconst 1, 1) := by decide +kernel
theorem dX9_blame_149 : decode cX9_blame 149 = .ok (.invokevirtual 138, 3) := by decide +kernel
theorem dX9_blame_152 : decode cX9_blame 152 = .ok (.invokevirtual 193, 3) := by decide +kernel
theorem dX9_blame_155 : decode cX9_blame 155 = .ok (.ireturn, 1) := by decide +kernel
def zX9_blame (Qr : Option PV → Mem → Prop) : XZ := (RX9, 6, 138, 7, some FieldType.int, Qr)
noncomputable def fX9_blame_b112 (o : Nat) (x5 : Nat) (s0 : Int) (F : Mem) : Option (Int × Mem) :=
  if s0 < 0 then
    some ((-2), F)
  else
    if x5 = 0 then none else
    if s0 < (F x5 3) then
      if x5 = 0 then none else
      (fX3_cell x5 s0 0 F).bind fun r5 =>
      if x5 = 0 then none else
      (fX3_cell x5 s0 1 F).bind fun r8 =>
      (fX8_slotOfRow (o + 59) r5 r8 F).bind fun r10 =>
      some (r10, F)
    else
      some ((-2), F)
noncomputable def fX9_blame (o : Nat) (x1 : Int) (x2 : Int) (x3 : Int) (x4 : Int) (F : Mem) : Option (Int × Mem) :=
  (fX4_sheetAt (o + 1) 3 x3 F).bind fun r1 =>
  if r1 = 0 then
    some ((-2), F)
  else
    (fX9_isWalked o x1 x2 F).bind fun q4 =>
    if q4.1 ≠ 0 then
      if x4 = 0 then
        (fX8_explained (o + 59) r1 0 q4.2).bind fun r8 =>
        some (r8, q4.2)
      else
      if x4 = 1 then
        (fX8_allWrong (o + 59) q4.2).bind fun r11 =>
        (fX8_explained (o + 59) r1 1 q4.2).bind fun r13 =>
        some (xw (r11 - r13), q4.2)
      else
      if x4 = 2 then
        (fX8_culprit (o + 59) r1 q4.2).bind fun q16 =>
        some (q16.1, q16.2)
      else
      if 10 ≤ x4 then
        fX9_blame_b112 o r1 (xw (x4 - 10)) q4.2
      else
        fX9_blame_b112 o r1 (-1) q4.2
    else
      some ((-2), q4.2)
theorem fX9_blame_b112_ok {Qr : Option PV → Mem → Prop}  : ∀ (o : Nat) (x5 : Nat) (s0 : Int) (F : Mem) (res : (Int × Mem)) (ho : isK o 9) (hx5 : x5 = 0 ∨ isK x5 3), fX9_blame_b112 o x5 s0 F = some res → Qr (some (vI res.1)) res.2 → PR cX9_blame (zX9_blame Qr) 112 [(0, vR o), (5, vR x5)] [vI s0] F := by
  intro o x5 s0 F res ho hx5 h hq
  refine s_istore (ls' := [(6, vI s0), (0, vR o), (5, vR x5)]) dX9_blame_112 (Nat.le_of_ble_eq_true rfl) rfl ?_
  refine s_iload (j := 0) dX9_blame_114 rfl ?_
  refine s_if_lt (tgt := 129) dX9_blame_116 rfl (fun hc1 => ?_) (fun hc1 => ?_)
  · have h := ifp hc1 h
    refine s_bipush dX9_blame_129 rfl (cin rfl) ?_
    have h := Option.some.inj h
    subst h
    exact s_ireturn dX9_blame_131 rfl hq
  · have h := ifn hc1 h
    refine s_iload (j := 0) dX9_blame_119 rfl ?_
    refine s_aload (j := 2) dX9_blame_121 rfl ?_
    obtain ⟨hn2, h⟩ := gdn h
    refine s_getI dX9_blame_123 flX9_130 (hx5.resolve_left hn2) ?_
    refine s_icmp_lt (tgt := 132) dX9_blame_126 rfl (fun hc3 => ?_) (fun hc3 => ?_)
    · have h := ifp hc3 h
      refine s_aload_n (j := 1) dX9_blame_132 rfl rfl ?_
      refine s_getR dX9_blame_133 flX9_44 ho ?_
      refine s_aload (j := 2) dX9_blame_136 rfl ?_
      refine s_iload (j := 0) dX9_blame_138 rfl ?_
      refine s_iconst dX9_blame_140 (cin rfl) ?_
      obtain ⟨hn4, h⟩ := gdn h
      obtain ⟨r5, hv6, h⟩ := bnd h
      refine s_callV (As := [vI s0, vI 0]) (rest := [vR (o + 59)]) (r := (some (vI r5))) (F' := F) dX9_blame_141 (clX9_138 (Nat.le_of_ble_eq_true rfl) (Nat.le_of_ble_eq_true rfl)) (hx5.resolve_left hn4) rfl ⟨_, _, _, _, rfl, (hx5.resolve_left hn4), hv6, rfl, rfl⟩ rfl (Nat.le_of_ble_eq_true rfl) ?_
      refine s_aload (j := 2) dX9_blame_144 rfl ?_
      refine s_iload (j := 0) dX9_blame_146 rfl ?_
      refine s_iconst dX9_blame_148 (cin rfl) ?_
      obtain ⟨hn7, h⟩ := gdn h
      obtain ⟨r8, hv9, h⟩ := bnd h
      refine s_callV (As := [vI s0, vI 1]) (rest := [vI r5, vR (o + 59)]) (r := (some (vI r8))) (F' := F) dX9_blame_149 (clX9_138 (Nat.le_of_ble_eq_true rfl) (Nat.le_of_ble_eq_true rfl)) (hx5.resolve_left hn7) rfl ⟨_, _, _, _, rfl, (hx5.resolve_left hn7), hv9, rfl, rfl⟩ rfl (Nat.le_of_ble_eq_true rfl) ?_
      obtain ⟨r10, hv11, h⟩ := bnd h
      refine s_callV (As := [vI r5, vI r8]) (rest := []) (r := (some (vI r10))) (F' := F) dX9_blame_152 (clX9_193 (Nat.le_of_ble_eq_true rfl) (Nat.le_of_ble_eq_true rfl)) (trX9_6 ho) rfl ⟨_, _, _, _, rfl, (trX9_6 ho), hv11, rfl, rfl⟩ rfl (Nat.le_of_ble_eq_true rfl) ?_
      have h := Option.some.inj h
      subst h
      exact s_ireturn dX9_blame_155 rfl hq
    · have h := ifn hc3 h
      refine s_bipush dX9_blame_129 rfl (cin rfl) ?_
      have h := Option.some.inj h
      subst h
      exact s_ireturn dX9_blame_131 rfl hq
theorem fX9_blame_ok {Qr : Option PV → Mem → Prop} : ∀ (o : Nat) (x1 : Int) (x2 : Int) (x3 : Int) (x4 : Int) (F : Mem) (res : (Int × Mem)) (ho : isK o 9), fX9_blame o x1 x2 x3 x4 F = some res → Qr (some (vI res.1)) res.2 → PR cX9_blame (zX9_blame Qr) 0 [(0, vR o), (1, vI x1), (2, vI x2), (3, vI x3), (4, vI x4)] [] F := by
  intro o x1 x2 x3 x4 F res ho h hq
  refine s_aload_n (j := 0) dX9_blame_0 rfl rfl ?_
  refine s_getR dX9_blame_1 flX9_10 ho ?_
  refine s_iconst dX9_blame_4 (cin rfl) ?_
  refine s_iload_n (j := 3) dX9_blame_5 rfl rfl ?_
  obtain ⟨r1, hv2, h⟩ := bnd h
  refine s_callV (As := [vI 3, vI x3]) (rest := []) (r := (some (vR r1))) (F' := F) dX9_blame_6 (clX9_152 (Nat.le_of_ble_eq_true rfl) (Nat.le_of_ble_eq_true rfl)) (trX9_0 ho) rfl ⟨_, _, _, _, rfl, (trX9_0 ho), hv2, rfl, rfl⟩ rfl (Nat.le_of_ble_eq_true rfl) ?_
  refine s_astore (ls' := [(5, vR r1), (0, vR o), (1, vI x1), (2, vI x2), (3, vI x3), (4, vI x4)]) dX9_blame_9 (Nat.le_of_ble_eq_true rfl) rfl ?_
  refine s_aload (j := 0) dX9_blame_11 rfl ?_
  refine s_ifnull (tgt := 25) dX9_blame_13 rfl (fun hc3 => ?_) (fun hc3 => ?_)
  · have h := ifp hc3 h
    refine s_bipush dX9_blame_25 rfl (cin rfl) ?_
    have h := Option.some.inj h
    subst h
    exact s_ireturn dX9_blame_27 rfl hq
  · have h := ifn hc3 h
    refine s_aload_n (j := 1) dX9_blame_16 rfl rfl ?_
    refine s_iload_n (j := 2) dX9_blame_17 rfl rfl ?_
    refine s_iload_n (j := 3) dX9_blame_18 rfl rfl ?_
    obtain ⟨q4, hv5, h⟩ := bnd h
    refine s_callV (As := [vI x1, vI x2]) (rest := []) (r := (some (vI q4.1))) (F' := q4.2) dX9_blame_19 (clX9_168 (Nat.le_of_ble_eq_true rfl) (Nat.le_of_ble_eq_true rfl)) ho rfl ⟨_, _, _, _, rfl, ho, hv5, rfl, rfl⟩ rfl (Nat.le_of_ble_eq_true rfl) ?_
    refine s_if_ne (tgt := 28) dX9_blame_22 rfl (fun hc6 => ?_) (fun hc6 => ?_)
    · have h := ifp hc6 h
      refine s_iload (j := 5) dX9_blame_28 rfl ?_
      by_cases hc7 : x4 = 0
      · have h := ifp hc7 h
        refine s_tabIn (tgt := 56) (off := 26) dX9_blame_30 (by omega) (by omega) (by rw [hc7]; rfl) rfl ?_
        refine s_aload_n (j := 1) dX9_blame_56 rfl rfl ?_
        refine s_getR dX9_blame_57 flX9_44 ho ?_
        refine s_aload (j := 0) dX9_blame_60 rfl ?_
        refine s_iconst dX9_blame_62 (cin rfl) ?_
        obtain ⟨r8, hv9, h⟩ := bnd h
        refine s_callV (As := [vR r1, vI 0]) (rest := []) (r := (some (vI r8))) (F' := q4.2) dX9_blame_63 (clX9_367 (Nat.le_of_ble_eq_true rfl) (Nat.le_of_ble_eq_true rfl)) (trX9_6 ho) rfl ⟨_, _, _, _, rfl, (trX9_6 ho), (Or.inr ((fX4_sheetAt_rt _ _ _ _ _ (trX9_0 ho) hv2).resolve_left hc3)), hv9, rfl, rfl⟩ rfl (Nat.le_of_ble_eq_true rfl) ?_
        have h := Option.some.inj h
        subst h
        exact s_ireturn dX9_blame_66 rfl hq
      have h := ifn hc7 h
      by_cases hc10 : x4 = 1
      · have h := ifp hc10 h
        refine s_tabIn (tgt := 67) (off := 37) dX9_blame_30 (by omega) (by omega) (by rw [hc10]; rfl) rfl ?_
        refine s_aload_n (j := 1) dX9_blame_67 rfl rfl ?_
        refine s_getR dX9_blame_68 flX9_44 ho ?_
        obtain ⟨r11, hv12, h⟩ := bnd h
        refine s_callV (As := []) (rest := []) (r := (some (vI r11))) (F' := q4.2) dX9_blame_71 (clX9_179 (Nat.le_of_ble_eq_true rfl) (Nat.le_of_ble_eq_true rfl)) (trX9_6 ho) rfl ⟨_, _, rfl, (trX9_6 ho), hv12, rfl, rfl⟩ rfl (Nat.le_of_ble_eq_true rfl) ?_
        refine s_aload_n (j := 1) dX9_blame_74 rfl rfl ?_
        refine s_getR dX9_blame_75 flX9_44 ho ?_
        refine s_aload (j := 0) dX9_blame_78 rfl ?_
        refine s_iconst dX9_blame_80 (cin rfl) ?_
        obtain ⟨r13, hv14, h⟩ := bnd h
        refine s_callV (As := [vR r1, vI 1]) (rest := [vI r11]) (r := (some (vI r13))) (F' := q4.2) dX9_blame_81 (clX9_367 (Nat.le_of_ble_eq_true rfl) (Nat.le_of_ble_eq_true rfl)) (trX9_6 ho) rfl ⟨_, _, _, _, rfl, (trX9_6 ho), (Or.inr ((fX4_sheetAt_rt _ _ _ _ _ (trX9_0 ho) hv2).resolve_left hc3)), hv14, rfl, rfl⟩ rfl (Nat.le_of_ble_eq_true rfl) ?_
        refine s_isub dX9_blame_84 ?_
        have h := Option.some.inj h
        subst h
        exact s_ireturn dX9_blame_85 rfl hq
      have h := ifn hc10 h
      by_cases hc15 : x4 = 2
      · have h := ifp hc15 h
        refine s_tabIn (tgt := 86) (off := 56) dX9_blame_30 (by omega) (by omega) (by rw [hc15]; rfl) rfl ?_
        refine s_aload_n (j := 1) dX9_blame_86 rfl rfl ?_
        refine s_getR dX9_blame_87 flX9_44 ho ?_
        refine s_aload (j := 0) dX9_blame_90 rfl ?_
        obtain ⟨q16, hv17, h⟩ := bnd h
        refine s_callV (As := [vR r1]) (rest := []) (r := (some (vI q16.1))) (F' := q16.2) dX9_blame_92 (clX9_371 (Nat.le_of_ble_eq_true rfl) (Nat.le_of_ble_eq_true rfl)) (trX9_6 ho) rfl ⟨_, _, _, rfl, (trX9_6 ho), (Or.inr ((fX4_sheetAt_rt _ _ _ _ _ (trX9_0 ho) hv2).resolve_left hc3)), hv17, rfl, rfl⟩ rfl (Nat.le_of_ble_eq_true rfl) ?_
        have h := Option.some.inj h
        subst h
        exact s_ireturn dX9_blame_95 rfl hq
      have h := ifn hc15 h
      refine s_tabOut (tgt := 96) dX9_blame_30 (by omega) rfl ?_
      refine s_iload (j := 5) dX9_blame_96 rfl ?_
      refine s_bipush dX9_blame_98 rfl (cin rfl) ?_
      refine s_icmp_ge (tgt := 107) dX9_blame_100 rfl (fun hc18 => ?_) (fun hc18 => ?_)
      · have h := ifp hc18 h
        refine s_iload (j := 5) dX9_blame_107 rfl ?_
        refine s_bipush dX9_blame_109 rfl (cin rfl) ?_
        refine s_isub dX9_blame_111 ?_
        exact s_sub (ks := [1, 0]) rfl (fX9_blame_b112_ok o r1 (xw (x4 - 10)) q4.2 _ ho (Or.inr ((fX4_sheetAt_rt _ _ _ _ _ (trX9_0 ho) hv2).resolve_left hc3)) h hq)
      · have h := ifn hc18 h
        refine s_iconst dX9_blame_103 (cin rfl) ?_
        refine s_goto (tgt := 112) dX9_blame_104 rfl ?_
        exact s_sub (ks := [1, 0]) rfl (fX9_blame_b112_ok o r1 (-1) q4.2 _ ho (Or.inr ((fX4_sheetAt_rt _ _ _ _ _ (trX9_0 ho) hv2).resolve_left hc3)) h hq)
    · have h := ifn hc6 h
      refine s_bipush dX9_blame_25 rfl (cin rfl) ?_
      have h := Option.some.inj h
      subst h
      exact s_ireturn dX9_blame_27 rfl hq
def gX9_blame : XG := fun As F r F' => ∃ o : Nat, ∃ x1 : Int, ∃ x2 : Int, ∃ x3 : Int, ∃ x4 : Int, ∃ res : (Int × Mem), As = [vR o, vI x1, vI x2, vI x3, vI x4] ∧ isK o 9 ∧ fX9_blame o x1 x2 x3 x4 F = some res ∧ r = some (vI res.1) ∧ F' = res.2
theorem ctX9_blame : xCT yX9_blame cX9_blame 7 (some FieldType.int) 6 138 gX9_blame := xmet (by decide +kernel) (fun As F r F' hg => by obtain ⟨o, x1, x2, x3, x4, res, rfl, ho, h, rfl, rfl⟩ := hg; exact Nat.le_of_ble_eq_true rfl) (fun As F r F' hg => by obtain ⟨o, x1, x2, x3, x4, res, rfl, ho, h, rfl, rfl⟩ := hg; exact fX9_blame_ok o x1 x2 x3 x4 _ _ ho h ⟨rfl, rfl⟩)
theorem mcX9_blame : Cond.code yX9_blame cX9_blame 7 (some FieldType.int) ∈ xw_T ∧ Cond.initialized yX9_blame.cls ∈ xw_T ∧ Cond.instanceMethod yX9_blame ∈ xw_T ∧ Cond.selects yX9_blame.cls yX9_blame yX9_blame ∈ xw_T := ⟨(xinT 1300 (by decide +kernel) (by decide +kernel)), (xinT 116 (by decide +kernel) (by decide +kernel)), (xinT 1298 (by decide +kernel) (by decide +kernel)), (xinT 1299 (by decide +kernel) (by decide +kernel))⟩
theorem dX9_likely_0 : decode cX9_likely 0 = .ok (.aload_n 0, 1) := by decide +kernel
theorem dX9_likely_1 : decode cX9_likely 1 = .ok (.getfield 10, 3) := by decide +kernel
theorem dX9_likely_4 : decode cX9_likely 4 = .ok (.iconst 3, 1) := by decide +kernel
theorem dX9_likely_5 : decode cX9_likely 5 = .ok (.iload_n 2, 1) := by decide +kernel
theorem dX9_likely_6 : decode cX9_likely 6 = .ok (.invokevirtual 152, 3) := by decide +kernel
theorem dX9_likely_9 : decode cX9_likely 9 = .ok (.astore_n 3, 1) := by decide +kernel
theorem dX9_likely_10 : decode cX9_likely 10 = .ok (.iconst (-1), 1) := by decide +kernel
theorem dX9_likely_11 : decode cX9_likely 11 = .ok (.istore 4, 2) := by decide +kernel
theorem dX9_likely_13 : decode cX9_likely 13 = .ok (.iconst (-1), 1) := by decide +kernel
theorem dX9_likely_14 : decode cX9_likely 14 = .ok (.istore 5, 2) := by decide +kernel
theorem dX9_likely_16 : decode cX9_likely 16 = .ok (.iconst (-1), 1) := by decide +kernel
theorem dX9_likely_17 : decode cX9_likely 17 = .ok (.istore 6, 2) := by decide +kernel
theorem dX9_likely_19 : decode cX9_likely 19 = .ok (.iconst 0, 1) := by decide +kernel
theorem dX9_likely_20 : decode cX9_likely 20 = .ok (.istore 7, 2) := by decide +kernel
theorem dX9_likely_22 : decode cX9_likely 22 = .ok (.aload_n 3, 1) := by decide +kernel
theorem dX9_likely_23 : decode cX9_likely 23 = .ok (.ifnull 98, 3) := by decide +kernel
theorem dX9_likely_26 : decode cX9_likely 26 = .ok (.iload 7, 2) := by decide +kernel
theorem dX9_likely_28 : decode cX9_likely 28 = .ok (.aload_n 0, 1) := by decide +kernel
theorem dX9_likely_29 : decode cX9_likely 29 = .ok (.getfield 10, 3) := by decide +kernel
theorem dX9_likely_32 : decode cX9_likely 32 = .ok (.getfield 160, 3) := by decide +kernel
theorem dX9_likely_35 : decode cX9_likely 35 = .ok (.iconst 1, 1) := by decide +kernel
theorem dX9_likely_36 : decode cX9_likely 36 = .ok (.iaload, 1) := by decide +kernel
theorem dX9_likely_37 : decode cX9_likely 37 = .ok (.if_icmp .ge 84, 3) := by decide +kernel
theorem dX9_likely_40 : decode cX9_likely 40 = .ok (.aload_n 0, 1) := by decide +kernel
theorem dX9_likely_41 : decode cX9_likely 41 = .ok (.iload_n 1, 1) := by decide +kernel
theorem dX9_likely_42 : decode cX9_likely 42 = .ok (.iload 7, 2) := by decide +kernel
theorem dX9_likely_44 : decode cX9_likely 44 = .ok (.invokevirtual 168, 3) := by decide +kernel
theorem dX9_likely_47 : decode cX9_likely 47 = .ok (.ifCond .ne 5, 3) := by decide +kernel
theorem dX9_likely_50 : decode cX9_likely 50 = .ok (.iconst (-1), 1) := by decide +kernel
theorem dX9_likely_51 : decode cX9_likely 51 = .ok (.ireturn, 1) := by decide +kernel
theorem dX9_likely_52 : decode cX9_likely 52 = .ok (.aload_n 0, 1) := by decide +kernel
theorem dX9_likely_53 : decode cX9_likely 53 = .ok (.getfield 44, 3) := by decide +kernel
theorem dX9_likely_56 : decode cX9_likely 56 = .ok (.aload_n 3, 1) := by decide +kernel
theorem dX9_likely_57 : decode cX9_likely 57 = .ok (.iconst 0, 1) := by decide +kernel
theorem dX9_likely_58 : decode cX9_likely 58 = .ok (.invokevirtual 367, 3) := by decide +kernel
theorem dX9_likely_61 : decode cX9_likely 61 = .ok (.istore 8, 2) := by decide +kernel
theorem dX9_likely_63 : decode cX9_likely 63 = .ok (.aload_n 0, 1) := by decide +kernel
theorem dX9_likely_64 : decode cX9_likely 64 = .ok (.getfield 44, 3) := by decide +kernel
theorem dX9_likely_67 : decode cX9_likely 67 = .ok (.invokevirtual 179, 3) := by decide +kernel
theorem dX9_likely_70 : decode cX9_likely 70 = .ok (.aload_n 0, 1) := by decide +kernel
theorem dX9_likely_71 : decode cX9_likely 71 = .ok (.getfield 44, 3) := by decide +kernel
theorem dX9_likely_74 : decode cX9_likely 74 = .ok (.aload_n 3, 1) := by decide +kernel
theorem dX9_likely_75 : decode cX9_likely 75 = .ok (.iconst 1, 1) := by decide +kernel
theorem dX9_likely_76 : decode cX9_likely 76 = .ok (.invokevirtual 367, 3) := by decide +kernel
theorem dX9_likely_79 : decode cX9_likely 79 = .ok (.isub, 1) := by decide +kernel
theorem dX9_likely_80 : decode cX9_likely 80 = .ok (.istore 9, 2) := by decide +kernel
theorem dX9_likely_82 : decode cX9_likely 82 = .ok (.iload 8, 2) := by decide +kernel
theorem dX9_likely_84 : decode cX9_likely 84 = .ok (.iload 5, 2) := by decide +kernel
theorem dX9_likely_86 : decode cX9_likely 86 = .ok (.if_icmp .gt 17, 3) := by decide +kernel
theorem dX9_likely_89 : decode cX9_likely 89 = .ok (.iload 8, 2) := by decide +kernel
theorem dX9_likely_91 : decode cX9_likely 91 = .ok (.iload 5, 2) := by decide +kernel
theorem dX9_likely_93 : decode cX9_likely 93 = .ok (.if_icmp .ne 22, 3) := by decide +kernel
theorem dX9_likely_96 : decode cX9_likely 96 = .ok (.iload 9, 2) := by decide +kernel
theorem dX9_likely_98 : decode cX9_likely 98 = .ok (.iload 6, 2) := by decide +kernel
theorem dX9_likely_100 : decode cX9_likely 100 = .ok (.if_icmp .ge 15, 3) := by decide +kernel
theorem dX9_likely_103 : decode cX9_likely 103 = .ok (.iload 7, 2) := by decide +kernel
theorem dX9_likely_105 : decode cX9_likely 105 = .ok (.istore 4, 2) := by decide +kernel
theorem dX9_likely_107 : decode cX9_likely 107 = .ok (.iload 8, 2) := by decide +kernel
theorem dX9_likely_109 : decode cX9_likely 109 = .ok (.istore 5, 2) := by decide +kernel
theorem dX9_likely_111 : decode cX9_likely 111 = .ok (.iload 9, 2) := by decide +kernel
theorem dX9_likely_113 : decode cX9_likely 113 = .ok (.istore 6, 2) := by decide +kernel
theorem dX9_likely_115 : decode cX9_likely 115 = .ok (.iinc 7 1, 3) := by decide +kernel
theorem dX9_likely_118 : decode cX9_likely 118 = .ok (.goto (-96), 3) := by decide +kernel
theorem dX9_likely_121 : decode cX9_likely 121 = .ok (.iload 4, 2) := by decide +kernel
theorem dX9_likely_123 : decode cX9_likely 123 = .ok (.ireturn, 1) := by decide +kernel
def zX9_likely (Qr : Option PV → Mem → Prop) : XZ := (RX9, 6, 138, 10, some FieldType.int, Qr)
noncomputable def fX9_likely_b22 : Nat → Nat → Int → Nat → Int → Int → Int → Int → Mem → Option (Int × Mem)
  | 0, _, _, _, _, _, _, _, _ => none
  | n + 1, o, x1, x3, x4, x5, x6, x7, F =>
    if x3 = 0 then
      some (x4, F)
    else
      if (0 : Int) ≤ 1 ∧ 1 < (alen ((o + 1) + 2) : Int) then
        if (F ((o + 1) + 2) 1) ≤ x7 then
          some (x4, F)
        else
          (fX9_isWalked o x1 x7 F).bind fun q4 =>
          if q4.1 ≠ 0 then
            (fX8_explained (o + 59) x3 0 q4.2).bind fun r7 =>
            (fX8_allWrong (o + 59) q4.2).bind fun r9 =>
            (fX8_explained (o + 59) x3 1 q4.2).bind fun r11 =>
            if x5 < r7 then
              fX9_likely_b22 n o x1 x3 x7 r7 (xw (r9 - r11)) (xw (x7 + 1)) q4.2
            else
              if r7 ≠ x5 then
                fX9_likely_b22 n o x1 x3 x4 x5 x6 (xw (x7 + 1)) q4.2
              else
                if x6 ≤ (xw (r9 - r11)) then
                  fX9_likely_b22 n o x1 x3 x4 x5 x6 (xw (x7 + 1)) q4.2
                else
                  fX9_likely_b22 n o x1 x3 x7 r7 (xw (r9 - r11)) (xw (x7 + 1)) q4.2
          else
            some ((-1), q4.2)
      else none
noncomputable def fX9_likely (o : Nat) (x1 : Int) (x2 : Int) (F : Mem) : Option (Int × Mem) :=
  (fX4_sheetAt (o + 1) 3 x2 F).bind fun r1 =>
  fX9_likely_b22 FU o x1 r1 (-1) (-1) (-1) 0 F
theorem fX9_likely_b22_ok {Qr : Option PV → Mem → Prop}  : ∀ (n : Nat) (o : Nat) (x1 : Int) (x3 : Nat) (x4 : Int) (x5 : Int) (x6 : Int) (x7 : Int) (F : Mem) (res : (Int × Mem)) (ho : isK o 9) (hx3 : x3 = 0 ∨ isK x3 3), fX9_likely_b22 n o x1 x3 x4 x5 x6 x7 F = some res → Qr (some (vI res.1)) res.2 → PR cX9_likely (zX9_likely Qr) 22 [(0, vR o), (1, vI x1), (3, vR x3), (4, vI x4), (5, vI x5), (6, vI x6), (7, vI x7)] [] F := by
  intro n
  induction n with
  | zero => intro o x1 x3 x4 x5 x6 x7 F res ho hx3 h hq; exact nomatch (show (none : Option _) = some _ from h)
  | succ n ih =>
    intro o x1 x3 x4 x5 x6 x7 F res ho hx3 h hq
    refine s_aload_n (j := 2) dX9_likely_22 rfl rfl ?_
    refine s_ifnull (tgt := 121) dX9_likely_23 rfl (fun hc1 => ?_) (fun hc1 => ?_)
    · have h := ifp hc1 h
      refine s_iload (j := 3) dX9_likely_121 rfl ?_
      have h := Option.some.inj h
      subst h
      exact s_ireturn dX9_likely_123 rfl hq
    · have h := ifn hc1 h
      refine s_iload (j := 6) dX9_likely_26 rfl ?_
      refine s_aload_n (j := 0) dX9_likely_28 rfl rfl ?_
      refine s_getR dX9_likely_29 flX9_10 ho ?_
      refine s_getR dX9_likely_32 flX9_160 (trX9_0 ho) ?_
      refine s_iconst dX9_likely_35 (cin rfl) ?_
      obtain ⟨hb2, h⟩ := gd h
      refine s_iaload dX9_likely_36 (trX4_4 (trX9_0 ho)) hb2.1 hb2.2 ?_
      refine s_icmp_ge (tgt := 121) dX9_likely_37 rfl (fun hc3 => ?_) (fun hc3 => ?_)
      · have h := ifp hc3 h
        refine s_iload (j := 3) dX9_likely_121 rfl ?_
        have h := Option.some.inj h
        subst h
        exact s_ireturn dX9_likely_123 rfl hq
      · have h := ifn hc3 h
        refine s_aload_n (j := 0) dX9_likely_40 rfl rfl ?_
        refine s_iload_n (j := 1) dX9_likely_41 rfl rfl ?_
        refine s_iload (j := 6) dX9_likely_42 rfl ?_
        obtain ⟨q4, hv5, h⟩ := bnd h
        refine s_callV (As := [vI x1, vI x7]) (rest := []) (r := (some (vI q4.1))) (F' := q4.2) dX9_likely_44 (clX9_168 (Nat.le_of_ble_eq_true rfl) (Nat.le_of_ble_eq_true rfl)) ho rfl ⟨_, _, _, _, rfl, ho, hv5, rfl, rfl⟩ rfl (Nat.le_of_ble_eq_true rfl) ?_
        refine s_if_ne (tgt := 52) dX9_likely_47 rfl (fun hc6 => ?_) (fun hc6 => ?_)
        · have h := ifp hc6 h
          refine s_aload_n (j := 0) dX9_likely_52 rfl rfl ?_
          refine s_getR dX9_likely_53 flX9_44 ho ?_
          refine s_aload_n (j := 2) dX9_likely_56 rfl rfl ?_
          refine s_iconst dX9_likely_57 (cin rfl) ?_
          obtain ⟨r7, hv8, h⟩ := bnd h
          refine s_callV (As := [vR x3, vI 0]) (rest := []) (r := (some (vI r7))) (F' := q4.2) dX9_likely_58 (clX9_367 (Nat.le_of_ble_eq_true rfl) (Nat.le_of_ble_eq_true rfl)) (trX9_6 ho) rfl ⟨_, _, _, _, rfl, (trX9_6 ho), (Or.inr (hx3.resolve_left hc1)), hv8, rfl, rfl⟩ rfl (Nat.le_of_ble_eq_true rfl) ?_
          refine s_istore (ls' := [(8, vI r7), (0, vR o), (1, vI x1), (3, vR x3), (4, vI x4), (5, vI x5), (6, vI x6), (7, vI x7)]) dX9_likely_61 (Nat.le_of_ble_eq_true rfl) rfl ?_
          refine s_aload_n (j := 1) dX9_likely_63 rfl rfl ?_
          refine s_getR dX9_likely_64 flX9_44 ho ?_
          obtain ⟨r9, hv10, h⟩ := bnd h
          refine s_callV (As := []) (rest := []) (r := (some (vI r9))) (F' := q4.2) dX9_likely_67 (clX9_179 (Nat.le_of_ble_eq_true rfl) (Nat.le_of_ble_eq_true rfl)) (trX9_6 ho) rfl ⟨_, _, rfl, (trX9_6 ho), hv10, rfl, rfl⟩ rfl (Nat.le_of_ble_eq_true rfl) ?_
          refine s_aload_n (j := 1) dX9_likely_70 rfl rfl ?_
          refine s_getR dX9_likely_71 flX9_44 ho ?_
          refine s_aload_n (j := 3) dX9_likely_74 rfl rfl ?_
          refine s_iconst dX9_likely_75 (cin rfl) ?_
          obtain ⟨r11, hv12, h⟩ := bnd h
          refine s_callV (As := [vR x3, vI 1]) (rest := [vI r9]) (r := (some (vI r11))) (F' := q4.2) dX9_likely_76 (clX9_367 (Nat.le_of_ble_eq_true rfl) (Nat.le_of_ble_eq_true rfl)) (trX9_6 ho) rfl ⟨_, _, _, _, rfl, (trX9_6 ho), (Or.inr (hx3.resolve_left hc1)), hv12, rfl, rfl⟩ rfl (Nat.le_of_ble_eq_true rfl) ?_
          refine s_isub dX9_likely_79 ?_
          refine s_istore dX9_likely_80 (Nat.le_of_ble_eq_true rfl) rfl ?_
          refine s_iload (j := 1) dX9_likely_82 rfl ?_
          refine s_iload (j := 6) dX9_likely_84 rfl ?_
          refine s_icmp_gt (tgt := 103) dX9_likely_86 rfl (fun hc13 => ?_) (fun hc13 => ?_)
          · have h := ifp hc13 h
            refine s_iload (j := 8) dX9_likely_103 rfl ?_
            refine s_istore (ls' := [(4, vI x7), (9, vI (xw (r9 - r11))), (8, vI r7), (0, vR o), (1, vI x1), (3, vR x3), (5, vI x5), (6, vI x6), (7, vI x7)]) dX9_likely_105 (Nat.le_of_ble_eq_true rfl) rfl ?_
            refine s_iload (j := 2) dX9_likely_107 rfl ?_
            refine s_istore dX9_likely_109 (Nat.le_of_ble_eq_true rfl) rfl ?_
            refine s_iload (j := 2) dX9_likely_111 rfl ?_
            refine s_istore (ls' := [(6, vI (xw (r9 - r11))), (5, vI r7), (4, vI x7), (9, vI (xw (r9 - r11))), (8, vI r7), (0, vR o), (1, vI x1), (3, vR x3), (7, vI x7)]) dX9_likely_113 (Nat.le_of_ble_eq_true rfl) rfl ?_
            refine s_iinc (j := 8) dX9_likely_115 rfl (Nat.le_of_ble_eq_true rfl) rfl ?_
            refine s_goto (tgt := 22) dX9_likely_118 rfl ?_
            exact s_sub (ks := [6, 7, 8, 3, 2, 1, 0]) rfl (ih o x1 x3 x7 r7 (xw (r9 - r11)) (xw (x7 + 1)) q4.2 _ ho (Or.inr (hx3.resolve_left hc1)) h hq)
          · have h := ifn hc13 h
            refine s_iload (j := 1) dX9_likely_89 rfl ?_
            refine s_iload (j := 6) dX9_likely_91 rfl ?_
            refine s_icmp_ne (tgt := 115) dX9_likely_93 rfl (fun hc14 => ?_) (fun hc14 => ?_)
            · have h := ifp hc14 h
              refine s_iinc (ls' := [(7, vI (xw (x7 + 1))), (9, vI (xw (r9 - r11))), (8, vI r7), (0, vR o), (1, vI x1), (3, vR x3), (4, vI x4), (5, vI x5), (6, vI x6)]) (j := 8) dX9_likely_115 rfl (Nat.le_of_ble_eq_true rfl) rfl ?_
              refine s_goto (tgt := 22) dX9_likely_118 rfl ?_
              exact s_sub (ks := [3, 4, 5, 6, 7, 8, 0]) rfl (ih o x1 x3 x4 x5 x6 (xw (x7 + 1)) q4.2 _ ho (Or.inr (hx3.resolve_left hc1)) h hq)
            · have h := ifn hc14 h
              refine s_iload (j := 0) dX9_likely_96 rfl ?_
              refine s_iload (j := 7) dX9_likely_98 rfl ?_
              refine s_icmp_ge (tgt := 115) dX9_likely_100 rfl (fun hc15 => ?_) (fun hc15 => ?_)
              · have h := ifp hc15 h
                refine s_iinc (ls' := [(7, vI (xw (x7 + 1))), (9, vI (xw (r9 - r11))), (8, vI r7), (0, vR o), (1, vI x1), (3, vR x3), (4, vI x4), (5, vI x5), (6, vI x6)]) (j := 8) dX9_likely_115 rfl (Nat.le_of_ble_eq_true rfl) rfl ?_
                refine s_goto (tgt := 22) dX9_likely_118 rfl ?_
                exact s_sub (ks := [3, 4, 5, 6, 7, 8, 0]) rfl (ih o x1 x3 x4 x5 x6 (xw (x7 + 1)) q4.2 _ ho (Or.inr (hx3.resolve_left hc1)) h hq)
              · have h := ifn hc15 h
                refine s_iload (j := 8) dX9_likely_103 rfl ?_
                refine s_istore (ls' := [(4, vI x7), (9, vI (xw (r9 - r11))), (8, vI r7), (0, vR o), (1, vI x1), (3, vR x3), (5, vI x5), (6, vI x6), (7, vI x7)]) dX9_likely_105 (Nat.le_of_ble_eq_true rfl) rfl ?_
                refine s_iload (j := 2) dX9_likely_107 rfl ?_
                refine s_istore dX9_likely_109 (Nat.le_of_ble_eq_true rfl) rfl ?_
                refine s_iload (j := 2) dX9_likely_111 rfl ?_
                refine s_istore (ls' := [(6, vI (xw (r9 - r11))), (5, vI r7), (4, vI x7), (9, vI (xw (r9 - r11))), (8, vI r7), (0, vR o), (1, vI x1), (3, vR x3), (7, vI x7)]) dX9_likely_113 (Nat.le_of_ble_eq_true rfl) rfl ?_
                refine s_iinc (j := 8) dX9_likely_115 rfl (Nat.le_of_ble_eq_true rfl) rfl ?_
                refine s_goto (tgt := 22) dX9_likely_118 rfl ?_
                exact s_sub (ks := [6, 7, 8, 3, 2, 1, 0]) rfl (ih o x1 x3 x7 r7 (xw (r9 - r11)) (xw (x7 + 1)) q4.2 _ ho (Or.inr (hx3.resolve_left hc1)) h hq)
        · have h := ifn hc6 h
          refine s_iconst dX9_likely_50 (cin rfl) ?_
          have h := Option.some.inj h
          subst h
          exact s_ireturn dX9_likely_51 rfl hq
theorem fX9_likely_ok {Qr : Option PV → Mem → Prop} : ∀ (o : Nat) (x1 : Int) (x2 : Int) (F : Mem) (res : (Int × Mem)) (ho : isK o 9), fX9_likely o x1 x2 F = some res → Qr (some (vI res.1)) res.2 → PR cX9_likely (zX9_likely Qr) 0 [(0, vR o), (1, vI x1), (2, vI x2)] [] F := by
  intro o x1 x2 F res ho h hq
  refine s_aload_n (j := 0) dX9_likely_0 rfl rfl ?_
  refine s_getR dX9_likely_1 flX9_10 ho ?_
  refine s_iconst dX9_likely_4 (cin rfl) ?_
  refine s_iload_n (j := 2) dX9_likely_5 rfl rfl ?_
  obtain ⟨r1, hv2, h⟩ := bnd h
  refine s_callV (As := [vI 3, vI x2]) (rest := []) (r := (some (vR r1))) (F' := F) dX9_likely_6 (clX9_152 (Nat.le_of_ble_eq_true rfl) (Nat.le_of_ble_eq_true rfl)) (trX9_0 ho) rfl ⟨_, _, _, _, rfl, (trX9_0 ho), hv2, rfl, rfl⟩ rfl (Nat.le_of_ble_eq_true rfl) ?_
  refine s_astore_n (ls' := [(3, vR r1), (0, vR o), (1, vI x1), (2, vI x2)]) dX9_likely_9 rfl (Nat.le_of_ble_eq_true rfl) rfl ?_
  refine s_iconst dX9_likely_10 (cin rfl) ?_
  refine s_istore dX9_likely_11 (Nat.le_of_ble_eq_true rfl) rfl ?_
  refine s_iconst dX9_likely_13 (cin rfl) ?_
  refine s_istore (ls' := [(5, vI (-1)), (4, vI (-1)), (3, vR r1), (0, vR o), (1, vI x1), (2, vI x2)]) dX9_likely_14 (Nat.le_of_ble_eq_true rfl) rfl ?_
  refine s_iconst dX9_likely_16 (cin rfl) ?_
  refine s_istore dX9_likely_17 (Nat.le_of_ble_eq_true rfl) rfl ?_
  refine s_iconst dX9_likely_19 (cin rfl) ?_
  refine s_istore (ls' := [(7, vI 0), (6, vI (-1)), (5, vI (-1)), (4, vI (-1)), (3, vR r1), (0, vR o), (1, vI x1), (2, vI x2)]) dX9_likely_20 (Nat.le_of_ble_eq_true rfl) rfl ?_
  exact s_sub (ks := [5, 6, 4, 3, 2, 1, 0]) rfl (fX9_likely_b22_ok FU o x1 r1 (-1) (-1) (-1) 0 F _ ho (fX4_sheetAt_rt _ _ _ _ _ (trX9_0 ho) hv2) h hq)
def gX9_likely : XG := fun As F r F' => ∃ o : Nat, ∃ x1 : Int, ∃ x2 : Int, ∃ res : (Int × Mem), As = [vR o, vI x1, vI x2] ∧ isK o 9 ∧ fX9_likely o x1 x2 F = some res ∧ r = some (vI res.1) ∧ F' = res.2
theorem ctX9_likely : xCT yX9_likely cX9_likely 10 (some FieldType.int) 6 138 gX9_likely := xmet (by decide +kernel) (fun As F r F' hg => by obtain ⟨o, x1, x2, res, rfl, ho, h, rfl, rfl⟩ := hg; exact Nat.le_of_ble_eq_true rfl) (fun As F r F' hg => by obtain ⟨o, x1, x2, res, rfl, ho, h, rfl, rfl⟩ := hg; exact fX9_likely_ok o x1 x2 _ _ ho h ⟨rfl, rfl⟩)
theorem mcX9_likely : Cond.code yX9_likely cX9_likely 10 (some FieldType.int) ∈ xw_T ∧ Cond.initialized yX9_likely.cls ∈ xw_T ∧ Cond.instanceMethod yX9_likely ∈ xw_T ∧ Cond.selects yX9_likely.cls yX9_likely yX9_likely ∈ xw_T := ⟨(xinT 1320 (by decide +kernel) (by decide +kernel)), (xinT 116 (by decide +kernel) (by decide +kernel)), (xinT 1318 (by decide +kernel) (by decide +kernel)), (xinT 1319 (by decide +kernel) (by decide +kernel))⟩
