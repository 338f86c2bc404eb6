theorem dX2_sheetFor_0 : decode cX2_sheetFor 0 = .ok (.iload_n 1, 1) := by decide +kernel
theorem dX2_sheetFor_1 : decode cX2_sheetFor 1 = .ok (.iconst 1, 1) := by decide +kernel
theorem dX2_sheetFor_2 : decode cX2_sheetFor 2 = .ok (.if_icmp .ne 10, 3) := by decide +kernel
theorem dX2_sheetFor_5 : decode cX2_sheetFor 5 = .ok (.aload_n 0, 1) := by decide +kernel
theorem dX2_sheetFor_6 : decode cX2_sheetFor 6 = .ok (.getfield 53, 3) := by decide +kernel
theorem dX2_sheetFor_9 : decode cX2_sheetFor 9 = .ok (.goto 19, 3) := by decide +kernel
theorem dX2_sheetFor_12 : decode cX2_sheetFor 12 = .ok (.iload_n 1, 1) := by decide +kernel
theorem dX2_sheetFor_13 : decode cX2_sheetFor 13 = .ok (.iconst 2, 1) := by decide +kernel
theorem dX2_sheetFor_14 : decode cX2_sheetFor 14 = .ok (.if_icmp .ne 10, 3) := by decide +kernel
theorem dX2_sheetFor_17 : decode cX2_sheetFor 17 = .ok (.aload_n 0, 1) := by decide +kernel
theorem dX2_sheetFor_18 : decode cX2_sheetFor 18 = .ok (.getfield 57, 3) := by decide +kernel
theorem dX2_sheetFor_21 : decode cX2_sheetFor 21 = .ok (.goto 7, 3) := by decide +kernel
theorem dX2_sheetFor_24 : decode cX2_sheetFor 24 = .ok (.aload_n 0, 1) := by decide +kernel
theorem dX2_sheetFor_25 : decode cX2_sheetFor 25 = .ok (.getfield 60, 3) := by decide +kernel
theorem dX2_sheetFor_28 : decode cX2_sheetFor 28 = .ok (.areturn, 1) := by decide +kernel
def zX2_sheetFor (Qr : Option PV → Mem → Prop) : XZ := (RX2, 0, 0, 2, some (FieldType.object "OnePair$Sheet"), Qr)
noncomputable def fX2_sheetFor (o : Nat) (x1 : Int) : Nat :=
  if x1 ≠ 1 then
    if x1 ≠ 2 then
      o + 11
    else
      o + 9
  else
    o + 7
theorem fX2_sheetFor_ok {Qr : Option PV → Mem → Prop} : ∀ (o : Nat) (x1 : Int) (F : Mem) (res : Nat) (ho : isK o 2), fX2_sheetFor o x1 = res → Qr (some (vR res)) F → PR cX2_sheetFor (zX2_sheetFor Qr) 0 [(0, vR o), (1, vI x1)] [] F := by
  intro o x1 F res ho h hq
  refine s_iload_n (j := 1) dX2_sheetFor_0 rfl rfl ?_
  refine s_iconst dX2_sheetFor_1 (cin rfl) ?_
  refine s_icmp_ne (tgt := 12) dX2_sheetFor_2 rfl (fun hc1 => ?_) (fun hc1 => ?_)
  · have h := ifp hc1 h
    refine s_iload_n (j := 1) dX2_sheetFor_12 rfl rfl ?_
    refine s_iconst dX2_sheetFor_13 (cin rfl) ?_
    refine s_icmp_ne (tgt := 24) dX2_sheetFor_14 rfl (fun hc2 => ?_) (fun hc2 => ?_)
    · have h := ifp hc2 h
      refine s_aload_n (j := 0) dX2_sheetFor_24 rfl rfl ?_
      refine s_getR dX2_sheetFor_25 flX2_60 ho ?_
      subst h
      exact s_areturn dX2_sheetFor_28 rfl (Or.inl ⟨_, rfl⟩) hq
    · have h := ifn hc2 h
      refine s_aload_n (j := 0) dX2_sheetFor_17 rfl rfl ?_
      refine s_getR dX2_sheetFor_18 flX2_57 ho ?_
      refine s_goto (tgt := 28) dX2_sheetFor_21 rfl ?_
      subst h
      exact s_areturn dX2_sheetFor_28 rfl (Or.inl ⟨_, rfl⟩) hq
  · have h := ifn hc1 h
    refine s_aload_n (j := 0) dX2_sheetFor_5 rfl rfl ?_
    refine s_getR dX2_sheetFor_6 flX2_53 ho ?_
    refine s_goto (tgt := 28) dX2_sheetFor_9 rfl ?_
    subst h
    exact s_areturn dX2_sheetFor_28 rfl (Or.inl ⟨_, rfl⟩) hq
theorem fX2_sheetFor_rt : ∀ (o : Nat) (x1 : Int) (res : Nat) (ho : isK o 2), fX2_sheetFor o x1 = res → isK res 3 := fun o x1 res ho h => by subst h; unfold fX2_sheetFor; (repeat' split) <;> first | exact trX2_10 ho | exact trX2_11 ho | exact trX2_12 ho
def gX2_sheetFor : XG := fun As F r F' => ∃ o : Nat, ∃ x1 : Int, ∃ res : Nat, As = [vR o, vI x1] ∧ isK o 2 ∧ fX2_sheetFor o x1 = res ∧ r = some (vR res) ∧ F' = F
theorem ctX2_sheetFor : xCT yX2_sheetFor cX2_sheetFor 2 (some (FieldType.object "OnePair$Sheet")) 0 0 gX2_sheetFor := xmet (by decide +kernel) (fun As F r F' hg => by obtain ⟨o, x1, res, rfl, ho, h, rfl, rfl⟩ := hg; exact Nat.le_of_ble_eq_true rfl) (fun As F r F' hg => by obtain ⟨o, x1, res, rfl, ho, h, rfl, rfl⟩ := hg; exact fX2_sheetFor_ok o x1 _ _ ho h ⟨rfl, rfl⟩)
theorem mcX2_sheetFor : Cond.code yX2_sheetFor cX2_sheetFor 2 (some (FieldType.object "OnePair$Sheet")) ∈ xw_T ∧ Cond.initialized yX2_sheetFor.cls ∈ xw_T ∧ Cond.instanceMethod yX2_sheetFor ∈ xw_T ∧ Cond.selects yX2_sheetFor.cls yX2_sheetFor yX2_sheetFor ∈ xw_T := ⟨(xinT 568 (by decide +kernel) (by decide +kernel)), (xinT 121 (by decide +kernel) (by decide +kernel)), (xinT 566 (by decide +kernel) (by decide +kernel)), (xinT 567 (by decide +kernel) (by decide +kernel))⟩
theorem clX2_72 {fr lo : Nat} (h1 : 0 + 1 ≤ fr) (h2 : 8 + (2 + 11) + 0 ≤ lo) : xCall RX2 fr lo 0 72 2 1 gX2_sheetFor := ⟨_, _, _, _, _, _, ctX2_sheetFor, h1, h2, mcX2_sheetFor.1, (xinT 565 (by decide +kernel) (by decide +kernel)), mcX2_sheetFor.2.1, ⟨by decide +kernel, by decide +kernel, by decide +kernel⟩, by rw [if_pos rfl]; exact ⟨mcX2_sheetFor.2.2.1, mcX2_sheetFor.2.2.2, _, _, rfl⟩⟩
theorem clX4_78 {fr lo : Nat} (h1 : 0 + 1 ≤ fr) (h2 : 8 + (2 + 11) + 0 ≤ lo) : xCall RX4 fr lo 0 78 2 1 gX2_sheetFor := ⟨_, _, _, _, _, _, ctX2_sheetFor, h1, h2, mcX2_sheetFor.1, (xinT 743 (by decide +kernel) (by decide +kernel)), mcX2_sheetFor.2.1, ⟨by decide +kernel, by decide +kernel, by decide +kernel⟩, by rw [if_pos rfl]; exact ⟨mcX2_sheetFor.2.2.1, mcX2_sheetFor.2.2.2, _, _, rfl⟩⟩
theorem dX2_note_0 : decode cX2_note 0 = .ok (.aload_n 0, 1) := by decide +kernel
theorem dX2_note_1 : decode cX2_note 1 = .ok (.getfield 35, 3) := by decide +kernel
theorem dX2_note_4 : decode cX2_note 4 = .ok (.ifCond .ne 16, 3) := by decide +kernel
theorem dX2_note_7 : decode cX2_note 7 = .ok (.aload_n 0, 1) := by decide +kernel
theorem dX2_note_8 : decode cX2_note 8 = .ok (.iload_n 1, 1) := by decide +kernel
theorem dX2_note_9 : decode cX2_note 9 = .ok (.putfield 35, 3) := by decide +kernel
theorem dX2_note_12 : decode cX2_note 12 = .ok (.aload_n 0, 1) := by decide +kernel
theorem dX2_note_13 : decode cX2_note 13 = .ok (.aload_n 0, 1) := by decide +kernel
theorem dX2_note_14 : decode cX2_note 14 = .ok (.getfield 22, 3) := by decide +kernel
theorem dX2_note_17 : decode cX2_note 17 = .ok (.putfield 38, 3) := by decide +kernel
theorem dX2_note_20 : decode cX2_note 20 = .ok (.return_, 1) := by decide +kernel
def zX2_note (Qr : Option PV → Mem → Prop) : XZ := (RX2, 0, 0, 2, none, Qr)
noncomputable def fX2_note (o : Nat) (x1 : Int) (F : Mem) : Mem :=
  if (F o 7) ≠ 0 then
    F
  else
    mset (mset F o 7 x1) o 8 ((mset F o 7 x1) o 3)
theorem fX2_note_ok {Qr : Option PV → Mem → Prop} : ∀ (o : Nat) (x1 : Int) (F : Mem) (res : Mem) (ho : isK o 2), fX2_note o x1 F = res → Qr none res → PR cX2_note (zX2_note Qr) 0 [(0, vR o), (1, vI x1)] [] F := by
  intro o x1 F res ho h hq
  refine s_aload_n (j := 0) dX2_note_0 rfl rfl ?_
  refine s_getI dX2_note_1 flX2_35 ho ?_
  refine s_if_ne (tgt := 20) dX2_note_4 rfl (fun hc1 => ?_) (fun hc1 => ?_)
  · have h := ifp hc1 h
    subst h
    exact s_return dX2_note_20 rfl hq
  · have h := ifn hc1 h
    refine s_aload_n (j := 0) dX2_note_7 rfl rfl ?_
    refine s_iload_n (j := 1) dX2_note_8 rfl rfl ?_
    refine s_putI dX2_note_9 flX2_35 fpX2_7 ho ?_
    refine s_aload_n (j := 0) dX2_note_12 rfl rfl ?_
    refine s_aload_n (j := 0) dX2_note_13 rfl rfl ?_
    refine s_getI dX2_note_14 flX2_22 ho ?_
    refine s_putI dX2_note_17 flX2_38 fpX2_8 ho ?_
    subst h
    exact s_return dX2_note_20 rfl hq
def gX2_note : XG := fun As F r F' => ∃ o : Nat, ∃ x1 : Int, ∃ res : Mem, As = [vR o, vI x1] ∧ isK o 2 ∧ fX2_note o x1 F = res ∧ r = none ∧ F' = res
theorem ctX2_note : xCT yX2_note cX2_note 2 (none) 0 0 gX2_note := xmet (by decide +kernel) (fun As F r F' hg => by obtain ⟨o, x1, res, rfl, ho, h, rfl, rfl⟩ := hg; exact Nat.le_of_ble_eq_true rfl) (fun As F r F' hg => by obtain ⟨o, x1, res, rfl, ho, h, rfl, rfl⟩ := hg; exact fX2_note_ok o x1 _ _ ho h ⟨rfl, rfl⟩)
theorem mcX2_note : Cond.code yX2_note cX2_note 2 (none) ∈ xw_T ∧ Cond.initialized yX2_note.cls ∈ xw_T ∧ Cond.instanceMethod yX2_note ∈ xw_T ∧ Cond.selects yX2_note.cls yX2_note yX2_note ∈ xw_T := ⟨(xinT 680 (by decide +kernel) (by decide +kernel)), (xinT 121 (by decide +kernel) (by decide +kernel)), (xinT 679 (by decide +kernel) (by decide +kernel)), (xinT 8 (by decide +kernel) (by decide +kernel))⟩
theorem clX2_90 {fr lo : Nat} (h1 : 0 + 1 ≤ fr) (h2 : 8 + (2 + 11) + 0 ≤ lo) : xCall RX2 fr lo 0 90 2 1 gX2_note := ⟨_, _, _, _, _, _, ctX2_note, h1, h2, mcX2_note.1, (xinT 677 (by decide +kernel) (by decide +kernel)), mcX2_note.2.1, ⟨by decide +kernel, by decide +kernel, by decide +kernel⟩, by rw [if_pos rfl]; exact ⟨mcX2_note.2.2.1, mcX2_note.2.2.2, _, _, rfl⟩⟩
theorem dX2_canBe_0 : decode cX2_canBe 0 = .ok (.iload_n 0, 1) := by decide +kernel
theorem dX2_canBe_1 : decode cX2_canBe 1 = .ok (.tableswitch 216 100 116 #[192, 216, 117, 216, 151, 216, 216, 204, 216, 216, 216, 163, 100, 216, 180, 83, 129], 83) := by decide +kernel
theorem dX2_canBe_84 : decode cX2_canBe 84 = .ok (.iload_n 1, 1) := by decide +kernel
theorem dX2_canBe_85 : decode cX2_canBe 85 = .ok (.iconst 1, 1) := by decide +kernel
theorem dX2_canBe_86 : decode cX2_canBe 86 = .ok (.if_icmp .lt 13, 3) := by decide +kernel
theorem dX2_canBe_89 : decode cX2_canBe 89 = .ok (.iload_n 1, 1) := by decide +kernel
theorem dX2_canBe_90 : decode cX2_canBe 90 = .ok (.bipush 48, 2) := by decide +kernel
theorem dX2_canBe_92 : decode cX2_canBe 92 = .ok (.if_icmp .gt 7, 3) := by decide +kernel
theorem dX2_canBe_95 : decode cX2_canBe 95 = .ok (.iconst 1, 1) := by decide +kernel
theorem dX2_canBe_96 : decode cX2_canBe 96 = .ok (.goto 4, 3) := by decide +kernel
theorem dX2_canBe_99 : decode cX2_canBe 99 = .ok (.iconst 0, 1) := by decide +kernel
theorem dX2_canBe_100 : decode cX2_canBe 100 = .ok (.ireturn, 1) := by decide +kernel
theorem dX2_canBe_101 : decode cX2_canBe 101 = .ok (.iload_n 1, 1) := by decide +kernel
theorem dX2_canBe_102 : decode cX2_canBe 102 = .ok (.iconst 1, 1) := by decide +kernel
theorem dX2_canBe_103 : decode cX2_canBe 103 = .ok (.if_icmp .lt 13, 3) := by decide +kernel
theorem dX2_canBe_106 : decode cX2_canBe 106 = .ok (.iload_n 1, 1) := by decide +kernel
theorem dX2_canBe_107 : decode cX2_canBe 107 = .ok (.bipush 99, 2) := by decide +kernel
theorem dX2_canBe_109 : decode cX2_canBe 109 = .ok (.if_icmp .gt 7, 3) := by decide +kernel
theorem dX2_canBe_112 : decode cX2_canBe 112 = .ok (.iconst 1, 1) := by decide +kernel
theorem dX2_canBe_113 : decode cX2_canBe 113 = .ok (.goto 4, 3) := by decide +kernel
theorem dX2_canBe_116 : decode cX2_canBe 116 = .ok (.iconst 0, 1) := by decide +kernel
theorem dX2_canBe_117 : decode cX2_canBe 117 = .ok (.ireturn, 1) := by decide +kernel
theorem dX2_canBe_118 : decode cX2_canBe 118 = .ok (.iload_n 1, 1) := by decide +kernel
theorem dX2_canBe_119 : decode cX2_canBe 119 = .ok (.bipush 48, 2) := by decide +kernel
theorem dX2_canBe_121 : decode cX2_canBe 121 = .ok (.if_icmp .ge 7, 3) := by decide +kernel
theorem dX2_canBe_124 : decode cX2_canBe 124 = .ok (.iconst 1, 1) := by decide +kernel
theorem dX2_canBe_125 : decode cX2_canBe 125 = .ok (.goto 4, 3) := by decide +kernel
theorem dX2_canBe_128 : decode cX2_canBe 128 = .ok (.iconst 0, 1) := by decide +kernel
theorem dX2_canBe_129 : decode cX2_canBe 129 = .ok (.ireturn, 1) := by decide +kernel
theorem dX2_canBe_130 : decode cX2_canBe 130 = .ok (.iload_n 1, 1) := by decide +kernel
theorem dX2_canBe_131 : decode cX2_canBe 131 = .ok (.bipush 48, 2) := by decide +kernel
theorem dX2_canBe_133 : decode cX2_canBe 133 = .ok (.if_icmp .gt 17, 3) := by decide +kernel
theorem dX2_canBe_136 : decode cX2_canBe 136 = .ok (.iload_n 1, 1) := by decide +kernel
theorem dX2_canBe_137 : decode cX2_canBe 137 = .ok (.iload_n 2, 1) := by decide +kernel
theorem dX2_canBe_138 : decode cX2_canBe 138 = .ok (.if_icmp .le 12, 3) := by decide +kernel
theorem dX2_canBe_141 : decode cX2_canBe 141 = .ok (.iload_n 1, 1) := by decide +kernel
theorem dX2_canBe_142 : decode cX2_canBe 142 = .ok (.iconst 1, 1) := by decide +kernel
theorem dX2_canBe_143 : decode cX2_canBe 143 = .ok (.if_icmp .lt 7, 3) := by decide +kernel
theorem dX2_canBe_146 : decode cX2_canBe 146 = .ok (.iconst 1, 1) := by decide +kernel
theorem dX2_canBe_147 : decode cX2_canBe 147 = .ok (.goto 4, 3) := by decide +kernel
theorem dX2_canBe_150 : decode cX2_canBe 150 = .ok (.iconst 0, 1) := by decide +kernel
theorem dX2_canBe_151 : decode cX2_canBe 151 = .ok (.ireturn, 1) := by decide +kernel
theorem dX2_canBe_152 : decode cX2_canBe 152 = .ok (.iload_n 1, 1) := by decide +kernel
theorem dX2_canBe_153 : decode cX2_canBe 153 = .ok (.bipush 8, 2) := by decide +kernel
theorem dX2_canBe_155 : decode cX2_canBe 155 = .ok (.if_icmp .ge 7, 3) := by decide +kernel
theorem dX2_canBe_158 : decode cX2_canBe 158 = .ok (.iconst 1, 1) := by decide +kernel
theorem dX2_canBe_159 : decode cX2_canBe 159 = .ok (.goto 4, 3) := by decide +kernel
theorem dX2_canBe_162 : decode cX2_canBe 162 = .ok (.iconst 0, 1) := by decide +kernel
theorem dX2_canBe_163 : decode cX2_canBe 163 = .ok (.ireturn, 1) := by decide +kernel
theorem dX2_canBe_164 : decode cX2_canBe 164 = .ok (.iload_n 1, 1) := by decide +kernel
theorem dX2_canBe_165 : decode cX2_canBe 165 = .ok (.bipush 8, 2) := by decide +kernel
theorem dX2_canBe_167 : decode cX2_canBe 167 = .ok (.if_icmp .ge 12, 3) := by decide +kernel
theorem dX2_canBe_170 : decode cX2_canBe 170 = .ok (.iload_n 1, 1) := by decide +kernel
theorem dX2_canBe_171 : decode cX2_canBe 171 = .ok (.iload_n 2, 1) := by decide +kernel
theorem dX2_canBe_172 : decode cX2_canBe 172 = .ok (.if_icmp .eq 7, 3) := by decide +kernel
theorem dX2_canBe_175 : decode cX2_canBe 175 = .ok (.iconst 1, 1) := by decide +kernel
theorem dX2_canBe_176 : decode cX2_canBe 176 = .ok (.goto 4, 3) := by decide +kernel
theorem dX2_canBe_179 : decode cX2_canBe 179 = .ok (.iconst 0, 1) := by decide +kernel
theorem dX2_canBe_180 : decode cX2_canBe 180 = .ok (.ireturn, 1) := by decide +kernel
theorem dX2_canBe_181 : decode cX2_canBe 181 = .ok (.iload_n 1, 1) := by decide +kernel
theorem dX2_canBe_182 : decode cX2_canBe 182 = .ok (.bipush 9, 2) := by decide +kernel
theorem dX2_canBe_184 : decode cX2_canBe 184 = .ok (.if_icmp .gt 7, 3) := by decide +kernel
theorem dX2_canBe_187 : decode cX2_canBe 187 = .ok (.iconst 1, 1) := by decide +kernel
theorem dX2_canBe_188 : decode cX2_canBe 188 = .ok (.goto 4, 3) := by decide +kernel
theorem dX2_canBe_191 : decode cX2_canBe 191 = .ok (.iconst 0, 1) := by decide +kernel
theorem dX2_canBe_192 : decode cX2_canBe 192 = .ok (.ireturn, 1) := by decide +kernel
theorem dX2_canBe_193 : decode cX2_canBe 193 = .ok (.iload_n 1, 1) := by decide +kernel
theorem dX2_canBe_194 : decode cX2_canBe 194 = .ok (.bipush 7, 2) := by decide +kernel
theorem dX2_canBe_196 : decode cX2_canBe 196 = .ok (.if_icmp .ge 7, 3) := by decide +kernel
theorem dX2_canBe_199 : decode cX2_canBe 199 = .ok (.iconst 1, 1) := by decide +kernel
theorem dX2_canBe_200 : decode cX2_canBe 200 = .ok (.goto 4, 3) := by decide +kernel
theorem dX2_canBe_203 : decode cX2_canBe 203 = .ok (.iconst 0, 1) := by decide +kernel
theorem dX2_canBe_204 : decode cX2_canBe 204 = .ok (.ireturn, 1) := by decide +kernel
theorem dX2_canBe_205 : decode cX2_canBe 205 = .ok (.iload_n 1, 1) := by decide +kernel
theorem dX2_canBe_206 : decode cX2_canBe 206 = .ok (.bipush 30, 2) := by decide +kernel
theorem dX2_canBe_208 : decode cX2_canBe 208 = .ok (.if_icmp .ge 7, 3) := by decide +kernel
theorem dX2_canBe_211 : decode cX2_canBe 211 = .ok (.iconst 1, 1) := by decide +kernel
theorem dX2_canBe_212 : decode cX2_canBe 212 = .ok (.goto 4, 3) := by decide +kernel
theorem dX2_canBe_215 : decode cX2_canBe 215 = .ok (.iconst 0, 1) := by decide +kernel
theorem dX2_canBe_216 : decode cX2_canBe 216 = .ok (.ireturn, 1) := by decide +kernel
theorem dX2_canBe_217 : decode cX2_canBe 217 = .ok (.iconst 1, 1) := by decide +kernel
theorem dX2_canBe_218 : decode cX2_canBe 218 = .ok (.ireturn, 1) := by decide +kernel
def zX2_canBe (Qr : Option PV → Mem → Prop) : XZ := (RX2, 0, 0, 3, some FieldType.boolean, Qr)
noncomputable def fX2_canBe (x0 : Int) (x1 : Int) (x2 : Int) : Int :=
  if x0 = 100 then
    if 7 ≤ x1 then
      0
    else
      1
  else
  if x0 = 101 then
    1
  else
  if x0 = 102 then
    if 48 ≤ x1 then
      0
    else
      1
  else
  if x0 = 103 then
    1
  else
  if x0 = 104 then
    if 8 ≤ x1 then
      0
    else
      1
  else
  if x0 = 105 then
    1
  else
  if x0 = 106 then
    1
  else
  if x0 = 107 then
    if 30 ≤ x1 then
      0
    else
      1
  else
  if x0 = 108 then
    1
  else
  if x0 = 109 then
    1
  else
  if x0 = 110 then
    1
  else
  if x0 = 111 then
    if 8 ≤ x1 then
      0
    else
      if x1 = x2 then
        0
      else
        1
  else
  if x0 = 112 then
    if x1 < 1 then
      0
    else
      if 99 < x1 then
        0
      else
        1
  else
  if x0 = 113 then
    1
  else
  if x0 = 114 then
    if 9 < x1 then
      0
    else
      1
  else
  if x0 = 115 then
    if x1 < 1 then
      0
    else
      if 48 < x1 then
        0
      else
        1
  else
  if x0 = 116 then
    if 48 < x1 then
      0
    else
      if x1 ≤ x2 then
        0
      else
        if x1 < 1 then
          0
        else
          1
  else
  1
theorem fX2_canBe_ok {Qr : Option PV → Mem → Prop} : ∀ (x0 : Int) (x1 : Int) (x2 : Int) (F : Mem) (res : Int), fX2_canBe x0 x1 x2 = res → Qr (some (vI res)) F → PR cX2_canBe (zX2_canBe Qr) 0 [(0, vI x0), (1, vI x1), (2, vI x2)] [] F := by
  intro x0 x1 x2 F res  h hq
  refine s_iload_n (j := 0) dX2_canBe_0 rfl rfl ?_
  by_cases hc1 : x0 = 100
  · have h := ifp hc1 h
    refine s_tabIn (tgt := 193) (off := 192) dX2_canBe_1 (by omega) (by omega) (by rw [hc1]; rfl) rfl ?_
    refine s_iload_n (j := 1) dX2_canBe_193 rfl rfl ?_
    refine s_bipush dX2_canBe_194 rfl (cin rfl) ?_
    refine s_icmp_ge (tgt := 203) dX2_canBe_196 rfl (fun hc2 => ?_) (fun hc2 => ?_)
    · have h := ifp hc2 h
      refine s_iconst dX2_canBe_203 (cin rfl) ?_
      subst h
      exact s_zreturn dX2_canBe_204 rfl (Or.inl rfl) hq
    · have h := ifn hc2 h
      refine s_iconst dX2_canBe_199 (cin rfl) ?_
      refine s_goto (tgt := 204) dX2_canBe_200 rfl ?_
      subst h
      exact s_zreturn dX2_canBe_204 rfl (Or.inr rfl) hq
  have h := ifn hc1 h
  by_cases hc3 : x0 = 101
  · have h := ifp hc3 h
    refine s_tabIn (tgt := 217) (off := 216) dX2_canBe_1 (by omega) (by omega) (by rw [hc3]; rfl) rfl ?_
    refine s_iconst dX2_canBe_217 (cin rfl) ?_
    subst h
    exact s_zreturn dX2_canBe_218 rfl (Or.inr rfl) hq
  have h := ifn hc3 h
  by_cases hc4 : x0 = 102
  · have h := ifp hc4 h
    refine s_tabIn (tgt := 118) (off := 117) dX2_canBe_1 (by omega) (by omega) (by rw [hc4]; rfl) rfl ?_
    refine s_iload_n (j := 1) dX2_canBe_118 rfl rfl ?_
    refine s_bipush dX2_canBe_119 rfl (cin rfl) ?_
    refine s_icmp_ge (tgt := 128) dX2_canBe_121 rfl (fun hc5 => ?_) (fun hc5 => ?_)
    · have h := ifp hc5 h
      refine s_iconst dX2_canBe_128 (cin rfl) ?_
      subst h
      exact s_zreturn dX2_canBe_129 rfl (Or.inl rfl) hq
    · have h := ifn hc5 h
      refine s_iconst dX2_canBe_124 (cin rfl) ?_
      refine s_goto (tgt := 129) dX2_canBe_125 rfl ?_
      subst h
      exact s_zreturn dX2_canBe_129 rfl (Or.inr rfl) hq
  have h := ifn hc4 h
  by_cases hc6 : x0 = 103
  · have h := ifp hc6 h
    refine s_tabIn (tgt := 217) (off := 216) dX2_canBe_1 (by omega) (by omega) (by rw [hc6]; rfl) rfl ?_
    refine s_iconst dX2_canBe_217 (cin rfl) ?_
    subst h
    exact s_zreturn dX2_canBe_218 rfl (Or.inr rfl) hq
  have h := ifn hc6 h
  by_cases hc7 : x0 = 104
  · have h := ifp hc7 h
    refine s_tabIn (tgt := 152) (off := 151) dX2_canBe_1 (by omega) (by omega) (by rw [hc7]; rfl) rfl ?_
    refine s_iload_n (j := 1) dX2_canBe_152 rfl rfl ?_
    refine s_bipush dX2_canBe_153 rfl (cin rfl) ?_
    refine s_icmp_ge (tgt := 162) dX2_canBe_155 rfl (fun hc8 => ?_) (fun hc8 => ?_)
    · have h := ifp hc8 h
      refine s_iconst dX2_canBe_162 (cin rfl) ?_
      subst h
      exact s_zreturn dX2_canBe_163 rfl (Or.inl rfl) hq
    · have h := ifn hc8 h
      refine s_iconst dX2_canBe_158 (cin rfl) ?_
      refine s_goto (tgt := 163) dX2_canBe_159 rfl ?_
      subst h
      exact s_zreturn dX2_canBe_163 rfl (Or.inr rfl) hq
  have h := ifn hc7 h
  by_cases hc9 : x0 = 105
  · have h := ifp hc9 h
    refine s_tabIn (tgt := 217) (off := 216) dX2_canBe_1 (by omega) (by omega) (by rw [hc9]; rfl) rfl ?_
    refine s_iconst dX2_canBe_217 (cin rfl) ?_
    subst h
    exact s_zreturn dX2_canBe_218 rfl (Or.inr rfl) hq
  have h := ifn hc9 h
  by_cases hc10 : x0 = 106
  · have h := ifp hc10 h
    refine s_tabIn (tgt := 217) (off := 216) dX2_canBe_1 (by omega) (by omega) (by rw [hc10]; rfl) rfl ?_
    refine s_iconst dX2_canBe_217 (cin rfl) ?_
    subst h
    exact s_zreturn dX2_canBe_218 rfl (Or.inr rfl) hq
  have h := ifn hc10 h
  by_cases hc11 : x0 = 107
  · have h := ifp hc11 h
    refine s_tabIn (tgt := 205) (off := 204) dX2_canBe_1 (by omega) (by omega) (by rw [hc11]; rfl) rfl ?_
    refine s_iload_n (j := 1) dX2_canBe_205 rfl rfl ?_
    refine s_bipush dX2_canBe_206 rfl (cin rfl) ?_
    refine s_icmp_ge (tgt := 215) dX2_canBe_208 rfl (fun hc12 => ?_) (fun hc12 => ?_)
    · have h := ifp hc12 h
      refine s_iconst dX2_canBe_215 (cin rfl) ?_
      subst h
      exact s_zreturn dX2_canBe_216 rfl (Or.inl rfl) hq
    · have h := ifn hc12 h
      refine s_iconst dX2_canBe_211 (cin rfl) ?_
      refine s_goto (tgt := 216) dX2_canBe_212 rfl ?_
      subst h
      exact s_zreturn dX2_canBe_216 rfl (Or.inr rfl) hq
  have h := ifn hc11 h
  by_cases hc13 : x0 = 108
  · have h := ifp hc13 h
    refine s_tabIn (tgt := 217) (off := 216) dX2_canBe_1 (by omega) (by omega) (by rw [hc13]; rfl) rfl ?_
    refine s_iconst dX2_canBe_217 (cin rfl) ?_
    subst h
    exact s_zreturn dX2_canBe_218 rfl (Or.inr rfl) hq
  have h := ifn hc13 h
  by_cases hc14 : x0 = 109
  · have h := ifp hc14 h
    refine s_tabIn (tgt := 217) (off := 216) dX2_canBe_1 (by omega) (by omega) (by rw [hc14]; rfl) rfl ?_
    refine s_iconst dX2_canBe_217 (cin rfl) ?_
    subst h
    exact s_zreturn dX2_canBe_218 rfl (Or.inr rfl) hq
  have h := ifn hc14 h
  by_cases hc15 : x0 = 110
  · have h := ifp hc15 h
    refine s_tabIn (tgt := 217) (off := 216) dX2_canBe_1 (by omega) (by omega) (by rw [hc15]; rfl) rfl ?_
    refine s_iconst dX2_canBe_217 (cin rfl) ?_
    subst h
    exact s_zreturn dX2_canBe_218 rfl (Or.inr rfl) hq
  have h := ifn hc15 h
  by_cases hc16 : x0 = 111
  · have h := ifp hc16 h
    refine s_tabIn (tgt := 164) (off := 163) dX2_canBe_1 (by omega) (by omega) (by rw [hc16]; rfl) rfl ?_
    refine s_iload_n (j := 1) dX2_canBe_164 rfl rfl ?_
    refine s_bipush dX2_canBe_165 rfl (cin rfl) ?_
    refine s_icmp_ge (tgt := 179) dX2_canBe_167 rfl (fun hc17 => ?_) (fun hc17 => ?_)
    · have h := ifp hc17 h
      refine s_iconst dX2_canBe_179 (cin rfl) ?_
      subst h
      exact s_zreturn dX2_canBe_180 rfl (Or.inl rfl) hq
    · have h := ifn hc17 h
      refine s_iload_n (j := 1) dX2_canBe_170 rfl rfl ?_
      refine s_iload_n (j := 2) dX2_canBe_171 rfl rfl ?_
      refine s_icmp_eq (tgt := 179) dX2_canBe_172 rfl (fun hc18 => ?_) (fun hc18 => ?_)
      · have h := ifp hc18 h
        refine s_iconst dX2_canBe_179 (cin rfl) ?_
        subst h
        exact s_zreturn dX2_canBe_180 rfl (Or.inl rfl) hq
      · have h := ifn hc18 h
        refine s_iconst dX2_canBe_175 (cin rfl) ?_
        refine s_goto (tgt := 180) dX2_canBe_176 rfl ?_
        subst h
        exact s_zreturn dX2_canBe_180 rfl (Or.inr rfl) hq
  have h := ifn hc16 h
  by_cases hc19 : x0 = 112
  · have h := ifp hc19 h
    refine s_tabIn (tgt := 101) (off := 100) dX2_canBe_1 (by omega) (by omega) (by rw [hc19]; rfl) rfl ?_
    refine s_iload_n (j := 1) dX2_canBe_101 rfl rfl ?_
    refine s_iconst dX2_canBe_102 (cin rfl) ?_
    refine s_icmp_lt (tgt := 116) dX2_canBe_103 rfl (fun hc20 => ?_) (fun hc20 => ?_)
    · have h := ifp hc20 h
      refine s_iconst dX2_canBe_116 (cin rfl) ?_
      subst h
      exact s_zreturn dX2_canBe_117 rfl (Or.inl rfl) hq
    · have h := ifn hc20 h
      refine s_iload_n (j := 1) dX2_canBe_106 rfl rfl ?_
      refine s_bipush dX2_canBe_107 rfl (cin rfl) ?_
      refine s_icmp_gt (tgt := 116) dX2_canBe_109 rfl (fun hc21 => ?_) (fun hc21 => ?_)
      · have h := ifp hc21 h
        refine s_iconst dX2_canBe_116 (cin rfl) ?_
        subst h
        exact s_zreturn dX2_canBe_117 rfl (Or.inl rfl) hq
      · have h := ifn hc21 h
        refine s_iconst dX2_canBe_112 (cin rfl) ?_
        refine s_goto (tgt := 117) dX2_canBe_113 rfl ?_
        subst h
        exact s_zreturn dX2_canBe_117 rfl (Or.inr rfl) hq
  have h := ifn hc19 h
  by_cases hc22 : x0 = 113
  · have h := ifp hc22 h
    refine s_tabIn (tgt := 217) (off := 216) dX2_canBe_1 (by omega) (by omega) (by rw [hc22]; rfl) rfl ?_
    refine s_iconst dX2_canBe_217 (cin rfl) ?_
    subst h
    exact s_zreturn dX2_canBe_218 rfl (Or.inr rfl) hq
  have h := ifn hc22 h
  by_cases hc23 : x0 = 114
  · have h := ifp hc23 h
    refine s_tabIn (tgt := 181) (off := 180) dX2_canBe_1 (by omega) (by omega) (by rw [hc23]; rfl) rfl ?_
    refine s_iload_n (j := 1) dX2_canBe_181 rfl rfl ?_
    refine s_bipush dX2_canBe_182 rfl (cin rfl) ?_
    refine s_icmp_gt (tgt := 191) dX2_canBe_184 rfl (fun hc24 => ?_) (fun hc24 => ?_)
    · have h := ifp hc24 h
      refine s_iconst dX2_canBe_191 (cin rfl) ?_
      subst h
      exact s_zreturn dX2_canBe_192 rfl (Or.inl rfl) hq
    · have h := ifn hc24 h
      refine s_iconst dX2_canBe_187 (cin rfl) ?_
      refine s_goto (tgt := 192) dX2_canBe_188 rfl ?_
      subst h
      exact s_zreturn dX2_canBe_192 rfl (Or.inr rfl) hq
  have h := ifn hc23 h
  by_cases hc25 : x0 = 115
  · have h := ifp hc25 h
    refine s_tabIn (tgt := 84) (off := 83) dX2_canBe_1 (by omega) (by omega) (by rw [hc25]; rfl) rfl ?_
    refine s_iload_n (j := 1) dX2_canBe_84 rfl rfl ?_
    refine s_iconst dX2_canBe_85 (cin rfl) ?_
    refine s_icmp_lt (tgt := 99) dX2_canBe_86 rfl (fun hc26 => ?_) (fun hc26 => ?_)
    · have h := ifp hc26 h
      refine s_iconst dX2_canBe_99 (cin rfl) ?_
      subst h
      exact s_zreturn dX2_canBe_100 rfl (Or.inl rfl) hq
    · have h := ifn hc26 h
      refine s_iload_n (j := 1) dX2_canBe_89 rfl rfl ?_
      refine s_bipush dX2_canBe_90 rfl (cin rfl) ?_
      refine s_icmp_gt (tgt := 99) dX2_canBe_92 rfl (fun hc27 => ?_) (fun hc27 => ?_)
      · have h := ifp hc27 h
        refine s_iconst dX2_canBe_99 (cin rfl) ?_
        subst h
        exact s_zreturn dX2_canBe_100 rfl (Or.inl rfl) hq
      · have h := ifn hc27 h
        refine s_iconst dX2_canBe_95 (cin rfl) ?_
        refine s_goto (tgt := 100) dX2_canBe_96 rfl ?_
        subst h
        exact s_zreturn dX2_canBe_100 rfl (Or.inr rfl) hq
  have h := ifn hc25 h
  by_cases hc28 : x0 = 116
  · have h := ifp hc28 h
    refine s_tabIn (tgt := 130) (off := 129) dX2_canBe_1 (by omega) (by omega) (by rw [hc28]; rfl) rfl ?_
    refine s_iload_n (j := 1) dX2_canBe_130 rfl rfl ?_
    refine s_bipush dX2_canBe_131 rfl (cin rfl) ?_
    refine s_icmp_gt (tgt := 150) dX2_canBe_133 rfl (fun hc29 => ?_) (fun hc29 => ?_)
    · have h := ifp hc29 h
      refine s_iconst dX2_canBe_150 (cin rfl) ?_
      subst h
      exact s_zreturn dX2_canBe_151 rfl (Or.inl rfl) hq
    · have h := ifn hc29 h
      refine s_iload_n (j := 1) dX2_canBe_136 rfl rfl ?_
      refine s_iload_n (j := 2) dX2_canBe_137 rfl rfl ?_
      refine s_icmp_le (tgt := 150) dX2_canBe_138 rfl (fun hc30 => ?_) (fun hc30 => ?_)
      · have h := ifp hc30 h
        refine s_iconst dX2_canBe_150 (cin rfl) ?_
        subst h
        exact s_zreturn dX2_canBe_151 rfl (Or.inl rfl) hq
      · have h := ifn hc30 h
        refine s_iload_n (j := 1) dX2_canBe_141 rfl rfl ?_
        refine s_iconst dX2_canBe_142 (cin rfl) ?_
        refine s_icmp_lt (tgt := 150) dX2_canBe_143 rfl (fun hc31 => ?_) (fun hc31 => ?_)
        · have h := ifp hc31 h
          refine s_iconst dX2_canBe_150 (cin rfl) ?_
          subst h
          exact s_zreturn dX2_canBe_151 rfl (Or.inl rfl) hq
        · have h := ifn hc31 h
          refine s_iconst dX2_canBe_146 (cin rfl) ?_
          refine s_goto (tgt := 151) dX2_canBe_147 rfl ?_
          subst h
          exact s_zreturn dX2_canBe_151 rfl (Or.inr rfl) hq
  have h := ifn hc28 h
  refine s_tabOut (tgt := 217) dX2_canBe_1 (by omega) rfl ?_
  refine s_iconst dX2_canBe_217 (cin rfl) ?_
  subst h
  exact s_zreturn dX2_canBe_218 rfl (Or.inr rfl) hq
def gX2_canBe : XG := fun As F r F' => ∃ x0 : Int, ∃ x1 : Int, ∃ x2 : Int, ∃ res : Int, As = [vI x0, vI x1, vI x2] ∧ fX2_canBe x0 x1 x2 = res ∧ r = some (vI res) ∧ F' = F
theorem ctX2_canBe : xCT yX2_canBe cX2_canBe 3 (some FieldType.boolean) 0 0 gX2_canBe := xmet (by decide +kernel) (fun As F r F' hg => by obtain ⟨x0, x1, x2, res, rfl, h, rfl, rfl⟩ := hg; exact Nat.le_of_ble_eq_true rfl) (fun As F r F' hg => by obtain ⟨x0, x1, x2, res, rfl, h, rfl, rfl⟩ := hg; exact fX2_canBe_ok x0 x1 x2 _ _  h ⟨rfl, rfl⟩)
theorem mcX2_canBe : Cond.code yX2_canBe cX2_canBe 3 (some FieldType.boolean) ∈ xw_T ∧ Cond.initialized yX2_canBe.cls ∈ xw_T ∧ Cond.static yX2_canBe ∈ xw_T := ⟨(xinT 697 (by decide +kernel) (by decide +kernel)), (xinT 121 (by decide +kernel) (by decide +kernel)), (xinT 696 (by decide +kernel) (by decide +kernel))⟩
theorem clX2_119 {fr lo : Nat} (h1 : 0 + 1 ≤ fr) (h2 : 8 + (3 + 11) + 0 ≤ lo) : xCall RX2 fr lo 1 119 0 3 gX2_canBe := ⟨_, _, _, _, _, _, ctX2_canBe, h1, h2, mcX2_canBe.1, (xinT 695 (by decide +kernel) (by decide +kernel)), mcX2_canBe.2.1, ⟨by decide +kernel, by decide +kernel, by decide +kernel⟩, by rw [if_neg (by decide)]; exact mcX2_canBe.2.2⟩
theorem dX2_keepLine_0 : decode cX2_keepLine 0 = .ok (.iload_n 1, 1) := by decide +kernel
theorem dX2_keepLine_1 : decode cX2_keepLine 1 = .ok (.tableswitch 100 0 3 #[31, 45, 59, 86], 31) := by decide +kernel
theorem dX2_keepLine_32 : decode cX2_keepLine 32 = .ok (.aload_n 0, 1) := by decide +kernel
theorem dX2_keepLine_33 : decode cX2_keepLine 33 = .ok (.getfield 44, 3) := by decide +kernel
theorem dX2_keepLine_36 : decode cX2_keepLine 36 = .ok (.aload_n 0, 1) := by decide +kernel
theorem dX2_keepLine_37 : decode cX2_keepLine 37 = .ok (.getfield 31, 3) := by decide +kernel
theorem dX2_keepLine_40 : decode cX2_keepLine 40 = .ok (.iconst 0, 1) := by decide +kernel
theorem dX2_keepLine_41 : decode cX2_keepLine 41 = .ok (.iaload, 1) := by decide +kernel
theorem dX2_keepLine_42 : decode cX2_keepLine 42 = .ok (.putfield 208, 3) := by decide +kernel
theorem dX2_keepLine_45 : decode cX2_keepLine 45 = .ok (.return_, 1) := by decide +kernel
theorem dX2_keepLine_46 : decode cX2_keepLine 46 = .ok (.aload_n 0, 1) := by decide +kernel
theorem dX2_keepLine_47 : decode cX2_keepLine 47 = .ok (.getfield 44, 3) := by decide +kernel
theorem dX2_keepLine_50 : decode cX2_keepLine 50 = .ok (.aload_n 0, 1) := by decide +kernel
theorem dX2_keepLine_51 : decode cX2_keepLine 51 = .ok (.getfield 31, 3) := by decide +kernel
theorem dX2_keepLine_54 : decode cX2_keepLine 54 = .ok (.iconst 0, 1) := by decide +kernel
theorem dX2_keepLine_55 : decode cX2_keepLine 55 = .ok (.iaload, 1) := by decide +kernel
theorem dX2_keepLine_56 : decode cX2_keepLine 56 = .ok (.putfield 210, 3) := by decide +kernel
theorem dX2_keepLine_59 : decode cX2_keepLine 59 = .ok (.return_, 1) := by decide +kernel
theorem dX2_keepLine_60 : decode cX2_keepLine 60 = .ok (.aload_n 0, 1) := by decide +kernel
theorem dX2_keepLine_61 : decode cX2_keepLine 61 = .ok (.getfield 44, 3) := by decide +kernel
theorem dX2_keepLine_64 : decode cX2_keepLine 64 = .ok (.aload_n 0, 1) := by decide +kernel
theorem dX2_keepLine_65 : decode cX2_keepLine 65 = .ok (.getfield 31, 3) := by decide +kernel
theorem dX2_keepLine_68 : decode cX2_keepLine 68 = .ok (.iconst 0, 1) := by decide +kernel
theorem dX2_keepLine_69 : decode cX2_keepLine 69 = .ok (.iaload, 1) := by decide +kernel
theorem dX2_keepLine_70 : decode cX2_keepLine 70 = .ok (.putfield 212, 3) := by decide +kernel
theorem dX2_keepLine_73 : decode cX2_keepLine 73 = .ok (.aload_n 0, 1) := by decide +kernel
theorem dX2_keepLine_74 : decode cX2_keepLine 74 = .ok (.getfield 44, 3) := by decide +kernel
theorem dX2_keepLine_77 : decode cX2_keepLine 77 = .ok (.aload_n 0, 1) := by decide +kernel
theorem dX2_keepLine_78 : decode cX2_keepLine 78 = .ok (.getfield 31, 3) := by decide +kernel
theorem dX2_keepLine_81 : decode cX2_keepLine 81 = .ok (.iconst 1, 1) := by decide +kernel
theorem dX2_keepLine_82 : decode cX2_keepLine 82 = .ok (.iaload, 1) := by decide +kernel
theorem dX2_keepLine_83 : decode cX2_keepLine 83 = .ok (.putfield 215, 3) := by decide +kernel
theorem dX2_keepLine_86 : decode cX2_keepLine 86 = .ok (.return_, 1) := by decide +kernel
theorem dX2_keepLine_87 : decode cX2_keepLine 87 = .ok (.aload_n 0, 1) := by decide +kernel
theorem dX2_keepLine_88 : decode cX2_keepLine 88 = .ok (.getfield 44, 3) := by decide +kernel
theorem dX2_keepLine_91 : decode cX2_keepLine 91 = .ok (.aload_n 0, 1) := by decide +kernel
theorem dX2_keepLine_92 : decode cX2_keepLine 92 = .ok (.getfield 31, 3) := by decide +kernel
theorem dX2_keepLine_95 : decode cX2_keepLine 95 = .ok (.iconst 0, 1) := by decide +kernel
theorem dX2_keepLine_96 : decode cX2_keepLine 96 = .ok (.iaload, 1) := by decide +kernel
theorem dX2_keepLine_97 : decode cX2_keepLine 97 = .ok (.putfield 218, 3) := by decide +kernel
theorem dX2_keepLine_100 : decode cX2_keepLine 100 = .ok (.return_, 1) := by decide +kernel
theorem dX2_keepLine_101 : decode cX2_keepLine 101 = .ok (.aload_n 2, 1) := by decide +kernel
theorem dX2_keepLine_102 : decode cX2_keepLine 102 = .ok (.ifnonnull 4, 3) := by decide +kernel
theorem dX2_keepLine_105 : decode cX2_keepLine 105 = .ok (.return_, 1) := by decide +kernel
theorem dX2_keepLine_106 : decode cX2_keepLine 106 = .ok (.aload_n 2, 1) := by decide +kernel
theorem dX2_keepLine_107 : decode cX2_keepLine 107 = .ok (.invokevirtual 220, 3) := by decide +kernel
theorem dX2_keepLine_110 : decode cX2_keepLine 110 = .ok (.iload_n 1, 1) := by decide +kernel
theorem dX2_keepLine_111 : decode cX2_keepLine 111 = .ok (.bipush 7, 2) := by decide +kernel
theorem dX2_keepLine_113 : decode cX2_keepLine 113 = .ok (.if_icmp .gt 45, 3) := by decide +kernel
theorem dX2_keepLine_116 : decode cX2_keepLine 116 = .ok (.aload_n 2, 1) := by decide +kernel
theorem dX2_keepLine_117 : decode cX2_keepLine 117 = .ok (.iconst 0, 1) := by decide +kernel
theorem dX2_keepLine_118 : decode cX2_keepLine 118 = .ok (.aload_n 0, 1) := by decide +kernel
theorem dX2_keepLine_119 : decode cX2_keepLine 119 = .ok (.getfield 31, 3) := by decide +kernel
theorem dX2_keepLine_122 : decode cX2_keepLine 122 = .ok (.iconst 0, 1) := by decide +kernel
theorem dX2_keepLine_123 : decode cX2_keepLine 123 = .ok (.iaload, 1) := by decide +kernel
theorem dX2_keepLine_124 : decode cX2_keepLine 124 = .ok (.invokevirtual 223, 3) := by decide +kernel
theorem dX2_keepLine_127 : decode cX2_keepLine 127 = .ok (.aload_n 2, 1) := by decide +kernel
theorem dX2_keepLine_128 : decode cX2_keepLine 128 = .ok (.iconst 1, 1) := by decide +kernel
theorem dX2_keepLine_129 : decode cX2_keepLine 129 = .ok (.iload_n 1, 1) := by decide +kernel
theorem dX2_keepLine_130 : decode cX2_keepLine 130 = .ok (.iconst 4, 1) := by decide +kernel
theorem dX2_keepLine_131 : decode cX2_keepLine 131 = .ok (.isub, 1) := by decide +kernel
theorem dX2_keepLine_132 : decode cX2_keepLine 132 = .ok (.invokevirtual 223, 3) := by decide +kernel
theorem dX2_keepLine_135 : decode cX2_keepLine 135 = .ok (.aload_n 2, 1) := by decide +kernel
theorem dX2_keepLine_136 : decode cX2_keepLine 136 = .ok (.iconst 2, 1) := by decide +kernel
theorem dX2_keepLine_137 : decode cX2_keepLine 137 = .ok (.aload_n 0, 1) := by decide +kernel
theorem dX2_keepLine_138 : decode cX2_keepLine 138 = .ok (.getfield 31, 3) := by decide +kernel
theorem dX2_keepLine_141 : decode cX2_keepLine 141 = .ok (.iconst 1, 1) := by decide +kernel
theorem dX2_keepLine_142 : decode cX2_keepLine 142 = .ok (.iaload, 1) := by decide +kernel
theorem dX2_keepLine_143 : decode cX2_keepLine 143 = .ok (.invokevirtual 223, 3) := by decide +kernel
theorem dX2_keepLine_146 : decode cX2_keepLine 146 = .ok (.aload_n 2, 1) := by decide +kernel
theorem dX2_keepLine_147 : decode cX2_keepLine 147 = .ok (.iconst 3, 1) := by decide +kernel
theorem dX2_keepLine_148 : decode cX2_keepLine 148 = .ok (.aload_n 0, 1) := by decide +kernel
theorem dX2_keepLine_149 : decode cX2_keepLine 149 = .ok (.getfield 31, 3) := by decide +kernel
theorem dX2_keepLine_152 : decode cX2_keepLine 152 = .ok (.iconst 2, 1) := by decide +kernel
theorem dX2_keepLine_153 : decode cX2_keepLine 153 = .ok (.iaload, 1) := by decide +kernel
theorem dX2_keepLine_154 : decode cX2_keepLine 154 = .ok (.invokevirtual 223, 3) := by decide +kernel
theorem dX2_keepLine_157 : decode cX2_keepLine 157 = .ok (.return_, 1) := by decide +kernel
theorem dX2_keepLine_158 : decode cX2_keepLine 158 = .ok (.iload_n 1, 1) := by decide +kernel
theorem dX2_keepLine_159 : decode cX2_keepLine 159 = .ok (.bipush 10, 2) := by decide +kernel
theorem dX2_keepLine_161 : decode cX2_keepLine 161 = .ok (.if_icmp .lt 13, 3) := by decide +kernel
theorem dX2_keepLine_164 : decode cX2_keepLine 164 = .ok (.iload_n 1, 1) := by decide +kernel
theorem dX2_keepLine_165 : decode cX2_keepLine 165 = .ok (.bipush 15, 2) := by decide +kernel
theorem dX2_keepLine_167 : decode cX2_keepLine 167 = .ok (.if_icmp .gt 7, 3) := by decide +kernel
theorem dX2_keepLine_170 : decode cX2_keepLine 170 = .ok (.iconst 1, 1) := by decide +kernel
theorem dX2_keepLine_171 : decode cX2_keepLine 171 = .ok (.goto 4, 3) := by decide +kernel
theorem dX2_keepLine_174 : decode cX2_keepLine 174 = .ok (.iconst 0, 1) := by decide +kernel
theorem dX2_keepLine_175 : decode cX2_keepLine 175 = .ok (.istore 4, 2) := by decide +kernel
theorem dX2_keepLine_177 : decode cX2_keepLine 177 = .ok (.iload 4, 2) := by decide +kernel
theorem dX2_keepLine_179 : decode cX2_keepLine 179 = .ok (.ifCond .eq 12, 3) := by decide +kernel
theorem dX2_keepLine_182 : decode cX2_keepLine 182 = .ok (.aload_n 2, 1) := by decide +kernel
theorem dX2_keepLine_183 : decode cX2_keepLine 183 = .ok (.iconst 0, 1) := by decide +kernel
theorem dX2_keepLine_184 : decode cX2_keepLine 184 = .ok (.iload_n 1, 1) := by decide +kernel
theorem dX2_keepLine_185 : decode cX2_keepLine 185 = .ok (.bipush 10, 2) := by decide +kernel
theorem dX2_keepLine_187 : decode cX2_keepLine 187 = .ok (.isub, 1) := by decide +kernel
theorem dX2_keepLine_188 : decode cX2_keepLine 188 = .ok (.invokevirtual 223, 3) := by decide +kernel
theorem dX2_keepLine_191 : decode cX2_keepLine 191 = .ok (.iconst 0, 1) := by decide +kernel
theorem dX2_keepLine_192 : decode cX2_keepLine 192 = .ok (.istore 5, 2) := by decide +kernel
theorem dX2_keepLine_194 : decode cX2_keepLine 194 = .ok (.iload 5, 2) := by decide +kernel
theorem dX2_keepLine_196 : decode cX2_keepLine 196 = .ok (.iload_n 3, 1) := by decide +kernel
theorem dX2_keepLine_197 : decode cX2_keepLine 197 = .ok (.if_icmp .ge 34, 3) := by decide +kernel
theorem dX2_keepLine_200 : decode cX2_keepLine 200 = .ok (.aload_n 2, 1) := by decide +kernel
theorem dX2_keepLine_201 : decode cX2_keepLine 201 = .ok (.iload 4, 2) := by decide +kernel
theorem dX2_keepLine_203 : decode cX2_keepLine 203 = .ok (.ifCond .eq 10, 3) := by decide +kernel
theorem dX2_keepLine_206 : decode cX2_keepLine 206 = .ok (.iload 5, 2) := by decide +kernel
theorem dX2_keepLine_208 : decode cX2_keepLine 208 = .ok (.iconst 1, 1) := by decide +kernel
theorem dX2_keepLine_209 : decode cX2_keepLine 209 = .ok (.iadd, 1) := by decide +kernel
theorem dX2_keepLine_210 : decode cX2_keepLine 210 = .ok (.goto 5, 3) := by decide +kernel
theorem dX2_keepLine_213 : decode cX2_keepLine 213 = .ok (.iload 5, 2) := by decide +kernel
theorem dX2_keepLine_215 : decode cX2_keepLine 215 = .ok (.aload_n 0, 1) := by decide +kernel
theorem dX2_keepLine_216 : decode cX2_keepLine 216 = .ok (.getfield 31, 3) := by decide +kernel
theorem dX2_keepLine_219 : decode cX2_keepLine 219 = .ok (.iload 5, 2) := by decide +kernel
theorem dX2_keepLine_221 : decode cX2_keepLine 221 = .ok (.iaload, 1) := by decide +kernel
theorem dX2_keepLine_222 : decode cX2_keepLine 222 = .ok (.invokevirtual 223, 3) := by decide +kernel
theorem dX2_keepLine_225 : decode cX2_keepLine 225 = .ok (.iinc 5 1, 3) := by decide +kernel
theorem dX2_keepLine_228 : decode cX2_keepLine 228 = .ok (.goto (-34), 3) := by decide +kernel
theorem dX2_keepLine_231 : decode cX2_keepLine 231 = .ok (.return_, 1) := by decide +kernel
def zX2_keepLine (Qr : Option PV → Mem → Prop) : XZ := (RX2, 2, 44, 6, none, Qr)
noncomputable def fX2_keepLine_b215 (k194 : Nat → Nat → Int → Int → Int → Mem → Option Mem) (o : Nat) (x2 : Nat) (x3 : Int) (x4 : Int) (x5 : Int) (s0 : Nat) (s1 : Int) (F : Mem) : Option Mem :=
  if (0 : Int) ≤ x5 ∧ x5 < (alen (o + 1) : Int) then
    if s0 = 0 then none else
    (fX3_write s0 s1 (F (o + 1) x5.toNat) F).bind fun q3 =>
    k194 o x2 x3 x4 (xw (x5 + 1)) q3
  else none
noncomputable def fX2_keepLine_b194 : Nat → Nat → Nat → Int → Int → Int → Mem → Option Mem
  | 0, _, _, _, _, _, _ => none
  | n + 1, o, x2, x3, x4, x5, F =>
    if x3 ≤ x5 then
      some F
    else
      if x4 = 0 then
        fX2_keepLine_b215 (fX2_keepLine_b194 n) o x2 x3 x4 x5 x2 x5 F
      else
        fX2_keepLine_b215 (fX2_keepLine_b194 n) o x2 x3 x4 x5 x2 (xw (x5 + 1)) F
noncomputable def fX2_keepLine_b175 (o : Nat) (x1 : Int) (x2 : Nat) (x3 : Int) (s0 : Int) (F : Mem) : Option Mem :=
  if s0 = 0 then
    fX2_keepLine_b194 FU o x2 x3 s0 0 F
  else
    if x2 = 0 then none else
    (fX3_write x2 0 (xw (x1 - 10)) F).bind fun q3 =>
    fX2_keepLine_b194 FU o x2 x3 s0 0 q3
noncomputable def fX2_keepLine (o : Nat) (x1 : Int) (x2 : Nat) (x3 : Int) (F : Mem) : Option Mem :=
  if x1 = 0 then
    if (0 : Int) ≤ 0 ∧ 0 < (alen (o + 1) : Int) then
      some (mset F (o + 2) 0 (F (o + 1) 0))
    else none
  else
  if x1 = 1 then
    if (0 : Int) ≤ 0 ∧ 0 < (alen (o + 1) : Int) then
      some (mset F (o + 2) 1 (F (o + 1) 0))
    else none
  else
  if x1 = 2 then
    if (0 : Int) ≤ 0 ∧ 0 < (alen (o + 1) : Int) then
      if (0 : Int) ≤ 1 ∧ 1 < (alen (o + 1) : Int) then
        some (mset (mset F (o + 2) 2 (F (o + 1) 0)) (o + 2) 3 ((mset F (o + 2) 2 (F (o + 1) 0)) (o + 1) 1))
      else none
    else none
  else
  if x1 = 3 then
    if (0 : Int) ≤ 0 ∧ 0 < (alen (o + 1) : Int) then
      some (mset F (o + 2) 4 (F (o + 1) 0))
    else none
  else
  if x2 = 0 then
    some F
  else
    (fX3_addRow x2 F).bind fun q11 =>
    if 7 < x1 then
      if x1 < 10 then
        fX2_keepLine_b175 o x1 x2 x3 0 q11
      else
        if 15 < x1 then
          fX2_keepLine_b175 o x1 x2 x3 0 q11
        else
          fX2_keepLine_b175 o x1 x2 x3 1 q11
    else
      if (0 : Int) ≤ 0 ∧ 0 < (alen (o + 1) : Int) then
        (fX3_write x2 0 (q11 (o + 1) 0) q11).bind fun q17 =>
        (fX3_write x2 1 (xw (x1 - 4)) q17).bind fun q19 =>
        if (0 : Int) ≤ 1 ∧ 1 < (alen (o + 1) : Int) then
          (fX3_write x2 2 (q19 (o + 1) 1) q19).bind fun q22 =>
          if (0 : Int) ≤ 2 ∧ 2 < (alen (o + 1) : Int) then
            (fX3_write x2 3 (q22 (o + 1) 2) q22).bind fun q25 =>
            some q25
          else none
        else none
      else none
theorem fX2_keepLine_b215_ok {Qr : Option PV → Mem → Prop}  (k194 : Nat → Nat → Int → Int → Int → Mem → Option Mem) (hk194 : ∀ (o : Nat) (x2 : Nat) (x3 : Int) (x4 : Int) (x5 : Int) (F : Mem) (res : Mem) (ho : isK o 2) (hx2 : x2 = 0 ∨ isK x2 3), k194 o x2 x3 x4 x5 F = some res → Qr none res → PR cX2_keepLine (zX2_keepLine Qr) 194 [(0, vR o), (2, vR x2), (3, vI x3), (4, vI x4), (5, vI x5)] [] F) : ∀ (o : Nat) (x2 : Nat) (x3 : Int) (x4 : Int) (x5 : Int) (s0 : Nat) (s1 : Int) (F : Mem) (res : Mem) (ho : isK o 2) (hx2 : x2 = 0 ∨ isK x2 3) (hs0 : s0 = 0 ∨ isK s0 3), fX2_keepLine_b215 k194 o x2 x3 x4 x5 s0 s1 F = some res → Qr none res → PR cX2_keepLine (zX2_keepLine Qr) 215 [(0, vR o), (2, vR x2), (3, vI x3), (4, vI x4), (5, vI x5)] [vI s1, vR s0] F := by
  intro o x2 x3 x4 x5 s0 s1 F res ho hx2 hs0 h hq
  refine s_aload_n (j := 0) dX2_keepLine_215 rfl rfl ?_
  refine s_getR dX2_keepLine_216 flX2_31 ho ?_
  refine s_iload (j := 4) dX2_keepLine_219 rfl ?_
  obtain ⟨hb1, h⟩ := gd h
  refine s_iaload dX2_keepLine_221 (trX2_6 ho) hb1.1 hb1.2 ?_
  obtain ⟨hn2, h⟩ := gdn h
  obtain ⟨q3, hv4, h⟩ := bnd h
  refine s_callV (As := [vI s1, vI (F (o + 1) x5.toNat)]) (rest := []) (r := none) (F' := q3) dX2_keepLine_222 (clX2_223 (Nat.le_of_ble_eq_true rfl) (Nat.le_of_ble_eq_true rfl)) (hs0.resolve_left hn2) rfl ⟨_, _, _, _, rfl, (hs0.resolve_left hn2), hv4, rfl, rfl⟩ rfl (Nat.le_of_ble_eq_true rfl) ?_
  refine s_iinc (ls' := [(5, vI (xw (x5 + 1))), (0, vR o), (2, vR x2), (3, vI x3), (4, vI x4)]) (j := 4) dX2_keepLine_225 rfl (Nat.le_of_ble_eq_true rfl) rfl ?_
  refine s_goto (tgt := 194) dX2_keepLine_228 rfl ?_
  exact s_sub (ks := [1, 2, 3, 4, 0]) rfl (hk194 o x2 x3 x4 (xw (x5 + 1)) q3 _ ho hx2 h hq)
theorem fX2_keepLine_b194_ok {Qr : Option PV → Mem → Prop}  : ∀ (n : Nat) (o : Nat) (x2 : Nat) (x3 : Int) (x4 : Int) (x5 : Int) (F : Mem) (res : Mem) (ho : isK o 2) (hx2 : x2 = 0 ∨ isK x2 3), fX2_keepLine_b194 n o x2 x3 x4 x5 F = some res → Qr none res → PR cX2_keepLine (zX2_keepLine Qr) 194 [(0, vR o), (2, vR x2), (3, vI x3), (4, vI x4), (5, vI x5)] [] F := by
  intro n
  induction n with
  | zero => intro o x2 x3 x4 x5 F res ho hx2 h hq; exact nomatch (show (none : Option _) = some _ from h)
  | succ n ih =>
    intro o x2 x3 x4 x5 F res ho hx2 h hq
    refine s_iload (j := 4) dX2_keepLine_194 rfl ?_
    refine s_iload_n (j := 2) dX2_keepLine_196 rfl rfl ?_
    refine s_icmp_ge (tgt := 231) dX2_keepLine_197 rfl (fun hc1 => ?_) (fun hc1 => ?_)
    · have h := ifp hc1 h
      have h := Option.some.inj h
      subst h
      exact s_return dX2_keepLine_231 rfl hq
    · have h := ifn hc1 h
      refine s_aload_n (j := 1) dX2_keepLine_200 rfl rfl ?_
      refine s_iload (j := 3) dX2_keepLine_201 rfl ?_
      refine s_if_eq (tgt := 213) dX2_keepLine_203 rfl (fun hc2 => ?_) (fun hc2 => ?_)
      · have h := ifp hc2 h
        refine s_iload (j := 4) dX2_keepLine_213 rfl ?_
        exact s_sub (ks := [0, 1, 2, 3, 4]) rfl (fX2_keepLine_b215_ok (fX2_keepLine_b194 n) ih o x2 x3 x4 x5 x2 x5 F _ ho hx2 hx2 h hq)
      · have h := ifn hc2 h
        refine s_iload (j := 4) dX2_keepLine_206 rfl ?_
        refine s_iconst dX2_keepLine_208 (cin rfl) ?_
        refine s_iadd dX2_keepLine_209 ?_
        refine s_goto (tgt := 215) dX2_keepLine_210 rfl ?_
        exact s_sub (ks := [0, 1, 2, 3, 4]) rfl (fX2_keepLine_b215_ok (fX2_keepLine_b194 n) ih o x2 x3 x4 x5 x2 (xw (x5 + 1)) F _ ho hx2 hx2 h hq)
theorem fX2_keepLine_b175_ok {Qr : Option PV → Mem → Prop}  : ∀ (o : Nat) (x1 : Int) (x2 : Nat) (x3 : Int) (s0 : Int) (F : Mem) (res : Mem) (ho : isK o 2) (hx2 : x2 = 0 ∨ isK x2 3), fX2_keepLine_b175 o x1 x2 x3 s0 F = some res → Qr none res → PR cX2_keepLine (zX2_keepLine Qr) 175 [(0, vR o), (1, vI x1), (2, vR x2), (3, vI x3)] [vI s0] F := by
  intro o x1 x2 x3 s0 F res ho hx2 h hq
  refine s_istore (ls' := [(4, vI s0), (0, vR o), (1, vI x1), (2, vR x2), (3, vI x3)]) dX2_keepLine_175 (Nat.le_of_ble_eq_true rfl) rfl ?_
  refine s_iload (j := 0) dX2_keepLine_177 rfl ?_
  refine s_if_eq (tgt := 191) dX2_keepLine_179 rfl (fun hc1 => ?_) (fun hc1 => ?_)
  · have h := ifp hc1 h
    refine s_iconst dX2_keepLine_191 (cin rfl) ?_
    refine s_istore (ls' := [(5, vI 0), (4, vI s0), (0, vR o), (1, vI x1), (2, vR x2), (3, vI x3)]) dX2_keepLine_192 (Nat.le_of_ble_eq_true rfl) rfl ?_
    exact s_sub (ks := [2, 4, 5, 1, 0]) rfl (fX2_keepLine_b194_ok FU o x2 x3 s0 0 F _ ho hx2 h hq)
  · have h := ifn hc1 h
    refine s_aload_n (j := 3) dX2_keepLine_182 rfl rfl ?_
    refine s_iconst dX2_keepLine_183 (cin rfl) ?_
    refine s_iload_n (j := 2) dX2_keepLine_184 rfl rfl ?_
    refine s_bipush dX2_keepLine_185 rfl (cin rfl) ?_
    refine s_isub dX2_keepLine_187 ?_
    obtain ⟨hn2, h⟩ := gdn h
    obtain ⟨q3, hv4, h⟩ := bnd h
    refine s_callV (As := [vI 0, vI (xw (x1 - 10))]) (rest := []) (r := none) (F' := q3) dX2_keepLine_188 (clX2_223 (Nat.le_of_ble_eq_true rfl) (Nat.le_of_ble_eq_true rfl)) (hx2.resolve_left hn2) rfl ⟨_, _, _, _, rfl, (hx2.resolve_left hn2), hv4, rfl, rfl⟩ rfl (Nat.le_of_ble_eq_true rfl) ?_
    refine s_iconst dX2_keepLine_191 (cin rfl) ?_
    refine s_istore (ls' := [(5, vI 0), (4, vI s0), (0, vR o), (1, vI x1), (2, vR x2), (3, vI x3)]) dX2_keepLine_192 (Nat.le_of_ble_eq_true rfl) rfl ?_
    exact s_sub (ks := [2, 4, 5, 1, 0]) rfl (fX2_keepLine_b194_ok FU o x2 x3 s0 0 q3 _ ho hx2 h hq)
theorem fX2_keepLine_ok {Qr : Option PV → Mem → Prop} : ∀ (o : Nat) (x1 : Int) (x2 : Nat) (x3 : Int) (F : Mem) (res : Mem) (ho : isK o 2) (hx2 : x2 = 0 ∨ isK x2 3), fX2_keepLine o x1 x2 x3 F = some res → Qr none res → PR cX2_keepLine (zX2_keepLine Qr) 0 [(0, vR o), (1, vI x1), (2, vR x2), (3, vI x3)] [] F := by
  intro o x1 x2 x3 F res ho hx2 h hq
  refine s_iload_n (j := 1) dX2_keepLine_0 rfl rfl ?_
  by_cases hc1 : x1 = 0
  · have h := ifp hc1 h
    refine s_tabIn (tgt := 32) (off := 31) dX2_keepLine_1 (by omega) (by omega) (by rw [hc1]; rfl) rfl ?_
    refine s_aload_n (j := 0) dX2_keepLine_32 rfl rfl ?_
    refine s_getR dX2_keepLine_33 flX2_44 ho ?_
    refine s_aload_n (j := 0) dX2_keepLine_36 rfl rfl ?_
    refine s_getR dX2_keepLine_37 flX2_31 ho ?_
    refine s_iconst dX2_keepLine_40 (cin rfl) ?_
    obtain ⟨hb2, h⟩ := gd h
    refine s_iaload dX2_keepLine_41 (trX2_6 ho) hb2.1 hb2.2 ?_
    refine s_putI dX2_keepLine_42 flX2_208 fpX7_0 (trX2_9 ho) ?_
    have h := Option.some.inj h
    subst h
    exact s_return dX2_keepLine_45 rfl hq
  have h := ifn hc1 h
  by_cases hc3 : x1 = 1
  · have h := ifp hc3 h
    refine s_tabIn (tgt := 46) (off := 45) dX2_keepLine_1 (by omega) (by omega) (by rw [hc3]; rfl) rfl ?_
    refine s_aload_n (j := 0) dX2_keepLine_46 rfl rfl ?_
    refine s_getR dX2_keepLine_47 flX2_44 ho ?_
    refine s_aload_n (j := 0) dX2_keepLine_50 rfl rfl ?_
    refine s_getR dX2_keepLine_51 flX2_31 ho ?_
    refine s_iconst dX2_keepLine_54 (cin rfl) ?_
    obtain ⟨hb4, h⟩ := gd h
    refine s_iaload dX2_keepLine_55 (trX2_6 ho) hb4.1 hb4.2 ?_
    refine s_putI dX2_keepLine_56 flX2_210 fpX7_1 (trX2_9 ho) ?_
    have h := Option.some.inj h
    subst h
    exact s_return dX2_keepLine_59 rfl hq
  have h := ifn hc3 h
  by_cases hc5 : x1 = 2
  · have h := ifp hc5 h
    refine s_tabIn (tgt := 60) (off := 59) dX2_keepLine_1 (by omega) (by omega) (by rw [hc5]; rfl) rfl ?_
    refine s_aload_n (j := 0) dX2_keepLine_60 rfl rfl ?_
    refine s_getR dX2_keepLine_61 flX2_44 ho ?_
    refine s_aload_n (j := 0) dX2_keepLine_64 rfl rfl ?_
    refine s_getR dX2_keepLine_65 flX2_31 ho ?_
    refine s_iconst dX2_keepLine_68 (cin rfl) ?_
    obtain ⟨hb6, h⟩ := gd h
    refine s_iaload dX2_keepLine_69 (trX2_6 ho) hb6.1 hb6.2 ?_
    refine s_putI dX2_keepLine_70 flX2_212 fpX7_2 (trX2_9 ho) ?_
    refine s_aload_n (j := 0) dX2_keepLine_73 rfl rfl ?_
    refine s_getR dX2_keepLine_74 flX2_44 ho ?_
    refine s_aload_n (j := 0) dX2_keepLine_77 rfl rfl ?_
    refine s_getR dX2_keepLine_78 flX2_31 ho ?_
    refine s_iconst dX2_keepLine_81 (cin rfl) ?_
    obtain ⟨hb7, h⟩ := gd h
    refine s_iaload dX2_keepLine_82 (trX2_6 ho) hb7.1 hb7.2 ?_
    refine s_putI dX2_keepLine_83 flX2_215 fpX7_3 (trX2_9 ho) ?_
    have h := Option.some.inj h
    subst h
    exact s_return dX2_keepLine_86 rfl hq
  have h := ifn hc5 h
  by_cases hc8 : x1 = 3
  · have h := ifp hc8 h
    refine s_tabIn (tgt := 87) (off := 86) dX2_keepLine_1 (by omega) (by omega) (by rw [hc8]; rfl) rfl ?_
    refine s_aload_n (j := 0) dX2_keepLine_87 rfl rfl ?_
    refine s_getR dX2_keepLine_88 flX2_44 ho ?_
    refine s_aload_n (j := 0) dX2_keepLine_91 rfl rfl ?_
    refine s_getR dX2_keepLine_92 flX2_31 ho ?_
    refine s_iconst dX2_keepLine_95 (cin rfl) ?_
    obtain ⟨hb9, h⟩ := gd h
    refine s_iaload dX2_keepLine_96 (trX2_6 ho) hb9.1 hb9.2 ?_
    refine s_putI dX2_keepLine_97 flX2_218 fpX7_4 (trX2_9 ho) ?_
    have h := Option.some.inj h
    subst h
    exact s_return dX2_keepLine_100 rfl hq
  have h := ifn hc8 h
  refine s_tabOut (tgt := 101) dX2_keepLine_1 (by omega) rfl ?_
  refine s_aload_n (j := 2) dX2_keepLine_101 rfl rfl ?_
  refine s_ifnonnull (tgt := 106) dX2_keepLine_102 rfl (fun hc10 => ?_) (fun hc10 => ?_)
  · have h := ifn hc10 h
    refine s_aload_n (j := 2) dX2_keepLine_106 rfl rfl ?_
    obtain ⟨q11, hv12, h⟩ := bnd h
    refine s_callV (As := []) (rest := []) (r := none) (F' := q11) dX2_keepLine_107 (clX2_220 (Nat.le_of_ble_eq_true rfl) (Nat.le_of_ble_eq_true rfl)) (hx2.resolve_left hc10) rfl ⟨_, _, rfl, (hx2.resolve_left hc10), hv12, rfl, rfl⟩ rfl (Nat.le_of_ble_eq_true rfl) ?_
    refine s_iload_n (j := 1) dX2_keepLine_110 rfl rfl ?_
    refine s_bipush dX2_keepLine_111 rfl (cin rfl) ?_
    refine s_icmp_gt (tgt := 158) dX2_keepLine_113 rfl (fun hc13 => ?_) (fun hc13 => ?_)
    · have h := ifp hc13 h
      refine s_iload_n (j := 1) dX2_keepLine_158 rfl rfl ?_
      refine s_bipush dX2_keepLine_159 rfl (cin rfl) ?_
      refine s_icmp_lt (tgt := 174) dX2_keepLine_161 rfl (fun hc14 => ?_) (fun hc14 => ?_)
      · have h := ifp hc14 h
        refine s_iconst dX2_keepLine_174 (cin rfl) ?_
        exact s_sub (ks := [0, 1, 2, 3]) rfl (fX2_keepLine_b175_ok o x1 x2 x3 0 q11 _ ho (Or.inr (hx2.resolve_left hc10)) h hq)
      · have h := ifn hc14 h
        refine s_iload_n (j := 1) dX2_keepLine_164 rfl rfl ?_
        refine s_bipush dX2_keepLine_165 rfl (cin rfl) ?_
        refine s_icmp_gt (tgt := 174) dX2_keepLine_167 rfl (fun hc15 => ?_) (fun hc15 => ?_)
        · have h := ifp hc15 h
          refine s_iconst dX2_keepLine_174 (cin rfl) ?_
          exact s_sub (ks := [0, 1, 2, 3]) rfl (fX2_keepLine_b175_ok o x1 x2 x3 0 q11 _ ho (Or.inr (hx2.resolve_left hc10)) h hq)
        · have h := ifn hc15 h
          refine s_iconst dX2_keepLine_170 (cin rfl) ?_
          refine s_goto (tgt := 175) dX2_keepLine_171 rfl ?_
          exact s_sub (ks := [0, 1, 2, 3]) rfl (fX2_keepLine_b175_ok o x1 x2 x3 1 q11 _ ho (Or.inr (hx2.resolve_left hc10)) h hq)
    · have h := ifn hc13 h
      refine s_aload_n (j := 2) dX2_keepLine_116 rfl rfl ?_
      refine s_iconst dX2_keepLine_117 (cin rfl) ?_
      refine s_aload_n (j := 0) dX2_keepLine_118 rfl rfl ?_
      refine s_getR dX2_keepLine_119 flX2_31 ho ?_
      refine s_iconst dX2_keepLine_122 (cin rfl) ?_
      obtain ⟨hb16, h⟩ := gd h
      refine s_iaload dX2_keepLine_123 (trX2_6 ho) hb16.1 hb16.2 ?_
      obtain ⟨q17, hv18, h⟩ := bnd h
      refine s_callV (As := [vI 0, vI (q11 (o + 1) 0)]) (rest := []) (r := none) (F' := q17) dX2_keepLine_124 (clX2_223 (Nat.le_of_ble_eq_true rfl) (Nat.le_of_ble_eq_true rfl)) (hx2.resolve_left hc10) rfl ⟨_, _, _, _, rfl, (hx2.resolve_left hc10), hv18, rfl, rfl⟩ rfl (Nat.le_of_ble_eq_true rfl) ?_
      refine s_aload_n (j := 2) dX2_keepLine_127 rfl rfl ?_
      refine s_iconst dX2_keepLine_128 (cin rfl) ?_
      refine s_iload_n (j := 1) dX2_keepLine_129 rfl rfl ?_
      refine s_iconst dX2_keepLine_130 (cin rfl) ?_
      refine s_isub dX2_keepLine_131 ?_
      obtain ⟨q19, hv20, h⟩ := bnd h
      refine s_callV (As := [vI 1, vI (xw (x1 - 4))]) (rest := []) (r := none) (F' := q19) dX2_keepLine_132 (clX2_223 (Nat.le_of_ble_eq_true rfl) (Nat.le_of_ble_eq_true rfl)) (hx2.resolve_left hc10) rfl ⟨_, _, _, _, rfl, (hx2.resolve_left hc10), hv20, rfl, rfl⟩ rfl (Nat.le_of_ble_eq_true rfl) ?_
      refine s_aload_n (j := 2) dX2_keepLine_135 rfl rfl ?_
      refine s_iconst dX2_keepLine_136 (cin rfl) ?_
      refine s_aload_n (j := 0) dX2_keepLine_137 rfl rfl ?_
      refine s_getR dX2_keepLine_138 flX2_31 ho ?_
      refine s_iconst dX2_keepLine_141 (cin rfl) ?_
      obtain ⟨hb21, h⟩ := gd h
      refine s_iaload dX2_keepLine_142 (trX2_6 ho) hb21.1 hb21.2 ?_
      obtain ⟨q22, hv23, h⟩ := bnd h
      refine s_callV (As := [vI 2, vI (q19 (o + 1) 1)]) (rest := []) (r := none) (F' := q22) dX2_keepLine_143 (clX2_223 (Nat.le_of_ble_eq_true rfl) (Nat.le_of_ble_eq_true rfl)) (hx2.resolve_left hc10) rfl ⟨_, _, _, _, rfl, (hx2.resolve_left hc10), hv23, rfl, rfl⟩ rfl (Nat.le_of_ble_eq_true rfl) ?_
      refine s_aload_n (j := 2) dX2_keepLine_146 rfl rfl ?_
      refine s_iconst dX2_keepLine_147 (cin rfl) ?_
      refine s_aload_n (j := 0) dX2_keepLine_148 rfl rfl ?_
      refine s_getR dX2_keepLine_149 flX2_31 ho ?_
      refine s_iconst dX2_keepLine_152 (cin rfl) ?_
      obtain ⟨hb24, h⟩ := gd h
      refine s_iaload dX2_keepLine_153 (trX2_6 ho) hb24.1 hb24.2 ?_
      obtain ⟨q25, hv26, h⟩ := bnd h
      refine s_callV (As := [vI 3, vI (q22 (o + 1) 2)]) (rest := []) (r := none) (F' := q25) dX2_keepLine_154 (clX2_223 (Nat.le_of_ble_eq_true rfl) (Nat.le_of_ble_eq_true rfl)) (hx2.resolve_left hc10) rfl ⟨_, _, _, _, rfl, (hx2.resolve_left hc10), hv26, rfl, rfl⟩ rfl (Nat.le_of_ble_eq_true rfl) ?_
      have h := Option.some.inj h
      subst h
      exact s_return dX2_keepLine_157 rfl hq
  · have h := ifp hc10 h
    have h := Option.some.inj h
    subst h
    exact s_return dX2_keepLine_105 rfl hq
def gX2_keepLine : XG := fun As F r F' => ∃ o : Nat, ∃ x1 : Int, ∃ x2 : Nat, ∃ x3 : Int, ∃ res : Mem, As = [vR o, vI x1, vR x2, vI x3] ∧ isK o 2 ∧ (x2 = 0 ∨ isK x2 3) ∧ fX2_keepLine o x1 x2 x3 F = some res ∧ r = none ∧ F' = res
theorem ctX2_keepLine : xCT yX2_keepLine cX2_keepLine 6 (none) 2 44 gX2_keepLine := xmet (by decide +kernel) (fun As F r F' hg => by obtain ⟨o, x1, x2, x3, res, rfl, ho, hx2, h, rfl, rfl⟩ := hg; exact Nat.le_of_ble_eq_true rfl) (fun As F r F' hg => by obtain ⟨o, x1, x2, x3, res, rfl, ho, hx2, h, rfl, rfl⟩ := hg; exact fX2_keepLine_ok o x1 x2 x3 _ _ ho hx2 h ⟨rfl, rfl⟩)
theorem mcX2_keepLine : Cond.code yX2_keepLine cX2_keepLine 6 (none) ∈ xw_T ∧ Cond.initialized yX2_keepLine.cls ∈ xw_T ∧ Cond.instanceMethod yX2_keepLine ∈ xw_T ∧ Cond.selects yX2_keepLine.cls yX2_keepLine yX2_keepLine ∈ xw_T := ⟨(xinT 701 (by decide +kernel) (by decide +kernel)), (xinT 121 (by decide +kernel) (by decide +kernel)), (xinT 700 (by decide +kernel) (by decide +kernel)), (xinT 9 (by decide +kernel) (by decide +kernel))⟩
theorem clX2_123 {fr lo : Nat} (h1 : 2 + 1 ≤ fr) (h2 : 8 + (6 + 11) + 44 ≤ lo) : xCall RX2 fr lo 0 123 2 3 gX2_keepLine := ⟨_, _, _, _, _, _, ctX2_keepLine, h1, h2, mcX2_keepLine.1, (xinT 698 (by decide +kernel) (by decide +kernel)), mcX2_keepLine.2.1, ⟨by decide +kernel, by decide +kernel, by decide +kernel⟩, by rw [if_pos rfl]; exact ⟨mcX2_keepLine.2.2.1, mcX2_keepLine.2.2.2, _, _, rfl⟩⟩
theorem dX2_isAtHand_0 : decode cX2_isAtHand 0 = .ok (.aload_n 0, 1) := by decide +kernel
theorem dX2_isAtHand_1 : decode cX2_isAtHand 1 = .ok (.getfield 19, 3) := by decide +kernel
theorem dX2_isAtHand_4 : decode cX2_isAtHand 4 = .ok (.iconst 1, 1) := by decide +kernel
theorem dX2_isAtHand_5 : decode cX2_isAtHand 5 = .ok (.if_icmp .ne 19, 3) := by decide +kernel
theorem dX2_isAtHand_8 : decode cX2_isAtHand 8 = .ok (.aload_n 1, 1) := by decide +kernel
theorem dX2_isAtHand_9 : decode cX2_isAtHand 9 = .ok (.invokevirtual 110, 3) := by decide +kernel
theorem dX2_isAtHand_12 : decode cX2_isAtHand 12 = .ok (.aload_n 0, 1) := by decide +kernel
theorem dX2_isAtHand_13 : decode cX2_isAtHand 13 = .ok (.getfield 25, 3) := by decide +kernel
theorem dX2_isAtHand_16 : decode cX2_isAtHand 16 = .ok (.aload_n 0, 1) := by decide +kernel
theorem dX2_isAtHand_17 : decode cX2_isAtHand 17 = .ok (.getfield 22, 3) := by decide +kernel
theorem dX2_isAtHand_20 : decode cX2_isAtHand 20 = .ok (.isub, 1) := by decide +kernel
theorem dX2_isAtHand_21 : decode cX2_isAtHand 21 = .ok (.if_icmp .eq 5, 3) := by decide +kernel
theorem dX2_isAtHand_24 : decode cX2_isAtHand 24 = .ok (.iconst 0, 1) := by decide +kernel
theorem dX2_isAtHand_25 : decode cX2_isAtHand 25 = .ok (.ireturn, 1) := by decide +kernel
theorem dX2_isAtHand_26 : decode cX2_isAtHand 26 = .ok (.iconst 0, 1) := by decide +kernel
theorem dX2_isAtHand_27 : decode cX2_isAtHand 27 = .ok (.istore_n 2, 1) := by decide +kernel
theorem dX2_isAtHand_28 : decode cX2_isAtHand 28 = .ok (.iload_n 2, 1) := by decide +kernel
theorem dX2_isAtHand_29 : decode cX2_isAtHand 29 = .ok (.aload_n 1, 1) := by decide +kernel
theorem dX2_isAtHand_30 : decode cX2_isAtHand 30 = .ok (.invokevirtual 110, 3) := by decide +kernel
theorem dX2_isAtHand_33 : decode cX2_isAtHand 33 = .ok (.if_icmp .ge 30, 3) := by decide +kernel
theorem dX2_isAtHand_36 : decode cX2_isAtHand 36 = .ok (.aload_n 0, 1) := by decide +kernel
theorem dX2_isAtHand_37 : decode cX2_isAtHand 37 = .ok (.getfield 9, 3) := by decide +kernel
theorem dX2_isAtHand_40 : decode cX2_isAtHand 40 = .ok (.aload_n 0, 1) := by decide +kernel
theorem dX2_isAtHand_41 : decode cX2_isAtHand 41 = .ok (.getfield 22, 3) := by decide +kernel
theorem dX2_isAtHand_44 : decode cX2_isAtHand 44 = .ok (.iload_n 2, 1) := by decide +kernel
theorem dX2_isAtHand_45 : decode cX2_isAtHand 45 = .ok (.iadd, 1) := by decide +kernel
theorem dX2_isAtHand_46 : decode cX2_isAtHand 46 = .ok (.baload, 1) := by decide +kernel
theorem dX2_isAtHand_47 : decode cX2_isAtHand 47 = .ok (.aload_n 1, 1) := by decide +kernel
theorem dX2_isAtHand_48 : decode cX2_isAtHand 48 = .ok (.iload_n 2, 1) := by decide +kernel
theorem dX2_isAtHand_49 : decode cX2_isAtHand 49 = .ok (.invokevirtual 115, 3) := by decide +kernel
theorem dX2_isAtHand_52 : decode cX2_isAtHand 52 = .ok (.if_icmp .eq 5, 3) := by decide +kernel
theorem dX2_isAtHand_55 : decode cX2_isAtHand 55 = .ok (.iconst 0, 1) := by decide +kernel
theorem dX2_isAtHand_56 : decode cX2_isAtHand 56 = .ok (.ireturn, 1) := by decide +kernel
theorem dX2_isAtHand_57 : decode cX2_isAtHand 57 = .ok (.iinc 2 1, 3) := by decide +kernel
theorem dX2_isAtHand_60 : decode cX2_isAtHand 60 = .ok (.goto (-32), 3) := by decide +kernel
theorem dX2_isAtHand_63 : decode cX2_isAtHand 63 = .ok (.iconst 1, 1) := by decide +kernel
theorem dX2_isAtHand_64 : decode cX2_isAtHand 64 = .ok (.ireturn, 1) := by decide +kernel
def zX2_isAtHand (Qr : Option PV → Mem → Prop) : XZ := (RX2, 4, 85, 3, some FieldType.boolean, Qr)
noncomputable def fX2_isAtHand_b28 (F : Mem) : Nat → Nat → Nat → Int → Option Int
  | 0, _, _, _ => none
  | n + 1, o, x1, x2 =>
    if x1 = 0 then none else
    if (slen x1) ≤ x2 then
      some 1
    else
      if (F o 0).toNat = 0 then none else
      if (0 : Int) ≤ (xw ((F o 3) + x2)) ∧ (xw ((F o 3) + x2)) < (alen ((F o 0).toNat) : Int) then
        if x1 = 0 then none else
        if (0 : Int) ≤ x2 ∧ x2 < slen x1 then
          if (F ((F o 0).toNat) (xw ((F o 3) + x2)).toNat) = (sch x1 x2) then
            fX2_isAtHand_b28 F n o x1 (xw (x2 + 1))
          else
            some 0
        else none
      else none
noncomputable def fX2_isAtHand (o : Nat) (x1 : Nat) (F : Mem) : Option Int :=
  if (F o 2) ≠ 1 then
    some 0
  else
    if x1 = 0 then none else
    if (slen x1) = (xw ((F o 4) - (F o 3))) then
      fX2_isAtHand_b28 F FU o x1 0
    else
      some 0
theorem fX2_isAtHand_b28_ok {Qr : Option PV → Mem → Prop}  (F : Mem) : ∀ (n : Nat) (o : Nat) (x1 : Nat) (x2 : Int) (res : Int) (ho : isK o 2) (hx1 : x1 = 0 ∨ isS x1), fX2_isAtHand_b28 F n o x1 x2 = some res → Qr (some (vI res)) F → PR cX2_isAtHand (zX2_isAtHand Qr) 28 [(0, vR o), (1, vR x1), (2, vI x2)] [] F := by
  intro n
  induction n with
  | zero => intro o x1 x2 res ho hx1 h hq; exact nomatch (show (none : Option _) = some _ from h)
  | succ n ih =>
    intro o x1 x2 res ho hx1 h hq
    refine s_iload_n (j := 2) dX2_isAtHand_28 rfl rfl ?_
    refine s_aload_n (j := 1) dX2_isAtHand_29 rfl rfl ?_
    obtain ⟨hn1, h⟩ := gdn h
    refine s_callT (As := []) (rest := [vI x2]) (r := some (vI (slen x1))) (F' := F) dX2_isAtHand_30 (clX2_110 (Nat.le_of_ble_eq_true rfl) (Nat.le_of_ble_eq_true rfl)) (hx1.resolve_left hn1) rfl ⟨_, rfl, (hx1.resolve_left hn1), rfl, rfl⟩ rfl (Nat.le_of_ble_eq_true rfl) ?_
    refine s_icmp_ge (tgt := 63) dX2_isAtHand_33 rfl (fun hc2 => ?_) (fun hc2 => ?_)
    · have h := ifp hc2 h
      refine s_iconst dX2_isAtHand_63 (cin rfl) ?_
      have h := Option.some.inj h
      subst h
      exact s_zreturn dX2_isAtHand_64 rfl (Or.inr rfl) hq
    · have h := ifn hc2 h
      refine s_aload_n (j := 0) dX2_isAtHand_36 rfl rfl ?_
      refine s_getM dX2_isAtHand_37 flX2_9 ho (fun hm3 => ?_)
      have hm3 : _ = 0 ∨ isA ((F o 0).toNat) 1 := hm3
      refine s_aload_n (j := 0) dX2_isAtHand_40 rfl rfl ?_
      refine s_getI dX2_isAtHand_41 flX2_22 ho ?_
      refine s_iload_n (j := 2) dX2_isAtHand_44 rfl rfl ?_
      refine s_iadd dX2_isAtHand_45 ?_
      obtain ⟨hn4, h⟩ := gdn h
      obtain ⟨hb5, h⟩ := gd h
      refine s_baload dX2_isAtHand_46 (hm3.resolve_left hn4) hb5.1 hb5.2 ?_
      refine s_aload_n (j := 1) dX2_isAtHand_47 rfl rfl ?_
      refine s_iload_n (j := 2) dX2_isAtHand_48 rfl rfl ?_
      obtain ⟨hn6, h⟩ := gdn h
      obtain ⟨hb7, h⟩ := gd h
      refine s_callT (As := [vI x2]) (rest := [vI (F ((F o 0).toNat) (xw ((F o 3) + x2)).toNat)]) (r := some (vI (sch x1 x2))) (F' := F) dX2_isAtHand_49 (clX2_115 (Nat.le_of_ble_eq_true rfl) (Nat.le_of_ble_eq_true rfl)) (hx1.resolve_left hn6) rfl ⟨_, _, rfl, (hx1.resolve_left hn6), hb7.1, hb7.2, rfl, rfl⟩ rfl (Nat.le_of_ble_eq_true rfl) ?_
      refine s_icmp_eq (tgt := 57) dX2_isAtHand_52 rfl (fun hc8 => ?_) (fun hc8 => ?_)
      · have h := ifp hc8 h
        refine s_iinc (ls' := [(2, vI (xw (x2 + 1))), (0, vR o), (1, vR x1)]) (j := 2) dX2_isAtHand_57 rfl (Nat.le_of_ble_eq_true rfl) rfl ?_
        refine s_goto (tgt := 28) dX2_isAtHand_60 rfl ?_
        exact s_sub (ks := [1, 2, 0]) rfl (ih o x1 (xw (x2 + 1)) _ ho hx1 h hq)
      · have h := ifn hc8 h
        refine s_iconst dX2_isAtHand_55 (cin rfl) ?_
        have h := Option.some.inj h
        subst h
        exact s_zreturn dX2_isAtHand_56 rfl (Or.inl rfl) hq
theorem fX2_isAtHand_ok {Qr : Option PV → Mem → Prop} : ∀ (o : Nat) (x1 : Nat) (F : Mem) (res : Int) (ho : isK o 2) (hx1 : x1 = 0 ∨ isS x1), fX2_isAtHand o x1 F = some res → Qr (some (vI res)) F → PR cX2_isAtHand (zX2_isAtHand Qr) 0 [(0, vR o), (1, vR x1)] [] F := by
  intro o x1 F res ho hx1 h hq
  refine s_aload_n (j := 0) dX2_isAtHand_0 rfl rfl ?_
  refine s_getI dX2_isAtHand_1 flX2_19 ho ?_
  refine s_iconst dX2_isAtHand_4 (cin rfl) ?_
  refine s_icmp_ne (tgt := 24) dX2_isAtHand_5 rfl (fun hc1 => ?_) (fun hc1 => ?_)
  · have h := ifp hc1 h
    refine s_iconst dX2_isAtHand_24 (cin rfl) ?_
    have h := Option.some.inj h
    subst h
    exact s_zreturn dX2_isAtHand_25 rfl (Or.inl rfl) hq
  · have h := ifn hc1 h
    refine s_aload_n (j := 1) dX2_isAtHand_8 rfl rfl ?_
    obtain ⟨hn2, h⟩ := gdn h
    refine s_callT (As := []) (rest := []) (r := some (vI (slen x1))) (F' := F) dX2_isAtHand_9 (clX2_110 (Nat.le_of_ble_eq_true rfl) (Nat.le_of_ble_eq_true rfl)) (hx1.resolve_left hn2) rfl ⟨_, rfl, (hx1.resolve_left hn2), rfl, rfl⟩ rfl (Nat.le_of_ble_eq_true rfl) ?_
    refine s_aload_n (j := 0) dX2_isAtHand_12 rfl rfl ?_
    refine s_getI dX2_isAtHand_13 flX2_25 ho ?_
    refine s_aload_n (j := 0) dX2_isAtHand_16 rfl rfl ?_
    refine s_getI dX2_isAtHand_17 flX2_22 ho ?_
    refine s_isub dX2_isAtHand_20 ?_
    refine s_icmp_eq (tgt := 26) dX2_isAtHand_21 rfl (fun hc3 => ?_) (fun hc3 => ?_)
    · have h := ifp hc3 h
      refine s_iconst dX2_isAtHand_26 (cin rfl) ?_
      refine s_istore_n (ls' := [(2, vI 0), (0, vR o), (1, vR x1)]) dX2_isAtHand_27 rfl (Nat.le_of_ble_eq_true rfl) rfl ?_
      exact s_sub (ks := [1, 2, 0]) rfl (fX2_isAtHand_b28_ok F FU o x1 0 _ ho hx1 h hq)
    · have h := ifn hc3 h
      refine s_iconst dX2_isAtHand_24 (cin rfl) ?_
      have h := Option.some.inj h
      subst h
      exact s_zreturn dX2_isAtHand_25 rfl (Or.inl rfl) hq
def gX2_isAtHand : XG := fun As F r F' => ∃ o : Nat, ∃ x1 : Nat, ∃ res : Int, As = [vR o, vR x1] ∧ isK o 2 ∧ (x1 = 0 ∨ isS x1) ∧ fX2_isAtHand o x1 F = some res ∧ r = some (vI res) ∧ F' = F
theorem ctX2_isAtHand : xCT yX2_isAtHand cX2_isAtHand 3 (some FieldType.boolean) 4 85 gX2_isAtHand := xmet (by decide +kernel) (fun As F r F' hg => by obtain ⟨o, x1, res, rfl, ho, hx1, h, rfl, rfl⟩ := hg; exact Nat.le_of_ble_eq_true rfl) (fun As F r F' hg => by obtain ⟨o, x1, res, rfl, ho, hx1, h, rfl, rfl⟩ := hg; exact fX2_isAtHand_ok o x1 _ _ ho hx1 h ⟨rfl, rfl⟩)
theorem mcX2_isAtHand : Cond.code yX2_isAtHand cX2_isAtHand 3 (some FieldType.boolean) ∈ xw_T ∧ Cond.initialized yX2_isAtHand.cls ∈ xw_T ∧ Cond.instanceMethod yX2_isAtHand ∈ xw_T ∧ Cond.selects yX2_isAtHand.cls yX2_isAtHand yX2_isAtHand ∈ xw_T := ⟨(xinT 616 (by decide +kernel) (by decide +kernel)), (xinT 121 (by decide +kernel) (by decide +kernel)), (xinT 615 (by decide +kernel) (by decide +kernel)), (xinT 5 (by decide +kernel) (by decide +kernel))⟩
theorem clX2_143 {fr lo : Nat} (h1 : 4 + 1 ≤ fr) (h2 : 8 + (3 + 11) + 85 ≤ lo) : xCall RX2 fr lo 0 143 2 1 gX2_isAtHand := ⟨_, _, _, _, _, _, ctX2_isAtHand, h1, h2, mcX2_isAtHand.1, (xinT 613 (by decide +kernel) (by decide +kernel)), mcX2_isAtHand.2.1, ⟨by decide +kernel, by decide +kernel, by decide +kernel⟩, by rw [if_pos rfl]; exact ⟨mcX2_isAtHand.2.2.1, mcX2_isAtHand.2.2.2, _, _, rfl⟩⟩
theorem dX2_sortOf_0 : decode cX2_sortOf 0 = .ok (.iload_n 0, 1) := by decide +kernel
theorem dX2_sortOf_1 : decode cX2_sortOf 1 = .ok (.bipush 9, 2) := by decide +kernel
theorem dX2_sortOf_3 : decode cX2_sortOf 3 = .ok (.if_icmp .ge 5, 3) := by decide +kernel
theorem dX2_sortOf_6 : decode cX2_sortOf 6 = .ok (.iconst 0, 1) := by decide +kernel
theorem dX2_sortOf_7 : decode cX2_sortOf 7 = .ok (.ireturn, 1) := by decide +kernel
theorem dX2_sortOf_8 : decode cX2_sortOf 8 = .ok (.iload_n 0, 1) := by decide +kernel
theorem dX2_sortOf_9 : decode cX2_sortOf 9 = .ok (.bipush 9, 2) := by decide +kernel
theorem dX2_sortOf_11 : decode cX2_sortOf 11 = .ok (.if_icmp .ne 7, 3) := by decide +kernel
theorem dX2_sortOf_14 : decode cX2_sortOf 14 = .ok (.iconst 1, 1) := by decide +kernel
theorem dX2_sortOf_15 : decode cX2_sortOf 15 = .ok (.goto 14, 3) := by decide +kernel
theorem dX2_sortOf_18 : decode cX2_sortOf 18 = .ok (.iload_n 0, 1) := by decide +kernel
theorem dX2_sortOf_19 : decode cX2_sortOf 19 = .ok (.bipush 16, 2) := by decide +kernel
theorem dX2_sortOf_21 : decode cX2_sortOf 21 = .ok (.if_icmp .ge 7, 3) := by decide +kernel
theorem dX2_sortOf_24 : decode cX2_sortOf 24 = .ok (.iconst 2, 1) := by decide +kernel
theorem dX2_sortOf_25 : decode cX2_sortOf 25 = .ok (.goto 4, 3) := by decide +kernel
theorem dX2_sortOf_28 : decode cX2_sortOf 28 = .ok (.iconst 3, 1) := by decide +kernel
theorem dX2_sortOf_29 : decode cX2_sortOf 29 = .ok (.ireturn, 1) := by decide +kernel
def zX2_sortOf (Qr : Option PV → Mem → Prop) : XZ := (RX2, 0, 0, 1, some FieldType.int, Qr)
noncomputable def fX2_sortOf (x0 : Int) : Int :=
  if 9 ≤ x0 then
    if x0 ≠ 9 then
      if 16 ≤ x0 then
        3
      else
        2
    else
      1
  else
    0
theorem fX2_sortOf_ok {Qr : Option PV → Mem → Prop} : ∀ (x0 : Int) (F : Mem) (res : Int), fX2_sortOf x0 = res → Qr (some (vI res)) F → PR cX2_sortOf (zX2_sortOf Qr) 0 [(0, vI x0)] [] F := by
  intro x0 F res  h hq
  refine s_iload_n (j := 0) dX2_sortOf_0 rfl rfl ?_
  refine s_bipush dX2_sortOf_1 rfl (cin rfl) ?_
  refine s_icmp_ge (tgt := 8) dX2_sortOf_3 rfl (fun hc1 => ?_) (fun hc1 => ?_)
  · have h := ifp hc1 h
    refine s_iload_n (j := 0) dX2_sortOf_8 rfl rfl ?_
    refine s_bipush dX2_sortOf_9 rfl (cin rfl) ?_
    refine s_icmp_ne (tgt := 18) dX2_sortOf_11 rfl (fun hc2 => ?_) (fun hc2 => ?_)
    · have h := ifp hc2 h
      refine s_iload_n (j := 0) dX2_sortOf_18 rfl rfl ?_
      refine s_bipush dX2_sortOf_19 rfl (cin rfl) ?_
      refine s_icmp_ge (tgt := 28) dX2_sortOf_21 rfl (fun hc3 => ?_) (fun hc3 => ?_)
      · have h := ifp hc3 h
        refine s_iconst dX2_sortOf_28 (cin rfl) ?_
        subst h
        exact s_ireturn dX2_sortOf_29 rfl hq
      · have h := ifn hc3 h
        refine s_iconst dX2_sortOf_24 (cin rfl) ?_
        refine s_goto (tgt := 29) dX2_sortOf_25 rfl ?_
        subst h
        exact s_ireturn dX2_sortOf_29 rfl hq
    · have h := ifn hc2 h
      refine s_iconst dX2_sortOf_14 (cin rfl) ?_
      refine s_goto (tgt := 29) dX2_sortOf_15 rfl ?_
      subst h
      exact s_ireturn dX2_sortOf_29 rfl hq
  · have h := ifn hc1 h
    refine s_iconst dX2_sortOf_6 (cin rfl) ?_
    subst h
    exact s_ireturn dX2_sortOf_7 rfl hq
def gX2_sortOf : XG := fun As F r F' => ∃ x0 : Int, ∃ res : Int, As = [vI x0] ∧ fX2_sortOf x0 = res ∧ r = some (vI res) ∧ F' = F
theorem ctX2_sortOf : xCT yX2_sortOf cX2_sortOf 1 (some FieldType.int) 0 0 gX2_sortOf := xmet (by decide +kernel) (fun As F r F' hg => by obtain ⟨x0, res, rfl, h, rfl, rfl⟩ := hg; exact Nat.le_of_ble_eq_true rfl) (fun As F r F' hg => by obtain ⟨x0, res, rfl, h, rfl, rfl⟩ := hg; exact fX2_sortOf_ok x0 _ _  h ⟨rfl, rfl⟩)
theorem mcX2_sortOf : Cond.code yX2_sortOf cX2_sortOf 1 (some FieldType.int) ∈ xw_T ∧ Cond.initialized yX2_sortOf.cls ∈ xw_T ∧ Cond.static yX2_sortOf ∈ xw_T := ⟨(xinT 592 (by decide +kernel) (by decide +kernel)), (xinT 121 (by decide +kernel) (by decide +kernel)), (xinT 591 (by decide +kernel) (by decide +kernel))⟩
theorem clX2_137 {fr lo : Nat} (h1 : 0 + 1 ≤ fr) (h2 : 8 + (1 + 11) + 0 ≤ lo) : xCall RX2 fr lo 1 137 0 1 gX2_sortOf := ⟨_, _, _, _, _, _, ctX2_sortOf, h1, h2, mcX2_sortOf.1, (xinT 590 (by decide +kernel) (by decide +kernel)), mcX2_sortOf.2.1, ⟨by decide +kernel, by decide +kernel, by decide +kernel⟩, by rw [if_neg (by decide)]; exact mcX2_sortOf.2.2⟩
theorem dX2_wordOf_0 : decode cX2_wordOf 0 = .ok (.iload_n 0, 1) := by decide +kernel
theorem dX2_wordOf_1 : decode cX2_wordOf 1 = .ok (.tableswitch 127 0 15 #[79, 82, 85, 88, 91, 94, 97, 100, 103, 106, 109, 112, 115, 118, 121, 124], 79) := by decide +kernel
theorem dX2_wordOf_80 : decode cX2_wordOf 80 = .ok (.ldc 147, 2) := by decide +kernel
theorem dX2_wordOf_82 : decode cX2_wordOf 82 = .ok (.areturn, 1) := by decide +kernel
theorem dX2_wordOf_83 : decode cX2_wordOf 83 = .ok (.ldc 149, 2) := by decide +kernel
theorem dX2_wordOf_85 : decode cX2_wordOf 85 = .ok (.areturn, 1) := by decide +kernel
theorem dX2_wordOf_86 : decode cX2_wordOf 86 = .ok (.ldc 151, 2) := by decide +kernel
theorem dX2_wordOf_88 : decode cX2_wordOf 88 = .ok (.areturn, 1) := by decide +kernel
theorem dX2_wordOf_89 : decode cX2_wordOf 89 = .ok (.ldc 153, 2) := by decide +kernel
theorem dX2_wordOf_91 : decode cX2_wordOf 91 = .ok (.areturn, 1) := by decide +kernel
theorem dX2_wordOf_92 : decode cX2_wordOf 92 = .ok (.ldc 155, 2) := by decide +kernel
theorem dX2_wordOf_94 : decode cX2_wordOf 94 = .ok (.areturn, 1) := by decide +kernel
theorem dX2_wordOf_95 : decode cX2_wordOf 95 = .ok (.ldc 157, 2) := by decide +kernel
theorem dX2_wordOf_97 : decode cX2_wordOf 97 = .ok (.areturn, 1) := by decide +kernel
theorem dX2_wordOf_98 : decode cX2_wordOf 98 = .ok (.ldc 159, 2) := by decide +kernel
theorem dX2_wordOf_100 : decode cX2_wordOf 100 = .ok (.areturn, 1) := by decide +kernel
theorem dX2_wordOf_101 : decode cX2_wordOf 101 = .ok (.ldc 161, 2) := by decide +kernel
theorem dX2_wordOf_103 : decode cX2_wordOf 103 = .ok (.areturn, 1) := by decide +kernel
theorem dX2_wordOf_104 : decode cX2_wordOf 104 = .ok (.ldc 163, 2) := by decide +kernel
theorem dX2_wordOf_106 : decode cX2_wordOf 106 = .ok (.areturn, 1) := by decide +kernel
theorem dX2_wordOf_107 : decode cX2_wordOf 107 = .ok (.ldc 165, 2) := by decide +kernel
theorem dX2_wordOf_109 : decode cX2_wordOf 109 = .ok (.areturn, 1) := by decide +kernel
theorem dX2_wordOf_110 : decode cX2_wordOf 110 = .ok (.ldc 166, 2) := by decide +kernel
theorem dX2_wordOf_112 : decode cX2_wordOf 112 = .ok (.areturn, 1) := by decide +kernel
theorem dX2_wordOf_113 : decode cX2_wordOf 113 = .ok (.ldc 168, 2) := by decide +kernel
theorem dX2_wordOf_115 : decode cX2_wordOf 115 = .ok (.areturn, 1) := by decide +kernel
theorem dX2_wordOf_116 : decode cX2_wordOf 116 = .ok (.ldc 170, 2) := by decide +kernel
theorem dX2_wordOf_118 : decode cX2_wordOf 118 = .ok (.areturn, 1) := by decide +kernel
theorem dX2_wordOf_119 : decode cX2_wordOf 119 = .ok (.ldc 172, 2) := by decide +kernel
theorem dX2_wordOf_121 : decode cX2_wordOf 121 = .ok (.areturn, 1) := by decide +kernel
theorem dX2_wordOf_122 : decode cX2_wordOf 122 = .ok (.ldc 174, 2) := by decide +kernel
theorem dX2_wordOf_124 : decode cX2_wordOf 124 = .ok (.areturn, 1) := by decide +kernel
theorem dX2_wordOf_125 : decode cX2_wordOf 125 = .ok (.ldc 176, 2) := by decide +kernel
theorem dX2_wordOf_127 : decode cX2_wordOf 127 = .ok (.areturn, 1) := by decide +kernel
theorem dX2_wordOf_128 : decode cX2_wordOf 128 = .ok (.ldc 178, 2) := by decide +kernel
theorem dX2_wordOf_130 : decode cX2_wordOf 130 = .ok (.areturn, 1) := by decide +kernel
def zX2_wordOf (Qr : Option PV → Mem → Prop) : XZ := (RX2, 0, 0, 1, some (FieldType.object "java/lang/String"), Qr)
noncomputable def fX2_wordOf (x0 : Int) : Nat :=
  if x0 = 0 then
    (1000 + 0)
  else
  if x0 = 1 then
    (1000 + 1)
  else
  if x0 = 2 then
    (1000 + 2)
  else
  if x0 = 3 then
    (1000 + 3)
  else
  if x0 = 4 then
    (1000 + 4)
  else
  if x0 = 5 then
    (1000 + 5)
  else
  if x0 = 6 then
    (1000 + 6)
  else
  if x0 = 7 then
    (1000 + 7)
  else
  if x0 = 8 then
    (1000 + 8)
  else
  if x0 = 9 then
    (1000 + 9)
  else
  if x0 = 10 then
    (1000 + 10)
  else
  if x0 = 11 then
    (1000 + 11)
  else
  if x0 = 12 then
    (1000 + 12)
  else
  if x0 = 13 then
    (1000 + 13)
  else
  if x0 = 14 then
    (1000 + 14)
  else
  if x0 = 15 then
    (1000 + 15)
  else
  (1000 + 16)
theorem fX2_wordOf_ok {Qr : Option PV → Mem → Prop} : ∀ (x0 : Int) (F : Mem) (res : Nat), fX2_wordOf x0 = res → Qr (some (vR res)) F → PR cX2_wordOf (zX2_wordOf Qr) 0 [(0, vI x0)] [] F := by
  intro x0 F res  h hq
  refine s_iload_n (j := 0) dX2_wordOf_0 rfl rfl ?_
  by_cases hc1 : x0 = 0
  · have h := ifp hc1 h
    refine s_tabIn (tgt := 80) (off := 79) dX2_wordOf_1 (by omega) (by omega) (by rw [hc1]; rfl) rfl ?_
    refine s_ldcS (j := 0) dX2_wordOf_80 rfl rfl ?_
    subst h
    exact s_areturn dX2_wordOf_82 rfl (Or.inl ⟨_, rfl⟩) hq
  have h := ifn hc1 h
  by_cases hc2 : x0 = 1
  · have h := ifp hc2 h
    refine s_tabIn (tgt := 83) (off := 82) dX2_wordOf_1 (by omega) (by omega) (by rw [hc2]; rfl) rfl ?_
    refine s_ldcS (j := 1) dX2_wordOf_83 rfl rfl ?_
    subst h
    exact s_areturn dX2_wordOf_85 rfl (Or.inl ⟨_, rfl⟩) hq
  have h := ifn hc2 h
  by_cases hc3 : x0 = 2
  · have h := ifp hc3 h
    refine s_tabIn (tgt := 86) (off := 85) dX2_wordOf_1 (by omega) (by omega) (by rw [hc3]; rfl) rfl ?_
    refine s_ldcS (j := 2) dX2_wordOf_86 rfl rfl ?_
    subst h
    exact s_areturn dX2_wordOf_88 rfl (Or.inl ⟨_, rfl⟩) hq
  have h := ifn hc3 h
  by_cases hc4 : x0 = 3
  · have h := ifp hc4 h
    refine s_tabIn (tgt := 89) (off := 88) dX2_wordOf_1 (by omega) (by omega) (by rw [hc4]; rfl) rfl ?_
    refine s_ldcS (j := 3) dX2_wordOf_89 rfl rfl ?_
    subst h
    exact s_areturn dX2_wordOf_91 rfl (Or.inl ⟨_, rfl⟩) hq
  have h := ifn hc4 h
  by_cases hc5 : x0 = 4
  · have h := ifp hc5 h
    refine s_tabIn (tgt := 92) (off := 91) dX2_wordOf_1 (by omega) (by omega) (by rw [hc5]; rfl) rfl ?_
    refine s_ldcS (j := 4) dX2_wordOf_92 rfl rfl ?_
    subst h
    exact s_areturn dX2_wordOf_94 rfl (Or.inl ⟨_, rfl⟩) hq
  have h := ifn hc5 h
  by_cases hc6 : x0 = 5
  · have h := ifp hc6 h
    refine s_tabIn (tgt := 95) (off := 94) dX2_wordOf_1 (by omega) (by omega) (by rw [hc6]; rfl) rfl ?_
    refine s_ldcS (j := 5) dX2_wordOf_95 rfl rfl ?_
    subst h
    exact s_areturn dX2_wordOf_97 rfl (Or.inl ⟨_, rfl⟩) hq
  have h := ifn hc6 h
  by_cases hc7 : x0 = 6
  · have h := ifp hc7 h
    refine s_tabIn (tgt := 98) (off := 97) dX2_wordOf_1 (by omega) (by omega) (by rw [hc7]; rfl) rfl ?_
    refine s_ldcS (j := 6) dX2_wordOf_98 rfl rfl ?_
    subst h
    exact s_areturn dX2_wordOf_100 rfl (Or.inl ⟨_, rfl⟩) hq
  have h := ifn hc7 h
  by_cases hc8 : x0 = 7
  · have h := ifp hc8 h
    refine s_tabIn (tgt := 101) (off := 100) dX2_wordOf_1 (by omega) (by omega) (by rw [hc8]; rfl) rfl ?_
    refine s_ldcS (j := 7) dX2_wordOf_101 rfl rfl ?_
    subst h
    exact s_areturn dX2_wordOf_103 rfl (Or.inl ⟨_, rfl⟩) hq
  have h := ifn hc8 h
  by_cases hc9 : x0 = 8
  · have h := ifp hc9 h
    refine s_tabIn (tgt := 104) (off := 103) dX2_wordOf_1 (by omega) (by omega) (by rw [hc9]; rfl) rfl ?_
    refine s_ldcS (j := 8) dX2_wordOf_104 rfl rfl ?_
    subst h
    exact s_areturn dX2_wordOf_106 rfl (Or.inl ⟨_, rfl⟩) hq
  have h := ifn hc9 h
  by_cases hc10 : x0 = 9
  · have h := ifp hc10 h
    refine s_tabIn (tgt := 107) (off := 106) dX2_wordOf_1 (by omega) (by omega) (by rw [hc10]; rfl) rfl ?_
    refine s_ldcS (j := 9) dX2_wordOf_107 rfl rfl ?_
    subst h
    exact s_areturn dX2_wordOf_109 rfl (Or.inl ⟨_, rfl⟩) hq
  have h := ifn hc10 h
  by_cases hc11 : x0 = 10
  · have h := ifp hc11 h
    refine s_tabIn (tgt := 110) (off := 109) dX2_wordOf_1 (by omega) (by omega) (by rw [hc11]; rfl) rfl ?_
    refine s_ldcS (j := 10) dX2_wordOf_110 rfl rfl ?_
    subst h
    exact s_areturn dX2_wordOf_112 rfl (Or.inl ⟨_, rfl⟩) hq
  have h := ifn hc11 h
  by_cases hc12 : x0 = 11
  · have h := ifp hc12 h
    refine s_tabIn (tgt := 113) (off := 112) dX2_wordOf_1 (by omega) (by omega) (by rw [hc12]; rfl) rfl ?_
    refine s_ldcS (j := 11) dX2_wordOf_113 rfl rfl ?_
    subst h
    exact s_areturn dX2_wordOf_115 rfl (Or.inl ⟨_, rfl⟩) hq
  have h := ifn hc12 h
  by_cases hc13 : x0 = 12
  · have h := ifp hc13 h
    refine s_tabIn (tgt := 116) (off := 115) dX2_wordOf_1 (by omega) (by omega) (by rw [hc13]; rfl) rfl ?_
    refine s_ldcS (j := 12) dX2_wordOf_116 rfl rfl ?_
    subst h
    exact s_areturn dX2_wordOf_118 rfl (Or.inl ⟨_, rfl⟩) hq
  have h := ifn hc13 h
  by_cases hc14 : x0 = 13
  · have h := ifp hc14 h
    refine s_tabIn (tgt := 119) (off := 118) dX2_wordOf_1 (by omega) (by omega) (by rw [hc14]; rfl) rfl ?_
    refine s_ldcS (j := 13) dX2_wordOf_119 rfl rfl ?_
    subst h
    exact s_areturn dX2_wordOf_121 rfl (Or.inl ⟨_, rfl⟩) hq
  have h := ifn hc14 h
  by_cases hc15 : x0 = 14
  · have h := ifp hc15 h
    refine s_tabIn (tgt := 122) (off := 121) dX2_wordOf_1 (by omega) (by omega) (by rw [hc15]; rfl) rfl ?_
    refine s_ldcS (j := 14) dX2_wordOf_122 rfl rfl ?_
    subst h
    exact s_areturn dX2_wordOf_124 rfl (Or.inl ⟨_, rfl⟩) hq
  have h := ifn hc15 h
  by_cases hc16 : x0 = 15
  · have h := ifp hc16 h
    refine s_tabIn (tgt := 125) (off := 124) dX2_wordOf_1 (by omega) (by omega) (by rw [hc16]; rfl) rfl ?_
    refine s_ldcS (j := 15) dX2_wordOf_125 rfl rfl ?_
    subst h
    exact s_areturn dX2_wordOf_127 rfl (Or.inl ⟨_, rfl⟩) hq
  have h := ifn hc16 h
  refine s_tabOut (tgt := 128) dX2_wordOf_1 (by omega) rfl ?_
  refine s_ldcS (j := 16) dX2_wordOf_128 rfl rfl ?_
  subst h
  exact s_areturn dX2_wordOf_130 rfl (Or.inl ⟨_, rfl⟩) hq
theorem fX2_wordOf_rt : ∀ (x0 : Int) (res : Nat), fX2_wordOf x0 = res → isS res := fun x0 res h => by subst h; unfold fX2_wordOf; (repeat' (apply isS_ite)) <;> exact isS_c _ (by exact Nat.le_of_ble_eq_true rfl)
def gX2_wordOf : XG := fun As F r F' => ∃ x0 : Int, ∃ res : Nat, As = [vI x0] ∧ fX2_wordOf x0 = res ∧ r = some (vR res) ∧ F' = F
theorem ctX2_wordOf : xCT yX2_wordOf cX2_wordOf 1 (some (FieldType.object "java/lang/String")) 0 0 gX2_wordOf := xmet (by decide +kernel) (fun As F r F' hg => by obtain ⟨x0, res, rfl, h, rfl, rfl⟩ := hg; exact Nat.le_of_ble_eq_true rfl) (fun As F r F' hg => by obtain ⟨x0, res, rfl, h, rfl, rfl⟩ := hg; exact fX2_wordOf_ok x0 _ _  h ⟨rfl, rfl⟩)
theorem mcX2_wordOf : Cond.code yX2_wordOf cX2_wordOf 1 (some (FieldType.object "java/lang/String")) ∈ xw_T ∧ Cond.initialized yX2_wordOf.cls ∈ xw_T ∧ Cond.static yX2_wordOf ∈ xw_T := ⟨(xinT 595 (by decide +kernel) (by decide +kernel)), (xinT 121 (by decide +kernel) (by decide +kernel)), (xinT 594 (by decide +kernel) (by decide +kernel))⟩
theorem clX2_140 {fr lo : Nat} (h1 : 0 + 1 ≤ fr) (h2 : 8 + (1 + 11) + 0 ≤ lo) : xCall RX2 fr lo 1 140 0 1 gX2_wordOf := ⟨_, _, _, _, _, _, ctX2_wordOf, h1, h2, mcX2_wordOf.1, (xinT 593 (by decide +kernel) (by decide +kernel)), mcX2_wordOf.2.1, ⟨by decide +kernel, by decide +kernel, by decide +kernel⟩, by rw [if_neg (by decide)]; exact mcX2_wordOf.2.2⟩
theorem dX2_lineAtHand_0 : decode cX2_lineAtHand 0 = .ok (.iconst 0, 1) := by decide +kernel
theorem dX2_lineAtHand_1 : decode cX2_lineAtHand 1 = .ok (.istore_n 2, 1) := by decide +kernel
theorem dX2_lineAtHand_2 : decode cX2_lineAtHand 2 = .ok (.iload_n 2, 1) := by decide +kernel
theorem dX2_lineAtHand_3 : decode cX2_lineAtHand 3 = .ok (.bipush 17, 2) := by decide +kernel
theorem dX2_lineAtHand_5 : decode cX2_lineAtHand 5 = .ok (.if_icmp .ge 30, 3) := by decide +kernel
theorem dX2_lineAtHand_8 : decode cX2_lineAtHand 8 = .ok (.iload_n 2, 1) := by decide +kernel
theorem dX2_lineAtHand_9 : decode cX2_lineAtHand 9 = .ok (.invokestatic 137, 3) := by decide +kernel
theorem dX2_lineAtHand_12 : decode cX2_lineAtHand 12 = .ok (.iload_n 1, 1) := by decide +kernel
theorem dX2_lineAtHand_13 : decode cX2_lineAtHand 13 = .ok (.if_icmp .ne 16, 3) := by decide +kernel
theorem dX2_lineAtHand_16 : decode cX2_lineAtHand 16 = .ok (.aload_n 0, 1) := by decide +kernel
theorem dX2_lineAtHand_17 : decode cX2_lineAtHand 17 = .ok (.iload_n 2, 1) := by decide +kernel
theorem dX2_lineAtHand_18 : decode cX2_lineAtHand 18 = .ok (.invokestatic 140, 3) := by decide +kernel
theorem dX2_lineAtHand_21 : decode cX2_lineAtHand 21 = .ok (.invokevirtual 143, 3) := by decide +kernel
theorem dX2_lineAtHand_24 : decode cX2_lineAtHand 24 = .ok (.ifCond .eq 5, 3) := by decide +kernel
theorem dX2_lineAtHand_27 : decode cX2_lineAtHand 27 = .ok (.iload_n 2, 1) := by decide +kernel
theorem dX2_lineAtHand_28 : decode cX2_lineAtHand 28 = .ok (.ireturn, 1) := by decide +kernel
theorem dX2_lineAtHand_29 : decode cX2_lineAtHand 29 = .ok (.iinc 2 1, 3) := by decide +kernel
theorem dX2_lineAtHand_32 : decode cX2_lineAtHand 32 = .ok (.goto (-30), 3) := by decide +kernel
theorem dX2_lineAtHand_35 : decode cX2_lineAtHand 35 = .ok (.iconst (-1), 1) := by decide +kernel
theorem dX2_lineAtHand_36 : decode cX2_lineAtHand 36 = .ok (.ireturn, 1) := by decide +kernel
def zX2_lineAtHand (Qr : Option PV → Mem → Prop) : XZ := (RX2, 5, 107, 3, some FieldType.int, Qr)
noncomputable def fX2_lineAtHand_b2 (F : Mem) : Nat → Nat → Int → Int → Option Int
  | 0, _, _, _ => none
  | n + 1, o, x1, x2 =>
    if 17 ≤ x2 then
      some (-1)
    else
      if (fX2_sortOf x2) ≠ x1 then
        fX2_lineAtHand_b2 F n o x1 (xw (x2 + 1))
      else
        (fX2_isAtHand o (fX2_wordOf x2) F).bind fun r3 =>
        if r3 = 0 then
          fX2_lineAtHand_b2 F n o x1 (xw (x2 + 1))
        else
          some x2
noncomputable def fX2_lineAtHand (o : Nat) (x1 : Int) (F : Mem) : Option Int :=
  fX2_lineAtHand_b2 F FU o x1 0
theorem fX2_lineAtHand_b2_ok {Qr : Option PV → Mem → Prop}  (F : Mem) : ∀ (n : Nat) (o : Nat) (x1 : Int) (x2 : Int) (res : Int) (ho : isK o 2), fX2_lineAtHand_b2 F n o x1 x2 = some res → Qr (some (vI res)) F → PR cX2_lineAtHand (zX2_lineAtHand Qr) 2 [(0, vR o), (1, vI x1), (2, vI x2)] [] F := by
  intro n
  induction n with
  | zero => intro o x1 x2 res ho h hq; exact nomatch (show (none : Option _) = some _ from h)
  | succ n ih =>
    intro o x1 x2 res ho h hq
    refine s_iload_n (j := 2) dX2_lineAtHand_2 rfl rfl ?_
    refine s_bipush dX2_lineAtHand_3 rfl (cin rfl) ?_
    refine s_icmp_ge (tgt := 35) dX2_lineAtHand_5 rfl (fun hc1 => ?_) (fun hc1 => ?_)
    · have h := ifp hc1 h
      refine s_iconst dX2_lineAtHand_35 (cin rfl) ?_
      have h := Option.some.inj h
      subst h
      exact s_ireturn dX2_lineAtHand_36 rfl hq
    · have h := ifn hc1 h
      refine s_iload_n (j := 2) dX2_lineAtHand_8 rfl rfl ?_
      refine s_callS (As := [vI x2]) (rest := []) (r := (some (vI (fX2_sortOf x2)))) (F' := F) dX2_lineAtHand_9 (clX2_137 (Nat.le_of_ble_eq_true rfl) (Nat.le_of_ble_eq_true rfl)) rfl ⟨_, _, rfl, rfl, rfl, rfl⟩ rfl (Nat.le_of_ble_eq_true rfl) ?_
      refine s_iload_n (j := 1) dX2_lineAtHand_12 rfl rfl ?_
      refine s_icmp_ne (tgt := 29) dX2_lineAtHand_13 rfl (fun hc2 => ?_) (fun hc2 => ?_)
      · have h := ifp hc2 h
        refine s_iinc (ls' := [(2, vI (xw (x2 + 1))), (0, vR o), (1, vI x1)]) (j := 2) dX2_lineAtHand_29 rfl (Nat.le_of_ble_eq_true rfl) rfl ?_
        refine s_goto (tgt := 2) dX2_lineAtHand_32 rfl ?_
        exact s_sub (ks := [1, 2, 0]) rfl (ih o x1 (xw (x2 + 1)) _ ho h hq)
      · have h := ifn hc2 h
        refine s_aload_n (j := 0) dX2_lineAtHand_16 rfl rfl ?_
        refine s_iload_n (j := 2) dX2_lineAtHand_17 rfl rfl ?_
        refine s_callS (As := [vI x2]) (rest := [vR o]) (r := (some (vR (fX2_wordOf x2)))) (F' := F) dX2_lineAtHand_18 (clX2_140 (Nat.le_of_ble_eq_true rfl) (Nat.le_of_ble_eq_true rfl)) rfl ⟨_, _, rfl, rfl, rfl, rfl⟩ rfl (Nat.le_of_ble_eq_true rfl) ?_
        obtain ⟨r3, hv4, h⟩ := bnd h
        refine s_callV (As := [vR (fX2_wordOf x2)]) (rest := []) (r := (some (vI r3))) (F' := F) dX2_lineAtHand_21 (clX2_143 (Nat.le_of_ble_eq_true rfl) (Nat.le_of_ble_eq_true rfl)) ho rfl ⟨_, _, _, rfl, ho, (Or.inr (fX2_wordOf_rt _ _ rfl)), hv4, rfl, rfl⟩ rfl (Nat.le_of_ble_eq_true rfl) ?_
        refine s_if_eq (tgt := 29) dX2_lineAtHand_24 rfl (fun hc5 => ?_) (fun hc5 => ?_)
        · have h := ifp hc5 h
          refine s_iinc (ls' := [(2, vI (xw (x2 + 1))), (0, vR o), (1, vI x1)]) (j := 2) dX2_lineAtHand_29 rfl (Nat.le_of_ble_eq_true rfl) rfl ?_
          refine s_goto (tgt := 2) dX2_lineAtHand_32 rfl ?_
          exact s_sub (ks := [1, 2, 0]) rfl (ih o x1 (xw (x2 + 1)) _ ho h hq)
        · have h := ifn hc5 h
          refine s_iload_n (j := 2) dX2_lineAtHand_27 rfl rfl ?_
          have h := Option.some.inj h
          subst h
          exact s_ireturn dX2_lineAtHand_28 rfl hq
theorem fX2_lineAtHand_ok {Qr : Option PV → Mem → Prop} : ∀ (o : Nat) (x1 : Int) (F : Mem) (res : Int) (ho : isK o 2), fX2_lineAtHand o x1 F = some res → Qr (some (vI res)) F → PR cX2_lineAtHand (zX2_lineAtHand Qr) 0 [(0, vR o), (1, vI x1)] [] F := by
  intro o x1 F res ho h hq
  refine s_iconst dX2_lineAtHand_0 (cin rfl) ?_
  refine s_istore_n (ls' := [(2, vI 0), (0, vR o), (1, vI x1)]) dX2_lineAtHand_1 rfl (Nat.le_of_ble_eq_true rfl) rfl ?_
  exact s_sub (ks := [1, 2, 0]) rfl (fX2_lineAtHand_b2_ok F FU o x1 0 _ ho h hq)
def gX2_lineAtHand : XG := fun As F r F' => ∃ o : Nat, ∃ x1 : Int, ∃ res : Int, As = [vR o, vI x1] ∧ isK o 2 ∧ fX2_lineAtHand o x1 F = some res ∧ r = some (vI res) ∧ F' = F
theorem ctX2_lineAtHand : xCT yX2_lineAtHand cX2_lineAtHand 3 (some FieldType.int) 5 107 gX2_lineAtHand := xmet (by decide +kernel) (fun As F r F' hg => by obtain ⟨o, x1, res, rfl, ho, h, rfl, rfl⟩ := hg; exact Nat.le_of_ble_eq_true rfl) (fun As F r F' hg => by obtain ⟨o, x1, res, rfl, ho, h, rfl, rfl⟩ := hg; exact fX2_lineAtHand_ok o x1 _ _ ho h ⟨rfl, rfl⟩)
theorem mcX2_lineAtHand : Cond.code yX2_lineAtHand cX2_lineAtHand 3 (some FieldType.int) ∈ xw_T ∧ Cond.initialized yX2_lineAtHand.cls ∈ xw_T ∧ Cond.instanceMethod yX2_lineAtHand ∈ xw_T ∧ Cond.selects yX2_lineAtHand.cls yX2_lineAtHand yX2_lineAtHand ∈ xw_T := ⟨(xinT 589 (by decide +kernel) (by decide +kernel)), (xinT 121 (by decide +kernel) (by decide +kernel)), (xinT 588 (by decide +kernel) (by decide +kernel)), (xinT 4 (by decide +kernel) (by decide +kernel))⟩
theorem clX2_93 {fr lo : Nat} (h1 : 5 + 1 ≤ fr) (h2 : 8 + (3 + 11) + 107 ≤ lo) : xCall RX2 fr lo 0 93 2 1 gX2_lineAtHand := ⟨_, _, _, _, _, _, ctX2_lineAtHand, h1, h2, mcX2_lineAtHand.1, (xinT 586 (by decide +kernel) (by decide +kernel)), mcX2_lineAtHand.2.1, ⟨by decide +kernel, by decide +kernel, by decide +kernel⟩, by rw [if_pos rfl]; exact ⟨mcX2_lineAtHand.2.2.1, mcX2_lineAtHand.2.2.2, _, _, rfl⟩⟩
theorem dX2_rangesOf_0 : decode cX2_rangesOf 0 = .ok (.iload_n 0, 1) := by decide +kernel
theorem dX2_rangesOf_1 : decode cX2_rangesOf 1 = .ok (.tableswitch 112 0 15 #[79, 82, 85, 88, 91, 91, 91, 91, 94, 94, 97, 100, 100, 103, 106, 109], 79) := by decide +kernel
theorem dX2_rangesOf_80 : decode cX2_rangesOf 80 = .ok (.ldc 180, 2) := by decide +kernel
theorem dX2_rangesOf_82 : decode cX2_rangesOf 82 = .ok (.areturn, 1) := by decide +kernel
theorem dX2_rangesOf_83 : decode cX2_rangesOf 83 = .ok (.ldc 182, 2) := by decide +kernel
theorem dX2_rangesOf_85 : decode cX2_rangesOf 85 = .ok (.areturn, 1) := by decide +kernel
theorem dX2_rangesOf_86 : decode cX2_rangesOf 86 = .ok (.ldc 184, 2) := by decide +kernel
theorem dX2_rangesOf_88 : decode cX2_rangesOf 88 = .ok (.areturn, 1) := by decide +kernel
theorem dX2_rangesOf_89 : decode cX2_rangesOf 89 = .ok (.ldc 186, 2) := by decide +kernel
theorem dX2_rangesOf_91 : decode cX2_rangesOf 91 = .ok (.areturn, 1) := by decide +kernel
theorem dX2_rangesOf_92 : decode cX2_rangesOf 92 = .ok (.ldc 188, 2) := by decide +kernel
theorem dX2_rangesOf_94 : decode cX2_rangesOf 94 = .ok (.areturn, 1) := by decide +kernel
theorem dX2_rangesOf_95 : decode cX2_rangesOf 95 = .ok (.ldc 190, 2) := by decide +kernel
theorem dX2_rangesOf_97 : decode cX2_rangesOf 97 = .ok (.areturn, 1) := by decide +kernel
theorem dX2_rangesOf_98 : decode cX2_rangesOf 98 = .ok (.ldc 192, 2) := by decide +kernel
theorem dX2_rangesOf_100 : decode cX2_rangesOf 100 = .ok (.areturn, 1) := by decide +kernel
theorem dX2_rangesOf_101 : decode cX2_rangesOf 101 = .ok (.ldc 194, 2) := by decide +kernel
theorem dX2_rangesOf_103 : decode cX2_rangesOf 103 = .ok (.areturn, 1) := by decide +kernel
theorem dX2_rangesOf_104 : decode cX2_rangesOf 104 = .ok (.ldc 196, 2) := by decide +kernel
theorem dX2_rangesOf_106 : decode cX2_rangesOf 106 = .ok (.areturn, 1) := by decide +kernel
theorem dX2_rangesOf_107 : decode cX2_rangesOf 107 = .ok (.ldc 198, 2) := by decide +kernel
theorem dX2_rangesOf_109 : decode cX2_rangesOf 109 = .ok (.areturn, 1) := by decide +kernel
theorem dX2_rangesOf_110 : decode cX2_rangesOf 110 = .ok (.ldc 186, 2) := by decide +kernel
theorem dX2_rangesOf_112 : decode cX2_rangesOf 112 = .ok (.areturn, 1) := by decide +kernel
theorem dX2_rangesOf_113 : decode cX2_rangesOf 113 = .ok (.ldc 200, 2) := by decide +kernel
theorem dX2_rangesOf_115 : decode cX2_rangesOf 115 = .ok (.areturn, 1) := by decide +kernel
def zX2_rangesOf (Qr : Option PV → Mem → Prop) : XZ := (RX2, 0, 0, 1, some (FieldType.object "java/lang/String"), Qr)
noncomputable def fX2_rangesOf (x0 : Int) : Nat :=
  if x0 = 0 then
    (1000 + 17)
  else
  if x0 = 1 then
    (1000 + 18)
  else
  if x0 = 2 then
    (1000 + 19)
  else
  if x0 = 3 then
    (1000 + 20)
  else
  if x0 = 4 then
    (1000 + 21)
  else
  if x0 = 5 then
    (1000 + 21)
  else
  if x0 = 6 then
    (1000 + 21)
  else
  if x0 = 7 then
    (1000 + 21)
  else
  if x0 = 8 then
    (1000 + 22)
  else
  if x0 = 9 then
    (1000 + 22)
  else
  if x0 = 10 then
    (1000 + 23)
  else
  if x0 = 11 then
    (1000 + 24)
  else
  if x0 = 12 then
    (1000 + 24)
  else
  if x0 = 13 then
    (1000 + 25)
  else
  if x0 = 14 then
    (1000 + 26)
  else
  if x0 = 15 then
    (1000 + 20)
  else
  (1000 + 27)
theorem fX2_rangesOf_ok {Qr : Option PV → Mem → Prop} : ∀ (x0 : Int) (F : Mem) (res : Nat), fX2_rangesOf x0 = res → Qr (some (vR res)) F → PR cX2_rangesOf (zX2_rangesOf Qr) 0 [(0, vI x0)] [] F := by
  intro x0 F res  h hq
  refine s_iload_n (j := 0) dX2_rangesOf_0 rfl rfl ?_
  by_cases hc1 : x0 = 0
  · have h := ifp hc1 h
    refine s_tabIn (tgt := 80) (off := 79) dX2_rangesOf_1 (by omega) (by omega) (by rw [hc1]; rfl) rfl ?_
    refine s_ldcS (j := 17) dX2_rangesOf_80 rfl rfl ?_
    subst h
    exact s_areturn dX2_rangesOf_82 rfl (Or.inl ⟨_, rfl⟩) hq
  have h := ifn hc1 h
  by_cases hc2 : x0 = 1
  · have h := ifp hc2 h
    refine s_tabIn (tgt := 83) (off := 82) dX2_rangesOf_1 (by omega) (by omega) (by rw [hc2]; rfl) rfl ?_
    refine s_ldcS (j := 18) dX2_rangesOf_83 rfl rfl ?_
    subst h
    exact s_areturn dX2_rangesOf_85 rfl (Or.inl ⟨_, rfl⟩) hq
  have h := ifn hc2 h
  by_cases hc3 : x0 = 2
  · have h := ifp hc3 h
    refine s_tabIn (tgt := 86) (off := 85) dX2_rangesOf_1 (by omega) (by omega) (by rw [hc3]; rfl) rfl ?_
    refine s_ldcS (j := 19) dX2_rangesOf_86 rfl rfl ?_
    subst h
    exact s_areturn dX2_rangesOf_88 rfl (Or.inl ⟨_, rfl⟩) hq
  have h := ifn hc3 h
  by_cases hc4 : x0 = 3
  · have h := ifp hc4 h
    refine s_tabIn (tgt := 89) (off := 88) dX2_rangesOf_1 (by omega) (by omega) (by rw [hc4]; rfl) rfl ?_
    refine s_ldcS (j := 20) dX2_rangesOf_89 rfl rfl ?_
    subst h
    exact s_areturn dX2_rangesOf_91 rfl (Or.inl ⟨_, rfl⟩) hq
  have h := ifn hc4 h
  by_cases hc5 : x0 = 4
  · have h := ifp hc5 h
    refine s_tabIn (tgt := 92) (off := 91) dX2_rangesOf_1 (by omega) (by omega) (by rw [hc5]; rfl) rfl ?_
    refine s_ldcS (j := 21) dX2_rangesOf_92 rfl rfl ?_
    subst h
    exact s_areturn dX2_rangesOf_94 rfl (Or.inl ⟨_, rfl⟩) hq
  have h := ifn hc5 h
  by_cases hc6 : x0 = 5
  · have h := ifp hc6 h
    refine s_tabIn (tgt := 92) (off := 91) dX2_rangesOf_1 (by omega) (by omega) (by rw [hc6]; rfl) rfl ?_
    refine s_ldcS (j := 21) dX2_rangesOf_92 rfl rfl ?_
    subst h
    exact s_areturn dX2_rangesOf_94 rfl (Or.inl ⟨_, rfl⟩) hq
  have h := ifn hc6 h
  by_cases hc7 : x0 = 6
  · have h := ifp hc7 h
    refine s_tabIn (tgt := 92) (off := 91) dX2_rangesOf_1 (by omega) (by omega) (by rw [hc7]; rfl) rfl ?_
    refine s_ldcS (j := 21) dX2_rangesOf_92 rfl rfl ?_
    subst h
    exact s_areturn dX2_rangesOf_94 rfl (Or.inl ⟨_, rfl⟩) hq
  have h := ifn hc7 h
  by_cases hc8 : x0 = 7
  · have h := ifp hc8 h
    refine s_tabIn (tgt := 92) (off := 91) dX2_rangesOf_1 (by omega) (by omega) (by rw [hc8]; rfl) rfl ?_
    refine s_ldcS (j := 21) dX2_rangesOf_92 rfl rfl ?_
    subst h
    exact s_areturn dX2_rangesOf_94 rfl (Or.inl ⟨_, rfl⟩) hq
  have h := ifn hc8 h
  by_cases hc9 : x0 = 8
  · have h := ifp hc9 h
    refine s_tabIn (tgt := 95) (off := 94) dX2_rangesOf_1 (by omega) (by omega) (by rw [hc9]; rfl) rfl ?_
    refine s_ldcS (j := 22) dX2_rangesOf_95 rfl rfl ?_
    subst h
    exact s_areturn dX2_rangesOf_97 rfl (Or.inl ⟨_, rfl⟩) hq
  have h := ifn hc9 h
  by_cases hc10 : x0 = 9
  · have h := ifp hc10 h
    refine s_tabIn (tgt := 95) (off := 94) dX2_rangesOf_1 (by omega) (by omega) (by rw [hc10]; rfl) rfl ?_
    refine s_ldcS (j := 22) dX2_rangesOf_95 rfl rfl ?_
    subst h
    exact s_areturn dX2_rangesOf_97 rfl (Or.inl ⟨_, rfl⟩) hq
  have h := ifn hc10 h
  by_cases hc11 : x0 = 10
  · have h := ifp hc11 h
    refine s_tabIn (tgt := 98) (off := 97) dX2_rangesOf_1 (by omega) (by omega) (by rw [hc11]; rfl) rfl ?_
    refine s_ldcS (j := 23) dX2_rangesOf_98 rfl rfl ?_
    subst h
    exact s_areturn dX2_rangesOf_100 rfl (Or.inl ⟨_, rfl⟩) hq
  have h := ifn hc11 h
  by_cases hc12 : x0 = 11
  · have h := ifp hc12 h
    refine s_tabIn (tgt := 101) (off := 100) dX2_rangesOf_1 (by omega) (by omega) (by rw [hc12]; rfl) rfl ?_
    refine s_ldcS (j := 24) dX2_rangesOf_101 rfl rfl ?_
    subst h
    exact s_areturn dX2_rangesOf_103 rfl (Or.inl ⟨_, rfl⟩) hq
  have h := ifn hc12 h
  by_cases hc13 : x0 = 12
  · have h := ifp hc13 h
    refine s_tabIn (tgt := 101) (off := 100) dX2_rangesOf_1 (by omega) (by omega) (by rw [hc13]; rfl) rfl ?_
    refine s_ldcS (j := 24) dX2_rangesOf_101 rfl rfl ?_
    subst h
    exact s_areturn dX2_rangesOf_103 rfl (Or.inl ⟨_, rfl⟩) hq
  have h := ifn hc13 h
  by_cases hc14 : x0 = 13
  · have h := ifp hc14 h
    refine s_tabIn (tgt := 104) (off := 103) dX2_rangesOf_1 (by omega) (by omega) (by rw [hc14]; rfl) rfl ?_
    refine s_ldcS (j := 25) dX2_rangesOf_104 rfl rfl ?_
    subst h
    exact s_areturn dX2_rangesOf_106 rfl (Or.inl ⟨_, rfl⟩) hq
  have h := ifn hc14 h
  by_cases hc15 : x0 = 14
  · have h := ifp hc15 h
    refine s_tabIn (tgt := 107) (off := 106) dX2_rangesOf_1 (by omega) (by omega) (by rw [hc15]; rfl) rfl ?_
    refine s_ldcS (j := 26) dX2_rangesOf_107 rfl rfl ?_
    subst h
    exact s_areturn dX2_rangesOf_109 rfl (Or.inl ⟨_, rfl⟩) hq
  have h := ifn hc15 h
  by_cases hc16 : x0 = 15
  · have h := ifp hc16 h
    refine s_tabIn (tgt := 110) (off := 109) dX2_rangesOf_1 (by omega) (by omega) (by rw [hc16]; rfl) rfl ?_
    refine s_ldcS (j := 20) dX2_rangesOf_110 rfl rfl ?_
    subst h
    exact s_areturn dX2_rangesOf_112 rfl (Or.inl ⟨_, rfl⟩) hq
  have h := ifn hc16 h
  refine s_tabOut (tgt := 113) dX2_rangesOf_1 (by omega) rfl ?_
  refine s_ldcS (j := 27) dX2_rangesOf_113 rfl rfl ?_
  subst h
  exact s_areturn dX2_rangesOf_115 rfl (Or.inl ⟨_, rfl⟩) hq
theorem fX2_rangesOf_rt : ∀ (x0 : Int) (res : Nat), fX2_rangesOf x0 = res → isS res := fun x0 res h => by subst h; unfold fX2_rangesOf; (repeat' (apply isS_ite)) <;> exact isS_c _ (by exact Nat.le_of_ble_eq_true rfl)
def gX2_rangesOf : XG := fun As F r F' => ∃ x0 : Int, ∃ res : Nat, As = [vI x0] ∧ fX2_rangesOf x0 = res ∧ r = some (vR res) ∧ F' = F
theorem ctX2_rangesOf : xCT yX2_rangesOf cX2_rangesOf 1 (some (FieldType.object "java/lang/String")) 0 0 gX2_rangesOf := xmet (by decide +kernel) (fun As F r F' hg => by obtain ⟨x0, res, rfl, h, rfl, rfl⟩ := hg; exact Nat.le_of_ble_eq_true rfl) (fun As F r F' hg => by obtain ⟨x0, res, rfl, h, rfl, rfl⟩ := hg; exact fX2_rangesOf_ok x0 _ _  h ⟨rfl, rfl⟩)
theorem mcX2_rangesOf : Cond.code yX2_rangesOf cX2_rangesOf 1 (some (FieldType.object "java/lang/String")) ∈ xw_T ∧ Cond.initialized yX2_rangesOf.cls ∈ xw_T ∧ Cond.static yX2_rangesOf ∈ xw_T := ⟨(xinT 683 (by decide +kernel) (by decide +kernel)), (xinT 121 (by decide +kernel) (by decide +kernel)), (xinT 682 (by decide +kernel) (by decide +kernel))⟩
theorem clX2_106 {fr lo : Nat} (h1 : 0 + 1 ≤ fr) (h2 : 8 + (1 + 11) + 0 ≤ lo) : xCall RX2 fr lo 1 106 0 1 gX2_rangesOf := ⟨_, _, _, _, _, _, ctX2_rangesOf, h1, h2, mcX2_rangesOf.1, (xinT 681 (by decide +kernel) (by decide +kernel)), mcX2_rangesOf.2.1, ⟨by decide +kernel, by decide +kernel, by decide +kernel⟩, by rw [if_neg (by decide)]; exact mcX2_rangesOf.2.2⟩
theorem dX2_refuse_0 : decode cX2_refuse 0 = .ok (.aload_n 0, 1) := by decide +kernel
theorem dX2_refuse_1 : decode cX2_refuse 1 = .ok (.iconst 1, 1) := by decide +kernel
theorem dX2_refuse_2 : decode cX2_refuse 2 = .ok (.putfield 35, 3) := by decide +kernel
theorem dX2_refuse_5 : decode cX2_refuse 5 = .ok (.aload_n 0, 1) := by decide +kernel
theorem dX2_refuse_6 : decode cX2_refuse 6 = .ok (.aload_n 0, 1) := by decide +kernel
theorem dX2_refuse_7 : decode cX2_refuse 7 = .ok (.getfield 22, 3) := by decide +kernel
theorem dX2_refuse_10 : decode cX2_refuse 10 = .ok (.putfield 38, 3) := by decide +kernel
theorem dX2_refuse_13 : decode cX2_refuse 13 = .ok (.return_, 1) := by decide +kernel
def zX2_refuse (Qr : Option PV → Mem → Prop) : XZ := (RX2, 0, 0, 1, none, Qr)
noncomputable def fX2_refuse (o : Nat) (F : Mem) : Mem :=
  mset (mset F o 7 1) o 8 ((mset F o 7 1) o 3)
theorem fX2_refuse_ok {Qr : Option PV → Mem → Prop} : ∀ (o : Nat) (F : Mem) (res : Mem) (ho : isK o 2), fX2_refuse o F = res → Qr none res → PR cX2_refuse (zX2_refuse Qr) 0 [(0, vR o)] [] F := by
  intro o F res ho h hq
  refine s_aload_n (j := 0) dX2_refuse_0 rfl rfl ?_
  refine s_iconst dX2_refuse_1 (cin rfl) ?_
  refine s_putI dX2_refuse_2 flX2_35 fpX2_7 ho ?_
  refine s_aload_n (j := 0) dX2_refuse_5 rfl rfl ?_
  refine s_aload_n (j := 0) dX2_refuse_6 rfl rfl ?_
  refine s_getI dX2_refuse_7 flX2_22 ho ?_
  refine s_putI dX2_refuse_10 flX2_38 fpX2_8 ho ?_
  subst h
  exact s_return dX2_refuse_13 rfl hq
def gX2_refuse : XG := fun As F r F' => ∃ o : Nat, ∃ res : Mem, As = [vR o] ∧ isK o 2 ∧ fX2_refuse o F = res ∧ r = none ∧ F' = res
theorem ctX2_refuse : xCT yX2_refuse cX2_refuse 1 (none) 0 0 gX2_refuse := xmet (by decide +kernel) (fun As F r F' hg => by obtain ⟨o, res, rfl, ho, h, rfl, rfl⟩ := hg; exact Nat.le_of_ble_eq_true rfl) (fun As F r F' hg => by obtain ⟨o, res, rfl, ho, h, rfl, rfl⟩ := hg; exact fX2_refuse_ok o _ _ ho h ⟨rfl, rfl⟩)
theorem mcX2_refuse : Cond.code yX2_refuse cX2_refuse 1 (none) ∈ xw_T ∧ Cond.initialized yX2_refuse.cls ∈ xw_T ∧ Cond.instanceMethod yX2_refuse ∈ xw_T ∧ Cond.selects yX2_refuse.cls yX2_refuse yX2_refuse ∈ xw_T := ⟨(xinT 668 (by decide +kernel) (by decide +kernel)), (xinT 121 (by decide +kernel) (by decide +kernel)), (xinT 667 (by decide +kernel) (by decide +kernel)), (xinT 6 (by decide +kernel) (by decide +kernel))⟩
theorem clX2_97 {fr lo : Nat} (h1 : 0 + 1 ≤ fr) (h2 : 8 + (1 + 11) + 0 ≤ lo) : xCall RX2 fr lo 0 97 2 0 gX2_refuse := ⟨_, _, _, _, _, _, ctX2_refuse, h1, h2, mcX2_refuse.1, (xinT 665 (by decide +kernel) (by decide +kernel)), mcX2_refuse.2.1, ⟨by decide +kernel, by decide +kernel, by decide +kernel⟩, by rw [if_pos rfl]; exact ⟨mcX2_refuse.2.2.1, mcX2_refuse.2.2.2, _, _, rfl⟩⟩
theorem dX2_sheetOf_0 : decode cX2_sheetOf 0 = .ok (.iload_n 1, 1) := by decide +kernel
theorem dX2_sheetOf_1 : decode cX2_sheetOf 1 = .ok (.iconst 4, 1) := by decide +kernel
theorem dX2_sheetOf_2 : decode cX2_sheetOf 2 = .ok (.if_icmp .ge 5, 3) := by decide +kernel
theorem dX2_sheetOf_5 : decode cX2_sheetOf 5 = .ok (.aconst_null, 1) := by decide +kernel
theorem dX2_sheetOf_6 : decode cX2_sheetOf 6 = .ok (.areturn, 1) := by decide +kernel
theorem dX2_sheetOf_7 : decode cX2_sheetOf 7 = .ok (.iload_n 1, 1) := by decide +kernel
theorem dX2_sheetOf_8 : decode cX2_sheetOf 8 = .ok (.bipush 7, 2) := by decide +kernel
theorem dX2_sheetOf_10 : decode cX2_sheetOf 10 = .ok (.if_icmp .gt 13, 3) := by decide +kernel
theorem dX2_sheetOf_13 : decode cX2_sheetOf 13 = .ok (.aload_n 0, 1) := by decide +kernel
theorem dX2_sheetOf_14 : decode cX2_sheetOf 14 = .ok (.getfield 44, 3) := by decide +kernel
theorem dX2_sheetOf_17 : decode cX2_sheetOf 17 = .ok (.getfield 202, 3) := by decide +kernel
theorem dX2_sheetOf_20 : decode cX2_sheetOf 20 = .ok (.goto 27, 3) := by decide +kernel
theorem dX2_sheetOf_23 : decode cX2_sheetOf 23 = .ok (.iload_n 1, 1) := by decide +kernel
theorem dX2_sheetOf_24 : decode cX2_sheetOf 24 = .ok (.bipush 8, 2) := by decide +kernel
theorem dX2_sheetOf_26 : decode cX2_sheetOf 26 = .ok (.if_icmp .ne 13, 3) := by decide +kernel
theorem dX2_sheetOf_29 : decode cX2_sheetOf 29 = .ok (.aload_n 0, 1) := by decide +kernel
theorem dX2_sheetOf_30 : decode cX2_sheetOf 30 = .ok (.getfield 44, 3) := by decide +kernel
theorem dX2_sheetOf_33 : decode cX2_sheetOf 33 = .ok (.getfield 205, 3) := by decide +kernel
theorem dX2_sheetOf_36 : decode cX2_sheetOf 36 = .ok (.goto 11, 3) := by decide +kernel
theorem dX2_sheetOf_39 : decode cX2_sheetOf 39 = .ok (.aload_n 0, 1) := by decide +kernel
theorem dX2_sheetOf_40 : decode cX2_sheetOf 40 = .ok (.iload_n 1, 1) := by decide +kernel
theorem dX2_sheetOf_41 : decode cX2_sheetOf 41 = .ok (.invokestatic 137, 3) := by decide +kernel
theorem dX2_sheetOf_44 : decode cX2_sheetOf 44 = .ok (.invokevirtual 72, 3) := by decide +kernel
theorem dX2_sheetOf_47 : decode cX2_sheetOf 47 = .ok (.areturn, 1) := by decide +kernel
def zX2_sheetOf (Qr : Option PV → Mem → Prop) : XZ := (RX2, 1, 21, 2, some (FieldType.object "OnePair$Sheet"), Qr)
noncomputable def fX2_sheetOf (o : Nat) (x1 : Int) : Nat :=
  if 4 ≤ x1 then
    if 7 < x1 then
      if x1 ≠ 8 then
        (fX2_sheetFor o (fX2_sortOf x1))
      else
        (o + 2) + 3
    else
      (o + 2) + 1
  else
    0
theorem fX2_sheetOf_ok {Qr : Option PV → Mem → Prop} : ∀ (o : Nat) (x1 : Int) (F : Mem) (res : Nat) (ho : isK o 2), fX2_sheetOf o x1 = res → Qr (some (vR res)) F → PR cX2_sheetOf (zX2_sheetOf Qr) 0 [(0, vR o), (1, vI x1)] [] F := by
  intro o x1 F res ho h hq
  refine s_iload_n (j := 1) dX2_sheetOf_0 rfl rfl ?_
  refine s_iconst dX2_sheetOf_1 (cin rfl) ?_
  refine s_icmp_ge (tgt := 7) dX2_sheetOf_2 rfl (fun hc1 => ?_) (fun hc1 => ?_)
  · have h := ifp hc1 h
    refine s_iload_n (j := 1) dX2_sheetOf_7 rfl rfl ?_
    refine s_bipush dX2_sheetOf_8 rfl (cin rfl) ?_
    refine s_icmp_gt (tgt := 23) dX2_sheetOf_10 rfl (fun hc2 => ?_) (fun hc2 => ?_)
    · have h := ifp hc2 h
      refine s_iload_n (j := 1) dX2_sheetOf_23 rfl rfl ?_
      refine s_bipush dX2_sheetOf_24 rfl (cin rfl) ?_
      refine s_icmp_ne (tgt := 39) dX2_sheetOf_26 rfl (fun hc3 => ?_) (fun hc3 => ?_)
      · have h := ifp hc3 h
        refine s_aload_n (j := 0) dX2_sheetOf_39 rfl rfl ?_
        refine s_iload_n (j := 1) dX2_sheetOf_40 rfl rfl ?_
        refine s_callS (As := [vI x1]) (rest := [vR o]) (r := (some (vI (fX2_sortOf x1)))) (F' := F) dX2_sheetOf_41 (clX2_137 (Nat.le_of_ble_eq_true rfl) (Nat.le_of_ble_eq_true rfl)) rfl ⟨_, _, rfl, rfl, rfl, rfl⟩ rfl (Nat.le_of_ble_eq_true rfl) ?_
        refine s_callV (As := [vI (fX2_sortOf x1)]) (rest := []) (r := (some (vR (fX2_sheetFor o (fX2_sortOf x1))))) (F' := F) dX2_sheetOf_44 (clX2_72 (Nat.le_of_ble_eq_true rfl) (Nat.le_of_ble_eq_true rfl)) ho rfl ⟨_, _, _, rfl, ho, rfl, rfl, rfl⟩ rfl (Nat.le_of_ble_eq_true rfl) ?_
        subst h
        exact s_areturn dX2_sheetOf_47 rfl (Or.inl ⟨_, rfl⟩) hq
      · have h := ifn hc3 h
        refine s_aload_n (j := 0) dX2_sheetOf_29 rfl rfl ?_
        refine s_getR dX2_sheetOf_30 flX2_44 ho ?_
        refine s_getR dX2_sheetOf_33 flX2_205 (trX2_9 ho) ?_
        refine s_goto (tgt := 47) dX2_sheetOf_36 rfl ?_
        subst h
        exact s_areturn dX2_sheetOf_47 rfl (Or.inl ⟨_, rfl⟩) hq
    · have h := ifn hc2 h
      refine s_aload_n (j := 0) dX2_sheetOf_13 rfl rfl ?_
      refine s_getR dX2_sheetOf_14 flX2_44 ho ?_
      refine s_getR dX2_sheetOf_17 flX2_202 (trX2_9 ho) ?_
      refine s_goto (tgt := 47) dX2_sheetOf_20 rfl ?_
      subst h
      exact s_areturn dX2_sheetOf_47 rfl (Or.inl ⟨_, rfl⟩) hq
  · have h := ifn hc1 h
    refine s_null dX2_sheetOf_5 ?_
    subst h
    exact s_areturn dX2_sheetOf_6 rfl (Or.inl ⟨_, rfl⟩) hq
theorem fX2_sheetOf_rt : ∀ (o : Nat) (x1 : Int) (res : Nat) (ho : isK o 2), fX2_sheetOf o x1 = res → res = 0 ∨ isK res 3 := fun o x1 res ho h => by subst h; unfold fX2_sheetOf; (repeat' split) <;> first | exact Or.inr (fX2_sheetFor_rt _ _ _ ho rfl) | exact Or.inr (trX7_6 (trX2_9 ho)) | exact Or.inr (trX7_5 (trX2_9 ho)) | exact Or.inl rfl
def gX2_sheetOf : XG := fun As F r F' => ∃ o : Nat, ∃ x1 : Int, ∃ res : Nat, As = [vR o, vI x1] ∧ isK o 2 ∧ fX2_sheetOf o x1 = res ∧ r = some (vR res) ∧ F' = F
theorem ctX2_sheetOf : xCT yX2_sheetOf cX2_sheetOf 2 (some (FieldType.object "OnePair$Sheet")) 1 21 gX2_sheetOf := xmet (by decide +kernel) (fun As F r F' hg => by obtain ⟨o, x1, res, rfl, ho, h, rfl, rfl⟩ := hg; exact Nat.le_of_ble_eq_true rfl) (fun As F r F' hg => by obtain ⟨o, x1, res, rfl, ho, h, rfl, rfl⟩ := hg; exact fX2_sheetOf_ok o x1 _ _ ho h ⟨rfl, rfl⟩)
theorem mcX2_sheetOf : Cond.code yX2_sheetOf cX2_sheetOf 2 (some (FieldType.object "OnePair$Sheet")) ∈ xw_T ∧ Cond.initialized yX2_sheetOf.cls ∈ xw_T ∧ Cond.instanceMethod yX2_sheetOf ∈ xw_T ∧ Cond.selects yX2_sheetOf.cls yX2_sheetOf yX2_sheetOf ∈ xw_T := ⟨(xinT 672 (by decide +kernel) (by decide +kernel)), (xinT 121 (by decide +kernel) (by decide +kernel)), (xinT 671 (by decide +kernel) (by decide +kernel)), (xinT 7 (by decide +kernel) (by decide +kernel))⟩
theorem clX2_100 {fr lo : Nat} (h1 : 1 + 1 ≤ fr) (h2 : 8 + (2 + 11) + 21 ≤ lo) : xCall RX2 fr lo 0 100 2 1 gX2_sheetOf := ⟨_, _, _, _, _, _, ctX2_sheetOf, h1, h2, mcX2_sheetOf.1, (xinT 669 (by decide +kernel) (by decide +kernel)), mcX2_sheetOf.2.1, ⟨by decide +kernel, by decide +kernel, by decide +kernel⟩, by rw [if_pos rfl]; exact ⟨mcX2_sheetOf.2.2.1, mcX2_sheetOf.2.2.2, _, _, rfl⟩⟩
theorem dX2_isBlank_0 : decode cX2_isBlank 0 = .ok (.iload_n 0, 1) := by decide +kernel
theorem dX2_isBlank_1 : decode cX2_isBlank 1 = .ok (.bipush 10, 2) := by decide +kernel
theorem dX2_isBlank_3 : decode cX2_isBlank 3 = .ok (.if_icmp .eq 9, 3) := by decide +kernel
theorem dX2_isBlank_6 : decode cX2_isBlank 6 = .ok (.iload_n 0, 1) := by decide +kernel
theorem dX2_isBlank_7 : decode cX2_isBlank 7 = .ok (.bipush 32, 2) := by decide +kernel
theorem dX2_isBlank_9 : decode cX2_isBlank 9 = .ok (.if_icmp .ne 7, 3) := by decide +kernel
theorem dX2_isBlank_12 : decode cX2_isBlank 12 = .ok (.iconst 1, 1) := by decide +kernel
theorem dX2_isBlank_13 : decode cX2_isBlank 13 = .ok (.goto 4, 3) := by decide +kernel
theorem dX2_isBlank_16 : decode cX2_isBlank 16 = .ok (.iconst 0, 1) := by decide +kernel
theorem dX2_isBlank_17 : decode cX2_isBlank 17 = .ok (.ireturn, 1) := by decide +kernel
def zX2_isBlank (Qr : Option PV → Mem → Prop) : XZ := (RX2, 0, 0, 1, some FieldType.boolean, Qr)
noncomputable def fX2_isBlank (x0 : Int) : Int :=
  if x0 = 10 then
    1
  else
    if x0 ≠ 32 then
      0
    else
      1
theorem fX2_isBlank_ok {Qr : Option PV → Mem → Prop} : ∀ (x0 : Int) (F : Mem) (res : Int), fX2_isBlank x0 = res → Qr (some (vI res)) F → PR cX2_isBlank (zX2_isBlank Qr) 0 [(0, vI x0)] [] F := by
  intro x0 F res  h hq
  refine s_iload_n (j := 0) dX2_isBlank_0 rfl rfl ?_
  refine s_bipush dX2_isBlank_1 rfl (cin rfl) ?_
  refine s_icmp_eq (tgt := 12) dX2_isBlank_3 rfl (fun hc1 => ?_) (fun hc1 => ?_)
  · have h := ifp hc1 h
    refine s_iconst dX2_isBlank_12 (cin rfl) ?_
    refine s_goto (tgt := 17) dX2_isBlank_13 rfl ?_
    subst h
    exact s_zreturn dX2_isBlank_17 rfl (Or.inr rfl) hq
  · have h := ifn hc1 h
    refine s_iload_n (j := 0) dX2_isBlank_6 rfl rfl ?_
    refine s_bipush dX2_isBlank_7 rfl (cin rfl) ?_
    refine s_icmp_ne (tgt := 16) dX2_isBlank_9 rfl (fun hc2 => ?_) (fun hc2 => ?_)
    · have h := ifp hc2 h
      refine s_iconst dX2_isBlank_16 (cin rfl) ?_
      subst h
      exact s_zreturn dX2_isBlank_17 rfl (Or.inl rfl) hq
    · have h := ifn hc2 h
      refine s_iconst dX2_isBlank_12 (cin rfl) ?_
      refine s_goto (tgt := 17) dX2_isBlank_13 rfl ?_
      subst h
      exact s_zreturn dX2_isBlank_17 rfl (Or.inr rfl) hq
def gX2_isBlank : XG := fun As F r F' => ∃ x0 : Int, ∃ res : Int, As = [vI x0] ∧ fX2_isBlank x0 = res ∧ r = some (vI res) ∧ F' = F
theorem ctX2_isBlank : xCT yX2_isBlank cX2_isBlank 1 (some FieldType.boolean) 0 0 gX2_isBlank := xmet (by decide +kernel) (fun As F r F' hg => by obtain ⟨x0, res, rfl, h, rfl, rfl⟩ := hg; exact Nat.le_of_ble_eq_true rfl) (fun As F r F' hg => by obtain ⟨x0, res, rfl, h, rfl, rfl⟩ := hg; exact fX2_isBlank_ok x0 _ _  h ⟨rfl, rfl⟩)
theorem mcX2_isBlank : Cond.code yX2_isBlank cX2_isBlank 1 (some FieldType.boolean) ∈ xw_T ∧ Cond.initialized yX2_isBlank.cls ∈ xw_T ∧ Cond.static yX2_isBlank ∈ xw_T := ⟨(xinT 575 (by decide +kernel) (by decide +kernel)), (xinT 121 (by decide +kernel) (by decide +kernel)), (xinT 574 (by decide +kernel) (by decide +kernel))⟩
theorem clX2_127 {fr lo : Nat} (h1 : 0 + 1 ≤ fr) (h2 : 8 + (1 + 11) + 0 ≤ lo) : xCall RX2 fr lo 1 127 0 1 gX2_isBlank := ⟨_, _, _, _, _, _, ctX2_isBlank, h1, h2, mcX2_isBlank.1, (xinT 573 (by decide +kernel) (by decide +kernel)), mcX2_isBlank.2.1, ⟨by decide +kernel, by decide +kernel, by decide +kernel⟩, by rw [if_neg (by decide)]; exact mcX2_isBlank.2.2⟩
theorem dX2_isDigit_0 : decode cX2_isDigit 0 = .ok (.iload_n 0, 1) := by decide +kernel
theorem dX2_isDigit_1 : decode cX2_isDigit 1 = .ok (.bipush 48, 2) := by decide +kernel
theorem dX2_isDigit_3 : decode cX2_isDigit 3 = .ok (.if_icmp .lt 13, 3) := by decide +kernel
theorem dX2_isDigit_6 : decode cX2_isDigit 6 = .ok (.iload_n 0, 1) := by decide +kernel
theorem dX2_isDigit_7 : decode cX2_isDigit 7 = .ok (.bipush 57, 2) := by decide +kernel
theorem dX2_isDigit_9 : decode cX2_isDigit 9 = .ok (.if_icmp .gt 7, 3) := by decide +kernel
theorem dX2_isDigit_12 : decode cX2_isDigit 12 = .ok (.iconst 1, 1) := by decide +kernel
theorem dX2_isDigit_13 : decode cX2_isDigit 13 = .ok (.goto 4, 3) := by decide +kernel
theorem dX2_isDigit_16 : decode cX2_isDigit 16 = .ok (.iconst 0, 1) := by decide +kernel
theorem dX2_isDigit_17 : decode cX2_isDigit 17 = .ok (.ireturn, 1) := by decide +kernel
def zX2_isDigit (Qr : Option PV → Mem → Prop) : XZ := (RX2, 0, 0, 1, some FieldType.boolean, Qr)
noncomputable def fX2_isDigit (x0 : Int) : Int :=
  if x0 < 48 then
    0
  else
    if 57 < x0 then
      0
    else
      1
theorem fX2_isDigit_ok {Qr : Option PV → Mem → Prop} : ∀ (x0 : Int) (F : Mem) (res : Int), fX2_isDigit x0 = res → Qr (some (vI res)) F → PR cX2_isDigit (zX2_isDigit Qr) 0 [(0, vI x0)] [] F := by
  intro x0 F res  h hq
  refine s_iload_n (j := 0) dX2_isDigit_0 rfl rfl ?_
  refine s_bipush dX2_isDigit_1 rfl (cin rfl) ?_
  refine s_icmp_lt (tgt := 16) dX2_isDigit_3 rfl (fun hc1 => ?_) (fun hc1 => ?_)
  · have h := ifp hc1 h
    refine s_iconst dX2_isDigit_16 (cin rfl) ?_
    subst h
    exact s_zreturn dX2_isDigit_17 rfl (Or.inl rfl) hq
  · have h := ifn hc1 h
    refine s_iload_n (j := 0) dX2_isDigit_6 rfl rfl ?_
    refine s_bipush dX2_isDigit_7 rfl (cin rfl) ?_
    refine s_icmp_gt (tgt := 16) dX2_isDigit_9 rfl (fun hc2 => ?_) (fun hc2 => ?_)
    · have h := ifp hc2 h
      refine s_iconst dX2_isDigit_16 (cin rfl) ?_
      subst h
      exact s_zreturn dX2_isDigit_17 rfl (Or.inl rfl) hq
    · have h := ifn hc2 h
      refine s_iconst dX2_isDigit_12 (cin rfl) ?_
      refine s_goto (tgt := 17) dX2_isDigit_13 rfl ?_
      subst h
      exact s_zreturn dX2_isDigit_17 rfl (Or.inr rfl) hq
def gX2_isDigit : XG := fun As F r F' => ∃ x0 : Int, ∃ res : Int, As = [vI x0] ∧ fX2_isDigit x0 = res ∧ r = some (vI res) ∧ F' = F
theorem ctX2_isDigit : xCT yX2_isDigit cX2_isDigit 1 (some FieldType.boolean) 0 0 gX2_isDigit := xmet (by decide +kernel) (fun As F r F' hg => by obtain ⟨x0, res, rfl, h, rfl, rfl⟩ := hg; exact Nat.le_of_ble_eq_true rfl) (fun As F r F' hg => by obtain ⟨x0, res, rfl, h, rfl, rfl⟩ := hg; exact fX2_isDigit_ok x0 _ _  h ⟨rfl, rfl⟩)
theorem mcX2_isDigit : Cond.code yX2_isDigit cX2_isDigit 1 (some FieldType.boolean) ∈ xw_T ∧ Cond.initialized yX2_isDigit.cls ∈ xw_T ∧ Cond.static yX2_isDigit ∈ xw_T := ⟨(xinT 581 (by decide +kernel) (by decide +kernel)), (xinT 121 (by decide +kernel) (by decide +kernel)), (xinT 580 (by decide +kernel) (by decide +kernel))⟩
theorem clX2_134 {fr lo : Nat} (h1 : 0 + 1 ≤ fr) (h2 : 8 + (1 + 11) + 0 ≤ lo) : xCall RX2 fr lo 1 134 0 1 gX2_isDigit := ⟨_, _, _, _, _, _, ctX2_isDigit, h1, h2, mcX2_isDigit.1, (xinT 579 (by decide +kernel) (by decide +kernel)), mcX2_isDigit.2.1, ⟨by decide +kernel, by decide +kernel, by decide +kernel⟩, by rw [if_neg (by decide)]; exact mcX2_isDigit.2.2⟩
theorem dX2_isLetter_0 : decode cX2_isLetter 0 = .ok (.iload_n 0, 1) := by decide +kernel
theorem dX2_isLetter_1 : decode cX2_isLetter 1 = .ok (.bipush 97, 2) := by decide +kernel
theorem dX2_isLetter_3 : decode cX2_isLetter 3 = .ok (.if_icmp .lt 13, 3) := by decide +kernel
theorem dX2_isLetter_6 : decode cX2_isLetter 6 = .ok (.iload_n 0, 1) := by decide +kernel
theorem dX2_isLetter_7 : decode cX2_isLetter 7 = .ok (.bipush 122, 2) := by decide +kernel
theorem dX2_isLetter_9 : decode cX2_isLetter 9 = .ok (.if_icmp .gt 7, 3) := by decide +kernel
theorem dX2_isLetter_12 : decode cX2_isLetter 12 = .ok (.iconst 1, 1) := by decide +kernel
theorem dX2_isLetter_13 : decode cX2_isLetter 13 = .ok (.goto 4, 3) := by decide +kernel
theorem dX2_isLetter_16 : decode cX2_isLetter 16 = .ok (.iconst 0, 1) := by decide +kernel
theorem dX2_isLetter_17 : decode cX2_isLetter 17 = .ok (.ireturn, 1) := by decide +kernel
def zX2_isLetter (Qr : Option PV → Mem → Prop) : XZ := (RX2, 0, 0, 1, some FieldType.boolean, Qr)
noncomputable def fX2_isLetter (x0 : Int) : Int :=
  if x0 < 97 then
    0
  else
    if 122 < x0 then
      0
    else
      1
theorem fX2_isLetter_ok {Qr : Option PV → Mem → Prop} : ∀ (x0 : Int) (F : Mem) (res : Int), fX2_isLetter x0 = res → Qr (some (vI res)) F → PR cX2_isLetter (zX2_isLetter Qr) 0 [(0, vI x0)] [] F := by
  intro x0 F res  h hq
  refine s_iload_n (j := 0) dX2_isLetter_0 rfl rfl ?_
  refine s_bipush dX2_isLetter_1 rfl (cin rfl) ?_
  refine s_icmp_lt (tgt := 16) dX2_isLetter_3 rfl (fun hc1 => ?_) (fun hc1 => ?_)
  · have h := ifp hc1 h
    refine s_iconst dX2_isLetter_16 (cin rfl) ?_
    subst h
    exact s_zreturn dX2_isLetter_17 rfl (Or.inl rfl) hq
  · have h := ifn hc1 h
    refine s_iload_n (j := 0) dX2_isLetter_6 rfl rfl ?_
    refine s_bipush dX2_isLetter_7 rfl (cin rfl) ?_
    refine s_icmp_gt (tgt := 16) dX2_isLetter_9 rfl (fun hc2 => ?_) (fun hc2 => ?_)
    · have h := ifp hc2 h
      refine s_iconst dX2_isLetter_16 (cin rfl) ?_
      subst h
      exact s_zreturn dX2_isLetter_17 rfl (Or.inl rfl) hq
    · have h := ifn hc2 h
      refine s_iconst dX2_isLetter_12 (cin rfl) ?_
      refine s_goto (tgt := 17) dX2_isLetter_13 rfl ?_
      subst h
      exact s_zreturn dX2_isLetter_17 rfl (Or.inr rfl) hq
def gX2_isLetter : XG := fun As F r F' => ∃ x0 : Int, ∃ res : Int, As = [vI x0] ∧ fX2_isLetter x0 = res ∧ r = some (vI res) ∧ F' = F
theorem ctX2_isLetter : xCT yX2_isLetter cX2_isLetter 1 (some FieldType.boolean) 0 0 gX2_isLetter := xmet (by decide +kernel) (fun As F r F' hg => by obtain ⟨x0, res, rfl, h, rfl, rfl⟩ := hg; exact Nat.le_of_ble_eq_true rfl) (fun As F r F' hg => by obtain ⟨x0, res, rfl, h, rfl, rfl⟩ := hg; exact fX2_isLetter_ok x0 _ _  h ⟨rfl, rfl⟩)
theorem mcX2_isLetter : Cond.code yX2_isLetter cX2_isLetter 1 (some FieldType.boolean) ∈ xw_T ∧ Cond.initialized yX2_isLetter.cls ∈ xw_T ∧ Cond.static yX2_isLetter ∈ xw_T := ⟨(xinT 578 (by decide +kernel) (by decide +kernel)), (xinT 121 (by decide +kernel) (by decide +kernel)), (xinT 577 (by decide +kernel) (by decide +kernel))⟩
theorem clX2_131 {fr lo : Nat} (h1 : 0 + 1 ≤ fr) (h2 : 8 + (1 + 11) + 0 ≤ lo) : xCall RX2 fr lo 1 131 0 1 gX2_isLetter := ⟨_, _, _, _, _, _, ctX2_isLetter, h1, h2, mcX2_isLetter.1, (xinT 576 (by decide +kernel) (by decide +kernel)), mcX2_isLetter.2.1, ⟨by decide +kernel, by decide +kernel, by decide +kernel⟩, by rw [if_neg (by decide)]; exact mcX2_isLetter.2.2⟩
theorem dX2_takeToken_0 : decode cX2_takeToken 0 = .ok (.aload_n 0, 1) := by decide +kernel
theorem dX2_takeToken_1 : decode cX2_takeToken 1 = .ok (.getfield 25, 3) := by decide +kernel
theorem dX2_takeToken_4 : decode cX2_takeToken 4 = .ok (.istore_n 1, 1) := by decide +kernel
theorem dX2_takeToken_5 : decode cX2_takeToken 5 = .ok (.iload_n 1, 1) := by decide +kernel
theorem dX2_takeToken_6 : decode cX2_takeToken 6 = .ok (.aload_n 0, 1) := by decide +kernel
theorem dX2_takeToken_7 : decode cX2_takeToken 7 = .ok (.getfield 15, 3) := by decide +kernel
theorem dX2_takeToken_10 : decode cX2_takeToken 10 = .ok (.if_icmp .ge 21, 3) := by decide +kernel
theorem dX2_takeToken_13 : decode cX2_takeToken 13 = .ok (.aload_n 0, 1) := by decide +kernel
theorem dX2_takeToken_14 : decode cX2_takeToken 14 = .ok (.getfield 9, 3) := by decide +kernel
theorem dX2_takeToken_17 : decode cX2_takeToken 17 = .ok (.iload_n 1, 1) := by decide +kernel
theorem dX2_takeToken_18 : decode cX2_takeToken 18 = .ok (.baload, 1) := by decide +kernel
theorem dX2_takeToken_19 : decode cX2_takeToken 19 = .ok (.invokestatic 127, 3) := by decide +kernel
theorem dX2_takeToken_22 : decode cX2_takeToken 22 = .ok (.ifCond .eq 9, 3) := by decide +kernel
theorem dX2_takeToken_25 : decode cX2_takeToken 25 = .ok (.iinc 1 1, 3) := by decide +kernel
theorem dX2_takeToken_28 : decode cX2_takeToken 28 = .ok (.goto (-23), 3) := by decide +kernel
theorem dX2_takeToken_31 : decode cX2_takeToken 31 = .ok (.aload_n 0, 1) := by decide +kernel
theorem dX2_takeToken_32 : decode cX2_takeToken 32 = .ok (.iload_n 1, 1) := by decide +kernel
theorem dX2_takeToken_33 : decode cX2_takeToken 33 = .ok (.putfield 22, 3) := by decide +kernel
theorem dX2_takeToken_36 : decode cX2_takeToken 36 = .ok (.iload_n 1, 1) := by decide +kernel
theorem dX2_takeToken_37 : decode cX2_takeToken 37 = .ok (.aload_n 0, 1) := by decide +kernel
theorem dX2_takeToken_38 : decode cX2_takeToken 38 = .ok (.getfield 15, 3) := by decide +kernel
theorem dX2_takeToken_41 : decode cX2_takeToken 41 = .ok (.if_icmp .lt 11, 3) := by decide +kernel
theorem dX2_takeToken_44 : decode cX2_takeToken 44 = .ok (.aload_n 0, 1) := by decide +kernel
theorem dX2_takeToken_45 : decode cX2_takeToken 45 = .ok (.iconst 0, 1) := by decide +kernel
theorem dX2_takeToken_46 : decode cX2_takeToken 46 = .ok (.putfield 19, 3) := by decide +kernel
theorem dX2_takeToken_49 : decode cX2_takeToken 49 = .ok (.goto 158, 3) := by decide +kernel
theorem dX2_takeToken_52 : decode cX2_takeToken 52 = .ok (.aload_n 0, 1) := by decide +kernel
theorem dX2_takeToken_53 : decode cX2_takeToken 53 = .ok (.getfield 9, 3) := by decide +kernel
theorem dX2_takeToken_56 : decode cX2_takeToken 56 = .ok (.iload_n 1, 1) := by decide +kernel
theorem dX2_takeToken_57 : decode cX2_takeToken 57 = .ok (.baload, 1) := by decide +kernel
theorem dX2_takeToken_58 : decode cX2_takeToken 58 = .ok (.invokestatic 131, 3) := by decide +kernel
theorem dX2_takeToken_61 : decode cX2_takeToken 61 = .ok (.ifCond .eq 37, 3) := by decide +kernel
theorem dX2_takeToken_64 : decode cX2_takeToken 64 = .ok (.iload_n 1, 1) := by decide +kernel
theorem dX2_takeToken_65 : decode cX2_takeToken 65 = .ok (.aload_n 0, 1) := by decide +kernel
theorem dX2_takeToken_66 : decode cX2_takeToken 66 = .ok (.getfield 15, 3) := by decide +kernel
theorem dX2_takeToken_69 : decode cX2_takeToken 69 = .ok (.if_icmp .ge 21, 3) := by decide +kernel
theorem dX2_takeToken_72 : decode cX2_takeToken 72 = .ok (.aload_n 0, 1) := by decide +kernel
theorem dX2_takeToken_73 : decode cX2_takeToken 73 = .ok (.getfield 9, 3) := by decide +kernel
theorem dX2_takeToken_76 : decode cX2_takeToken 76 = .ok (.iload_n 1, 1) := by decide +kernel
theorem dX2_takeToken_77 : decode cX2_takeToken 77 = .ok (.baload, 1) := by decide +kernel
theorem dX2_takeToken_78 : decode cX2_takeToken 78 = .ok (.invokestatic 131, 3) := by decide +kernel
theorem dX2_takeToken_81 : decode cX2_takeToken 81 = .ok (.ifCond .eq 9, 3) := by decide +kernel
theorem dX2_takeToken_84 : decode cX2_takeToken 84 = .ok (.iinc 1 1, 3) := by decide +kernel
theorem dX2_takeToken_87 : decode cX2_takeToken 87 = .ok (.goto (-23), 3) := by decide +kernel
theorem dX2_takeToken_90 : decode cX2_takeToken 90 = .ok (.aload_n 0, 1) := by decide +kernel
theorem dX2_takeToken_91 : decode cX2_takeToken 91 = .ok (.iconst 1, 1) := by decide +kernel
theorem dX2_takeToken_92 : decode cX2_takeToken 92 = .ok (.putfield 19, 3) := by decide +kernel
theorem dX2_takeToken_95 : decode cX2_takeToken 95 = .ok (.goto 112, 3) := by decide +kernel
theorem dX2_takeToken_98 : decode cX2_takeToken 98 = .ok (.aload_n 0, 1) := by decide +kernel
theorem dX2_takeToken_99 : decode cX2_takeToken 99 = .ok (.getfield 9, 3) := by decide +kernel
theorem dX2_takeToken_102 : decode cX2_takeToken 102 = .ok (.iload_n 1, 1) := by decide +kernel
theorem dX2_takeToken_103 : decode cX2_takeToken 103 = .ok (.baload, 1) := by decide +kernel
theorem dX2_takeToken_104 : decode cX2_takeToken 104 = .ok (.invokestatic 134, 3) := by decide +kernel
theorem dX2_takeToken_107 : decode cX2_takeToken 107 = .ok (.ifCond .eq 77, 3) := by decide +kernel
theorem dX2_takeToken_110 : decode cX2_takeToken 110 = .ok (.aload_n 0, 1) := by decide +kernel
theorem dX2_takeToken_111 : decode cX2_takeToken 111 = .ok (.iconst 0, 1) := by decide +kernel
theorem dX2_takeToken_112 : decode cX2_takeToken 112 = .ok (.putfield 28, 3) := by decide +kernel
theorem dX2_takeToken_115 : decode cX2_takeToken 115 = .ok (.iload_n 1, 1) := by decide +kernel
theorem dX2_takeToken_116 : decode cX2_takeToken 116 = .ok (.aload_n 0, 1) := by decide +kernel
theorem dX2_takeToken_117 : decode cX2_takeToken 117 = .ok (.getfield 15, 3) := by decide +kernel
theorem dX2_takeToken_120 : decode cX2_takeToken 120 = .ok (.if_icmp .ge 42, 3) := by decide +kernel
theorem dX2_takeToken_123 : decode cX2_takeToken 123 = .ok (.aload_n 0, 1) := by decide +kernel
theorem dX2_takeToken_124 : decode cX2_takeToken 124 = .ok (.getfield 9, 3) := by decide +kernel
theorem dX2_takeToken_127 : decode cX2_takeToken 127 = .ok (.iload_n 1, 1) := by decide +kernel
theorem dX2_takeToken_128 : decode cX2_takeToken 128 = .ok (.baload, 1) := by decide +kernel
theorem dX2_takeToken_129 : decode cX2_takeToken 129 = .ok (.invokestatic 134, 3) := by decide +kernel
theorem dX2_takeToken_132 : decode cX2_takeToken 132 = .ok (.ifCond .eq 30, 3) := by decide +kernel
theorem dX2_takeToken_135 : decode cX2_takeToken 135 = .ok (.aload_n 0, 1) := by decide +kernel
theorem dX2_takeToken_136 : decode cX2_takeToken 136 = .ok (.aload_n 0, 1) := by decide +kernel
theorem dX2_takeToken_137 : decode cX2_takeToken 137 = .ok (.getfield 28, 3) := by decide +kernel
theorem dX2_takeToken_140 : decode cX2_takeToken 140 = .ok (.bipush 10, 2) := by decide +kernel
theorem dX2_takeToken_142 : decode cX2_takeToken 142 = .ok (.imul, 1) := by decide +kernel
theorem dX2_takeToken_143 : decode cX2_takeToken 143 = .ok (.aload_n 0, 1) := by decide +kernel
theorem dX2_takeToken_144 : decode cX2_takeToken 144 = .ok (.getfield 9, 3) := by decide +kernel
theorem dX2_takeToken_147 : decode cX2_takeToken 147 = .ok (.iload_n 1, 1) := by decide +kernel
theorem dX2_takeToken_148 : decode cX2_takeToken 148 = .ok (.baload, 1) := by decide +kernel
theorem dX2_takeToken_149 : decode cX2_takeToken 149 = .ok (.iadd, 1) := by decide +kernel
theorem dX2_takeToken_150 : decode cX2_takeToken 150 = .ok (.bipush 48, 2) := by decide +kernel
theorem dX2_takeToken_152 : decode cX2_takeToken 152 = .ok (.isub, 1) := by decide +kernel
theorem dX2_takeToken_153 : decode cX2_takeToken 153 = .ok (.putfield 28, 3) := by decide +kernel
theorem dX2_takeToken_156 : decode cX2_takeToken 156 = .ok (.iinc 1 1, 3) := by decide +kernel
theorem dX2_takeToken_159 : decode cX2_takeToken 159 = .ok (.goto (-44), 3) := by decide +kernel
theorem dX2_takeToken_162 : decode cX2_takeToken 162 = .ok (.aload_n 0, 1) := by decide +kernel
theorem dX2_takeToken_163 : decode cX2_takeToken 163 = .ok (.iload_n 1, 1) := by decide +kernel
theorem dX2_takeToken_164 : decode cX2_takeToken 164 = .ok (.aload_n 0, 1) := by decide +kernel
theorem dX2_takeToken_165 : decode cX2_takeToken 165 = .ok (.getfield 22, 3) := by decide +kernel
theorem dX2_takeToken_168 : decode cX2_takeToken 168 = .ok (.isub, 1) := by decide +kernel
theorem dX2_takeToken_169 : decode cX2_takeToken 169 = .ok (.iconst 2, 1) := by decide +kernel
theorem dX2_takeToken_170 : decode cX2_takeToken 170 = .ok (.if_icmp .le 7, 3) := by decide +kernel
theorem dX2_takeToken_173 : decode cX2_takeToken 173 = .ok (.iconst 4, 1) := by decide +kernel
theorem dX2_takeToken_174 : decode cX2_takeToken 174 = .ok (.goto 4, 3) := by decide +kernel
theorem dX2_takeToken_177 : decode cX2_takeToken 177 = .ok (.iconst 2, 1) := by decide +kernel
theorem dX2_takeToken_178 : decode cX2_takeToken 178 = .ok (.putfield 19, 3) := by decide +kernel
theorem dX2_takeToken_181 : decode cX2_takeToken 181 = .ok (.goto 26, 3) := by decide +kernel
theorem dX2_takeToken_184 : decode cX2_takeToken 184 = .ok (.aload_n 0, 1) := by decide +kernel
theorem dX2_takeToken_185 : decode cX2_takeToken 185 = .ok (.aload_n 0, 1) := by decide +kernel
theorem dX2_takeToken_186 : decode cX2_takeToken 186 = .ok (.getfield 9, 3) := by decide +kernel
theorem dX2_takeToken_189 : decode cX2_takeToken 189 = .ok (.iload_n 1, 1) := by decide +kernel
theorem dX2_takeToken_190 : decode cX2_takeToken 190 = .ok (.baload, 1) := by decide +kernel
theorem dX2_takeToken_191 : decode cX2_takeToken 191 = .ok (.bipush 59, 2) := by decide +kernel
theorem dX2_takeToken_193 : decode cX2_takeToken 193 = .ok (.if_icmp .ne 7, 3) := by decide +kernel
theorem dX2_takeToken_196 : decode cX2_takeToken 196 = .ok (.iconst 3, 1) := by decide +kernel
theorem dX2_takeToken_197 : decode cX2_takeToken 197 = .ok (.goto 4, 3) := by decide +kernel
theorem dX2_takeToken_200 : decode cX2_takeToken 200 = .ok (.iconst 4, 1) := by decide +kernel
theorem dX2_takeToken_201 : decode cX2_takeToken 201 = .ok (.putfield 19, 3) := by decide +kernel
theorem dX2_takeToken_204 : decode cX2_takeToken 204 = .ok (.iinc 1 1, 3) := by decide +kernel
theorem dX2_takeToken_207 : decode cX2_takeToken 207 = .ok (.aload_n 0, 1) := by decide +kernel
theorem dX2_takeToken_208 : decode cX2_takeToken 208 = .ok (.iload_n 1, 1) := by decide +kernel
theorem dX2_takeToken_209 : decode cX2_takeToken 209 = .ok (.putfield 25, 3) := by decide +kernel
theorem dX2_takeToken_212 : decode cX2_takeToken 212 = .ok (.return_, 1) := by decide +kernel
def zX2_takeToken (Qr : Option PV → Mem → Prop) : XZ := (RX2, 1, 20, 2, none, Qr)
noncomputable def fX2_takeToken_b162 (o : Nat) (x1 : Int) (F : Mem) : Option Mem :=
  if (xw (x1 - (F o 3))) ≤ 2 then
    some (mset (mset F o 2 2) o 4 x1)
  else
    some (mset (mset F o 2 4) o 4 x1)
noncomputable def fX2_takeToken_b115 : Nat → Nat → Int → Mem → Option Mem
  | 0, _, _, _ => none
  | n + 1, o, x1, F =>
    if (F o 1) ≤ x1 then
      fX2_takeToken_b162 o x1 F
    else
      if (F o 0).toNat = 0 then none else
      if (0 : Int) ≤ x1 ∧ x1 < (alen ((F o 0).toNat) : Int) then
        if (fX2_isDigit (F ((F o 0).toNat) x1.toNat)) = 0 then
          fX2_takeToken_b162 o x1 F
        else
          if (F o 0).toNat = 0 then none else
          if (0 : Int) ≤ x1 ∧ x1 < (alen ((F o 0).toNat) : Int) then
            fX2_takeToken_b115 n o (xw (x1 + 1)) (mset F o 5 (xw ((xw ((xw ((F o 5) * 10)) + (F ((F o 0).toNat) x1.toNat))) - 48)))
          else none
      else none
noncomputable def fX2_takeToken_b64 : Nat → Nat → Int → Mem → Option Mem
  | 0, _, _, _ => none
  | n + 1, o, x1, F =>
    if (F o 1) ≤ x1 then
      some (mset (mset F o 2 1) o 4 x1)
    else
      if (F o 0).toNat = 0 then none else
      if (0 : Int) ≤ x1 ∧ x1 < (alen ((F o 0).toNat) : Int) then
        if (fX2_isLetter (F ((F o 0).toNat) x1.toNat)) = 0 then
          some (mset (mset F o 2 1) o 4 x1)
        else
          fX2_takeToken_b64 n o (xw (x1 + 1)) F
      else none
noncomputable def fX2_takeToken_b31 (o : Nat) (x1 : Int) (F : Mem) : Option Mem :=
  if x1 < ((mset F o 3 x1) o 1) then
    if ((mset F o 3 x1) o 0).toNat = 0 then none else
    if (0 : Int) ≤ x1 ∧ x1 < (alen (((mset F o 3 x1) o 0).toNat) : Int) then
      if (fX2_isLetter ((mset F o 3 x1) (((mset F o 3 x1) o 0).toNat) x1.toNat)) = 0 then
        if ((mset F o 3 x1) o 0).toNat = 0 then none else
        if (0 : Int) ≤ x1 ∧ x1 < (alen (((mset F o 3 x1) o 0).toNat) : Int) then
          if (fX2_isDigit ((mset F o 3 x1) (((mset F o 3 x1) o 0).toNat) x1.toNat)) = 0 then
            if ((mset F o 3 x1) o 0).toNat = 0 then none else
            if (0 : Int) ≤ x1 ∧ x1 < (alen (((mset F o 3 x1) o 0).toNat) : Int) then
              if ((mset F o 3 x1) (((mset F o 3 x1) o 0).toNat) x1.toNat) ≠ 59 then
                some (mset (mset (mset F o 3 x1) o 2 4) o 4 (xw (x1 + 1)))
              else
                some (mset (mset (mset F o 3 x1) o 2 3) o 4 (xw (x1 + 1)))
            else none
          else
            fX2_takeToken_b115 FU o x1 (mset (mset F o 3 x1) o 5 0)
        else none
      else
        fX2_takeToken_b64 FU o x1 (mset F o 3 x1)
    else none
  else
    some (mset (mset (mset F o 3 x1) o 2 0) o 4 x1)
noncomputable def fX2_takeToken_b5 : Nat → Nat → Int → Mem → Option Mem
  | 0, _, _, _ => none
  | n + 1, o, x1, F =>
    if (F o 1) ≤ x1 then
      fX2_takeToken_b31 o x1 F
    else
      if (F o 0).toNat = 0 then none else
      if (0 : Int) ≤ x1 ∧ x1 < (alen ((F o 0).toNat) : Int) then
        if (fX2_isBlank (F ((F o 0).toNat) x1.toNat)) = 0 then
          fX2_takeToken_b31 o x1 F
        else
          fX2_takeToken_b5 n o (xw (x1 + 1)) F
      else none
noncomputable def fX2_takeToken (o : Nat) (F : Mem) : Option Mem :=
  fX2_takeToken_b5 FU o (F o 4) F
theorem fX2_takeToken_b162_ok {Qr : Option PV → Mem → Prop}  : ∀ (o : Nat) (x1 : Int) (F : Mem) (res : Mem) (ho : isK o 2), fX2_takeToken_b162 o x1 F = some res → Qr none res → PR cX2_takeToken (zX2_takeToken Qr) 162 [(0, vR o), (1, vI x1)] [] F := by
  intro o x1 F res ho h hq
  refine s_aload_n (j := 0) dX2_takeToken_162 rfl rfl ?_
  refine s_iload_n (j := 1) dX2_takeToken_163 rfl rfl ?_
  refine s_aload_n (j := 0) dX2_takeToken_164 rfl rfl ?_
  refine s_getI dX2_takeToken_165 flX2_22 ho ?_
  refine s_isub dX2_takeToken_168 ?_
  refine s_iconst dX2_takeToken_169 (cin rfl) ?_
  refine s_icmp_le (tgt := 177) dX2_takeToken_170 rfl (fun hc1 => ?_) (fun hc1 => ?_)
  · have h := ifp hc1 h
    refine s_iconst dX2_takeToken_177 (cin rfl) ?_
    refine s_putI dX2_takeToken_178 flX2_19 fpX2_2 ho ?_
    refine s_goto (tgt := 207) dX2_takeToken_181 rfl ?_
    refine s_aload_n (j := 0) dX2_takeToken_207 rfl rfl ?_
    refine s_iload_n (j := 1) dX2_takeToken_208 rfl rfl ?_
    refine s_putI dX2_takeToken_209 flX2_25 fpX2_4 ho ?_
    have h := Option.some.inj h
    subst h
    exact s_return dX2_takeToken_212 rfl hq
  · have h := ifn hc1 h
    refine s_iconst dX2_takeToken_173 (cin rfl) ?_
    refine s_goto (tgt := 178) dX2_takeToken_174 rfl ?_
    refine s_putI dX2_takeToken_178 flX2_19 fpX2_2 ho ?_
    refine s_goto (tgt := 207) dX2_takeToken_181 rfl ?_
    refine s_aload_n (j := 0) dX2_takeToken_207 rfl rfl ?_
    refine s_iload_n (j := 1) dX2_takeToken_208 rfl rfl ?_
    refine s_putI dX2_takeToken_209 flX2_25 fpX2_4 ho ?_
    have h := Option.some.inj h
    subst h
    exact s_return dX2_takeToken_212 rfl hq
theorem fX2_takeToken_b115_ok {Qr : Option PV → Mem → Prop}  : ∀ (n : Nat) (o : Nat) (x1 : Int) (F : Mem) (res : Mem) (ho : isK o 2), fX2_takeToken_b115 n o x1 F = some res → Qr none res → PR cX2_takeToken (zX2_takeToken Qr) 115 [(0, vR o), (1, vI x1)] [] F := by
  intro n
  induction n with
  | zero => intro o x1 F res ho h hq; exact nomatch (show (none : Option _) = some _ from h)
  | succ n ih =>
    intro o x1 F res ho h hq
    refine s_iload_n (j := 1) dX2_takeToken_115 rfl rfl ?_
    refine s_aload_n (j := 0) dX2_takeToken_116 rfl rfl ?_
    refine s_getI dX2_takeToken_117 flX2_15 ho ?_
    refine s_icmp_ge (tgt := 162) dX2_takeToken_120 rfl (fun hc1 => ?_) (fun hc1 => ?_)
    · have h := ifp hc1 h
      exact s_sub (ks := [0, 1]) rfl (fX2_takeToken_b162_ok o x1 F _ ho h hq)
    · have h := ifn hc1 h
      refine s_aload_n (j := 0) dX2_takeToken_123 rfl rfl ?_
      refine s_getM dX2_takeToken_124 flX2_9 ho (fun hm2 => ?_)
      have hm2 : _ = 0 ∨ isA ((F o 0).toNat) 1 := hm2
      refine s_iload_n (j := 1) dX2_takeToken_127 rfl rfl ?_
      obtain ⟨hn3, h⟩ := gdn h
      obtain ⟨hb4, h⟩ := gd h
      refine s_baload dX2_takeToken_128 (hm2.resolve_left hn3) hb4.1 hb4.2 ?_
      refine s_callS (As := [vI (F ((F o 0).toNat) x1.toNat)]) (rest := []) (r := (some (vI (fX2_isDigit (F ((F o 0).toNat) x1.toNat))))) (F' := F) dX2_takeToken_129 (clX2_134 (Nat.le_of_ble_eq_true rfl) (Nat.le_of_ble_eq_true rfl)) rfl ⟨_, _, rfl, rfl, rfl, rfl⟩ rfl (Nat.le_of_ble_eq_true rfl) ?_
      refine s_if_eq (tgt := 162) dX2_takeToken_132 rfl (fun hc5 => ?_) (fun hc5 => ?_)
      · have h := ifp hc5 h
        exact s_sub (ks := [0, 1]) rfl (fX2_takeToken_b162_ok o x1 F _ ho h hq)
      · have h := ifn hc5 h
        refine s_aload_n (j := 0) dX2_takeToken_135 rfl rfl ?_
        refine s_aload_n (j := 0) dX2_takeToken_136 rfl rfl ?_
        refine s_getI dX2_takeToken_137 flX2_28 ho ?_
        refine s_bipush dX2_takeToken_140 rfl (cin rfl) ?_
        refine s_imul dX2_takeToken_142 ?_
        refine s_aload_n (j := 0) dX2_takeToken_143 rfl rfl ?_
        refine s_getM dX2_takeToken_144 flX2_9 ho (fun hm6 => ?_)
        have hm6 : _ = 0 ∨ isA ((F o 0).toNat) 1 := hm6
        refine s_iload_n (j := 1) dX2_takeToken_147 rfl rfl ?_
        obtain ⟨hn7, h⟩ := gdn h
        obtain ⟨hb8, h⟩ := gd h
        refine s_baload dX2_takeToken_148 (hm6.resolve_left hn7) hb8.1 hb8.2 ?_
        refine s_iadd dX2_takeToken_149 ?_
        refine s_bipush dX2_takeToken_150 rfl (cin rfl) ?_
        refine s_isub dX2_takeToken_152 ?_
        refine s_putI dX2_takeToken_153 flX2_28 fpX2_5 ho ?_
        refine s_iinc (ls' := [(1, vI (xw (x1 + 1))), (0, vR o)]) (j := 1) dX2_takeToken_156 rfl (Nat.le_of_ble_eq_true rfl) rfl ?_
        refine s_goto (tgt := 115) dX2_takeToken_159 rfl ?_
        exact s_sub (ks := [1, 0]) rfl (ih o (xw (x1 + 1)) (mset F o 5 (xw ((xw ((xw ((F o 5) * 10)) + (F ((F o 0).toNat) x1.toNat))) - 48))) _ ho h hq)
theorem fX2_takeToken_b64_ok {Qr : Option PV → Mem → Prop}  : ∀ (n : Nat) (o : Nat) (x1 : Int) (F : Mem) (res : Mem) (ho : isK o 2), fX2_takeToken_b64 n o x1 F = some res → Qr none res → PR cX2_takeToken (zX2_takeToken Qr) 64 [(0, vR o), (1, vI x1)] [] F := by
  intro n
  induction n with
  | zero => intro o x1 F res ho h hq; exact nomatch (show (none : Option _) = some _ from h)
  | succ n ih =>
    intro o x1 F res ho h hq
    refine s_iload_n (j := 1) dX2_takeToken_64 rfl rfl ?_
    refine s_aload_n (j := 0) dX2_takeToken_65 rfl rfl ?_
    refine s_getI dX2_takeToken_66 flX2_15 ho ?_
    refine s_icmp_ge (tgt := 90) dX2_takeToken_69 rfl (fun hc1 => ?_) (fun hc1 => ?_)
    · have h := ifp hc1 h
      refine s_aload_n (j := 0) dX2_takeToken_90 rfl rfl ?_
      refine s_iconst dX2_takeToken_91 (cin rfl) ?_
      refine s_putI dX2_takeToken_92 flX2_19 fpX2_2 ho ?_
      refine s_goto (tgt := 207) dX2_takeToken_95 rfl ?_
      refine s_aload_n (j := 0) dX2_takeToken_207 rfl rfl ?_
      refine s_iload_n (j := 1) dX2_takeToken_208 rfl rfl ?_
      refine s_putI dX2_takeToken_209 flX2_25 fpX2_4 ho ?_
      have h := Option.some.inj h
      subst h
      exact s_return dX2_takeToken_212 rfl hq
    · have h := ifn hc1 h
      refine s_aload_n (j := 0) dX2_takeToken_72 rfl rfl ?_
      refine s_getM dX2_takeToken_73 flX2_9 ho (fun hm2 => ?_)
      have hm2 : _ = 0 ∨ isA ((F o 0).toNat) 1 := hm2
      refine s_iload_n (j := 1) dX2_takeToken_76 rfl rfl ?_
      obtain ⟨hn3, h⟩ := gdn h
      obtain ⟨hb4, h⟩ := gd h
      refine s_baload dX2_takeToken_77 (hm2.resolve_left hn3) hb4.1 hb4.2 ?_
      refine s_callS (As := [vI (F ((F o 0).toNat) x1.toNat)]) (rest := []) (r := (some (vI (fX2_isLetter (F ((F o 0).toNat) x1.toNat))))) (F' := F) dX2_takeToken_78 (clX2_131 (Nat.le_of_ble_eq_true rfl) (Nat.le_of_ble_eq_true rfl)) rfl ⟨_, _, rfl, rfl, rfl, rfl⟩ rfl (Nat.le_of_ble_eq_true rfl) ?_
      refine s_if_eq (tgt := 90) dX2_takeToken_81 rfl (fun hc5 => ?_) (fun hc5 => ?_)
      · have h := ifp hc5 h
        refine s_aload_n (j := 0) dX2_takeToken_90 rfl rfl ?_
        refine s_iconst dX2_takeToken_91 (cin rfl) ?_
        refine s_putI dX2_takeToken_92 flX2_19 fpX2_2 ho ?_
        refine s_goto (tgt := 207) dX2_takeToken_95 rfl ?_
        refine s_aload_n (j := 0) dX2_takeToken_207 rfl rfl ?_
        refine s_iload_n (j := 1) dX2_takeToken_208 rfl rfl ?_
        refine s_putI dX2_takeToken_209 flX2_25 fpX2_4 ho ?_
        have h := Option.some.inj h
        subst h
        exact s_return dX2_takeToken_212 rfl hq
      · have h := ifn hc5 h
        refine s_iinc (ls' := [(1, vI (xw (x1 + 1))), (0, vR o)]) (j := 1) dX2_takeToken_84 rfl (Nat.le_of_ble_eq_true rfl) rfl ?_
        refine s_goto (tgt := 64) dX2_takeToken_87 rfl ?_
        exact s_sub (ks := [1, 0]) rfl (ih o (xw (x1 + 1)) F _ ho h hq)
theorem fX2_takeToken_b31_ok {Qr : Option PV → Mem → Prop}  : ∀ (o : Nat) (x1 : Int) (F : Mem) (res : Mem) (ho : isK o 2), fX2_takeToken_b31 o x1 F = some res → Qr none res → PR cX2_takeToken (zX2_takeToken Qr) 31 [(0, vR o), (1, vI x1)] [] F := by
  intro o x1 F res ho h hq
  refine s_aload_n (j := 0) dX2_takeToken_31 rfl rfl ?_
  refine s_iload_n (j := 1) dX2_takeToken_32 rfl rfl ?_
  refine s_putI dX2_takeToken_33 flX2_22 fpX2_3 ho ?_
  refine s_iload_n (j := 1) dX2_takeToken_36 rfl rfl ?_
  refine s_aload_n (j := 0) dX2_takeToken_37 rfl rfl ?_
  refine s_getI dX2_takeToken_38 flX2_15 ho ?_
  refine s_icmp_lt (tgt := 52) dX2_takeToken_41 rfl (fun hc1 => ?_) (fun hc1 => ?_)
  · have h := ifp hc1 h
    refine s_aload_n (j := 0) dX2_takeToken_52 rfl rfl ?_
    refine s_getM dX2_takeToken_53 flX2_9 ho (fun hm2 => ?_)
    have hm2 : _ = 0 ∨ isA (((mset F o 3 x1) o 0).toNat) 1 := hm2
    refine s_iload_n (j := 1) dX2_takeToken_56 rfl rfl ?_
    obtain ⟨hn3, h⟩ := gdn h
    obtain ⟨hb4, h⟩ := gd h
    refine s_baload dX2_takeToken_57 (hm2.resolve_left hn3) hb4.1 hb4.2 ?_
    refine s_callS (As := [vI ((mset F o 3 x1) (((mset F o 3 x1) o 0).toNat) x1.toNat)]) (rest := []) (r := (some (vI (fX2_isLetter ((mset F o 3 x1) (((mset F o 3 x1) o 0).toNat) x1.toNat))))) (F' := mset F o 3 x1) dX2_takeToken_58 (clX2_131 (Nat.le_of_ble_eq_true rfl) (Nat.le_of_ble_eq_true rfl)) rfl ⟨_, _, rfl, rfl, rfl, rfl⟩ rfl (Nat.le_of_ble_eq_true rfl) ?_
    refine s_if_eq (tgt := 98) dX2_takeToken_61 rfl (fun hc5 => ?_) (fun hc5 => ?_)
    · have h := ifp hc5 h
      refine s_aload_n (j := 0) dX2_takeToken_98 rfl rfl ?_
      refine s_getM dX2_takeToken_99 flX2_9 ho (fun hm6 => ?_)
      have hm6 : _ = 0 ∨ isA (((mset F o 3 x1) o 0).toNat) 1 := hm6
      refine s_iload_n (j := 1) dX2_takeToken_102 rfl rfl ?_
      obtain ⟨hn7, h⟩ := gdn h
      obtain ⟨hb8, h⟩ := gd h
      refine s_baload dX2_takeToken_103 (hm6.resolve_left hn7) hb8.1 hb8.2 ?_
      refine s_callS (As := [vI ((mset F o 3 x1) (((mset F o 3 x1) o 0).toNat) x1.toNat)]) (rest := []) (r := (some (vI (fX2_isDigit ((mset F o 3 x1) (((mset F o 3 x1) o 0).toNat) x1.toNat))))) (F' := mset F o 3 x1) dX2_takeToken_104 (clX2_134 (Nat.le_of_ble_eq_true rfl) (Nat.le_of_ble_eq_true rfl)) rfl ⟨_, _, rfl, rfl, rfl, rfl⟩ rfl (Nat.le_of_ble_eq_true rfl) ?_
      refine s_if_eq (tgt := 184) dX2_takeToken_107 rfl (fun hc9 => ?_) (fun hc9 => ?_)
      · have h := ifp hc9 h
        refine s_aload_n (j := 0) dX2_takeToken_184 rfl rfl ?_
        refine s_aload_n (j := 0) dX2_takeToken_185 rfl rfl ?_
        refine s_getM dX2_takeToken_186 flX2_9 ho (fun hm10 => ?_)
        have hm10 : _ = 0 ∨ isA (((mset F o 3 x1) o 0).toNat) 1 := hm10
        refine s_iload_n (j := 1) dX2_takeToken_189 rfl rfl ?_
        obtain ⟨hn11, h⟩ := gdn h
        obtain ⟨hb12, h⟩ := gd h
        refine s_baload dX2_takeToken_190 (hm10.resolve_left hn11) hb12.1 hb12.2 ?_
        refine s_bipush dX2_takeToken_191 rfl (cin rfl) ?_
        refine s_icmp_ne (tgt := 200) dX2_takeToken_193 rfl (fun hc13 => ?_) (fun hc13 => ?_)
        · have h := ifp hc13 h
          refine s_iconst dX2_takeToken_200 (cin rfl) ?_
          refine s_putI dX2_takeToken_201 flX2_19 fpX2_2 ho ?_
          refine s_iinc (ls' := [(1, vI (xw (x1 + 1))), (0, vR o)]) (j := 1) dX2_takeToken_204 rfl (Nat.le_of_ble_eq_true rfl) rfl ?_
          refine s_aload_n (j := 1) dX2_takeToken_207 rfl rfl ?_
          refine s_iload_n (j := 0) dX2_takeToken_208 rfl rfl ?_
          refine s_putI dX2_takeToken_209 flX2_25 fpX2_4 ho ?_
          have h := Option.some.inj h
          subst h
          exact s_return dX2_takeToken_212 rfl hq
        · have h := ifn hc13 h
          refine s_iconst dX2_takeToken_196 (cin rfl) ?_
          refine s_goto (tgt := 201) dX2_takeToken_197 rfl ?_
          refine s_putI dX2_takeToken_201 flX2_19 fpX2_2 ho ?_
          refine s_iinc (ls' := [(1, vI (xw (x1 + 1))), (0, vR o)]) (j := 1) dX2_takeToken_204 rfl (Nat.le_of_ble_eq_true rfl) rfl ?_
          refine s_aload_n (j := 1) dX2_takeToken_207 rfl rfl ?_
          refine s_iload_n (j := 0) dX2_takeToken_208 rfl rfl ?_
          refine s_putI dX2_takeToken_209 flX2_25 fpX2_4 ho ?_
          have h := Option.some.inj h
          subst h
          exact s_return dX2_takeToken_212 rfl hq
      · have h := ifn hc9 h
        refine s_aload_n (j := 0) dX2_takeToken_110 rfl rfl ?_
        refine s_iconst dX2_takeToken_111 (cin rfl) ?_
        refine s_putI dX2_takeToken_112 flX2_28 fpX2_5 ho ?_
        exact s_sub (ks := [0, 1]) rfl (fX2_takeToken_b115_ok FU o x1 (mset (mset F o 3 x1) o 5 0) _ ho h hq)
    · have h := ifn hc5 h
      exact s_sub (ks := [0, 1]) rfl (fX2_takeToken_b64_ok FU o x1 (mset F o 3 x1) _ ho h hq)
  · have h := ifn hc1 h
    refine s_aload_n (j := 0) dX2_takeToken_44 rfl rfl ?_
    refine s_iconst dX2_takeToken_45 (cin rfl) ?_
    refine s_putI dX2_takeToken_46 flX2_19 fpX2_2 ho ?_
    refine s_goto (tgt := 207) dX2_takeToken_49 rfl ?_
    refine s_aload_n (j := 0) dX2_takeToken_207 rfl rfl ?_
    refine s_iload_n (j := 1) dX2_takeToken_208 rfl rfl ?_
    refine s_putI dX2_takeToken_209 flX2_25 fpX2_4 ho ?_
    have h := Option.some.inj h
    subst h
    exact s_return dX2_takeToken_212 rfl hq
theorem fX2_takeToken_b5_ok {Qr : Option PV → Mem → Prop}  : ∀ (n : Nat) (o : Nat) (x1 : Int) (F : Mem) (res : Mem) (ho : isK o 2), fX2_takeToken_b5 n o x1 F = some res → Qr none res → PR cX2_takeToken (zX2_takeToken Qr) 5 [(0, vR o), (1, vI x1)] [] F := by
  intro n
  induction n with
  | zero => intro o x1 F res ho h hq; exact nomatch (show (none : Option _) = some _ from h)
  | succ n ih =>
    intro o x1 F res ho h hq
    refine s_iload_n (j := 1) dX2_takeToken_5 rfl rfl ?_
    refine s_aload_n (j := 0) dX2_takeToken_6 rfl rfl ?_
    refine s_getI dX2_takeToken_7 flX2_15 ho ?_
    refine s_icmp_ge (tgt := 31) dX2_takeToken_10 rfl (fun hc1 => ?_) (fun hc1 => ?_)
    · have h := ifp hc1 h
      exact s_sub (ks := [0, 1]) rfl (fX2_takeToken_b31_ok o x1 F _ ho h hq)
    · have h := ifn hc1 h
      refine s_aload_n (j := 0) dX2_takeToken_13 rfl rfl ?_
      refine s_getM dX2_takeToken_14 flX2_9 ho (fun hm2 => ?_)
      have hm2 : _ = 0 ∨ isA ((F o 0).toNat) 1 := hm2
      refine s_iload_n (j := 1) dX2_takeToken_17 rfl rfl ?_
      obtain ⟨hn3, h⟩ := gdn h
      obtain ⟨hb4, h⟩ := gd h
      refine s_baload dX2_takeToken_18 (hm2.resolve_left hn3) hb4.1 hb4.2 ?_
      refine s_callS (As := [vI (F ((F o 0).toNat) x1.toNat)]) (rest := []) (r := (some (vI (fX2_isBlank (F ((F o 0).toNat) x1.toNat))))) (F' := F) dX2_takeToken_19 (clX2_127 (Nat.le_of_ble_eq_true rfl) (Nat.le_of_ble_eq_true rfl)) rfl ⟨_, _, rfl, rfl, rfl, rfl⟩ rfl (Nat.le_of_ble_eq_true rfl) ?_
      refine s_if_eq (tgt := 31) dX2_takeToken_22 rfl (fun hc5 => ?_) (fun hc5 => ?_)
      · have h := ifp hc5 h
        exact s_sub (ks := [0, 1]) rfl (fX2_takeToken_b31_ok o x1 F _ ho h hq)
      · have h := ifn hc5 h
        refine s_iinc (ls' := [(1, vI (xw (x1 + 1))), (0, vR o)]) (j := 1) dX2_takeToken_25 rfl (Nat.le_of_ble_eq_true rfl) rfl ?_
        refine s_goto (tgt := 5) dX2_takeToken_28 rfl ?_
        exact s_sub (ks := [1, 0]) rfl (ih o (xw (x1 + 1)) F _ ho h hq)
theorem fX2_takeToken_ok {Qr : Option PV → Mem → Prop} : ∀ (o : Nat) (F : Mem) (res : Mem) (ho : isK o 2), fX2_takeToken o F = some res → Qr none res → PR cX2_takeToken (zX2_takeToken Qr) 0 [(0, vR o)] [] F := by
  intro o F res ho h hq
  refine s_aload_n (j := 0) dX2_takeToken_0 rfl rfl ?_
  refine s_getI dX2_takeToken_1 flX2_25 ho ?_
  refine s_istore_n (ls' := [(1, vI (F o 4)), (0, vR o)]) dX2_takeToken_4 rfl (Nat.le_of_ble_eq_true rfl) rfl ?_
  exact s_sub (ks := [1, 0]) rfl (fX2_takeToken_b5_ok FU o (F o 4) F _ ho h hq)
def gX2_takeToken : XG := fun As F r F' => ∃ o : Nat, ∃ res : Mem, As = [vR o] ∧ isK o 2 ∧ fX2_takeToken o F = some res ∧ r = none ∧ F' = res
theorem ctX2_takeToken : xCT yX2_takeToken cX2_takeToken 2 (none) 1 20 gX2_takeToken := xmet (by decide +kernel) (fun As F r F' hg => by obtain ⟨o, res, rfl, ho, h, rfl, rfl⟩ := hg; exact Nat.le_of_ble_eq_true rfl) (fun As F r F' hg => by obtain ⟨o, res, rfl, ho, h, rfl, rfl⟩ := hg; exact fX2_takeToken_ok o _ _ ho h ⟨rfl, rfl⟩)
theorem mcX2_takeToken : Cond.code yX2_takeToken cX2_takeToken 2 (none) ∈ xw_T ∧ Cond.initialized yX2_takeToken.cls ∈ xw_T ∧ Cond.instanceMethod yX2_takeToken ∈ xw_T ∧ Cond.selects yX2_takeToken.cls yX2_takeToken yX2_takeToken ∈ xw_T := ⟨(xinT 572 (by decide +kernel) (by decide +kernel)), (xinT 121 (by decide +kernel) (by decide +kernel)), (xinT 571 (by decide +kernel) (by decide +kernel)), (xinT 2 (by decide +kernel) (by decide +kernel))⟩
theorem clX2_79 {fr lo : Nat} (h1 : 1 + 1 ≤ fr) (h2 : 8 + (2 + 11) + 20 ≤ lo) : xCall RX2 fr lo 0 79 2 0 gX2_takeToken := ⟨_, _, _, _, _, _, ctX2_takeToken, h1, h2, mcX2_takeToken.1, (xinT 569 (by decide +kernel) (by decide +kernel)), mcX2_takeToken.2.1, ⟨by decide +kernel, by decide +kernel, by decide +kernel⟩, by rw [if_pos rfl]; exact ⟨mcX2_takeToken.2.2.1, mcX2_takeToken.2.2.2, _, _, rfl⟩⟩
theorem dX2_readLine_0 : decode cX2_readLine 0 = .ok (.aload_n 0, 1) := by decide +kernel
theorem dX2_readLine_1 : decode cX2_readLine 1 = .ok (.iload_n 1, 1) := by decide +kernel
theorem dX2_readLine_2 : decode cX2_readLine 2 = .ok (.invokevirtual 93, 3) := by decide +kernel
theorem dX2_readLine_5 : decode cX2_readLine 5 = .ok (.istore_n 2, 1) := by decide +kernel
theorem dX2_readLine_6 : decode cX2_readLine 6 = .ok (.iload_n 2, 1) := by decide +kernel
theorem dX2_readLine_7 : decode cX2_readLine 7 = .ok (.iconst (-1), 1) := by decide +kernel
theorem dX2_readLine_8 : decode cX2_readLine 8 = .ok (.if_icmp .ne 8, 3) := by decide +kernel
theorem dX2_readLine_11 : decode cX2_readLine 11 = .ok (.aload_n 0, 1) := by decide +kernel
theorem dX2_readLine_12 : decode cX2_readLine 12 = .ok (.invokevirtual 97, 3) := by decide +kernel
theorem dX2_readLine_15 : decode cX2_readLine 15 = .ok (.return_, 1) := by decide +kernel
theorem dX2_readLine_16 : decode cX2_readLine 16 = .ok (.aload_n 0, 1) := by decide +kernel
theorem dX2_readLine_17 : decode cX2_readLine 17 = .ok (.iload_n 2, 1) := by decide +kernel
theorem dX2_readLine_18 : decode cX2_readLine 18 = .ok (.invokevirtual 100, 3) := by decide +kernel
theorem dX2_readLine_21 : decode cX2_readLine 21 = .ok (.astore_n 3, 1) := by decide +kernel
theorem dX2_readLine_22 : decode cX2_readLine 22 = .ok (.aload_n 3, 1) := by decide +kernel
theorem dX2_readLine_23 : decode cX2_readLine 23 = .ok (.ifnull 15, 3) := by decide +kernel
theorem dX2_readLine_26 : decode cX2_readLine 26 = .ok (.aload_n 3, 1) := by decide +kernel
theorem dX2_readLine_27 : decode cX2_readLine 27 = .ok (.invokevirtual 103, 3) := by decide +kernel
theorem dX2_readLine_30 : decode cX2_readLine 30 = .ok (.ifCond .eq 8, 3) := by decide +kernel
theorem dX2_readLine_33 : decode cX2_readLine 33 = .ok (.aload_n 0, 1) := by decide +kernel
theorem dX2_readLine_34 : decode cX2_readLine 34 = .ok (.iconst 3, 1) := by decide +kernel
theorem dX2_readLine_35 : decode cX2_readLine 35 = .ok (.invokevirtual 90, 3) := by decide +kernel
theorem dX2_readLine_38 : decode cX2_readLine 38 = .ok (.aload_n 0, 1) := by decide +kernel
theorem dX2_readLine_39 : decode cX2_readLine 39 = .ok (.invokevirtual 79, 3) := by decide +kernel
theorem dX2_readLine_42 : decode cX2_readLine 42 = .ok (.iload_n 2, 1) := by decide +kernel
theorem dX2_readLine_43 : decode cX2_readLine 43 = .ok (.invokestatic 106, 3) := by decide +kernel
theorem dX2_readLine_46 : decode cX2_readLine 46 = .ok (.astore 4, 2) := by decide +kernel
theorem dX2_readLine_48 : decode cX2_readLine 48 = .ok (.aload 4, 2) := by decide +kernel
theorem dX2_readLine_50 : decode cX2_readLine 50 = .ok (.invokevirtual 110, 3) := by decide +kernel
theorem dX2_readLine_53 : decode cX2_readLine 53 = .ok (.aload_n 0, 1) := by decide +kernel
theorem dX2_readLine_54 : decode cX2_readLine 54 = .ok (.getfield 31, 3) := by decide +kernel
theorem dX2_readLine_57 : decode cX2_readLine 57 = .ok (.arraylength, 1) := by decide +kernel
theorem dX2_readLine_58 : decode cX2_readLine 58 = .ok (.invokestatic 63, 3) := by decide +kernel
theorem dX2_readLine_61 : decode cX2_readLine 61 = .ok (.istore 5, 2) := by decide +kernel
theorem dX2_readLine_63 : decode cX2_readLine 63 = .ok (.iconst 0, 1) := by decide +kernel
theorem dX2_readLine_64 : decode cX2_readLine 64 = .ok (.istore 6, 2) := by decide +kernel
theorem dX2_readLine_66 : decode cX2_readLine 66 = .ok (.iload 6, 2) := by decide +kernel
theorem dX2_readLine_68 : decode cX2_readLine 68 = .ok (.iload 5, 2) := by decide +kernel
theorem dX2_readLine_70 : decode cX2_readLine 70 = .ok (.if_icmp .ge 77, 3) := by decide +kernel
theorem dX2_readLine_73 : decode cX2_readLine 73 = .ok (.aload_n 0, 1) := by decide +kernel
theorem dX2_readLine_74 : decode cX2_readLine 74 = .ok (.getfield 19, 3) := by decide +kernel
theorem dX2_readLine_77 : decode cX2_readLine 77 = .ok (.iconst 2, 1) := by decide +kernel
theorem dX2_readLine_78 : decode cX2_readLine 78 = .ok (.if_icmp .eq 8, 3) := by decide +kernel
theorem dX2_readLine_81 : decode cX2_readLine 81 = .ok (.aload_n 0, 1) := by decide +kernel
theorem dX2_readLine_82 : decode cX2_readLine 82 = .ok (.invokevirtual 97, 3) := by decide +kernel
theorem dX2_readLine_85 : decode cX2_readLine 85 = .ok (.return_, 1) := by decide +kernel
theorem dX2_readLine_86 : decode cX2_readLine 86 = .ok (.aload_n 0, 1) := by decide +kernel
theorem dX2_readLine_87 : decode cX2_readLine 87 = .ok (.getfield 31, 3) := by decide +kernel
theorem dX2_readLine_90 : decode cX2_readLine 90 = .ok (.iload 6, 2) := by decide +kernel
theorem dX2_readLine_92 : decode cX2_readLine 92 = .ok (.aload_n 0, 1) := by decide +kernel
theorem dX2_readLine_93 : decode cX2_readLine 93 = .ok (.getfield 28, 3) := by decide +kernel
theorem dX2_readLine_96 : decode cX2_readLine 96 = .ok (.iastore, 1) := by decide +kernel
theorem dX2_readLine_97 : decode cX2_readLine 97 = .ok (.aload 4, 2) := by decide +kernel
theorem dX2_readLine_99 : decode cX2_readLine 99 = .ok (.iload 6, 2) := by decide +kernel
theorem dX2_readLine_101 : decode cX2_readLine 101 = .ok (.invokevirtual 115, 3) := by decide +kernel
theorem dX2_readLine_104 : decode cX2_readLine 104 = .ok (.aload_n 0, 1) := by decide +kernel
theorem dX2_readLine_105 : decode cX2_readLine 105 = .ok (.getfield 28, 3) := by decide +kernel
theorem dX2_readLine_108 : decode cX2_readLine 108 = .ok (.iload 6, 2) := by decide +kernel
theorem dX2_readLine_110 : decode cX2_readLine 110 = .ok (.ifCond .ne 7, 3) := by decide +kernel
theorem dX2_readLine_113 : decode cX2_readLine 113 = .ok (.iconst (-1), 1) := by decide +kernel
theorem dX2_readLine_114 : decode cX2_readLine 114 = .ok (.goto 12, 3) := by decide +kernel
theorem dX2_readLine_117 : decode cX2_readLine 117 = .ok (.aload_n 0, 1) := by decide +kernel
theorem dX2_readLine_118 : decode cX2_readLine 118 = .ok (.getfield 31, 3) := by decide +kernel
theorem dX2_readLine_121 : decode cX2_readLine 121 = .ok (.iload 6, 2) := by decide +kernel
theorem dX2_readLine_123 : decode cX2_readLine 123 = .ok (.iconst 1, 1) := by decide +kernel
theorem dX2_readLine_124 : decode cX2_readLine 124 = .ok (.isub, 1) := by decide +kernel
theorem dX2_readLine_125 : decode cX2_readLine 125 = .ok (.iaload, 1) := by decide +kernel
theorem dX2_readLine_126 : decode cX2_readLine 126 = .ok (.invokestatic 119, 3) := by decide +kernel
theorem dX2_readLine_129 : decode cX2_readLine 129 = .ok (.ifCond .ne 8, 3) := by decide +kernel
theorem dX2_readLine_132 : decode cX2_readLine 132 = .ok (.aload_n 0, 1) := by decide +kernel
theorem dX2_readLine_133 : decode cX2_readLine 133 = .ok (.iconst 2, 1) := by decide +kernel
theorem dX2_readLine_134 : decode cX2_readLine 134 = .ok (.invokevirtual 90, 3) := by decide +kernel
theorem dX2_readLine_137 : decode cX2_readLine 137 = .ok (.aload_n 0, 1) := by decide +kernel
theorem dX2_readLine_138 : decode cX2_readLine 138 = .ok (.invokevirtual 79, 3) := by decide +kernel
theorem dX2_readLine_141 : decode cX2_readLine 141 = .ok (.iinc 6 1, 3) := by decide +kernel
theorem dX2_readLine_144 : decode cX2_readLine 144 = .ok (.goto (-78), 3) := by decide +kernel
theorem dX2_readLine_147 : decode cX2_readLine 147 = .ok (.aload_n 0, 1) := by decide +kernel
theorem dX2_readLine_148 : decode cX2_readLine 148 = .ok (.getfield 19, 3) := by decide +kernel
theorem dX2_readLine_151 : decode cX2_readLine 151 = .ok (.iconst 3, 1) := by decide +kernel
theorem dX2_readLine_152 : decode cX2_readLine 152 = .ok (.if_icmp .eq 8, 3) := by decide +kernel
theorem dX2_readLine_155 : decode cX2_readLine 155 = .ok (.aload_n 0, 1) := by decide +kernel
theorem dX2_readLine_156 : decode cX2_readLine 156 = .ok (.invokevirtual 97, 3) := by decide +kernel
theorem dX2_readLine_159 : decode cX2_readLine 159 = .ok (.return_, 1) := by decide +kernel
theorem dX2_readLine_160 : decode cX2_readLine 160 = .ok (.aload_n 0, 1) := by decide +kernel
theorem dX2_readLine_161 : decode cX2_readLine 161 = .ok (.invokevirtual 79, 3) := by decide +kernel
theorem dX2_readLine_164 : decode cX2_readLine 164 = .ok (.aload_n 0, 1) := by decide +kernel
theorem dX2_readLine_165 : decode cX2_readLine 165 = .ok (.getfield 35, 3) := by decide +kernel
theorem dX2_readLine_168 : decode cX2_readLine 168 = .ok (.ifCond .ne 11, 3) := by decide +kernel
theorem dX2_readLine_171 : decode cX2_readLine 171 = .ok (.aload_n 0, 1) := by decide +kernel
theorem dX2_readLine_172 : decode cX2_readLine 172 = .ok (.iload_n 2, 1) := by decide +kernel
theorem dX2_readLine_173 : decode cX2_readLine 173 = .ok (.aload_n 3, 1) := by decide +kernel
theorem dX2_readLine_174 : decode cX2_readLine 174 = .ok (.iload 5, 2) := by decide +kernel
theorem dX2_readLine_176 : decode cX2_readLine 176 = .ok (.invokevirtual 123, 3) := by decide +kernel
theorem dX2_readLine_179 : decode cX2_readLine 179 = .ok (.return_, 1) := by decide +kernel
def zX2_readLine (Qr : Option PV → Mem → Prop) : XZ := (RX2, 6, 129, 7, none, Qr)
noncomputable def fX2_readLine_b137 (k66 : Nat → Int → Nat → Nat → Int → Int → Mem → Option Mem) (o : Nat) (x2 : Int) (x3 : Nat) (x4 : Nat) (x5 : Int) (x6 : Int) (F : Mem) : Option Mem :=
  (fX2_takeToken o F).bind fun q1 =>
  k66 o x2 x3 x4 x5 (xw (x6 + 1)) q1
noncomputable def fX2_readLine_b126 (k66 : Nat → Int → Nat → Nat → Int → Int → Mem → Option Mem) (o : Nat) (x2 : Int) (x3 : Nat) (x4 : Nat) (x5 : Int) (x6 : Int) (s0 : Int) (s1 : Int) (s2 : Int) (F : Mem) : Option Mem :=
  if (fX2_canBe s0 s1 s2) ≠ 0 then
    fX2_readLine_b137 k66 o x2 x3 x4 x5 x6 F
  else
    fX2_readLine_b137 k66 o x2 x3 x4 x5 x6 (fX2_note o 2 F)
noncomputable def fX2_readLine_b66 : Nat → Nat → Int → Nat → Nat → Int → Int → Mem → Option Mem
  | 0, _, _, _, _, _, _, _ => none
  | n + 1, o, x2, x3, x4, x5, x6, F =>
    if x5 ≤ x6 then
      if (F o 2) = 3 then
        (fX2_takeToken o F).bind fun q3 =>
        if (q3 o 7) ≠ 0 then
          some q3
        else
          (fX2_keepLine o x2 x3 x5 q3).bind fun q6 =>
          some q6
      else
        some (fX2_refuse o F)
    else
      if (F o 2) = 2 then
        if (0 : Int) ≤ x6 ∧ x6 < (alen (o + 1) : Int) then
          if (0 : Int) ≤ x6 ∧ x6 < slen x4 then
            if x6 ≠ 0 then
              if (0 : Int) ≤ (xw (x6 - 1)) ∧ (xw (x6 - 1)) < (alen (o + 1) : Int) then
                fX2_readLine_b126 (fX2_readLine_b66 n) o x2 x3 x4 x5 x6 (sch x4 x6) ((mset F (o + 1) x6.toNat (F o 5)) o 5) ((mset F (o + 1) x6.toNat (F o 5)) (o + 1) (xw (x6 - 1)).toNat) (mset F (o + 1) x6.toNat (F o 5))
              else none
            else
              fX2_readLine_b126 (fX2_readLine_b66 n) o x2 x3 x4 x5 x6 (sch x4 x6) ((mset F (o + 1) x6.toNat (F o 5)) o 5) (-1) (mset F (o + 1) x6.toNat (F o 5))
          else none
        else none
      else
        some (fX2_refuse o F)
noncomputable def fX2_readLine_b38 (o : Nat) (x2 : Int) (x3 : Nat) (F : Mem) : Option Mem :=
  (fX2_takeToken o F).bind fun q1 =>
  fX2_readLine_b66 FU o x2 x3 (fX2_rangesOf x2) (xmin (slen (fX2_rangesOf x2)) (alen (o + 1) : Int)) 0 q1
noncomputable def fX2_readLine (o : Nat) (x1 : Int) (F : Mem) : Option Mem :=
  (fX2_lineAtHand o x1 F).bind fun r1 =>
  if r1 ≠ (-1) then
    if (fX2_sheetOf o r1) = 0 then
      fX2_readLine_b38 o r1 (fX2_sheetOf o r1) F
    else
      if (fX3_isFull (fX2_sheetOf o r1) F) = 0 then
        fX2_readLine_b38 o r1 (fX2_sheetOf o r1) F
      else
        fX2_readLine_b38 o r1 (fX2_sheetOf o r1) (fX2_note o 3 F)
  else
    some (fX2_refuse o F)
theorem fX2_readLine_b137_ok {Qr : Option PV → Mem → Prop}  (k66 : Nat → Int → Nat → Nat → Int → Int → Mem → Option Mem) (hk66 : ∀ (o : Nat) (x2 : Int) (x3 : Nat) (x4 : Nat) (x5 : Int) (x6 : Int) (F : Mem) (res : Mem) (ho : isK o 2) (hx3 : x3 = 0 ∨ isK x3 3) (hx4 : isS x4), k66 o x2 x3 x4 x5 x6 F = some res → Qr none res → PR cX2_readLine (zX2_readLine Qr) 66 [(0, vR o), (2, vI x2), (3, vR x3), (4, vR x4), (5, vI x5), (6, vI x6)] [] F) : ∀ (o : Nat) (x2 : Int) (x3 : Nat) (x4 : Nat) (x5 : Int) (x6 : Int) (F : Mem) (res : Mem) (ho : isK o 2) (hx3 : x3 = 0 ∨ isK x3 3) (hx4 : isS x4), fX2_readLine_b137 k66 o x2 x3 x4 x5 x6 F = some res → Qr none res → PR cX2_readLine (zX2_readLine Qr) 137 [(0, vR o), (2, vI x2), (3, vR x3), (4, vR x4), (5, vI x5), (6, vI x6)] [] F := by
  intro o x2 x3 x4 x5 x6 F res ho hx3 hx4 h hq
  refine s_aload_n (j := 0) dX2_readLine_137 rfl rfl ?_
  obtain ⟨q1, hv2, h⟩ := bnd h
  refine s_callV (As := []) (rest := []) (r := none) (F' := q1) dX2_readLine_138 (clX2_79 (Nat.le_of_ble_eq_true rfl) (Nat.le_of_ble_eq_true rfl)) ho rfl ⟨_, _, rfl, ho, hv2, rfl, rfl⟩ rfl (Nat.le_of_ble_eq_true rfl) ?_
  refine s_iinc (ls' := [(6, vI (xw (x6 + 1))), (0, vR o), (2, vI x2), (3, vR x3), (4, vR x4), (5, vI x5)]) (j := 5) dX2_readLine_141 rfl (Nat.le_of_ble_eq_true rfl) rfl ?_
  refine s_goto (tgt := 66) dX2_readLine_144 rfl ?_
  exact s_sub (ks := [1, 2, 3, 4, 5, 0]) rfl (hk66 o x2 x3 x4 x5 (xw (x6 + 1)) q1 _ ho hx3 hx4 h hq)
theorem fX2_readLine_b126_ok {Qr : Option PV → Mem → Prop}  (k66 : Nat → Int → Nat → Nat → Int → Int → Mem → Option Mem) (hk66 : ∀ (o : Nat) (x2 : Int) (x3 : Nat) (x4 : Nat) (x5 : Int) (x6 : Int) (F : Mem) (res : Mem) (ho : isK o 2) (hx3 : x3 = 0 ∨ isK x3 3) (hx4 : isS x4), k66 o x2 x3 x4 x5 x6 F = some res → Qr none res → PR cX2_readLine (zX2_readLine Qr) 66 [(0, vR o), (2, vI x2), (3, vR x3), (4, vR x4), (5, vI x5), (6, vI x6)] [] F) : ∀ (o : Nat) (x2 : Int) (x3 : Nat) (x4 : Nat) (x5 : Int) (x6 : Int) (s0 : Int) (s1 : Int) (s2 : Int) (F : Mem) (res : Mem) (ho : isK o 2) (hx3 : x3 = 0 ∨ isK x3 3) (hx4 : isS x4), fX2_readLine_b126 k66 o x2 x3 x4 x5 x6 s0 s1 s2 F = some res → Qr none res → PR cX2_readLine (zX2_readLine Qr) 126 [(0, vR o), (2, vI x2), (3, vR x3), (4, vR x4), (5, vI x5), (6, vI x6)] [vI s2, vI s1, vI s0] F := by
  intro o x2 x3 x4 x5 x6 s0 s1 s2 F res ho hx3 hx4 h hq
  refine s_callS (As := [vI s0, vI s1, vI s2]) (rest := []) (r := (some (vI (fX2_canBe s0 s1 s2)))) (F' := F) dX2_readLine_126 (clX2_119 (Nat.le_of_ble_eq_true rfl) (Nat.le_of_ble_eq_true rfl)) rfl ⟨_, _, _, _, rfl, rfl, rfl, rfl⟩ rfl (Nat.le_of_ble_eq_true rfl) ?_
  refine s_if_ne (tgt := 137) dX2_readLine_129 rfl (fun hc1 => ?_) (fun hc1 => ?_)
  · have h := ifp hc1 h
    exact s_sub (ks := [0, 1, 2, 3, 4, 5]) rfl (fX2_readLine_b137_ok k66 hk66 o x2 x3 x4 x5 x6 F _ ho hx3 hx4 h hq)
  · have h := ifn hc1 h
    refine s_aload_n (j := 0) dX2_readLine_132 rfl rfl ?_
    refine s_iconst dX2_readLine_133 (cin rfl) ?_
    refine s_callV (As := [vI 2]) (rest := []) (r := none) (F' := (fX2_note o 2 F)) dX2_readLine_134 (clX2_90 (Nat.le_of_ble_eq_true rfl) (Nat.le_of_ble_eq_true rfl)) ho rfl ⟨_, _, _, rfl, ho, rfl, rfl, rfl⟩ rfl (Nat.le_of_ble_eq_true rfl) ?_
    exact s_sub (ks := [0, 1, 2, 3, 4, 5]) rfl (fX2_readLine_b137_ok k66 hk66 o x2 x3 x4 x5 x6 (fX2_note o 2 F) _ ho hx3 hx4 h hq)
theorem fX2_readLine_b66_ok {Qr : Option PV → Mem → Prop}  : ∀ (n : Nat) (o : Nat) (x2 : Int) (x3 : Nat) (x4 : Nat) (x5 : Int) (x6 : Int) (F : Mem) (res : Mem) (ho : isK o 2) (hx3 : x3 = 0 ∨ isK x3 3) (hx4 : isS x4), fX2_readLine_b66 n o x2 x3 x4 x5 x6 F = some res → Qr none res → PR cX2_readLine (zX2_readLine Qr) 66 [(0, vR o), (2, vI x2), (3, vR x3), (4, vR x4), (5, vI x5), (6, vI x6)] [] F := by
  intro n
  induction n with
  | zero => intro o x2 x3 x4 x5 x6 F res ho hx3 hx4 h hq; exact nomatch (show (none : Option _) = some _ from h)
  | succ n ih =>
    intro o x2 x3 x4 x5 x6 F res ho hx3 hx4 h hq
    refine s_iload (j := 5) dX2_readLine_66 rfl ?_
    refine s_iload (j := 4) dX2_readLine_68 rfl ?_
    refine s_icmp_ge (tgt := 147) dX2_readLine_70 rfl (fun hc1 => ?_) (fun hc1 => ?_)
    · have h := ifp hc1 h
      refine s_aload_n (j := 0) dX2_readLine_147 rfl rfl ?_
      refine s_getI dX2_readLine_148 flX2_19 ho ?_
      refine s_iconst dX2_readLine_151 (cin rfl) ?_
      refine s_icmp_eq (tgt := 160) dX2_readLine_152 rfl (fun hc2 => ?_) (fun hc2 => ?_)
      · have h := ifp hc2 h
        refine s_aload_n (j := 0) dX2_readLine_160 rfl rfl ?_
        obtain ⟨q3, hv4, h⟩ := bnd h
        refine s_callV (As := []) (rest := []) (r := none) (F' := q3) dX2_readLine_161 (clX2_79 (Nat.le_of_ble_eq_true rfl) (Nat.le_of_ble_eq_true rfl)) ho rfl ⟨_, _, rfl, ho, hv4, rfl, rfl⟩ rfl (Nat.le_of_ble_eq_true rfl) ?_
        refine s_aload_n (j := 0) dX2_readLine_164 rfl rfl ?_
        refine s_getI dX2_readLine_165 flX2_35 ho ?_
        refine s_if_ne (tgt := 179) dX2_readLine_168 rfl (fun hc5 => ?_) (fun hc5 => ?_)
        · have h := ifp hc5 h
          have h := Option.some.inj h
          subst h
          exact s_return dX2_readLine_179 rfl hq
        · have h := ifn hc5 h
          refine s_aload_n (j := 0) dX2_readLine_171 rfl rfl ?_
          refine s_iload_n (j := 1) dX2_readLine_172 rfl rfl ?_
          refine s_aload_n (j := 2) dX2_readLine_173 rfl rfl ?_
          refine s_iload (j := 4) dX2_readLine_174 rfl ?_
          obtain ⟨q6, hv7, h⟩ := bnd h
          refine s_callV (As := [vI x2, vR x3, vI x5]) (rest := []) (r := none) (F' := q6) dX2_readLine_176 (clX2_123 (Nat.le_of_ble_eq_true rfl) (Nat.le_of_ble_eq_true rfl)) ho rfl ⟨_, _, _, _, _, rfl, ho, hx3, hv7, rfl, rfl⟩ rfl (Nat.le_of_ble_eq_true rfl) ?_
          have h := Option.some.inj h
          subst h
          exact s_return dX2_readLine_179 rfl hq
      · have h := ifn hc2 h
        refine s_aload_n (j := 0) dX2_readLine_155 rfl rfl ?_
        refine s_callV (As := []) (rest := []) (r := none) (F' := (fX2_refuse o F)) dX2_readLine_156 (clX2_97 (Nat.le_of_ble_eq_true rfl) (Nat.le_of_ble_eq_true rfl)) ho rfl ⟨_, _, rfl, ho, rfl, rfl, rfl⟩ rfl (Nat.le_of_ble_eq_true rfl) ?_
        have h := Option.some.inj h
        subst h
        exact s_return dX2_readLine_159 rfl hq
    · have h := ifn hc1 h
      refine s_aload_n (j := 0) dX2_readLine_73 rfl rfl ?_
      refine s_getI dX2_readLine_74 flX2_19 ho ?_
      refine s_iconst dX2_readLine_77 (cin rfl) ?_
      refine s_icmp_eq (tgt := 86) dX2_readLine_78 rfl (fun hc8 => ?_) (fun hc8 => ?_)
      · have h := ifp hc8 h
        refine s_aload_n (j := 0) dX2_readLine_86 rfl rfl ?_
        refine s_getR dX2_readLine_87 flX2_31 ho ?_
        refine s_iload (j := 5) dX2_readLine_90 rfl ?_
        refine s_aload_n (j := 0) dX2_readLine_92 rfl rfl ?_
        refine s_getI dX2_readLine_93 flX2_28 ho ?_
        obtain ⟨hb9, h⟩ := gd h
        refine s_iastore dX2_readLine_96 (trX2_6 ho) hb9.1 hb9.2 ?_
        refine s_aload (j := 3) dX2_readLine_97 rfl ?_
        refine s_iload (j := 5) dX2_readLine_99 rfl ?_
        obtain ⟨hb10, h⟩ := gd h
        refine s_callT (As := [vI x6]) (rest := []) (r := some (vI (sch x4 x6))) (F' := mset F (o + 1) x6.toNat (F o 5)) dX2_readLine_101 (clX2_115 (Nat.le_of_ble_eq_true rfl) (Nat.le_of_ble_eq_true rfl)) hx4 rfl ⟨_, _, rfl, hx4, hb10.1, hb10.2, rfl, rfl⟩ rfl (Nat.le_of_ble_eq_true rfl) ?_
        refine s_aload_n (j := 0) dX2_readLine_104 rfl rfl ?_
        refine s_getI dX2_readLine_105 flX2_28 ho ?_
        refine s_iload (j := 5) dX2_readLine_108 rfl ?_
        refine s_if_ne (tgt := 117) dX2_readLine_110 rfl (fun hc11 => ?_) (fun hc11 => ?_)
        · have h := ifp hc11 h
          refine s_aload_n (j := 0) dX2_readLine_117 rfl rfl ?_
          refine s_getR dX2_readLine_118 flX2_31 ho ?_
          refine s_iload (j := 5) dX2_readLine_121 rfl ?_
          refine s_iconst dX2_readLine_123 (cin rfl) ?_
          refine s_isub dX2_readLine_124 ?_
          obtain ⟨hb12, h⟩ := gd h
          refine s_iaload dX2_readLine_125 (trX2_6 ho) hb12.1 hb12.2 ?_
          exact s_sub (ks := [0, 1, 2, 3, 4, 5]) rfl (fX2_readLine_b126_ok (fX2_readLine_b66 n) ih o x2 x3 x4 x5 x6 (sch x4 x6) ((mset F (o + 1) x6.toNat (F o 5)) o 5) ((mset F (o + 1) x6.toNat (F o 5)) (o + 1) (xw (x6 - 1)).toNat) (mset F (o + 1) x6.toNat (F o 5)) _ ho hx3 hx4 h hq)
        · have h := ifn hc11 h
          refine s_iconst dX2_readLine_113 (cin rfl) ?_
          refine s_goto (tgt := 126) dX2_readLine_114 rfl ?_
          exact s_sub (ks := [0, 1, 2, 3, 4, 5]) rfl (fX2_readLine_b126_ok (fX2_readLine_b66 n) ih o x2 x3 x4 x5 x6 (sch x4 x6) ((mset F (o + 1) x6.toNat (F o 5)) o 5) (-1) (mset F (o + 1) x6.toNat (F o 5)) _ ho hx3 hx4 h hq)
      · have h := ifn hc8 h
        refine s_aload_n (j := 0) dX2_readLine_81 rfl rfl ?_
        refine s_callV (As := []) (rest := []) (r := none) (F' := (fX2_refuse o F)) dX2_readLine_82 (clX2_97 (Nat.le_of_ble_eq_true rfl) (Nat.le_of_ble_eq_true rfl)) ho rfl ⟨_, _, rfl, ho, rfl, rfl, rfl⟩ rfl (Nat.le_of_ble_eq_true rfl) ?_
        have h := Option.some.inj h
        subst h
        exact s_return dX2_readLine_85 rfl hq
theorem fX2_readLine_b38_ok {Qr : Option PV → Mem → Prop}  : ∀ (o : Nat) (x2 : Int) (x3 : Nat) (F : Mem) (res : Mem) (ho : isK o 2) (hx3 : x3 = 0 ∨ isK x3 3), fX2_readLine_b38 o x2 x3 F = some res → Qr none res → PR cX2_readLine (zX2_readLine Qr) 38 [(0, vR o), (2, vI x2), (3, vR x3)] [] F := by
  intro o x2 x3 F res ho hx3 h hq
  refine s_aload_n (j := 0) dX2_readLine_38 rfl rfl ?_
  obtain ⟨q1, hv2, h⟩ := bnd h
  refine s_callV (As := []) (rest := []) (r := none) (F' := q1) dX2_readLine_39 (clX2_79 (Nat.le_of_ble_eq_true rfl) (Nat.le_of_ble_eq_true rfl)) ho rfl ⟨_, _, rfl, ho, hv2, rfl, rfl⟩ rfl (Nat.le_of_ble_eq_true rfl) ?_
  refine s_iload_n (j := 1) dX2_readLine_42 rfl rfl ?_
  refine s_callS (As := [vI x2]) (rest := []) (r := (some (vR (fX2_rangesOf x2)))) (F' := q1) dX2_readLine_43 (clX2_106 (Nat.le_of_ble_eq_true rfl) (Nat.le_of_ble_eq_true rfl)) rfl ⟨_, _, rfl, rfl, rfl, rfl⟩ rfl (Nat.le_of_ble_eq_true rfl) ?_
  refine s_astore (ls' := [(4, vR (fX2_rangesOf x2)), (0, vR o), (2, vI x2), (3, vR x3)]) dX2_readLine_46 (Nat.le_of_ble_eq_true rfl) rfl ?_
  refine s_aload (j := 0) dX2_readLine_48 rfl ?_
  refine s_callT (As := []) (rest := []) (r := some (vI (slen (fX2_rangesOf x2)))) (F' := q1) dX2_readLine_50 (clX2_110 (Nat.le_of_ble_eq_true rfl) (Nat.le_of_ble_eq_true rfl)) (fX2_rangesOf_rt _ _ rfl) rfl ⟨_, rfl, (fX2_rangesOf_rt _ _ rfl), rfl, rfl⟩ rfl (Nat.le_of_ble_eq_true rfl) ?_
  refine s_aload_n (j := 1) dX2_readLine_53 rfl rfl ?_
  refine s_getR dX2_readLine_54 flX2_31 ho ?_
  refine s_alen dX2_readLine_57 (trX2_6 ho) ?_
  refine s_mmin dX2_readLine_58 mtX2_63 (Nat.le_of_ble_eq_true rfl) ?_
  refine s_istore dX2_readLine_61 (Nat.le_of_ble_eq_true rfl) rfl ?_
  refine s_iconst dX2_readLine_63 (cin rfl) ?_
  refine s_istore (ls' := [(6, vI 0), (5, vI (xmin (slen (fX2_rangesOf x2)) (alen (o + 1) : Int))), (4, vR (fX2_rangesOf x2)), (0, vR o), (2, vI x2), (3, vR x3)]) dX2_readLine_64 (Nat.le_of_ble_eq_true rfl) rfl ?_
  exact s_sub (ks := [3, 4, 5, 2, 1, 0]) rfl (fX2_readLine_b66_ok FU o x2 x3 (fX2_rangesOf x2) (xmin (slen (fX2_rangesOf x2)) (alen (o + 1) : Int)) 0 q1 _ ho hx3 (fX2_rangesOf_rt _ _ rfl) h hq)
theorem fX2_readLine_ok {Qr : Option PV → Mem → Prop} : ∀ (o : Nat) (x1 : Int) (F : Mem) (res : Mem) (ho : isK o 2), fX2_readLine o x1 F = some res → Qr none res → PR cX2_readLine (zX2_readLine Qr) 0 [(0, vR o), (1, vI x1)] [] F := by
  intro o x1 F res ho h hq
  refine s_aload_n (j := 0) dX2_readLine_0 rfl rfl ?_
  refine s_iload_n (j := 1) dX2_readLine_1 rfl rfl ?_
  obtain ⟨r1, hv2, h⟩ := bnd h
  refine s_callV (As := [vI x1]) (rest := []) (r := (some (vI r1))) (F' := F) dX2_readLine_2 (clX2_93 (Nat.le_of_ble_eq_true rfl) (Nat.le_of_ble_eq_true rfl)) ho rfl ⟨_, _, _, rfl, ho, hv2, rfl, rfl⟩ rfl (Nat.le_of_ble_eq_true rfl) ?_
  refine s_istore_n (ls' := [(2, vI r1), (0, vR o), (1, vI x1)]) dX2_readLine_5 rfl (Nat.le_of_ble_eq_true rfl) rfl ?_
  refine s_iload_n (j := 0) dX2_readLine_6 rfl rfl ?_
  refine s_iconst dX2_readLine_7 (cin rfl) ?_
  refine s_icmp_ne (tgt := 16) dX2_readLine_8 rfl (fun hc3 => ?_) (fun hc3 => ?_)
  · have h := ifp hc3 h
    refine s_aload_n (j := 1) dX2_readLine_16 rfl rfl ?_
    refine s_iload_n (j := 0) dX2_readLine_17 rfl rfl ?_
    refine s_callV (As := [vI r1]) (rest := []) (r := (some (vR (fX2_sheetOf o r1)))) (F' := F) dX2_readLine_18 (clX2_100 (Nat.le_of_ble_eq_true rfl) (Nat.le_of_ble_eq_true rfl)) ho rfl ⟨_, _, _, rfl, ho, rfl, rfl, rfl⟩ rfl (Nat.le_of_ble_eq_true rfl) ?_
    refine s_astore_n (ls' := [(3, vR (fX2_sheetOf o r1)), (2, vI r1), (0, vR o), (1, vI x1)]) dX2_readLine_21 rfl (Nat.le_of_ble_eq_true rfl) rfl ?_
    refine s_aload_n (j := 0) dX2_readLine_22 rfl rfl ?_
    refine s_ifnull (tgt := 38) dX2_readLine_23 rfl (fun hc4 => ?_) (fun hc4 => ?_)
    · have h := ifp hc4 h
      exact s_sub (ks := [2, 1, 0]) rfl (fX2_readLine_b38_ok o r1 (fX2_sheetOf o r1) F _ ho (fX2_sheetOf_rt _ _ _ ho rfl) h hq)
    · have h := ifn hc4 h
      refine s_aload_n (j := 0) dX2_readLine_26 rfl rfl ?_
      refine s_callV (As := []) (rest := []) (r := (some (vI (fX3_isFull (fX2_sheetOf o r1) F)))) (F' := F) dX2_readLine_27 (clX2_103 (Nat.le_of_ble_eq_true rfl) (Nat.le_of_ble_eq_true rfl)) ((fX2_sheetOf_rt _ _ _ ho rfl).resolve_left hc4) rfl ⟨_, _, rfl, ((fX2_sheetOf_rt _ _ _ ho rfl).resolve_left hc4), rfl, rfl, rfl⟩ rfl (Nat.le_of_ble_eq_true rfl) ?_
      refine s_if_eq (tgt := 38) dX2_readLine_30 rfl (fun hc5 => ?_) (fun hc5 => ?_)
      · have h := ifp hc5 h
        exact s_sub (ks := [2, 1, 0]) rfl (fX2_readLine_b38_ok o r1 (fX2_sheetOf o r1) F _ ho (Or.inr ((fX2_sheetOf_rt _ _ _ ho rfl).resolve_left hc4)) h hq)
      · have h := ifn hc5 h
        refine s_aload_n (j := 2) dX2_readLine_33 rfl rfl ?_
        refine s_iconst dX2_readLine_34 (cin rfl) ?_
        refine s_callV (As := [vI 3]) (rest := []) (r := none) (F' := (fX2_note o 3 F)) dX2_readLine_35 (clX2_90 (Nat.le_of_ble_eq_true rfl) (Nat.le_of_ble_eq_true rfl)) ho rfl ⟨_, _, _, rfl, ho, rfl, rfl, rfl⟩ rfl (Nat.le_of_ble_eq_true rfl) ?_
        exact s_sub (ks := [2, 1, 0]) rfl (fX2_readLine_b38_ok o r1 (fX2_sheetOf o r1) (fX2_note o 3 F) _ ho (Or.inr ((fX2_sheetOf_rt _ _ _ ho rfl).resolve_left hc4)) h hq)
  · have h := ifn hc3 h
    refine s_aload_n (j := 1) dX2_readLine_11 rfl rfl ?_
    refine s_callV (As := []) (rest := []) (r := none) (F' := (fX2_refuse o F)) dX2_readLine_12 (clX2_97 (Nat.le_of_ble_eq_true rfl) (Nat.le_of_ble_eq_true rfl)) ho rfl ⟨_, _, rfl, ho, rfl, rfl, rfl⟩ rfl (Nat.le_of_ble_eq_true rfl) ?_
    have h := Option.some.inj h
    subst h
    exact s_return dX2_readLine_15 rfl hq
def gX2_readLine : XG := fun As F r F' => ∃ o : Nat, ∃ x1 : Int, ∃ res : Mem, As = [vR o, vI x1] ∧ isK o 2 ∧ fX2_readLine o x1 F = some res ∧ r = none ∧ F' = res
theorem ctX2_readLine : xCT yX2_readLine cX2_readLine 7 (none) 6 129 gX2_readLine := xmet (by decide +kernel) (fun As F r F' hg => by obtain ⟨o, x1, res, rfl, ho, h, rfl, rfl⟩ := hg; exact Nat.le_of_ble_eq_true rfl) (fun As F r F' hg => by obtain ⟨o, x1, res, rfl, ho, h, rfl, rfl⟩ := hg; exact fX2_readLine_ok o x1 _ _ ho h ⟨rfl, rfl⟩)
theorem mcX2_readLine : Cond.code yX2_readLine cX2_readLine 7 (none) ∈ xw_T ∧ Cond.initialized yX2_readLine.cls ∈ xw_T ∧ Cond.instanceMethod yX2_readLine ∈ xw_T ∧ Cond.selects yX2_readLine.cls yX2_readLine yX2_readLine ∈ xw_T := ⟨(xinT 585 (by decide +kernel) (by decide +kernel)), (xinT 121 (by decide +kernel) (by decide +kernel)), (xinT 584 (by decide +kernel) (by decide +kernel)), (xinT 3 (by decide +kernel) (by decide +kernel))⟩
theorem clX2_82 {fr lo : Nat} (h1 : 6 + 1 ≤ fr) (h2 : 8 + (7 + 11) + 129 ≤ lo) : xCall RX2 fr lo 0 82 2 1 gX2_readLine := ⟨_, _, _, _, _, _, ctX2_readLine, h1, h2, mcX2_readLine.1, (xinT 582 (by decide +kernel) (by decide +kernel)), mcX2_readLine.2.1, ⟨by decide +kernel, by decide +kernel, by decide +kernel⟩, by rw [if_pos rfl]; exact ⟨mcX2_readLine.2.2.1, mcX2_readLine.2.2.2, _, _, rfl⟩⟩
theorem dX2_read_0 : decode cX2_read 0 = .ok (.aload_n 0, 1) := by decide +kernel
theorem dX2_read_1 : decode cX2_read 1 = .ok (.aload_n 2, 1) := by decide +kernel
theorem dX2_read_2 : decode cX2_read 2 = .ok (.putfield 9, 3) := by decide +kernel
theorem dX2_read_5 : decode cX2_read 5 = .ok (.aload_n 0, 1) := by decide +kernel
theorem dX2_read_6 : decode cX2_read 6 = .ok (.aload_n 2, 1) := by decide +kernel
theorem dX2_read_7 : decode cX2_read 7 = .ok (.ifnonnull 7, 3) := by decide +kernel
theorem dX2_read_10 : decode cX2_read 10 = .ok (.iconst 0, 1) := by decide +kernel
theorem dX2_read_11 : decode cX2_read 11 = .ok (.goto 9, 3) := by decide +kernel
theorem dX2_read_14 : decode cX2_read 14 = .ok (.iload_n 3, 1) := by decide +kernel
theorem dX2_read_15 : decode cX2_read 15 = .ok (.aload_n 2, 1) := by decide +kernel
theorem dX2_read_16 : decode cX2_read 16 = .ok (.arraylength, 1) := by decide +kernel
theorem dX2_read_17 : decode cX2_read 17 = .ok (.invokestatic 63, 3) := by decide +kernel
theorem dX2_read_20 : decode cX2_read 20 = .ok (.putfield 15, 3) := by decide +kernel
theorem dX2_read_23 : decode cX2_read 23 = .ok (.aload_n 0, 1) := by decide +kernel
theorem dX2_read_24 : decode cX2_read 24 = .ok (.iconst 0, 1) := by decide +kernel
theorem dX2_read_25 : decode cX2_read 25 = .ok (.putfield 25, 3) := by decide +kernel
theorem dX2_read_28 : decode cX2_read 28 = .ok (.aload_n 0, 1) := by decide +kernel
theorem dX2_read_29 : decode cX2_read 29 = .ok (.iconst 0, 1) := by decide +kernel
theorem dX2_read_30 : decode cX2_read 30 = .ok (.putfield 35, 3) := by decide +kernel
theorem dX2_read_33 : decode cX2_read 33 = .ok (.aload_n 0, 1) := by decide +kernel
theorem dX2_read_34 : decode cX2_read 34 = .ok (.iconst (-1), 1) := by decide +kernel
theorem dX2_read_35 : decode cX2_read 35 = .ok (.putfield 38, 3) := by decide +kernel
theorem dX2_read_38 : decode cX2_read 38 = .ok (.aload_n 0, 1) := by decide +kernel
theorem dX2_read_39 : decode cX2_read 39 = .ok (.getfield 44, 3) := by decide +kernel
theorem dX2_read_42 : decode cX2_read 42 = .ok (.invokevirtual 69, 3) := by decide +kernel
theorem dX2_read_45 : decode cX2_read 45 = .ok (.aload_n 0, 1) := by decide +kernel
theorem dX2_read_46 : decode cX2_read 46 = .ok (.iload_n 1, 1) := by decide +kernel
theorem dX2_read_47 : decode cX2_read 47 = .ok (.invokevirtual 72, 3) := by decide +kernel
theorem dX2_read_50 : decode cX2_read 50 = .ok (.iconst 0, 1) := by decide +kernel
theorem dX2_read_51 : decode cX2_read 51 = .ok (.putfield 76, 3) := by decide +kernel
theorem dX2_read_54 : decode cX2_read 54 = .ok (.aload_n 0, 1) := by decide +kernel
theorem dX2_read_55 : decode cX2_read 55 = .ok (.invokevirtual 79, 3) := by decide +kernel
theorem dX2_read_58 : decode cX2_read 58 = .ok (.iconst 0, 1) := by decide +kernel
theorem dX2_read_59 : decode cX2_read 59 = .ok (.istore 4, 2) := by decide +kernel
theorem dX2_read_61 : decode cX2_read 61 = .ok (.iload 4, 2) := by decide +kernel
theorem dX2_read_63 : decode cX2_read 63 = .ok (.sipush 600, 3) := by decide +kernel
theorem dX2_read_66 : decode cX2_read 66 = .ok (.if_icmp .gt 29, 3) := by decide +kernel
theorem dX2_read_69 : decode cX2_read 69 = .ok (.aload_n 0, 1) := by decide +kernel
theorem dX2_read_70 : decode cX2_read 70 = .ok (.getfield 19, 3) := by decide +kernel
theorem dX2_read_73 : decode cX2_read 73 = .ok (.ifCond .eq 22, 3) := by decide +kernel
theorem dX2_read_76 : decode cX2_read 76 = .ok (.aload_n 0, 1) := by decide +kernel
theorem dX2_read_77 : decode cX2_read 77 = .ok (.getfield 35, 3) := by decide +kernel
theorem dX2_read_80 : decode cX2_read 80 = .ok (.iconst 1, 1) := by decide +kernel
theorem dX2_read_81 : decode cX2_read 81 = .ok (.if_icmp .eq 14, 3) := by decide +kernel
theorem dX2_read_84 : decode cX2_read 84 = .ok (.aload_n 0, 1) := by decide +kernel
theorem dX2_read_85 : decode cX2_read 85 = .ok (.iload_n 1, 1) := by decide +kernel
theorem dX2_read_86 : decode cX2_read 86 = .ok (.invokevirtual 82, 3) := by decide +kernel
theorem dX2_read_89 : decode cX2_read 89 = .ok (.iinc 4 1, 3) := by decide +kernel
theorem dX2_read_92 : decode cX2_read 92 = .ok (.goto (-31), 3) := by decide +kernel
theorem dX2_read_95 : decode cX2_read 95 = .ok (.iload_n 1, 1) := by decide +kernel
theorem dX2_read_96 : decode cX2_read 96 = .ok (.ifCond .ne 18, 3) := by decide +kernel
theorem dX2_read_99 : decode cX2_read 99 = .ok (.aload_n 0, 1) := by decide +kernel
theorem dX2_read_100 : decode cX2_read 100 = .ok (.getfield 44, 3) := by decide +kernel
theorem dX2_read_103 : decode cX2_read 103 = .ok (.invokevirtual 86, 3) := by decide +kernel
theorem dX2_read_106 : decode cX2_read 106 = .ok (.ifCond .ne 8, 3) := by decide +kernel
theorem dX2_read_109 : decode cX2_read 109 = .ok (.aload_n 0, 1) := by decide +kernel
theorem dX2_read_110 : decode cX2_read 110 = .ok (.iconst 4, 1) := by decide +kernel
theorem dX2_read_111 : decode cX2_read 111 = .ok (.invokevirtual 90, 3) := by decide +kernel
theorem dX2_read_114 : decode cX2_read 114 = .ok (.return_, 1) := by decide +kernel
def zX2_read (Qr : Option PV → Mem → Prop) : XZ := (RX2, 7, 155, 5, none, Qr)
noncomputable def fX2_read_b95 (o : Nat) (x1 : Int) (F : Mem) : Option Mem :=
  if x1 ≠ 0 then
    some F
  else
    (fX7_stands (o + 2) F).bind fun r2 =>
    if r2 ≠ 0 then
      some F
    else
      some (fX2_note o 4 F)
noncomputable def fX2_read_b61 : Nat → Nat → Int → Int → Mem → Option Mem
  | 0, _, _, _, _ => none
  | n + 1, o, x1, x4, F =>
    if 600 < x4 then
      fX2_read_b95 o x1 F
    else
      if (F o 2) = 0 then
        fX2_read_b95 o x1 F
      else
        if (F o 7) = 1 then
          fX2_read_b95 o x1 F
        else
          (fX2_readLine o x1 F).bind fun q4 =>
          fX2_read_b61 n o x1 (xw (x4 + 1)) q4
noncomputable def fX2_read_b20 (o : Nat) (x1 : Int) (s0 : Nat) (s1 : Int) (F : Mem) : Option Mem :=
  (fX2_takeToken o (mset (fX7_clear (o + 2) (mset (mset (mset (mset F s0 1 s1) o 4 0) o 7 0) o 8 (-1))) (fX2_sheetFor o x1) 3 0)).bind fun q1 =>
  fX2_read_b61 FU o x1 0 q1
noncomputable def fX2_read (o : Nat) (x1 : Int) (x2 : Nat) (x3 : Int) (F : Mem) : Option Mem :=
  if x2 = 0 then
    fX2_read_b20 o x1 o 0 (mset F o 0 (x2 : Int))
  else
    fX2_read_b20 o x1 o (xmin x3 (alen x2 : Int)) (mset F o 0 (x2 : Int))
theorem fX2_read_b95_ok {Qr : Option PV → Mem → Prop}  : ∀ (o : Nat) (x1 : Int) (F : Mem) (res : Mem) (ho : isK o 2), fX2_read_b95 o x1 F = some res → Qr none res → PR cX2_read (zX2_read Qr) 95 [(0, vR o), (1, vI x1)] [] F := by
  intro o x1 F res ho h hq
  refine s_iload_n (j := 1) dX2_read_95 rfl rfl ?_
  refine s_if_ne (tgt := 114) dX2_read_96 rfl (fun hc1 => ?_) (fun hc1 => ?_)
  · have h := ifp hc1 h
    have h := Option.some.inj h
    subst h
    exact s_return dX2_read_114 rfl hq
  · have h := ifn hc1 h
    refine s_aload_n (j := 0) dX2_read_99 rfl rfl ?_
    refine s_getR dX2_read_100 flX2_44 ho ?_
    obtain ⟨r2, hv3, h⟩ := bnd h
    refine s_callV (As := []) (rest := []) (r := (some (vI r2))) (F' := F) dX2_read_103 (clX2_86 (Nat.le_of_ble_eq_true rfl) (Nat.le_of_ble_eq_true rfl)) (trX2_9 ho) rfl ⟨_, _, rfl, (trX2_9 ho), hv3, rfl, rfl⟩ rfl (Nat.le_of_ble_eq_true rfl) ?_
    refine s_if_ne (tgt := 114) dX2_read_106 rfl (fun hc4 => ?_) (fun hc4 => ?_)
    · have h := ifp hc4 h
      have h := Option.some.inj h
      subst h
      exact s_return dX2_read_114 rfl hq
    · have h := ifn hc4 h
      refine s_aload_n (j := 0) dX2_read_109 rfl rfl ?_
      refine s_iconst dX2_read_110 (cin rfl) ?_
      refine s_callV (As := [vI 4]) (rest := []) (r := none) (F' := (fX2_note o 4 F)) dX2_read_111 (clX2_90 (Nat.le_of_ble_eq_true rfl) (Nat.le_of_ble_eq_true rfl)) ho rfl ⟨_, _, _, rfl, ho, rfl, rfl, rfl⟩ rfl (Nat.le_of_ble_eq_true rfl) ?_
      have h := Option.some.inj h
      subst h
      exact s_return dX2_read_114 rfl hq
theorem fX2_read_b61_ok {Qr : Option PV → Mem → Prop}  : ∀ (n : Nat) (o : Nat) (x1 : Int) (x4 : Int) (F : Mem) (res : Mem) (ho : isK o 2), fX2_read_b61 n o x1 x4 F = some res → Qr none res → PR cX2_read (zX2_read Qr) 61 [(0, vR o), (1, vI x1), (4, vI x4)] [] F := by
  intro n
  induction n with
  | zero => intro o x1 x4 F res ho h hq; exact nomatch (show (none : Option _) = some _ from h)
  | succ n ih =>
    intro o x1 x4 F res ho h hq
    refine s_iload (j := 2) dX2_read_61 rfl ?_
    refine s_sipush dX2_read_63 rfl (cin rfl) ?_
    refine s_icmp_gt (tgt := 95) dX2_read_66 rfl (fun hc1 => ?_) (fun hc1 => ?_)
    · have h := ifp hc1 h
      exact s_sub (ks := [0, 1]) rfl (fX2_read_b95_ok o x1 F _ ho h hq)
    · have h := ifn hc1 h
      refine s_aload_n (j := 0) dX2_read_69 rfl rfl ?_
      refine s_getI dX2_read_70 flX2_19 ho ?_
      refine s_if_eq (tgt := 95) dX2_read_73 rfl (fun hc2 => ?_) (fun hc2 => ?_)
      · have h := ifp hc2 h
        exact s_sub (ks := [0, 1]) rfl (fX2_read_b95_ok o x1 F _ ho h hq)
      · have h := ifn hc2 h
        refine s_aload_n (j := 0) dX2_read_76 rfl rfl ?_
        refine s_getI dX2_read_77 flX2_35 ho ?_
        refine s_iconst dX2_read_80 (cin rfl) ?_
        refine s_icmp_eq (tgt := 95) dX2_read_81 rfl (fun hc3 => ?_) (fun hc3 => ?_)
        · have h := ifp hc3 h
          exact s_sub (ks := [0, 1]) rfl (fX2_read_b95_ok o x1 F _ ho h hq)
        · have h := ifn hc3 h
          refine s_aload_n (j := 0) dX2_read_84 rfl rfl ?_
          refine s_iload_n (j := 1) dX2_read_85 rfl rfl ?_
          obtain ⟨q4, hv5, h⟩ := bnd h
          refine s_callV (As := [vI x1]) (rest := []) (r := none) (F' := q4) dX2_read_86 (clX2_82 (Nat.le_of_ble_eq_true rfl) (Nat.le_of_ble_eq_true rfl)) ho rfl ⟨_, _, _, rfl, ho, hv5, rfl, rfl⟩ rfl (Nat.le_of_ble_eq_true rfl) ?_
          refine s_iinc (ls' := [(4, vI (xw (x4 + 1))), (0, vR o), (1, vI x1)]) (j := 2) dX2_read_89 rfl (Nat.le_of_ble_eq_true rfl) rfl ?_
          refine s_goto (tgt := 61) dX2_read_92 rfl ?_
          exact s_sub (ks := [1, 2, 0]) rfl (ih o x1 (xw (x4 + 1)) q4 _ ho h hq)
theorem fX2_read_b20_ok {Qr : Option PV → Mem → Prop}  : ∀ (o : Nat) (x1 : Int) (s0 : Nat) (s1 : Int) (F : Mem) (res : Mem) (ho : isK o 2) (hs0 : isK s0 2), fX2_read_b20 o x1 s0 s1 F = some res → Qr none res → PR cX2_read (zX2_read Qr) 20 [(0, vR o), (1, vI x1)] [vI s1, vR s0] F := by
  intro o x1 s0 s1 F res ho hs0 h hq
  refine s_putI dX2_read_20 flX2_15 fpX2_1 hs0 ?_
  refine s_aload_n (j := 0) dX2_read_23 rfl rfl ?_
  refine s_iconst dX2_read_24 (cin rfl) ?_
  refine s_putI dX2_read_25 flX2_25 fpX2_4 ho ?_
  refine s_aload_n (j := 0) dX2_read_28 rfl rfl ?_
  refine s_iconst dX2_read_29 (cin rfl) ?_
  refine s_putI dX2_read_30 flX2_35 fpX2_7 ho ?_
  refine s_aload_n (j := 0) dX2_read_33 rfl rfl ?_
  refine s_iconst dX2_read_34 (cin rfl) ?_
  refine s_putI dX2_read_35 flX2_38 fpX2_8 ho ?_
  refine s_aload_n (j := 0) dX2_read_38 rfl rfl ?_
  refine s_getR dX2_read_39 flX2_44 ho ?_
  refine s_callV (As := []) (rest := []) (r := none) (F' := (fX7_clear (o + 2) (mset (mset (mset (mset F s0 1 s1) o 4 0) o 7 0) o 8 (-1)))) dX2_read_42 (clX2_69 (Nat.le_of_ble_eq_true rfl) (Nat.le_of_ble_eq_true rfl)) (trX2_9 ho) rfl ⟨_, _, rfl, (trX2_9 ho), rfl, rfl, rfl⟩ rfl (Nat.le_of_ble_eq_true rfl) ?_
  refine s_aload_n (j := 0) dX2_read_45 rfl rfl ?_
  refine s_iload_n (j := 1) dX2_read_46 rfl rfl ?_
  refine s_callV (As := [vI x1]) (rest := []) (r := (some (vR (fX2_sheetFor o x1)))) (F' := (fX7_clear (o + 2) (mset (mset (mset (mset F s0 1 s1) o 4 0) o 7 0) o 8 (-1)))) dX2_read_47 (clX2_72 (Nat.le_of_ble_eq_true rfl) (Nat.le_of_ble_eq_true rfl)) ho rfl ⟨_, _, _, rfl, ho, rfl, rfl, rfl⟩ rfl (Nat.le_of_ble_eq_true rfl) ?_
  refine s_iconst dX2_read_50 (cin rfl) ?_
  refine s_putI dX2_read_51 flX2_76 fpX3_3 (fX2_sheetFor_rt _ _ _ ho rfl) ?_
  refine s_aload_n (j := 0) dX2_read_54 rfl rfl ?_
  obtain ⟨q1, hv2, h⟩ := bnd h
  refine s_callV (As := []) (rest := []) (r := none) (F' := q1) dX2_read_55 (clX2_79 (Nat.le_of_ble_eq_true rfl) (Nat.le_of_ble_eq_true rfl)) ho rfl ⟨_, _, rfl, ho, hv2, rfl, rfl⟩ rfl (Nat.le_of_ble_eq_true rfl) ?_
  refine s_iconst dX2_read_58 (cin rfl) ?_
  refine s_istore (ls' := [(4, vI 0), (0, vR o), (1, vI x1)]) dX2_read_59 (Nat.le_of_ble_eq_true rfl) rfl ?_
  exact s_sub (ks := [1, 2, 0]) rfl (fX2_read_b61_ok FU o x1 0 q1 _ ho h hq)
theorem fX2_read_ok {Qr : Option PV → Mem → Prop} : ∀ (o : Nat) (x1 : Int) (x2 : Nat) (x3 : Int) (F : Mem) (res : Mem) (ho : isK o 2) (hx2 : x2 = 0 ∨ isA x2 1), fX2_read o x1 x2 x3 F = some res → Qr none res → PR cX2_read (zX2_read Qr) 0 [(0, vR o), (1, vI x1), (2, vR x2), (3, vI x3)] [] F := by
  intro o x1 x2 x3 F res ho hx2 h hq
  refine s_aload_n (j := 0) dX2_read_0 rfl rfl ?_
  refine s_aload_n (j := 2) dX2_read_1 rfl rfl ?_
  refine s_putM dX2_read_2 flX2_9 fpX2_0 (Or.inr ⟨_, rfl⟩) ho hx2 ?_
  refine s_aload_n (j := 0) dX2_read_5 rfl rfl ?_
  refine s_aload_n (j := 2) dX2_read_6 rfl rfl ?_
  refine s_ifnonnull (tgt := 14) dX2_read_7 rfl (fun hc1 => ?_) (fun hc1 => ?_)
  · have h := ifn hc1 h
    refine s_iload_n (j := 3) dX2_read_14 rfl rfl ?_
    refine s_aload_n (j := 2) dX2_read_15 rfl rfl ?_
    refine s_alen dX2_read_16 (hx2.resolve_left hc1) ?_
    refine s_mmin dX2_read_17 mtX2_63 (Nat.le_of_ble_eq_true rfl) ?_
    exact s_sub (ks := [0, 1]) rfl (fX2_read_b20_ok o x1 o (xmin x3 (alen x2 : Int)) (mset F o 0 (x2 : Int)) _ ho ho h hq)
  · have h := ifp hc1 h
    refine s_iconst dX2_read_10 (cin rfl) ?_
    refine s_goto (tgt := 20) dX2_read_11 rfl ?_
    exact s_sub (ks := [0, 1]) rfl (fX2_read_b20_ok o x1 o 0 (mset F o 0 (x2 : Int)) _ ho ho h hq)
def gX2_read : XG := fun As F r F' => ∃ o : Nat, ∃ x1 : Int, ∃ x2 : Nat, ∃ x3 : Int, ∃ res : Mem, As = [vR o, vI x1, vR x2, vI x3] ∧ isK o 2 ∧ (x2 = 0 ∨ isA x2 1) ∧ fX2_read o x1 x2 x3 F = some res ∧ r = none ∧ F' = res
theorem ctX2_read : xCT yX2_read cX2_read 5 (none) 7 155 gX2_read := xmet (by decide +kernel) (fun As F r F' hg => by obtain ⟨o, x1, x2, x3, res, rfl, ho, hx2, h, rfl, rfl⟩ := hg; exact Nat.le_of_ble_eq_true rfl) (fun As F r F' hg => by obtain ⟨o, x1, x2, x3, res, rfl, ho, hx2, h, rfl, rfl⟩ := hg; exact fX2_read_ok o x1 x2 x3 _ _ ho hx2 h ⟨rfl, rfl⟩)
theorem mcX2_read : Cond.code yX2_read cX2_read 5 (none) ∈ xw_T ∧ Cond.initialized yX2_read.cls ∈ xw_T ∧ Cond.instanceMethod yX2_read ∈ xw_T ∧ Cond.selects yX2_read.cls yX2_read yX2_read ∈ xw_T := ⟨(xinT 557 (by decide +kernel) (by decide +kernel)), (xinT 121 (by decide +kernel) (by decide +kernel)), (xinT 555 (by decide +kernel) (by decide +kernel)), (xinT 556 (by decide +kernel) (by decide +kernel))⟩
theorem clX9_89 {fr lo : Nat} (h1 : 7 + 1 ≤ fr) (h2 : 8 + (5 + 11) + 155 ≤ lo) : xCall RX9 fr lo 0 89 2 3 gX2_read := ⟨_, _, _, _, _, _, ctX2_read, h1, h2, mcX2_read.1, (xinT 554 (by decide +kernel) (by decide +kernel)), mcX2_read.2.1, ⟨by decide +kernel, by decide +kernel, by decide +kernel⟩, by rw [if_pos rfl]; exact ⟨mcX2_read.2.2.1, mcX2_read.2.2.2, _, _, rfl⟩⟩
