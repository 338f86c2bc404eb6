/-! ===== from the law's entry ===== -/
def MF : CM := mkX10 173 (c_al (mkX9 1 (c_al (0, [], []))))
def F00 : Mem := fL MF.2.2
theorem MF_flags : flagsOK MF = true := by decide +kernel
theorem MF_mem : memOK MF.2.2 = true := by decide +kernel
theorem xWs_D {ad : Nat → Nat} {base : Nat} (ha : xAd ad base) (cA : Nat → ClassId) (F : Mem) : va_D (xA ad) (xWs ad cA F) := by
  have hg : ∀ (k : Nat) (q : Nat × va_E), (xWs ad cA F)[k]? = some q → k < layN ∧ q.1 = ad (k + 1) := by
    intro k q hk
    have h1 := (List.getElem?_eq_some_iff.mp hk).1
    unfold xWs at h1 hk
    rw [List.length_map, List.length_range] at h1
    rw [List.getElem?_map, List.getElem?_range h1] at hk
    cases hk
    exact ⟨h1, rfl⟩
  refine ⟨fun i j p q hp hq hpq => ?_, fun k q hk => ?_⟩
  · obtain ⟨h1, h2⟩ := hg i p hp
    obtain ⟨h3, h4⟩ := hg j q hq
    rw [h2, h4, ha i h1, ha j h3] at hpq
    omega
  · obtain ⟨h1, h2⟩ := hg k q hk
    have h4 : layT.length = layN := by decide +kernel
    have h3 : k < layT.length := by omega
    exact ⟨k + 1, layT[k], List.getElem?_eq_getElem h3, h2⟩
theorem ss187 : ssum 187 - ssum 0 ≤ 7302250 := by decide +kernel
set_option maxRecDepth 100000 in
set_option maxHeartbeats 4000000 in
theorem start_of {p : Program} {e : Env} {s : State} {m : MethodId} {below : List Frame} {meth : Method} {c : Code} (l : Launch) {b L : Nat} {xs : Nat → Int32} (hL : L ≤ 4608) (C0 : lw_At p s m meth c b L xs) {RR : Mem → Prop} (hp : ∀ i j, lawC RR i xs j) (hR0 : RR F00) : W p l e room_1 s m #[Value.ref b] below meth c s.heap [] 0 0 (lw_Z below #[Value.ref b] s) (entryFrame m ([Value.ref b] : List Value).toArray 4) := by
  obtain ⟨hx, hb, hr, hml, hown, hts, hX, hbl, hlocks, hgv⟩ := id C0
  obtain ⟨hAO, D, cA, hK⟩ := va_K0 hts
  obtain ⟨ad, hAd, hadb, hA, hE⟩ := env0 hts (flat_of_before _ hgv) b
  have hts2 : ∀ w ∈ xw_T, w.before #[Value.ref b] s = true := fun w hw => hts w (List.mem_filter.mp hw).1
  have CL : LX p s m meth c b L xs D ad cA := ⟨hx, hb, hml, hown, hts2, hK, hE, hX, hbl, fun h => absurd (hA b h) (Nat.not_le.mpr hbl), hL, hr, hlocks, hA⟩
  have C : XCX p room_1 s m #[Value.ref b] meth c code R_law 12 454 4 0 187 s.heap.size D ad cA := ⟨hx, hb, hml, hown, hts2, hK, hAd, hlocks, rfl, rfl, Nat.le_of_ble_eq_true rfl, ss187, Nat.le_refl _, hAO⟩
  have hl := lv_entry ([.ref b]) (n := 4) (Nat.le_of_ble_eq_true rfl)
  rw [lg_entry_eq]
  generalize (lg_sl ([.ref b]) ++ List.replicate (4 - (lg_sl ([.ref b])).length) Slot.unset).toArray = ls at hl ⊢
  have hl : lv_has ls 4 ([((0 : Nat), vR 4000)].map (cvp ad)) := by
    show lv_has ls 4 [(0, .ref (ad 4000))]
    rw [hadb]
    exact hl
  have K : XCP p l e room_1 s m #[Value.ref b] below meth c 4 0 s.heap.size D ad cA (lw_Z below #[Value.ref b] s) 0 [(0, vR 4000)] [] (0, [], []) := by
    refine cx_new C (C0 := RX9) (N := 10) dL_law_0 (rfl : lay 1 = some (.inl (9, []))) (xinT 133 (by decide +kernel) (by decide +kernel)) (xinT 134 (by decide +kernel) (by decide +kernel)) (xinT 116 (by decide +kernel) (by decide +kernel)) rfl (Nat.le_of_ble_eq_true rfl) ?_
    refine cx_dup C dL_law_3 rfl ?_
    refine cx_callI' C (As := []) (rest := [vR 1]) dL_law_4 (fun hfr => ccX9 (o := 1) rfl rfl hfr) (Nat.le_of_ble_eq_true rfl) (Nat.le_of_ble_eq_true rfl) mcI9.1 (xinT 135 (by decide +kernel) (by decide +kernel)) mcI9.2.1 mcI9.2.2 rfl ⟨by decide +kernel, by decide +kernel, by decide +kernel⟩ (by omega) rfl rfl (Nat.le_of_ble_eq_true rfl) rfl (ssX9 rfl) (Nat.le_of_ble_eq_true rfl) (Nat.le_of_ble_eq_true rfl) (fun q => cfrX9 rfl q) ?_
    refine cx_astore_n C (ls' := [(1, vR 1), (0, vR 4000)]) dL_law_7 rfl (Nat.le_of_ble_eq_true rfl) rfl (by omega) ?_
    refine cx_new C (C0 := RX10) (N := 48) dL_law_8 (rfl : lay 173 = some (.inl (10, []))) (xinT 1321 (by decide +kernel) (by decide +kernel)) (xinT 1322 (by decide +kernel) (by decide +kernel)) (xinT 127 (by decide +kernel) (by decide +kernel)) rfl (Nat.le_of_ble_eq_true rfl) ?_
    refine cx_dup C dL_law_11 rfl ?_
    refine cx_callI' C (As := []) (rest := [vR 173]) dL_law_12 (fun hfr => ccX10 (o := 173) rfl rfl hfr) (Nat.le_of_ble_eq_true rfl) (Nat.le_of_ble_eq_true rfl) mcI10.1 (xinT 1323 (by decide +kernel) (by decide +kernel)) mcI10.2.1 mcI10.2.2 rfl ⟨by decide +kernel, by decide +kernel, by decide +kernel⟩ (by omega) rfl rfl (Nat.le_of_ble_eq_true rfl) rfl (ssX10 rfl) (Nat.le_of_ble_eq_true rfl) (Nat.le_of_ble_eq_true rfl) (fun q => cfrX10 rfl q) ?_
    refine cx_astore_n C (ls' := [(2, vR 173), (1, vR 1), (0, vR 4000)]) dL_law_15 rfl (Nat.le_of_ble_eq_true rfl) rfl (by omega) ?_
    refine cx_iconst C dL_law_16 (cin rfl) ?_
    refine cx_istore_n C (ls' := [(3, vI 0), (2, vR 173), (1, vR 1), (0, vR 4000)]) dL_law_17 rfl (Nat.le_of_ble_eq_true rfl) rfl ?_
    intro H locs lsA hl hs hfr hn hn0 hz hP hS hL2
    have hL3 : lv_has lsA 4 (lloc ad b 0) := by
      have h := lv_sub hL2 [3, 2, 1, 0] rfl
      unfold lloc
      rw [← hadb]
      exact h
    refine W.widen (k := 600000) (n := 7302250) (Nat.le_of_ble_eq_true rfl) ss187 ?_
    exact law_loop CL hp (L + 1) 0 F00 (Nat.zero_le L) (by omega) hR0 H locs lsA (mok_fL MF_mem) (fun v hv => by cases hv) (xP_full (M := MF) rfl MF_flags hP) (xWs_D hAd cA F00) hS hL3
  have h2 := K s.heap [] ls (fun q hq => by rcases List.mem_cons.mp hq with rfl | hq <;> first | trivial | cases hq) (fun v hv => by cases hv) (fun o k _ => ⟨rfl, rfl⟩) (Nat.zero_le _) (Nat.le_refl _) rfl (fun k q h => by cases h) va_S.rf hl
  exact h2
