section XS4
variable {p : Program} {l : Launch} {e : Env} {R : Room} {s : State} {m : MethodId} {args : Array Value} {below : List Frame} {meth : Method} {c : Code} {Q : State → Prop} {cc : ByteArray} {Z : XZ} {D : va_G} {ad : Nat → Nat} {cA : Nat → ClassId}
theorem x_acopyT {t : Nat} {ty : FieldType} (hty : (xTys cA)[t]? = some (cA t, ty)) (hpr : refKind ty = false) (ht3 : t ≠ 3) (C : XCx p R s m args meth c cc Z D ad cA) {pc : Nat} {ls : List (Nat × PV)} {st : List PV} {F : Mem} {idx so d : Nat} {sp dp n : Int}
    (hd : decode cc pc = .ok (.invokestatic idx, 3)) (hmm : xMath Z.1 Z.2.1 Z.2.2.1 idx arraycopyName) (hs0 : isA so t) (hd0 : isA d t) (h1 : 0 ≤ sp) (h2 : 0 ≤ dp) (h3 : 0 ≤ n) (h4 : sp + n ≤ (alen so : Int)) (h5 : dp + n ≤ (alen d : Int))
    (hfit : ∀ k, sp ≤ (k : Nat) → (k : Int) < sp + n → fits ty (.int (Int32.ofInt (F so k))) = true) (hw : xcats st ≤ 8)
    (h : XWP p l e R s m args below meth c Z D ad cA Q (pc + 3) ls st (fun o k => if o = d ∧ dp.toNat ≤ k ∧ k < dp.toNat + n.toNat then F so (sp.toNat + (k - dp.toNat)) else F o k)) :
    XWP p l e R s m args below meth c Z D ad cA Q pc ls (vI n :: vI dp :: vR d :: vI sp :: vR so :: st) F := by
  intro H locs lsA hm hl hs hP hD hS hL
  obtain ⟨hlink, hm1, hm2⟩ := hmm
  have in_ : in32 n := st_hd hs
  have idp : in32 dp := st_hd (st_tl hs)
  have isp : in32 sp := st_hd (st_tl (st_tl (st_tl hs)))
  show W _ _ _ _ _ _ _ _ _ _ _ _ _ _ _ (F0 m pc lsA (Value.int (Int32.ofInt n) :: Value.int (Int32.ofInt dp) :: cv ad (vR d) :: Value.int (Int32.ofInt sp) :: cv ad (vR so) :: st.map (cv ad)))
  rw [cv_R (lay_ne0 (isA_n hs0)), cv_R (lay_ne0 (isA_n hd0))]
  have n0 : ∀ {x : Int}, 0 ≤ x → in32 x → ¬ Int32.ofInt x < 0 := fun {x} q r z => by
    rw [i32_zero] at z
    have := (i32_lt r in32_0).mp z
    omega
  have e1 := cl_of h1 isp
  have e2 := cl_of h2 idp
  have e3 := cl_of h3 in_
  have hnw : nativeFrameWords "java/lang/System" "arraycopy" 5 ≤ 20 := by decide +kernel
  refine va_copyi C.1 C.2.1 (C.2.2.1.trans hL.1.symm) C.2.2.2.1 (C.2.2.2.2.1 _ hlink) (C.2.2.2.2.1 _ mm_copy.1) (C.2.2.2.2.1 _ mm_copy.2.1) (C.2.2.2.2.1 _ mm_copy.2.2) C.2.2.2.2.2.1 hP hD hS (so - 1) (d - 1) t t (xWs_arr ad cA F hs0 ht3) (xWs_arr ad cA F hd0 ht3) hty hty hpr (n0 h1 isp) (n0 h2 idp) (n0 h3 in_) (by rw [e1, e3]; omega) (by rw [e2, e3]; omega) (fun i hi => ?_) (by rw [C.2.2.2.2.2.2.2.2.2.1]; exact hm1) (by rw [C.2.2.2.2.2.2.2.2.2.2, xcats_map]; omega) hd (fun H1 locs1 hP1 hD1 hS1 => ?_)
  · rw [e3] at hi
    rw [e1]
    exact hfit (sp.toNat + i) (by omega) (by omega)
  · rw [e1, e2, e3] at hP1 hD1
    have e : (xWs ad cA F).set (d - 1) (ad d, .inl (cA t, alen d, .inl (va_cpy (fun k => Int32.ofInt (F so k)) (fun k => Int32.ofInt (F d k)) sp.toNat dp.toNat n.toNat))) = xWs ad cA (fun o k => if o = d ∧ dp.toNat ≤ k ∧ k < dp.toNat + n.toNat then F so (sp.toNat + (k - dp.toNat)) else F o k) := by
      refine xWs_set (isA_n hd0) (fun o' k hne => if_neg (fun q => hne q.1)) ?_
      rw [xek_arr ht3]
      congr 4
      funext k
      unfold va_cpy
      by_cases hk : dp.toNat ≤ k ∧ k < dp.toNat + n.toNat
      · rw [if_pos hk, if_pos ⟨rfl, hk⟩]
      · rw [if_neg hk, if_neg (fun q => hk q.2)]
    rw [e] at hP1 hD1
    refine h H1 locs1 lsA ?_ hl (st_tl (st_tl (st_tl (st_tl (st_tl hs))))) hP1 hD1 hS1 hL
    intro o' kd hk
    have h0 := hm o' kd hk
    rcases kd with ⟨ci', cs'⟩ | ⟨t', n'⟩ | z
    · intro k' t' d' hq'
      have hne : o' ≠ d := fun q => by rw [q, isA_n hd0] at hk; cases hk
      simp only [hne, false_and, if_false]
      exact h0 k' t' d' hq'
    · intro k' hk'
      by_cases hc : o' = d ∧ dp.toNat ≤ k' ∧ k' < dp.toNat + n.toNat
      · obtain ⟨hod, hc2⟩ := hc
        subst hod
        rw [isA_n hd0] at hk; cases hk
        rw [if_neg ht3]
        simp only [hc2, true_and, and_self, if_true]
        exact mok_A hm (isA_n hs0) ht3 (by omega)
      · simp only [if_neg hc]
        exact h0 k' hk'
    · trivial
theorem x_acopy (C : XCx p R s m args meth c cc Z D ad cA) : xr_acopy cc Z (XWP p l e R s m args below meth c Z D ad cA Q) := by
  intro pc ls st F idx so d t sp dp n hd hmm ht hs0 hd0 h1 h2 h3 h4 h5 hb hw h
  rcases ht with rfl | rfl
  · exact x_acopyT rfl rfl (by decide) C hd hmm hs0 hd0 h1 h2 h3 h4 h5 (fun k _ _ => rfl) hw h
  · refine x_acopyT rfl rfl (by decide) C hd hmm hs0 hd0 h1 h2 h3 h4 h5 (fun k q1 q2 => ?_) hw h
    obtain ⟨b1, b2⟩ := hb rfl k q1 q2
    have hall : ∀ j : Nat, j < 256 → fits .byte (.int (Int32.ofInt ((j : Int) - 128))) = true := by decide +kernel
    have h6 := hall (F so k + 128).toNat (by omega)
    rw [show (((F so k + 128).toNat : Int) - 128) = F so k by omega] at h6
    exact h6
end XS4
section XM
variable {p : Program} {l : Launch} {e : Env} {R : Room} {s : State} {m : MethodId} {args : Array Value} {below : List Frame} {meth : Method} {c : Code} {cc : ByteArray} {Z : XZ} {D : va_G} {ad : Nat → Nat} {cA : Nat → ClassId}
theorem x_all (C : XCx p R s m args meth c cc Z D ad cA) : ∀ i, xrule cc Z (XWP p l e R s m args below meth c Z D ad cA (MQ below (xQr Z D ad cA) args s 0 0 (xA ad))) i := fun i => match i with
  | 0 => x_iload C
  | 1 => x_iload_n C
  | 2 => x_aload C
  | 3 => x_aload_n C
  | 4 => x_lload C
  | 5 => x_lload_n C
  | 6 => x_istore C
  | 7 => x_istore_n C
  | 8 => x_astore C
  | 9 => x_astore_n C
  | 10 => x_lstore C
  | 11 => x_lstore_n C
  | 12 => x_iinc C
  | 13 => x_iconst C
  | 14 => x_bipush C
  | 15 => x_sipush C
  | 16 => x_ldc C
  | 17 => x_ldcw C
  | 18 => x_lconst C
  | 19 => x_ldc2 C
  | 20 => x_ldcS C
  | 21 => x_iadd C
  | 22 => x_isub C
  | 23 => x_imul C
  | 24 => x_iand C
  | 25 => x_ior C
  | 26 => x_ishl C
  | 27 => x_ishr C
  | 28 => x_iushr C
  | 29 => x_idiv C
  | 30 => x_irem C
  | 31 => x_ineg C
  | 32 => x_i2b C
  | 33 => x_ladd C
  | 34 => x_lcmp C
  | 35 => x_icmp_eq C
  | 36 => x_if_eq C
  | 37 => x_icmp_ne C
  | 38 => x_if_ne C
  | 39 => x_icmp_lt C
  | 40 => x_if_lt C
  | 41 => x_icmp_ge C
  | 42 => x_if_ge C
  | 43 => x_icmp_gt C
  | 44 => x_if_gt C
  | 45 => x_icmp_le C
  | 46 => x_if_le C
  | 47 => x_goto C
  | 48 => x_tabIn C
  | 49 => x_tabOut C
  | 50 => x_ifnull C
  | 51 => x_ifnonnull C
  | 52 => x_null C
  | 53 => x_getI C
  | 54 => x_getC C
  | 55 => x_getR C
  | 56 => x_getM C
  | 57 => x_putI C
  | 58 => x_putZ C
  | 59 => x_putM C
  | 60 => x_iaload C
  | 61 => x_baload C
  | 62 => x_zaload C
  | 63 => x_laload C
  | 64 => x_aaload C
  | 65 => x_iastore C
  | 66 => x_bastore C
  | 67 => x_zastore C
  | 68 => x_lastore C
  | 69 => x_alen C
  | 70 => x_alenR C
  | 71 => x_dup C
  | 72 => x_dup2 C
  | 73 => x_pop C
  | 74 => x_ireturn C
  | 75 => x_zreturn C
  | 76 => x_return C
  | 77 => x_areturn C
  | 78 => x_lreturn C
  | 79 => x_callV C
  | 80 => x_callS C
  | 81 => x_mmax C
  | 82 => x_mmin C
  | 83 => x_mabs C
  | 84 => x_mminL C
  | 85 => x_acopy C
  | 86 => x_callT C
  | 87 => x_sub C
  | 88 => x_getSV C
  | 89 => x_getSC C
  | 90 => x_getCS C
  | 91 => x_getSF C
  | 92 => x_alenS C
  | 93 => x_baloadS C
  | 94 => x_i2c C
  | 95 => x_creturn C
  | 96 => x_breturn C
  | _ + 97 => trivial
end XM
def pargs : Nat → List PV → List (Nat × PV)
  | _, [] => []
  | i, v :: r => (i, v) :: pargs (i + xcat v) r
theorem xcat12 (v : PV) : xcat v = 1 ∨ xcat v = 2 := by
  rcases v with x | o | z
  · exact Or.inl rfl
  · exact Or.inl rfl
  · exact Or.inr rfl
theorem pargs_map (ad : Nat → Nat) : ∀ (As : List PV) (i : Nat), (pargs i As).map (cvp ad) = lv_args i (As.map (cv ad)) := by
  intro As
  induction As with
  | nil => intro i; rfl
  | cons v r ih =>
    intro i
    show cvp ad (i, v) :: (pargs (i + xcat v) r).map (cvp ad) = (i, cv ad v) :: lv_args (if (cv ad v).category = 2 then i + 2 else i + 1) (r.map (cv ad))
    rw [ih, xcat_cv ad v]
    rcases xcat12 v with h | h
    · rw [h]; rfl
    · rw [h]; rfl
theorem pargs_ok : ∀ (As : List PV) (i : Nat), (∀ v ∈ As, okV v) → ∀ q ∈ pargs i As, okV q.2 := by
  intro As
  induction As with
  | nil => intro i _ q hq; cases hq
  | cons v r ih =>
    intro i h q hq
    rcases List.mem_cons.mp hq with rfl | h1
    · exact h v List.mem_cons_self
    · exact ih _ (fun u hu => h u (List.mem_cons_of_mem _ hu)) q h1
theorem sl_len (ad : Nat → Nat) : ∀ As : List PV, (lg_sl (As.map (cv ad))).length = xcats As := by
  intro As
  induction As with
  | nil => rfl
  | cons v r ih =>
    have h1 : lg_sl ((v :: r).map (cv ad)) = (if (cv ad v).category = 2 then [Slot.val (cv ad v), .second] else [.val (cv ad v)]) ++ lg_sl (r.map (cv ad)) := by
      unfold lg_sl
      rw [List.map_cons, List.flatMap_cons]
    have h2 : xcats (v :: r) = xcat v + xcats r := by unfold xcats; simp
    rw [h1, List.length_append, ih, h2, xcat_cv ad v]
    rcases xcat12 v with h | h
    · rw [h]; rfl
    · rw [h]; rfl
set_option maxHeartbeats 4000000 in
/-- a walk of the abstract machine is a contract -/
theorem xmet {y : MethodName} {cc : ByteArray} {nL : Nat} {rt : Option FieldType} {fr lo : Nat} {g : XG} (hy : plainName y.cls = true) (hn : ∀ As F r F', g As F r F' → xcats As ≤ nL)
    (hR : ∀ As F r F', g As F r F' → PR cc (y.cls, fr, lo, nL, rt, fun r2 F2 => r2 = r ∧ F2 = F') 0 (pargs 0 As) [] F) : xCT y cc nL rt fr lo g := by
  intro As F r F' hg hok hm l D ad cA
  refine Met.ofW (cc := cc) (maxL := nL) (ret := rt) hy rfl ?_
  intro p e s m args below meth c s₁ B hml hv
  obtain ⟨rfl, hP, hD, hK, hE⟩ := hv
  have hts := atoms_spec (ws := Cond.code y cc nL rt :: xw_T) B.pre
  have hown : s.vm.findClass y.cls = some m.cls := findClass_of_methodNamed B.named
  have hlen : (lg_sl (As.map (cv ad))).length ≤ nL := by rw [sl_len]; exact hn As F r F' hg
  have hl := lv_entry (As.map (cv ad)) (n := nL) hlen
  rw [lg_entry_eq]
  generalize (lg_sl (As.map (cv ad)) ++ List.replicate (nL - (lg_sl (As.map (cv ad))).length) Slot.unset).toArray = lsA at hl ⊢
  rw [← pargs_map] at hl
  have C : XCx p (headSpec (Cond.code y cc nL rt :: xw_T) { frames := fr, cells := 0, slots := 0, locals := lo }).room s m (As.map (cv ad)).toArray meth c cc (y.cls, fr, lo, nL, rt, fun r2 F2 => r2 = r ∧ F2 = F') D ad cA :=
    ⟨B.exec, B.bytes, hml, hown, fun w hw => hts w (List.mem_cons_of_mem _ hw), hK, hE, B.notSynchronized, B.returns, rfl, rfl⟩
  have K := hR As F r F' hg _ (x_all (l := l) (e := e) (below := below) C) s.heap [] lsA hm (pargs_ok As 0 hok) (fun v hv => by cases hv) hP hD va_S.rf hl
  intro T hT X
  obtain ⟨t, a1, o, b1, b2, ⟨r2, F2, ⟨rfl, rfl⟩, b3⟩, b4⟩ := K T hT X
  exact ⟨t, a1, o, b1, b2, b3, b4⟩
