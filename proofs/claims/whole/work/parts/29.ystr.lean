/-! ===== String.length and String.charAt of a constant ===== -/
theorem siglen0 {d : String} {n : Nat} (h : (parseMethodDescriptor d).map (fun d => d.parameters.length) = some n) : ∀ sig, parseMethodDescriptor d = some sig → n = sig.parameters.length := by
  intro sig hs
  rw [hs] at h
  exact (Option.some.inj h).symm
set_option maxRecDepth 100000 in
theorem jw_len : Cond.code yJ0_length_8abf5 cJ0_length_8abf5 1 (some .int) ∈ gtbl := gt_in ⟨List.mem_of_getElem? (i := 824) (rfl), rfl⟩
theorem js_len : Cond.instanceMethod yJ0_length_8abf5 ∈ gtbl := gt_in ⟨List.mem_of_getElem? (i := 822) (by decide +kernel), rfl⟩
theorem jv_len : Cond.selects RJ0 yJ0_length_8abf5 yJ0_length_8abf5 ∈ gtbl := gt_in ⟨List.mem_of_getElem? (i := 823) (by decide +kernel), rfl⟩
set_option maxRecDepth 100000 in
theorem jw_cod : Cond.code yJ0_coder_7d493 cJ0_coder_7d493 1 (some .byte) ∈ gtbl := gt_in ⟨List.mem_of_getElem? (i := 828) (rfl), rfl⟩
theorem js_cod : Cond.instanceMethod yJ0_coder_7d493 ∈ gtbl := gt_in ⟨List.mem_of_getElem? (i := 826) (by decide +kernel), rfl⟩
theorem jv_cod : Cond.selects RJ0 yJ0_coder_7d493 yJ0_coder_7d493 ∈ gtbl := gt_in ⟨List.mem_of_getElem? (i := 827) (by decide +kernel), rfl⟩
set_option maxRecDepth 100000 in
theorem jw_lat : Cond.code yJ0_isLatin1_aae02 cJ0_isLatin1_aae02 1 (some .boolean) ∈ gtbl := gt_in ⟨List.mem_of_getElem? (i := 838) (rfl), rfl⟩
theorem js_lat : Cond.instanceMethod yJ0_isLatin1_aae02 ∈ gtbl := gt_in ⟨List.mem_of_getElem? (i := 836) (by decide +kernel), rfl⟩
theorem jv_lat : Cond.selects RJ0 yJ0_isLatin1_aae02 yJ0_isLatin1_aae02 ∈ gtbl := gt_in ⟨List.mem_of_getElem? (i := 837) (by decide +kernel), rfl⟩
set_option maxRecDepth 100000 in
theorem jw_cha : Cond.code yJ0_charAt_5068e cJ0_charAt_5068e 2 (some .char) ∈ gtbl := gt_in ⟨List.mem_of_getElem? (i := 834) (rfl), rfl⟩
theorem js_cha : Cond.instanceMethod yJ0_charAt_5068e ∈ gtbl := gt_in ⟨List.mem_of_getElem? (i := 832) (by decide +kernel), rfl⟩
theorem jv_cha : Cond.selects RJ0 yJ0_charAt_5068e yJ0_charAt_5068e ∈ gtbl := gt_in ⟨List.mem_of_getElem? (i := 833) (by decide +kernel), rfl⟩
set_option maxRecDepth 100000 in
theorem jw_chb : Cond.code yJ1_charAt_3b067 cJ1_charAt_3b067 2 (some .char) ∈ gtbl := gt_in ⟨List.mem_of_getElem? (i := 841) (rfl), rfl⟩
theorem js_chb : Cond.static yJ1_charAt_3b067 ∈ gtbl := gt_in ⟨List.mem_of_getElem? (i := 840) (by decide +kernel), rfl⟩
set_option maxRecDepth 100000 in
theorem jw_cka : Cond.code yJ0_checkIndex_df160 cJ0_checkIndex_df160 2 none ∈ gtbl := gt_in ⟨List.mem_of_getElem? (i := 844) (rfl), rfl⟩
theorem js_cka : Cond.static yJ0_checkIndex_df160 ∈ gtbl := gt_in ⟨List.mem_of_getElem? (i := 843) (by decide +kernel), rfl⟩
set_option maxRecDepth 100000 in
theorem jw_ckb : Cond.code yJ3_checkIndex_8e157 cJ3_checkIndex_8e157 3 (some .int) ∈ gtbl := gt_in ⟨List.mem_of_getElem? (i := 849) (rfl), rfl⟩
theorem js_ckb : Cond.static yJ3_checkIndex_8e157 ∈ gtbl := gt_in ⟨List.mem_of_getElem? (i := 848) (by decide +kernel), rfl⟩
theorem ji_0 : Cond.initialized RJ0 ∈ gtbl := gt_in ⟨List.mem_of_getElem? (i := 138) (by decide +kernel), rfl⟩
theorem ji_1 : Cond.initialized RJ1 ∈ gtbl := gt_in ⟨List.mem_of_getElem? (i := 139) (by decide +kernel), rfl⟩
theorem ji_3 : Cond.initialized RJ3 ∈ gtbl := gt_in ⟨List.mem_of_getElem? (i := 140) (by decide +kernel), rfl⟩
theorem jl_cod : Cond.methodLink RJ0 335 yJ0_coder_7d493 ∈ gtbl := gt_in ⟨List.mem_of_getElem? (i := 825) (by decide +kernel), rfl⟩
theorem jl_lat : Cond.methodLink RJ0 492 yJ0_isLatin1_aae02 ∈ gtbl := gt_in ⟨List.mem_of_getElem? (i := 835) (by decide +kernel), rfl⟩
theorem jl_chb : Cond.methodLink RJ0 495 yJ1_charAt_3b067 ∈ gtbl := gt_in ⟨List.mem_of_getElem? (i := 839) (by decide +kernel), rfl⟩
theorem jl_cka : Cond.methodLink RJ1 9 yJ0_checkIndex_df160 ∈ gtbl := gt_in ⟨List.mem_of_getElem? (i := 842) (by decide +kernel), rfl⟩
theorem jl_ckb : Cond.methodLink RJ0 1059 yJ3_checkIndex_8e157 ∈ gtbl := gt_in ⟨List.mem_of_getElem? (i := 847) (by decide +kernel), rfl⟩
theorem jl_len : Cond.methodLink RX8 44 yJ0_length_8abf5 ∈ gtbl := gt_in ⟨List.mem_of_getElem? (i := 821) (by decide +kernel), rfl⟩
theorem jl_cha : Cond.methodLink RX8 49 yJ0_charAt_5068e ∈ gtbl := gt_in ⟨List.mem_of_getElem? (i := 831) (by decide +kernel), rfl⟩
theorem jf_val : Cond.fieldLink RJ0 9 "java/lang/String" "value" "[B" ∈ gtbl := gt_in ⟨List.mem_of_getElem? (i := 2036) (by decide +kernel), rfl⟩
theorem jf_cod : Cond.fieldLink RJ0 15 "java/lang/String" "coder" "B" ∈ gtbl := gt_in ⟨List.mem_of_getElem? (i := 2037) (by decide +kernel), rfl⟩
theorem jf_cmp : Cond.fieldLink RJ0 38 "java/lang/String" "COMPACT_STRINGS" "Z" ∈ gtbl := gt_in ⟨List.mem_of_getElem? (i := 829) (by decide +kernel), rfl⟩
theorem jf_fmt : Cond.fieldLink RJ0 1053 "jdk/internal/util/Preconditions" "SIOOBE_FORMATTER" "Ljava/util/function/BiFunction;" ∈ gtbl := gt_in ⟨List.mem_of_getElem? (i := 845) (by decide +kernel), rfl⟩
def jP (kd : Nat → Nat) (base : Nat) (as : List Value) : Array Value → State → Prop := va_Pc as (fun U => mEt kd base U U.heap)
def jQ (v : Option Value) : Array Value → State → Outcome → State → Prop := fun _ st o t => o = .returned v ∧ t.heap = st.heap
def jR (d : Nat) : Room := { frames := d, cells := 0, slots := 0, locals := 43 * d }
def jM (l : Launch) (kd : Nat → Nat) (base : Nat) (y : MethodName) (cc : ByteArray) (nL : Nat) (ret : Option FieldType) (d : Nat) (as : List Value) (v : Option Value) : Prop :=
  Met l y (.code y cc nL ret :: gtbl) (jR d) (jP kd base as) (jQ v) 0 0 (fun _ => False)
theorem jP_blind {kd : Nat → Nat} {base : Nat} {as : List Value} : FrameBlind (jP kd base as) := by
  intro a U j mk ⟨h1, h2⟩
  exact ⟨h1, h2.next (U := U.calling j mk a) (Vm.Alike.refl U.vm) (fun _ _ => rfl)⟩
theorem jM_of {l : Launch} {kd : Nat → Nat} {base : Nat} {y : MethodName} {cc : ByteArray} {nL : Nat} {ret : Option FieldType} {d : Nat} {as : List Value} {v : Option Value} (hy : plainName y.cls = true) (hn : (lg_sl as).length ≤ nL)
    (body : ∀ (p : Program) (e : Env) (s : State) (m : MethodId) (below : List Frame) (meth : Method) (c : Code) (L : Array Slot), p.tables.exec = Jvm.exec → c.code = cc → c.maxLocals = nL → s.vm.findClass y.cls = some m.cls → (∀ w ∈ gtbl, w.before as.toArray s = true) → meth.sig.returnType = ret → meth.locks = false → mEt kd base s s.heap → lv_has L nL (lv_args 0 as) →
      W p l e (jR d) s m as.toArray below meth c s.heap [] 0 0 (MQ below (jQ v) as.toArray s 0 0 (fun _ => False)) (F0 m 0 L [])) : jM l kd base y cc nL ret d as v := by
  refine Met.ofW (cc := cc) (maxL := nL) (ret := ret) hy rfl ?_
  intro p e s m args below meth c s₁ B hml hv
  obtain ⟨rfl, hE⟩ := hv
  have hl := lv_entry as (n := nL) hn
  rw [lg_entry_eq]
  exact body p e s m below meth c _ B.exec B.bytes hml (findClass_of_methodNamed B.named) (fun w hw => atoms_spec (ws := .code y cc nL ret :: gtbl) B.pre w (List.mem_cons_of_mem _ hw)) B.returns B.notSynchronized hE hl
section
variable {p : Program} {l : Launch} {e : Env} {R : Room} {s : State} {m : MethodId} {args : Array Value} {below : List Frame} {meth : Method} {c : Code} {H : Heap} {locs : List Loc} {cells slots : Nat} {Q : State → Prop}
variable {pc nL : Nat} {L : Array Slot} {kd : Nat → Nat} {base : Nat} {cc : ByteArray}
theorem j_after {stR restR : List Value} {v : Option Value} {a : Array Value} (hrun : va_Run p l e R s m args below meth c H locs cells slots 0 0 (F0 m pc L stR) restR (jQ v a) (fun _ => False))
    (kk : W p l e R s m args below meth c H locs cells slots Q (F0 m (pc + 3) L (v.toList ++ restR))) : W p l e R s m args below meth c H locs cells slots Q (F0 m pc L stR) := by
  intro T hT X
  obtain ⟨v', st₀, t, T', Lc, h0, X', hL, e1, e2, ⟨ho, hh⟩, st⟩ := hrun T hT X
  cases ho
  have hLc : Lc = [] := by
    cases Lc with
    | nil => rfl
    | cons x xs => exact (hL x List.mem_cons_self).elim
  subst hLc
  rw [List.append_nil] at X'
  obtain ⟨t2, a1, b1⟩ := kk T' (by rw [e1, hh]; exact h0) X'
  exact ⟨t2, st t2 a1, b1⟩
theorem j_words {y : MethodName} {bytes : ByteArray} {maxL : Nat} {ret : Option FieldType} (hts : ∀ w ∈ gtbl, w.before args s = true) (hM : Cond.code y bytes maxL ret ∈ gtbl) : ∀ w ∈ Cond.code y bytes maxL ret :: gtbl, ∀ (a' : Array Value) (U : State), s.WarmedH U.vm → w.before a' U = true := by
  intro w hw a' U hW
  rcases List.mem_cons.mp hw with rfl | hw
  · exact word_at hW (good_of_word (gt_good hM)) (hts _ hM)
  · exact word_at hW (good_of_word (gt_good hw)) (hts _ hw)
theorem j_runS {own : String} {idx n d : Nat} {y : MethodName} {bytes : ByteArray} {maxL : Nat} {ret : Option FieldType} {as rest : List Value} {v : Option Value} (hx : p.tables.exec = Jvm.exec) (hb : c.code = cc) (hml : c.maxLocals = nL) (hown : s.vm.findClass own = some m.cls) (hts : ∀ w ∈ gtbl, w.before args s = true)
    (hM : jM l kd base y bytes maxL ret d as v) (hpre : ∀ U : State, U.heap = H → s.WarmedH U.vm → mEt kd base U U.heap) (w0 : Cond.code y bytes maxL ret ∈ gtbl) (w1 : Cond.methodLink own idx y ∈ gtbl) (w2 : Cond.static y ∈ gtbl) (w3 : Cond.initialized y.cls ∈ gtbl)
    (hnm : y.cls ≠ "java/lang/invoke/MethodHandle" ∧ y.cls ≠ "java/lang/invoke/VarHandle") (hsg : (parseMethodDescriptor y.desc).map (fun d => d.parameters.length) = some n) (hf : d + 1 ≤ R.frames) (hlo : 8 + (maxL + 11) + 43 * d ≤ R.locals) (hc : cells ≤ R.cells ∧ slots ≤ R.slots)
    (hn : as.length = n) (hL : L.size = nL) (hwt : (rest.map fun v => v.category).sum ≤ 8) (hd : decode cc pc = .ok (.invokestatic idx, 3)) :
    va_Run p l e R s m args below meth c H locs cells slots 0 0 (F0 m pc L (as.reverse ++ rest)) rest (jQ v as.toArray) (fun _ => False) :=
  va_runS (As := as) (own := own) (index := idx) (y := y) (bytes := bytes) (maxL := maxL) (ret := ret) (n := n) ⟨hx, hb, hml, hown, hts⟩ hM
    ⟨⟨rfl, rfl, hf, hlo, j_words hts w0, List.mem_cons_self, hts _ w0, hts _ w3, hnm, siglen0 hsg, hts _ w1⟩, hts _ w2⟩ ⟨jP_blind, fun U hU hW => ⟨rfl, hpre U hU hW⟩⟩ rfl hn hL rfl (by simpa using hwt) hd hc
theorem j_runV {own : String} {idx n d b : Nat} {y : MethodName} {bytes : ByteArray} {maxL : Nat} {ret : Option FieldType} {as rest : List Value} {v : Option Value} (hx : p.tables.exec = Jvm.exec) (hb : c.code = cc) (hml : c.maxLocals = nL) (hown : s.vm.findClass own = some m.cls) (hts : ∀ w ∈ gtbl, w.before args s = true)
    (hM : jM l kd base y bytes maxL ret d (.ref b :: as) v) (hpre : ∀ U : State, U.heap = H → s.WarmedH U.vm → mEt kd base U U.heap) (hrec : ∃ cell : Cell, H[b]? = some cell ∧ cell.vm.isStatics = false ∧ s.vm.findClass RJ0 = some cell.cls) (w0 : Cond.code y bytes maxL ret ∈ gtbl) (w1 : Cond.methodLink own idx y ∈ gtbl) (w2 : Cond.instanceMethod y ∈ gtbl) (w4 : Cond.selects RJ0 y y ∈ gtbl) (w3 : Cond.initialized y.cls ∈ gtbl)
    (hnm : y.cls ≠ "java/lang/invoke/MethodHandle" ∧ y.cls ≠ "java/lang/invoke/VarHandle") (hsg : (parseMethodDescriptor y.desc).map (fun d => d.parameters.length) = some n) (hf : d + 1 ≤ R.frames) (hlo : 8 + (maxL + 11) + 43 * d ≤ R.locals) (hc : cells ≤ R.cells ∧ slots ≤ R.slots)
    (hn : as.length = n) (hL : L.size = nL) (hwt : (rest.map fun v => v.category).sum ≤ 8) (hd : decode cc pc = .ok (.invokevirtual idx, 3)) :
    va_Run p l e R s m args below meth c H locs cells slots 0 0 (F0 m pc L (as.reverse ++ .ref b :: rest)) rest (jQ v (Value.ref b :: as).toArray) (fun _ => False) :=
  va_runV (As := as) (b := b) (C := RJ0) (own := own) (index := idx) (y := y) (bytes := bytes) (maxL := maxL) (ret := ret) (n := n) ⟨hx, hb, hml, hown, hts⟩ hM
    ⟨⟨rfl, rfl, hf, hlo, j_words hts w0, List.mem_cons_self, hts _ w0, hts _ w3, hnm, siglen0 hsg, hts _ w1⟩, hts _ w2, hts _ w4⟩ ⟨jP_blind, hrec, fun U hU hW => ⟨rfl, hpre U hU hW⟩⟩ rfl hn hL rfl (by simpa using hwt) hd hc
end
