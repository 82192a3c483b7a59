/-! ===== what the law finds at its entry (gen_env.py) ===== -/
def nfl : List Cond := flatC (Jvm.Cond.and given_1 narrow_1)
def nchk : List Cond → List Nat → Bool
  | [], _ => true
  | w :: ws, i :: is => decide (nfl[i]? = some w) && nchk ws is
  | _ :: _, [] => false
theorem nchk_ok : ∀ (ws : List Cond) (is : List Nat), nchk ws is = true → ∀ w ∈ ws, w ∈ nfl
  | [], _, _, w, h => nomatch h
  | w :: ws, [], h, _, _ => by simp [nchk] at h
  | w :: ws, i :: is, h, v, hv => by
    simp only [nchk, Bool.and_eq_true, decide_eq_true_eq] at h
    rcases List.mem_cons.mp hv with rfl | hv
    · exact List.mem_of_getElem? h.1
    · exact nchk_ok ws is h.2 v hv
def nwT : Term := .static RX11 "WORDS" "[B"
def tmS (i : Nat) : Term := .string (mcn (mstrL.getD i (0, 0, "")).1) (mstrL.getD i (0, 0, "")).2.1
def vlS (i : Nat) : Term := .field (tmS i) "java/lang/String" "value" "[B"
def nwE : List Cond := (List.range 73).map fun j => .eq (.elem nwT (.int (Int32.ofNat j))) (.int (mwords.getD j 0))
def exE : List Cond := (List.range 13).map fun i => .exactly (tmS i) "java/lang/String"
def coE : List Cond := (List.range 13).map fun i => .eq (.field (tmS i) "java/lang/String" "coder" "B") (.int 0)
def arE : List Cond := (List.range 13).map fun i => .arrayOf (vlS i) .byte
def leE : List Cond := (List.range 13).map fun i => .eq (.length (vlS i)) (.int (Int32.ofNat (mslen.getD i 0)))
def elE : List Cond := (List.range 13).flatMap fun i => (List.range (mslen.getD i 0)).map fun j => .eq (.elem (vlS i) (.int (Int32.ofNat j))) (.int ((msbyt.getD i []).getD j 0))
def prE : List Cond := (List.range 13).flatMap fun j => (List.range j).map fun i => .not (.eq (tmS i) (tmS j))
theorem nwE_ok : ∀ w ∈ nwE, w ∈ nfl := nchk_ok _ [14, 15, 16, 17, 18, 19, 20, 21, 22, 23, 24, 25, 26, 27, 28, 29, 30, 31, 32, 33, 34, 35, 36, 37, 38, 39, 40, 41, 42, 43, 44, 45, 46, 47, 48, 49, 50, 51, 52, 53, 54, 55, 56, 57, 58, 59, 60, 61, 62, 63, 64, 65, 66, 67, 68, 69, 70, 71, 72, 73, 74, 75, 76, 77, 78, 79, 80, 81, 82, 83, 84, 85, 86] (by decide +kernel)
theorem exE_ok : ∀ w ∈ exE, w ∈ nfl := nchk_ok _ [113, 123, 133, 143, 154, 167, 181, 195, 212, 229, 246, 264, 283] (by decide +kernel)
theorem coE_ok : ∀ w ∈ coE, w ∈ nfl := nchk_ok _ [114, 124, 134, 144, 155, 168, 182, 196, 213, 230, 247, 265, 284] (by decide +kernel)
theorem arE_ok : ∀ w ∈ arE, w ∈ nfl := nchk_ok _ [115, 125, 135, 145, 156, 169, 183, 197, 214, 231, 248, 266, 285] (by decide +kernel)
theorem leE_ok : ∀ w ∈ leE, w ∈ nfl := nchk_ok _ [116, 126, 136, 146, 157, 170, 184, 198, 215, 232, 249, 267, 286] (by decide +kernel)
theorem elE_ok : ∀ w ∈ elE, w ∈ nfl := nchk_ok _ [117, 118, 119, 120, 121, 122, 127, 128, 129, 130, 131, 137, 138, 139, 140, 147, 148, 149, 150, 158, 159, 160, 161, 162, 171, 172, 173, 174, 175, 185, 186, 187, 188, 199, 200, 201, 202, 203, 204, 216, 217, 218, 219, 220, 233, 234, 235, 236, 250, 251, 252, 253, 268, 269, 270, 271, 287, 288, 289, 290] (by decide +kernel)
theorem prE_ok : ∀ w ∈ prE, w ∈ nfl := nchk_ok _ [132, 141, 142, 151, 152, 153, 163, 164, 165, 166, 176, 177, 178, 179, 180, 189, 190, 191, 192, 193, 194, 205, 206, 207, 208, 209, 210, 211, 221, 222, 223, 224, 225, 226, 227, 228, 237, 238, 239, 240, 241, 242, 243, 244, 245, 254, 255, 256, 257, 258, 259, 260, 261, 262, 263, 272, 273, 274, 275, 276, 277, 278, 279, 280, 281, 282, 291, 292, 293, 294, 295, 296, 297, 298, 299, 300, 301, 302] (by decide +kernel)
theorem nf_wa : Cond.arrayOf nwT .byte ∈ nfl := List.mem_of_getElem? (i := 12) (by decide +kernel)
theorem nf_wl : Cond.eq (.length nwT) (.int 73) ∈ nfl := List.mem_of_getElem? (i := 13) (by decide +kernel)
theorem nf_un : Cond.isRef (.static Bundle.tN "UNASSIGNED_STACK" Bundle.steD) ∈ nfl := List.mem_of_getElem? (i := 4) (by decide +kernel)
theorem nf_su : Cond.isRef (.static Bundle.tN "SUPPRESSED_SENTINEL" Bundle.listD) ∈ nfl := List.mem_of_getElem? (i := 5) (by decide +kernel)
theorem nf_cs : Cond.eq (.static "java/lang/String" "COMPACT_STRINGS" "Z") (.int 1) ∈ nfl := List.mem_of_getElem? (i := 6) (by decide +kernel)
theorem nf_si : Cond.isRef (.static "jdk/internal/util/Preconditions" "SIOOBE_FORMATTER" "Ljava/util/function/BiFunction;") ∈ nfl := List.mem_of_getElem? (i := 7) (by decide +kernel)
theorem nf_n1 : Cond.not (.castable mNSE mIAE) ∈ nfl := List.mem_of_getElem? (i := 99) (by decide +kernel)
theorem nf_n2 : Cond.not (.castable mIAE mNSE) ∈ nfl := List.mem_of_getElem? (i := 112) (by decide +kernel)
theorem mi_ok : ∀ k, k < 12 → Cond.instantiable (mcn k) (mnum k) ∈ lw_tbl
  | 0, _ => List.mem_of_getElem? (i := 377) (by decide +kernel)
  | 1, _ => List.mem_of_getElem? (i := 264) (by decide +kernel)
  | 2, _ => List.mem_of_getElem? (i := 481) (by decide +kernel)
  | 3, _ => List.mem_of_getElem? (i := 426) (by decide +kernel)
  | 4, _ => List.mem_of_getElem? (i := 448) (by decide +kernel)
  | 5, _ => List.mem_of_getElem? (i := 154) (by decide +kernel)
  | 6, _ => List.mem_of_getElem? (i := 276) (by decide +kernel)
  | 7, _ => List.mem_of_getElem? (i := 270) (by decide +kernel)
  | 8, _ => List.mem_of_getElem? (i := 227) (by decide +kernel)
  | 9, _ => List.mem_of_getElem? (i := 305) (by decide +kernel)
  | 10, _ => List.mem_of_getElem? (i := 146) (by decide +kernel)
  | 11, _ => List.mem_of_getElem? (i := 1303) (by decide +kernel)
  | k + 12, h => absurd h (by omega)
theorem mi_ns : Cond.instantiable mNSE 6 ∈ lw_tbl := List.mem_of_getElem? (i := 1043) (by decide +kernel)
theorem mi_ia : Cond.instantiable mIAE 6 ∈ lw_tbl := List.mem_of_getElem? (i := 730) (by decide +kernel)
theorem me_ao : Cond.arrayOver (.object RX7) ∈ lw_tbl := List.mem_of_getElem? (i := 383) (by decide +kernel)
theorem me_n1 : Cond.methodLinkNest RX10 21 yX8_init RX10 ∈ lw_tbl := List.mem_of_getElem? (i := 228) (by decide +kernel)
theorem me_n2 : Cond.methodLinkNest RX10 65 yX2_init RX10 ∈ lw_tbl := List.mem_of_getElem? (i := 482) (by decide +kernel)
theorem me_n3 : Cond.methodLinkNest RX7 189 yX10_cellOf RX10 ∈ lw_tbl := List.mem_of_getElem? (i := 629) (by decide +kernel)
theorem me_c : ∀ q ∈ mCs, Cond.castable q.1 q.2 ∈ lw_tbl := List.forall_mem_cons.mpr ⟨List.mem_of_getElem? (i := 1044) (by decide +kernel), List.forall_mem_cons.mpr ⟨List.mem_of_getElem? (i := 731) (by decide +kernel), fun _ h => absurd h List.not_mem_nil⟩⟩
theorem me_d : ∀ x ∈ mDs, Cond.declares x ∈ lw_tbl := List.forall_mem_cons.mpr ⟨List.mem_of_getElem? (i := 732) (by decide +kernel), List.forall_mem_cons.mpr ⟨List.mem_of_getElem? (i := 734) (by decide +kernel), List.forall_mem_cons.mpr ⟨List.mem_of_getElem? (i := 736) (by decide +kernel), fun _ h => absurd h List.not_mem_nil⟩⟩⟩
theorem me_s : ∀ i, i < 13 → Cond.stringRef (mcn (mstrL.getD i (0, 0, "")).1) (mstrL.getD i (0, 0, "")).2.1 (mstrL.getD i (0, 0, "")).2.2 ∈ lw_tbl
  | 0, _ => List.mem_of_getElem? (i := 816) (by decide +kernel)
  | 1, _ => List.mem_of_getElem? (i := 882) (by decide +kernel)
  | 2, _ => List.mem_of_getElem? (i := 883) (by decide +kernel)
  | 3, _ => List.mem_of_getElem? (i := 884) (by decide +kernel)
  | 4, _ => List.mem_of_getElem? (i := 885) (by decide +kernel)
  | 5, _ => List.mem_of_getElem? (i := 886) (by decide +kernel)
  | 6, _ => List.mem_of_getElem? (i := 899) (by decide +kernel)
  | 7, _ => List.mem_of_getElem? (i := 914) (by decide +kernel)
  | 8, _ => List.mem_of_getElem? (i := 957) (by decide +kernel)
  | 9, _ => List.mem_of_getElem? (i := 961) (by decide +kernel)
  | 10, _ => List.mem_of_getElem? (i := 962) (by decide +kernel)
  | 11, _ => List.mem_of_getElem? (i := 963) (by decide +kernel)
  | 12, _ => List.mem_of_getElem? (i := 964) (by decide +kernel)
  | k + 13, h => absurd h (by omega)
theorem ms_w : Cond.laysStatic RX11 "WORDS" "[B" ∈ lw_tbl ∧ Cond.initialized RX11 ∈ lw_tbl := ⟨List.mem_of_getElem? (i := 1531) (by decide +kernel), List.mem_of_getElem? (i := 133) (by decide +kernel)⟩
theorem ms_u : Cond.laysStatic Bundle.tN "UNASSIGNED_STACK" Bundle.steD ∈ lw_tbl ∧ Cond.initialized Bundle.tN ∈ lw_tbl := ⟨List.mem_of_getElem? (i := 756) (by decide +kernel), List.mem_of_getElem? (i := 134) (by decide +kernel)⟩
theorem ms_x : Cond.laysStatic Bundle.tN "SUPPRESSED_SENTINEL" Bundle.listD ∈ lw_tbl ∧ Cond.initialized Bundle.tN ∈ lw_tbl := ⟨List.mem_of_getElem? (i := 758) (by decide +kernel), List.mem_of_getElem? (i := 134) (by decide +kernel)⟩
theorem ms_c : Cond.laysStatic "java/lang/String" "COMPACT_STRINGS" "Z" ∈ lw_tbl ∧ Cond.initialized "java/lang/String" ∈ lw_tbl := ⟨List.mem_of_getElem? (i := 830) (by decide +kernel), List.mem_of_getElem? (i := 138) (by decide +kernel)⟩
theorem ms_i : Cond.laysStatic "jdk/internal/util/Preconditions" "SIOOBE_FORMATTER" "Ljava/util/function/BiFunction;" ∈ lw_tbl ∧ Cond.initialized "jdk/internal/util/Preconditions" ∈ lw_tbl := ⟨List.mem_of_getElem? (i := 846) (by decide +kernel), List.mem_of_getElem? (i := 140) (by decide +kernel)⟩
section
variable {s : State} {b L : Nat} {xs : Nat → Int32}
theorem en_K (hts : ∀ w ∈ lw_tbl, w.before #[Value.ref b] s = true) : ∃ (D : va_G) (tc : Nat → ClassId), va_K D mcl (mtys tc) s := by
  obtain ⟨c0, k0, m0, f0, g0, i0⟩ := Cond.arrayClass_spec (hts _ ma_int)
  have h0 : ∀ k : Nat, ∃ q : ClassId × (Nat → Nat), ∀ r, mcl[k]? = some r → u_Kn s r.1 r.2.1 r.2.2 q.1 q.2 := by
    intro k
    by_cases hk : k < 12
    · obtain ⟨c, iS, h⟩ := u_known (C := mcn k) (T := mtx k) (N := mnum k) (n := mnum k) hts (fun w hw => (mu_ok k hk w hw).1) (hts _ (mi_ok k hk))
      refine ⟨(c, iS), fun r hr => ?_⟩
      have e : mcl[k]? = some (mcn k, mtx k, mnum k) := mcl_at k hk
      rw [e] at hr
      cases hr
      exact h
    · by_cases h12 : k = 12
      · subst h12
        obtain ⟨c, iS, h⟩ := u_known (C := mNSE) (T := TX2) (N := 0) (n := 6) hts (fun w hw => absurd hw List.not_mem_nil) (hts _ mi_ns)
        refine ⟨(c, iS), fun r hr => ?_⟩
        cases hr
        exact h
      · by_cases h13 : k = 13
        · subst h13
          obtain ⟨c, iS, h⟩ := u_known (C := mIAE) (T := TX2) (N := 0) (n := 6) hts (fun w hw => absurd hw List.not_mem_nil) (hts _ mi_ia)
          refine ⟨(c, iS), fun r hr => ?_⟩
          cases hr
          exact h
        · refine ⟨(c0, fun _ => 0), fun r hr => ?_⟩
          have := (List.getElem?_eq_some_iff.mp hr).1
          have e : mcl.length = 14 := rfl
          omega
  obtain ⟨d, hd⟩ := Classical.axiomOfChoice h0
  obtain ⟨c1, k1, m1, f1, g1, i1⟩ := Cond.arrayClass_spec (hts _ ma_byte)
  obtain ⟨c2, k2, m2, f2, g2, i2⟩ := Cond.arrayClass_spec (hts _ ma_long)
  obtain ⟨m3, c3, k3, f3, -, g3, i3, j3⟩ := Cond.arrayOver_spec (hts _ me_ao)
  refine ⟨(fun k => (d k).1, fun k => (d k).2), fun k => if k = 0 then c0 else if k = 1 then c1 else if k = 2 then c2 else c3, fun k r hr => hd k r hr, fun k q hq => ?_⟩
  match k, hq with
  | 0, hq => cases hq; exact ⟨fun n z => ⟨fun k h => (by cases h), k0, g0, m0, i0⟩, f0⟩
  | 1, hq => cases hq; exact ⟨fun n z => ⟨fun k h => (by cases h), k1, g1, m1, i1⟩, f1⟩
  | 2, hq => cases hq; exact ⟨fun n z => ⟨fun k h => (by cases h), k2, g2, m2, i2⟩, f2⟩
  | 3, hq => cases hq; exact ⟨fun n z => ⟨fun k h => (by cases h), k3, g3, m3, i3⟩, k3, m3, g3, i3, f3, j3⟩
  | k + 4, hq => simp [mtys] at hq
theorem en_all (hts : ∀ w ∈ lw_tbl, w.before #[Value.ref b] s = true) (hX : va_X b L xs s s.heap) (hbl : b < s.heap.size) (hgv : (Jvm.Cond.and given_1 narrow_1).before #[Value.ref b] s = true) : ∃ (D : va_G) (tc : Nat → ClassId) (kd : Nat → Nat), kd 0 = b ∧ mEn D tc kd s.heap.size (L, xs) s s.heap := by
  have hs : ∀ w ∈ nfl, w.before #[Value.ref b] s = true := flat_of_before _ hgv
  have hA : ∀ a : Nat, a < s.heap.size → ¬ (fun q => s.heap.size ≤ q) a := fun a h => Nat.not_le.mpr h
  obtain ⟨D, tc, hK⟩ := en_K hts
  obtain ⟨t, ht, hT⟩ := va_Tof (args := #[Value.ref b]) (s := s) (tm := nwT) (ty := .byte) (N := 73) (f := fun i => .int (mwords.getD i 0)) (A := fun q => s.heap.size ≤ q) (by decide) (hs _ nf_wa) (va_eqt (hs _ nf_wl)) (fun j hj => va_eqt (hs _ (nwE_ok _ (List.mem_map.mpr ⟨j, List.mem_range.mpr hj, rfl⟩)))) hA
  obtain ⟨adK, adV, hSS, hSe⟩ := vk_Sof (args := #[Value.ref b]) (s := s) (N := 13) (tm := tmS) (len := mslen) (byt := msbyt) (A := fun q => s.heap.size ≤ q) (by decide)
    (fun i hi => hs _ (exE_ok _ (List.mem_map.mpr ⟨i, List.mem_range.mpr hi, rfl⟩))) (fun i hi => hs _ (coE_ok _ (List.mem_map.mpr ⟨i, List.mem_range.mpr hi, rfl⟩))) (fun i hi => hs _ (arE_ok _ (List.mem_map.mpr ⟨i, List.mem_range.mpr hi, rfl⟩))) (fun i hi => hs _ (leE_ok _ (List.mem_map.mpr ⟨i, List.mem_range.mpr hi, rfl⟩)))
    (fun i hi j hj => hs _ (elE_ok _ (List.mem_flatMap.mpr ⟨i, List.mem_range.mpr hi, List.mem_map.mpr ⟨j, List.mem_range.mpr hj, rfl⟩⟩)))
    (fun i j hi hj hne => by
      rcases Nat.lt_or_ge i j with h | h
      · exact Or.inl (hs _ (prE_ok _ (List.mem_flatMap.mpr ⟨j, List.mem_range.mpr hj, List.mem_map.mpr ⟨i, List.mem_range.mpr h, rfl⟩⟩)))
      · exact Or.inr (hs _ (prE_ok _ (List.mem_flatMap.mpr ⟨i, List.mem_range.mpr hi, List.mem_map.mpr ⟨j, List.mem_range.mpr (by omega), rfl⟩⟩)))) hA
  refine ⟨D, tc, fun k => if k = 0 then b else if k = 1 then t else if k < 100 then adK (k - 2) else adV (k - 100), rfl, hK, va_AO.of (hts _ me_ao), ⟨⟨va_Nw.of rfl (hts _ me_n1), va_Nw.of rfl (hts _ me_n2), va_Nw.of rfl (hts _ me_n3)⟩, fun q hq => va_Nw.of rfl (hts _ (me_c q hq)), fun x hx => va_Nw.of rfl (hts _ (me_d x hx)), fun i q hq => ?_⟩, ⟨⟨hX, hbl⟩, va_Zref (hts _ ms_w.1) (hts _ ms_w.2) ht hA, hT⟩, ⟨⟨⟨fun i hi => ?_, fun i j hi hj e => ?_⟩, va_Zof (hts _ ms_c.1) (hts _ ms_c.2) (va_eqt (hs _ nf_cs)) hA, va_Zqof (hts _ ms_i.1) (hts _ ms_i.2) (hs _ nf_si) hA⟩, ⟨vx_Zqof (hts _ ms_u.1) (hts _ ms_u.2) (hs _ nf_un) hA, vx_Zqof (hts _ ms_x.1) (hts _ ms_x.2) (hs _ nf_su) hA⟩, va_Nc.of (hs _ nf_n1), va_Nc.of (hs _ nf_n2)⟩⟩
  · have hi : i < 13 := (List.getElem?_eq_some_iff.mp hq).1
    have e : mstrL.getD i (0, 0, "") = q := by rw [List.getD_eq_getElem?_getD, hq]; rfl
    have e1 := hts _ (me_s i hi)
    have e2 := hSe i hi
    unfold tmS at e2
    rw [e] at e1 e2
    show vk_R (mcn q.1) q.2.1 q.2.2 (if i + 2 = 0 then b else if i + 2 = 1 then t else if i + 2 < 100 then adK (i + 2 - 2) else adV (i + 2 - 100)) s
    rw [if_neg (by omega), if_neg (by omega), if_pos (by omega), show i + 2 - 2 = i by omega]
    exact vk_R.of e1 e2
  · have q := hSS.1 i hi
    show va_O "java/lang/String" (if i + 2 = 0 then b else if i + 2 = 1 then t else if i + 2 < 100 then adK (i + 2 - 2) else adV (i + 2 - 100)) _ s s.heap ∧ va_OF "java/lang/String" "coder" "B" (.int 0) (if i + 2 = 0 then b else if i + 2 = 1 then t else if i + 2 < 100 then adK (i + 2 - 2) else adV (i + 2 - 100)) _ s s.heap ∧ va_OF "java/lang/String" "value" "[B" (.ref (if i + 100 = 0 then b else if i + 100 = 1 then t else if i + 100 < 100 then adK (i + 100 - 2) else adV (i + 100 - 100))) (if i + 2 = 0 then b else if i + 2 = 1 then t else if i + 2 < 100 then adK (i + 2 - 2) else adV (i + 2 - 100)) _ s s.heap ∧ va_T .byte (if i + 100 = 0 then b else if i + 100 = 1 then t else if i + 100 < 100 then adK (i + 100 - 2) else adV (i + 100 - 100)) (mslen.getD i 0) (fun j => .int ((msbyt.getD i []).getD j 0)) _ s s.heap
    rw [if_neg (by omega : ¬ i + 2 = 0), if_neg (by omega : ¬ i + 2 = 1), if_pos (by omega : i + 2 < 100), if_neg (by omega : ¬ i + 100 = 0), if_neg (by omega : ¬ i + 100 = 1), if_neg (by omega : ¬ i + 100 < 100), show i + 2 - 2 = i by omega, show i + 100 - 100 = i by omega]
    exact q
  · have e : (if i + 2 = 0 then b else if i + 2 = 1 then t else if i + 2 < 100 then adK (i + 2 - 2) else adV (i + 2 - 100)) = (if j + 2 = 0 then b else if j + 2 = 1 then t else if j + 2 < 100 then adK (j + 2 - 2) else adV (j + 2 - 100)) := e
    rw [if_neg (by omega : ¬ i + 2 = 0), if_neg (by omega : ¬ i + 2 = 1), if_pos (by omega : i + 2 < 100), if_neg (by omega : ¬ j + 2 = 0), if_neg (by omega : ¬ j + 2 = 1), if_pos (by omega : j + 2 < 100), show i + 2 - 2 = i by omega, show j + 2 - 2 = j by omega] at e
    exact hSS.2 i j hi hj e
end
