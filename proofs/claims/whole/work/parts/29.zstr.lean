/-! ===== the JDK's methods on a constant text ===== -/
section
variable {l : Launch} {kd : Nat → Nat} {base : Nat}
/-- texts of the class, by their number -/
theorem j_here {s U : State} {kd : Nat → Nat} {base : Nat} (hE : mEt kd base s s.heap) : ∀ V : State, V.heap = s.heap → s.WarmedH V.vm → mEt kd base V V.heap := fun V hV hW => hE.next hW.alike (fun q _ => by rw [hV])
theorem jc_ckb (i n : Int32) (f : Value) (hf : f.category = 1) (h0 : ¬ i < 0) (h1 : i < n) : jM l kd base yJ3_checkIndex_8e157 cJ3_checkIndex_8e157 3 (some .int) 1 [.int i, .int n, f] (some (.int i)) := by
  refine jM_of (by decide) (by cases f <;> first | exact Nat.le_of_ble_eq_true rfl | cases hf) ?_
  intro p e s m below meth c L hx hb hml hown hts hr hlk hE hl
  have hl2 : lv_has L 3 [(0, .int i), (1, .int n)] := ⟨hl.1, hl.2.1, fun q hq => hl.2.2 q (by simp only [lv_args] at hq ⊢; simp at hq ⊢; rcases hq with rfl | rfl <;> simp [Value.category])⟩
  refine lv_iload_n hx hb dJ3_checkIndex_8e157_0 rfl (lv_at hl2 0 rfl) ?_
  refine lv_if_lt (tgt := 9) hx hb dJ3_checkIndex_8e157_1 (by decide) (fun h => absurd h h0) (fun _ => ?_)
  refine lv_iload_n hx hb dJ3_checkIndex_8e157_4 rfl (lv_at hl2 0 rfl) ?_
  refine lv_iload_n hx hb dJ3_checkIndex_8e157_5 rfl (lv_at hl2 1 rfl) ?_
  refine lv_icmp_lt (tgt := 16) hx hb dJ3_checkIndex_8e157_6 (by decide) (fun _ => ?_) (fun h => absurd h1 h)
  refine lv_iload_n hx hb dJ3_checkIndex_8e157_16 rfl (lv_at hl2 0 rfl) ?_
  exact W.iret hx hb hr (fun t ht hW => ⟨rfl, ht⟩) (fun _ h => nomatch h) dJ3_checkIndex_8e157_17 hlk
theorem jc_cka (i n : Int32) (h0 : ¬ i < 0) (h1 : i < n) : jM l kd base yJ0_checkIndex_df160 cJ0_checkIndex_df160 2 none 2 [.int i, .int n] none := by
  refine jM_of (by decide) (Nat.le_of_ble_eq_true rfl) ?_
  intro p e s m below meth c L hx hb hml hown hts hr hlk hE hl
  have hl2 : lv_has L 2 [(0, .int i), (1, .int n)] := hl
  have go : ∀ f : Value, f.category = 1 → va_Z "jdk/internal/util/Preconditions" "SIOOBE_FORMATTER" "Ljava/util/function/BiFunction;" f (fun q => base ≤ q) s s.heap → W p l e (jR 2) s m [Value.int i, .int n].toArray below meth c s.heap [] 0 0 (MQ below (jQ none) [Value.int i, .int n].toArray s 0 0 (fun _ => False)) (F0 m 0 L []) := by
    intro f hf hZ
    refine lv_iload_n hx hb dJ0_checkIndex_df160_0 rfl (lv_at hl2 0 rfl) ?_
    refine lv_iload_n hx hb dJ0_checkIndex_df160_1 rfl (lv_at hl2 1 rfl) ?_
    refine va_gets (own := RJ0) (ref := "jdk/internal/util/Preconditions") hx hb hZ va_S.rf hown (hts _ jf_fmt) (fun _ h => h) dJ0_checkIndex_df160_2 ?_
    refine j_after (j_runS (own := RJ0) (n := 3) (as := [.int i, .int n, f]) (rest := []) hx hb hml hown hts (jc_ckb i n f hf h0 h1) (j_here (U := s) hE) jw_ckb jl_ckb js_ckb ji_3 (by decide) (by decide +kernel) (Nat.le_refl _) (Nat.le_of_ble_eq_true rfl) ⟨Nat.le_refl _, Nat.le_refl _⟩ rfl hl.1 (Nat.le_of_ble_eq_true rfl) dJ0_checkIndex_df160_5) ?_
    refine lv_pop hx hb dJ0_checkIndex_df160_8 rfl ?_
    exact W.vret hx hb hr (fun t ht hW => ⟨rfl, ht⟩) (fun _ h => nomatch h) dJ0_checkIndex_df160_9 hlk
  rcases hE.1.2.2 with hZ | ⟨t, hZ⟩
  · exact go _ rfl hZ
  · exact go _ rfl hZ
theorem jc_cod (i : Nat) (hi : i < 13) : jM l kd base yJ0_coder_7d493 cJ0_coder_7d493 1 (some .byte) 1 [.ref (kd (i + 2))] (some (.int 0)) := by
  refine jM_of (by decide) (Nat.le_of_ble_eq_true rfl) ?_
  intro p e s m below meth c L hx hb hml hown hts hr hlk hE hl
  have hl2 : lv_has L 1 [(0, .ref (kd (i + 2)))] := hl
  refine va_gets (own := RJ0) (ref := "java/lang/String") hx hb hE.1.2.1 va_S.rf hown (hts _ jf_cmp) (fun _ h => h) dJ0_coder_7d493_0 ?_
  refine lv_if_eq (tgt := 13) hx hb dJ0_coder_7d493_3 (by decide) (fun h => absurd h (by decide)) (fun _ => ?_)
  refine lv_aload_n hx hb dJ0_coder_7d493_6 rfl (lv_at hl2 0 rfl) ?_
  refine vk_getf (own := RJ0) (ref := "java/lang/String") hx hb (hE.1.1.1 i hi).2.1 va_S.rf hown (hts _ jf_cod) (fun _ h => h) dJ0_coder_7d493_7 ?_
  refine lv_goto (tgt := 14) hx hb dJ0_coder_7d493_10 (by decide) ?_
  exact W.zret hx hb hr rfl (fun t ht hW => ⟨rfl, ht⟩) (fun _ h => nomatch h) dJ0_coder_7d493_14 hlk
theorem jc_lat (i : Nat) (hi : i < 13) : jM l kd base yJ0_isLatin1_aae02 cJ0_isLatin1_aae02 1 (some .boolean) 1 [.ref (kd (i + 2))] (some (.int 1)) := by
  refine jM_of (by decide) (Nat.le_of_ble_eq_true rfl) ?_
  intro p e s m below meth c L hx hb hml hown hts hr hlk hE hl
  have hl2 : lv_has L 1 [(0, .ref (kd (i + 2)))] := hl
  refine va_gets (own := RJ0) (ref := "java/lang/String") hx hb hE.1.2.1 va_S.rf hown (hts _ jf_cmp) (fun _ h => h) dJ0_isLatin1_aae02_0 ?_
  refine lv_if_eq (tgt := 17) hx hb dJ0_isLatin1_aae02_3 (by decide) (fun h => absurd h (by decide)) (fun _ => ?_)
  refine lv_aload_n hx hb dJ0_isLatin1_aae02_6 rfl (lv_at hl2 0 rfl) ?_
  refine vk_getf (own := RJ0) (ref := "java/lang/String") hx hb (hE.1.1.1 i hi).2.1 va_S.rf hown (hts _ jf_cod) (fun _ h => h) dJ0_isLatin1_aae02_7 ?_
  refine lv_if_ne (tgt := 17) hx hb dJ0_isLatin1_aae02_10 (by decide) (fun h => absurd rfl h) (fun _ => ?_)
  refine lv_iconst (v := 1) hx hb dJ0_isLatin1_aae02_13 (by decide) ?_
  refine lv_goto (tgt := 18) hx hb dJ0_isLatin1_aae02_14 (by decide) ?_
  exact W.zret hx hb hr rfl (fun t ht hW => ⟨rfl, ht⟩) (fun _ h => nomatch h) dJ0_isLatin1_aae02_18 hlk
theorem j_asc : ∀ n : Nat, n < 128 → (((nI n) &&& 255).toUInt32 % 65536).toInt32 = nI n ∧ narrow .char (.int (nI n)) = .int (nI n) := by decide +kernel
theorem j_txt : ∀ i : Nat, i < 13 → ∀ k : Nat, k < mslen.getD i 0 → ∃ n : Nat, n < 128 ∧ (msbyt.getD i []).getD k 0 = nI n := by
  have h : ∀ i : Nat, i < 13 → ∀ k : Nat, k < 7 → k < mslen.getD i 0 → decide (((msbyt.getD i []).getD k 0).toNatClampNeg < 128 ∧ nI ((msbyt.getD i []).getD k 0).toNatClampNeg = (msbyt.getD i []).getD k 0) = true := by decide +kernel
  have hb : ∀ i : Nat, i < 13 → mslen.getD i 0 ≤ 7 := by decide +kernel
  intro i hi k hk
  have h2 := of_decide_eq_true (h i hi k (by have := hb i hi; omega) hk)
  exact ⟨_, h2.1, h2.2.symm⟩
theorem jc_chb (i : Nat) (hi : i < 13) (k : Int32) (hk : vp_in k (mslen.getD i 0)) : jM l kd base yJ1_charAt_3b067 cJ1_charAt_3b067 2 (some .char) 3 [.ref (kd (i + 100)), .int k] (some (.int ((msbyt.getD i []).getD k.toNatClampNeg 0))) := by
  have hb : ∀ i : Nat, i < 13 → mslen.getD i 0 < 2 ^ 31 := by decide +kernel
  obtain ⟨hk0, hk1⟩ := not_or.mp hk
  have hlt : k < Int32.ofNat (mslen.getD i 0) := by
    obtain ⟨j, hj, rfl⟩ := vp_in_of hk (hb i hi)
    exact nI_lt hj (hb i hi)
  refine jM_of (by decide) (Nat.le_of_ble_eq_true rfl) ?_
  intro p e s m below meth c L hx hb' hml hown hts hr hlk hE hl
  have hl2 : lv_has L 2 [(0, .ref (kd (i + 100))), (1, .int k)] := hl
  have hT := (hE.1.1.1 i hi).2.2.2
  refine lv_iload_n hx hb' dJ1_charAt_3b067_0 rfl (lv_at hl2 1 rfl) ?_
  refine lv_aload_n hx hb' dJ1_charAt_3b067_1 rfl (lv_at hl2 0 rfl) ?_
  refine va_tlen hx hb' hT va_S.rf rfl dJ1_charAt_3b067_2 ?_
  refine j_after (j_runS (own := RJ1) (n := 2) (as := [.int k, .int (Int32.ofNat (mslen.getD i 0))]) (rest := []) hx hb' hml hown hts (jc_cka k _ hk0 hlt) (j_here (U := s) hE) jw_cka jl_cka js_cka ji_0 (by decide) (by decide +kernel) (Nat.le_refl _) (Nat.le_of_ble_eq_true rfl) ⟨Nat.le_refl _, Nat.le_refl _⟩ rfl hl.1 (Nat.le_of_ble_eq_true rfl) dJ1_charAt_3b067_3) ?_
  refine lv_aload_n hx hb' dJ1_charAt_3b067_6 rfl (lv_at hl2 0 rfl) ?_
  refine lv_iload_n hx hb' dJ1_charAt_3b067_7 rfl (lv_at hl2 1 rfl) ?_
  refine va_tb hx hb' hT va_S.rf hk rfl dJ1_charAt_3b067_8 ?_
  refine lv_sipush (v := 255) hx hb' dJ1_charAt_3b067_9 (by decide) ?_
  refine lv_iand hx hb' dJ1_charAt_3b067_12 ?_
  obtain ⟨n, hn, hv⟩ := j_txt i hi k.toNatClampNeg (Nat.not_le.mp hk1)
  obtain ⟨a1, a2⟩ := j_asc n hn
  refine lv_i2c (v := (msbyt.getD i []).getD k.toNatClampNeg 0) hx hb' dJ1_charAt_3b067_13 (by rw [hv]; exact a1) ?_
  exact W.zret hx hb' hr (by rw [hv]; exact a2) (fun t ht hW => ⟨rfl, ht⟩) (fun _ h => nomatch h) dJ1_charAt_3b067_14 hlk
theorem jc_len (i : Nat) (hi : i < 13) : jM l kd base yJ0_length_8abf5 cJ0_length_8abf5 1 (some .int) 2 [.ref (kd (i + 2))] (some (.int (Int32.ofNat (mslen.getD i 0)))) := by
  refine jM_of (by decide) (Nat.le_of_ble_eq_true rfl) ?_
  intro p e s m below meth c L hx hb hml hown hts hr hlk hE hl
  have hl2 : lv_has L 1 [(0, .ref (kd (i + 2)))] := hl
  obtain ⟨h1, h2, h3, h4⟩ := hE.1.1.1 i hi
  refine lv_aload_n hx hb dJ0_length_8abf5_0 rfl (lv_at hl2 0 rfl) ?_
  refine vk_getf (own := RJ0) (ref := "java/lang/String") hx hb h3 va_S.rf hown (hts _ jf_val) (fun _ h => h) dJ0_length_8abf5_1 ?_
  refine va_tlen hx hb h4 va_S.rf rfl dJ0_length_8abf5_4 ?_
  refine lv_aload_n hx hb dJ0_length_8abf5_5 rfl (lv_at hl2 0 rfl) ?_
  refine j_after (j_runV (own := RJ0) (n := 0) (as := []) (b := kd (i + 2)) (rest := [.int (Int32.ofNat (mslen.getD i 0))]) hx hb hml hown hts (jc_cod i hi) (j_here (U := s) hE) (vk_recv (adK := fun i => kd (i + 2)) (i := i) hE.1.1 hi va_S.rf) jw_cod jl_cod js_cod jv_cod ji_0 (by decide) (by decide +kernel) (Nat.le_refl _) (Nat.le_of_ble_eq_true rfl) ⟨Nat.le_refl _, Nat.le_refl _⟩ rfl hl.1 (Nat.le_of_ble_eq_true rfl) dJ0_length_8abf5_6) ?_
  refine lv_ishr hx hb dJ0_length_8abf5_9 ?_
  rw [sb_shr0]
  exact W.iret hx hb hr (fun t ht hW => ⟨rfl, ht⟩) (fun _ h => nomatch h) dJ0_length_8abf5_10 hlk
theorem jc_cha (i : Nat) (hi : i < 13) (k : Int32) (hk : vp_in k (mslen.getD i 0)) : jM l kd base yJ0_charAt_5068e cJ0_charAt_5068e 2 (some .char) 4 [.ref (kd (i + 2)), .int k] (some (.int ((msbyt.getD i []).getD k.toNatClampNeg 0))) := by
  obtain ⟨hk0, hk1⟩ := not_or.mp hk
  obtain ⟨n, hn, hv⟩ := j_txt i hi k.toNatClampNeg (Nat.not_le.mp hk1)
  refine jM_of (by decide) (Nat.le_of_ble_eq_true rfl) ?_
  intro p e s m below meth c L hx hb hml hown hts hr hlk hE hl
  have hl2 : lv_has L 2 [(0, .ref (kd (i + 2))), (1, .int k)] := hl
  obtain ⟨h1, h2, h3, h4⟩ := hE.1.1.1 i hi
  refine lv_aload_n hx hb dJ0_charAt_5068e_0 rfl (lv_at hl2 0 rfl) ?_
  refine j_after (j_runV (own := RJ0) (n := 0) (as := []) (b := kd (i + 2)) (rest := []) hx hb hml hown hts (jc_lat i hi) (j_here (U := s) hE) (vk_recv (adK := fun i => kd (i + 2)) (i := i) hE.1.1 hi va_S.rf) jw_lat jl_lat js_lat jv_lat ji_0 (by decide) (by decide +kernel) (Nat.le_of_ble_eq_true rfl) (Nat.le_of_ble_eq_true rfl) ⟨Nat.le_refl _, Nat.le_refl _⟩ rfl hl.1 (Nat.le_of_ble_eq_true rfl) dJ0_charAt_5068e_1) ?_
  refine lv_if_eq (tgt := 16) hx hb dJ0_charAt_5068e_4 (by decide) (fun h => absurd h (by decide)) (fun _ => ?_)
  refine lv_aload_n hx hb dJ0_charAt_5068e_7 rfl (lv_at hl2 0 rfl) ?_
  refine vk_getf (own := RJ0) (ref := "java/lang/String") hx hb h3 va_S.rf hown (hts _ jf_val) (fun _ h => h) dJ0_charAt_5068e_8 ?_
  refine lv_iload_n hx hb dJ0_charAt_5068e_11 rfl (lv_at hl2 1 rfl) ?_
  refine j_after (j_runS (own := RJ0) (n := 2) (as := [.ref (kd (i + 100)), .int k]) (rest := []) hx hb hml hown hts (jc_chb i hi k hk) (j_here (U := s) hE) jw_chb jl_chb js_chb ji_1 (by decide) (by decide +kernel) (Nat.le_refl _) (Nat.le_of_ble_eq_true rfl) ⟨Nat.le_refl _, Nat.le_refl _⟩ rfl hl.1 (Nat.le_of_ble_eq_true rfl) dJ0_charAt_5068e_12) ?_
  exact W.zret hx hb hr (by rw [hv]; exact (j_asc n hn).2) (fun t ht hW => ⟨rfl, ht⟩) (fun _ h => nomatch h) dJ0_charAt_5068e_15 hlk
end
