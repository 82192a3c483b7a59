/-! ===== the words of the throws ===== -/
def mNs : List String := ["java/lang/RuntimeException", "java/lang/Exception"]
set_option maxRecDepth 100000 in
set_option maxHeartbeats 4000000 in
theorem mtN_a : ∀ w ∈ (vx_at0 RX10 203 mNSE mNs).filter goodWord, w ∈ lw_tbl ∧ goodWord w = true := mchkw_ok _ [134, 751, 760, 763, 766, 768, 752, 753, 151, 152, 754, 759, 764, 780, 741, 781, 743, 782, 745, 755, 757, 747, 1052, 1053, 1054, 773, 773, 774, 775, 776, 776, 777, 778, 752, 1051, 1043, 1045, 762, 1046, 1047, 1048, 1049, 750, 749, 1050] (by decide +kernel)
set_option maxRecDepth 100000 in
theorem mtN_b : ∀ w ∈ (vx_at0 RX10 203 mNSE mNs).filter (fun w => !goodWord w), w ∈ (mCs.map fun q => Cond.castable q.1 q.2) ++ (mDs.map Cond.declares) := by decide +kernel
set_option maxRecDepth 100000 in
theorem mtN_c : ∀ w ∈ Cond.classLink RX10 201 mNSE :: Cond.initialized mNSE :: vx_at0 RX10 203 mNSE mNs, vx_ot w = true := by decide +kernel
theorem mtN_k : Cond.classLink RX10 201 mNSE ∈ gtbl := gt_in ⟨List.mem_of_getElem? (i := 1042) (by decide +kernel), rfl⟩
theorem mtN_i : Cond.initialized mNSE ∈ gtbl := gt_in ⟨List.mem_of_getElem? (i := 143) (by decide +kernel), rfl⟩
set_option maxRecDepth 100000 in
set_option maxHeartbeats 4000000 in
theorem mtI_a : ∀ w ∈ (vx_at0 RX10 372 mIAE mNs).filter goodWord, w ∈ lw_tbl ∧ goodWord w = true := mchkw_ok _ [134, 751, 760, 763, 766, 768, 752, 753, 151, 152, 754, 759, 764, 780, 741, 781, 743, 782, 745, 755, 757, 747, 770, 771, 772, 773, 773, 774, 775, 776, 776, 777, 778, 752, 769, 730, 738, 739, 740, 742, 744, 746, 750, 749, 748] (by decide +kernel)
set_option maxRecDepth 100000 in
theorem mtI_b : ∀ w ∈ (vx_at0 RX10 372 mIAE mNs).filter (fun w => !goodWord w), w ∈ (mCs.map fun q => Cond.castable q.1 q.2) ++ (mDs.map Cond.declares) := by decide +kernel
set_option maxRecDepth 100000 in
theorem mtI_c : ∀ w ∈ Cond.classLink RX10 370 mIAE :: Cond.initialized mIAE :: vx_at0 RX10 372 mIAE mNs, vx_ot w = true := by decide +kernel
theorem mtI_k : Cond.classLink RX10 370 mIAE ∈ gtbl := gt_in ⟨List.mem_of_getElem? (i := 729) (by decide +kernel), rfl⟩
theorem mtI_i : Cond.initialized mIAE ∈ gtbl := gt_in ⟨List.mem_of_getElem? (i := 137) (by decide +kernel), rfl⟩
section
variable {p : Program} {l : Launch} {e : Env} {R : Room} {s : State} {m : MethodId} {args : Array Value} {below : List Frame} {meth : Method} {c : Code}
variable {M : mM} {kd : Nat → Nat} {base : Nat} {D : va_G} {tc : Nat → ClassId} {g : mW} {sc : Nat × (Nat → Int32)}
theorem mt_bad (hE : mEn D tc kd base sc s s.heap) : ∀ w ∈ (mCs.map fun q => Cond.castable q.1 q.2) ++ (mDs.map Cond.declares), w.before args s = true := by
  intro w hw
  obtain ⟨-, -, ⟨-, e6, e7, -⟩, -⟩ := hE
  rcases List.mem_append.mp hw with h | h
  · obtain ⟨q, hq, rfl⟩ := List.mem_map.mp h
    exact va_Nw.use rfl (e6 q hq)
  · obtain ⟨x, hx, rfl⟩ := List.mem_map.mp h
    exact va_Nw.use rfl (e7 x hx)
theorem mr_xk {k : Nat} {g1 : mW} {H' : Heap} {locs' : List Loc} {cells' : Nat} {t : State} {ce : Cell} {r : mR} (hK : va_K D mcl (mtys tc) s) (hR' : mRl D tc kd base s g1 H' locs' cells') (hk : k < 2) (hsz : t.heap.size = H'.size + 1) (hkp : ∀ q : Nat, q < H'.size → t.heap[q]? = H'[q]?) (hce : t.heap[H'.size]? = some ce) (hcv : ce.vm = .none) (hcl : s.vm.findClass (mxn k) = some ce.cls) :
    va_P D mcl (mwS kd tc base (g1 ++ [mO (12 + k) []])) t.heap ∧ va_F (fun q => base ≤ q) s t := by
  obtain ⟨h1, h2, h3, h4⟩ := hR'
  refine ⟨?_, by rw [hsz]; exact Nat.le_trans h3.1 (Nat.le_succ _), fun q hq hn => ?_⟩
  · rw [mwS_app]
    refine va_P.app (h1.kept fun j x hx => hkp _ ((h1 j x hx).lt)) ?_
    intro j x hx
    have hj : j < 1 := (List.getElem?_eq_some_iff.mp hx).1
    have hj0 : j = 0 := by omega
    subst hj0
    cases hx
    show ∃ r : vw_C, mcl[12 + k]? = some r ∧ _
    rcases (show k = 0 ∨ k = 1 by omega) with rfl | rfl
    · refine ⟨_, rfl, ce, by rw [← h2]; exact hce, ?_, hcv, fun i hi => absurd hi (Nat.not_lt_zero i)⟩
      have h9 := (hK.1 12 _ rfl).2.1
      exact Option.some.inj (hcl.symm.trans h9)
    · refine ⟨_, rfl, ce, by rw [← h2]; exact hce, ?_, hcv, fun i hi => absurd hi (Nat.not_lt_zero i)⟩
      have h9 := (hK.1 13 _ rfl).2.1
      exact Option.some.inj (hcl.symm.trans h9)
  · rw [hkp q (Nat.lt_of_lt_of_le hq h3.1)]
    exact h3.2.1 q hq hn
end
