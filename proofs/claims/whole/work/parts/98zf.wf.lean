/-! ===== every call keeps the world well formed ===== -/
section
variable {W : aW} {A : aS}
theorem wf_ref (hW : wfW W) : wfW (refW W) := hW
theorem wf_act (hW : wfW W) (hA : wfA W.1 A) (ht : okT A) : wfW (actW W A) := by
  obtain ⟨hP, ⟨b1, b2, b3, b4, b5⟩, ⟨t1, t2⟩, i, f, t⟩ := hW
  refine ⟨hP, ⟨hA, fun B hB => ?_, hAdd_len _ b3, b4, b5⟩, ⟨ht, fun B hB => ?_⟩, i, f, t⟩
  · rcases hAdd_mem hB with q | q
    · exact b2 B q
    · rw [q]; exact b1
  · rcases hAdd_mem hB with q | q
    · exact t2 B q
    · rw [q]; exact t1
theorem wf_actF (hW : wfW W) {x : Int × aS} (h : x.1 ≠ -1 → wfA W.1 x.2 ∧ okT x.2) : wfW (actF W x).2 := by
  unfold actF
  by_cases c : x.1 = -1
  · rw [if_pos c]; exact wf_ref hW
  · rw [if_neg c]; exact wf_act hW (h c).1 (h c).2
theorem okT_eq {A B : aS} (h : okT A) (e : B.v 6 2 = A.v 6 2) : okT B := by unfold okT at *; rw [e]; exact h
theorem wf_write (hW : wfW W) {g p c n : Int} : wfW (writeF W g p c n).2 := by
  unfold writeF
  by_cases c1 : plc W.1 g p = -1
  · rw [if_pos c1]; exact hW
  rw [if_neg c1]
  by_cases c2 : 0 ≤ c ∧ c < 4
  · rw [if_neg (fun q => q c2)]
    by_cases c3 : 0 ≤ n ∧ n ≤ 15
    · rw [if_neg (fun q => q c3)]
      exact wf_actF hW (fun _ => ⟨wf_put hW.1 hW.2.1.1 (plc_rg hW.1 c1).2.2.2 (pcell_rg (cellsA_rg hW.2.1.1 _) ⟨c3.1, by omega⟩ c2), okT_eq hW.2.2.1.1 (tm_put _ _ _ _)⟩)
    · rw [if_pos c3]; exact wf_ref hW
  · rw [if_pos c2]; exact hW
theorem wf_copy (hW : wfW W) {g p o q : Int} : wfW (copyF W g p o q).2 := by
  unfold copyF
  by_cases c1 : plc W.1 g p = -1
  · rw [if_pos c1]; exact hW
  rw [if_neg c1]
  by_cases c2 : plc W.1 o q = -1
  · rw [if_pos c2]; exact hW
  rw [if_neg c2]
  exact wf_actF hW (fun _ => ⟨wf_put hW.1 hW.2.1.1 (plc_rg hW.1 c1).2.2.2 (cellsA_rg hW.2.1.1 _), okT_eq hW.2.2.1.1 (tm_put _ _ _ _)⟩)
theorem wf_dropF (hW : wfW W) {g p : Int} : wfW (dropF W g p).2 := by
  unfold dropF
  by_cases c1 : plc W.1 g p = -1
  · rw [if_pos c1]; exact hW
  rw [if_neg c1]
  exact wf_actF hW (fun _ => ⟨wf_drop hW.1 hW.2.1.1 (plc_rg hW.1 c1).2.2.2, okT_eq hW.2.2.1.1 (tm_drop _ _)⟩)
theorem wf_advise (hW : wfW W) {g f t as : Int} : wfW (adviseF W g f t as).2 := by
  unfold adviseF
  by_cases c1 : plc W.1 g f = -1
  · rw [if_pos c1]; exact hW
  rw [if_neg c1]
  by_cases c2 : plc W.1 g t = -1
  · rw [if_pos c2]; exact hW
  rw [if_neg c2]
  refine wf_actF hW (fun _ => ⟨wf_advX hW (plc_rg hW.1 c1).2.2.2 (plc_rg hW.1 c2).2.2.2, okT_eq hW.2.2.1.1 ?_⟩)
  show (advX W (plc W.1 g f) (plc W.1 g t) as).2.v 6 2 = _
  unfold advX
  split
  · exact tm_noMore _ _ _ _
  · exact tm_adv _ _ _
theorem wf_scanF (hW : wfW W) {n : Int} : wfW (scanF W n).2 := by
  unfold scanF
  by_cases c : 1 ≤ n ∧ n ≤ 100
  · rw [if_neg (fun q => q c)]
    exact wf_actF hW (fun _ => ⟨wf_scanN hW.1 _ hW.2.1.1, okT_eq hW.2.2.1.1 (tm_scanN _ _ _)⟩)
  · rw [if_pos c]; exact wf_ref hW
theorem wf_ticksF (hW : wfW W) {n : Int} : wfW (ticksF W n).2 := by
  unfold ticksF
  by_cases c : 1 ≤ n ∧ n ≤ 20
  · rw [if_neg (fun q => q c)]
    by_cases c2 : 9999 < W.2.1.1.v 6 2 + n
    · rw [if_pos c2]; exact wf_ref hW
    · rw [if_neg c2]
      refine wf_actF hW (fun _ => ⟨wf_tick hW.1 _ hW.2.1.1, ?_⟩)
      have ht := hW.2.2.1.1
      unfold okT at *
      show 0 ≤ (tickA W.1 n.toNat W.2.1.1).2.v 6 2 ∧ (tickA W.1 n.toNat W.2.1.1).2.v 6 2 ≤ 9999
      rw [tm_tick]
      omega
  · rw [if_pos c]; exact wf_ref hW
theorem wf_rateF (hW : wfW W) {r : Int} : wfW (rateF W r).2 := by
  have hP2 := hW.1.2.2.1
  unfold rateF
  by_cases c : W.1 0 2 ≤ r ∧ r ≤ W.1 0 3
  · rw [if_neg (fun q => q c)]
    by_cases c2 : r = W.2.1.1.v 6 0
    · rw [if_pos c2]; exact wf_ref hW
    · rw [if_neg c2]
      exact wf_actF hW (fun _ => ⟨wf_v6 hW.2.1.1 (fun _ => ⟨by omega, by omega⟩) (fun q => absurd q (by decide)) (fun q => absurd q (by decide)), okT_eq hW.2.2.1.1 (tm_sv W.2.1.1 (j := 6) (i := 0) r (.inr (by decide)))⟩)
  · rw [if_pos c]; exact wf_ref hW
theorem wf_undo (hW : wfW W) : wfW (undoF W).2 := by
  unfold undoF
  cases hq : W.2.1.2.1.getLast? with
  | none => exact hW
  | some A =>
    have hm : A ∈ W.2.1.2.1 := List.mem_of_getLast? hq
    obtain ⟨hP, ⟨b1, b2, b3, b4, b5⟩, ⟨t1, t2⟩, i, f, t⟩ := hW
    exact ⟨hP, ⟨b2 A hm, fun B hB => b2 B (List.dropLast_subset _ hB), by show W.2.1.2.1.dropLast.length ≤ 40; rw [List.length_dropLast]; omega, b4, b5⟩, ⟨t2 A hm, fun B hB => t2 B (List.dropLast_subset _ hB)⟩, i, f, t⟩
theorem wf_note (hW : wfW W) {t u : Int} : wfW (noteF W t u).2 := by
  unfold noteF
  by_cases c : W.2.1.2.2.1 = 8 ∨ ¬(0 ≤ t ∧ t ≤ 20) ∨ ¬(0 ≤ u ∧ u ≤ 48)
  · rw [if_pos c]
    obtain ⟨hP, ⟨b1, b2, b3, b4, b5⟩, ⟨t1, t2⟩, i, f, t⟩ := hW
    exact ⟨hP, ⟨b1, b2, b3, b4, fun i h1 h2 => b5 i h1 h2⟩, ⟨t1, t2⟩, i, f, t⟩
  · rw [if_neg c]
    obtain ⟨hP, ⟨b1, b2, b3, b4, b5⟩, ⟨t1, t2⟩, i, f, tt⟩ := hW
    refine ⟨hP, ⟨b1, b2, b3, ⟨by show 0 ≤ W.2.1.2.2.1 + 1; omega, by show W.2.1.2.2.1 + 1 ≤ 8; omega⟩, fun i h1 h2 => ?_⟩, ⟨t1, t2⟩, i, f, tt⟩
    have h2' : i < W.2.1.2.2.1 + 1 := h2
    have e0 : up (up W.2.1.2.2.2 0 W.2.1.2.2.1 t) 1 W.2.1.2.2.1 u 0 i = if i = W.2.1.2.2.1 then t else W.2.1.2.2.2 0 i := by
      rw [up_ne (show (0 : Nat) ≠ 1 by decide), up_at]
    have e1 : up (up W.2.1.2.2.2 0 W.2.1.2.2.1 t) 1 W.2.1.2.2.1 u 1 i = if i = W.2.1.2.2.1 then u else W.2.1.2.2.2 1 i := by
      rw [up_at, up_ne (show (1 : Nat) ≠ 0 by decide)]
    show (0 ≤ up (up W.2.1.2.2.2 0 W.2.1.2.2.1 t) 1 W.2.1.2.2.1 u 0 i ∧ up (up W.2.1.2.2.2 0 W.2.1.2.2.1 t) 1 W.2.1.2.2.1 u 0 i ≤ 20) ∧ (0 ≤ up (up W.2.1.2.2.2 0 W.2.1.2.2.1 t) 1 W.2.1.2.2.1 u 1 i ∧ up (up W.2.1.2.2.2 0 W.2.1.2.2.1 t) 1 W.2.1.2.2.1 u 1 i ≤ 48)
    rw [e0, e1]
    by_cases d : i = W.2.1.2.2.1
    · rw [if_pos d, if_pos d]; omega
    · rw [if_neg d, if_neg d]; exact b5 i h1 (by omega)
theorem wf_forget (hW : wfW W) : wfW (forgW W) := by
  obtain ⟨hP, ⟨b1, b2, b3, b4, b5⟩, ⟨t1, t2⟩, i, f, t⟩ := hW
  exact ⟨hP, ⟨b1, b2, b3, ⟨by show (0 : Int) ≤ 0; decide, by show (0 : Int) ≤ 8; decide⟩, fun i h1 h2 => absurd (show i < 0 from h2) (by omega)⟩, ⟨t1, t2⟩, i, f, t⟩
theorem wf_image (hW : wfW W) : wfW (imgW W) := by
  obtain ⟨hP, b, ⟨t1, t2⟩, i, f, t⟩ := hW
  exact ⟨hP, b, ⟨t1, t2⟩, fun B hB => by cases hB; exact ⟨b, t1, t2⟩, f, t⟩
theorem wf_restore (hW : wfW W) : wfW (restF W).2 := by
  unfold restF
  cases hq : W.2.2.1 with
  | none => exact hW
  | some B =>
    obtain ⟨hP, b, tt, i, f, t⟩ := hW
    obtain ⟨q1, q2, q3⟩ := i B hq
    exact ⟨hP, q1, ⟨q2, q3⟩, fun B' hB' => by cases hB'; exact ⟨q1, q2, q3⟩, f, t⟩
theorem wf_feed (hW : wfW W) {a b c d x : Int} : wfW (feedF W a b c d x).2 := by
  unfold feedF
  by_cases k : 700 < W.2.2.2 1 0 + 20
  · rw [if_pos k]; exact hW
  · rw [if_neg k]
    obtain ⟨hP, bb, tt, i, f, t⟩ := hW
    have tf := tp_fed W.2.2.2 a b c d x
    refine ⟨hP, bb, tt, i, ?_, fun j => ?_⟩
    · show 0 ≤ tpA W.2.2.2 a b c d x 1 0 ∧ tpA W.2.2.2 a b c d x 1 0 ≤ 700
      rw [tf.1]; omega
    · show 0 ≤ tpA W.2.2.2 a b c d x 0 j ∧ tpA W.2.2.2 a b c d x 0 j < 256
      rw [tp_0]
      split
      · exact byt_rg _ _
      · exact t j
end
