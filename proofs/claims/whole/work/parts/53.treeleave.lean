/-! ===== a knot leaves a tree ===== -/
def mn : Tr → Nat → Nat
  | .leaf _, d => d
  | .branch k l _, _ => mn l k
def dm : Tr → Tr
  | .leaf x => .leaf x
  | .branch _ (.leaf _) r => r
  | .branch k (.branch k2 l2 r2) r => .branch k (dm (.branch k2 l2 r2)) r
def jn (l r : Tr) : Tr := match l, r with
  | .leaf _, r => r
  | .branch k a b, .leaf _ => .branch k a b
  | .branch k a b, .branch k2 a2 b2 => .branch (mn (.branch k2 a2 b2) 0) (.branch k a b) (dm (.branch k2 a2 b2))
def del (k : Int) : Tr → Tr
  | .leaf x => .leaf x
  | .branch j l r => if (j : Int) = k then jn l r else .branch j (del k l) (del k r)
theorem del_no {k : Int} : ∀ {t : Tr}, k ∉ lb t → del k t = t
  | .leaf _, _ => rfl
  | .branch j l r, h => by
    unfold lb at h
    rw [del, if_neg (show ¬ (j : Int) = k from fun e => h (e ▸ List.mem_append_right _ (List.mem_cons_self ..))), del_no (fun q => h (List.mem_append_left _ q)), del_no (fun q => h (List.mem_append_right _ (List.mem_cons_of_mem _ q)))]
theorem lb_dm : ∀ {k : Nat} {l r : Tr}, lb (.branch k l r) = (mn (.branch k l r) 0 : Int) :: lb (dm (.branch k l r))
  | k, .leaf _, r => rfl
  | k, .branch k2 l2 r2, r => by
    have e : mn (.branch k (.branch k2 l2 r2) r) 0 = mn (.branch k2 l2 r2) 0 := rfl
    rw [lb, lb_dm (k := k2) (l := l2) (r := r2), e, dm, lb]
    rfl
theorem lb_jn (l r : Tr) : lb (jn l r) = lb l ++ lb r := by
  cases l with
  | leaf _ => rfl
  | branch k a b => cases r with
    | leaf _ => rw [jn, lb]; simp [lb]
    | branch k2 a2 b2 => rw [jn, lb, ← lb_dm]
theorem lb_del {k : Int} : ∀ {t : Tr}, (lb t).Nodup → lb (del k t) = (lb t).filter (· ≠ k)
  | .leaf _, _ => rfl
  | .branch j l r, hn => by
    unfold lb at hn
    have h1 := List.nodup_append.mp hn
    have h2 := List.nodup_cons.mp h1.2.1
    by_cases e : (j : Int) = k
    · rw [del, if_pos e, lb_jn, lb]
      rw [e] at hn ⊢
      rw [filter_cut hn]
    · rw [del, if_neg e, lb, lb, lb_del h1.1, lb_del h2.2, List.filter_append, List.filter_cons_of_pos (by simpa using e)]
def delT (k : Int) (T : Int → Tr) : Int → Tr := fun ρ => del k (T ρ)
theorem al_del {k : Int} {T : Int → Tr} (hw : wfT T) : al (delT k T) = (al T).filter (· ≠ k) := by
  unfold al delT
  rw [lb_del (lb_nd hw (by decide) (by decide)), lb_del (lb_nd hw (by decide) (by decide)), lb_del (lb_nd hw (by decide) (by decide)), List.filter_append, List.filter_append]
theorem wf_del {k : Int} {T : Int → Tr} (hw : wfT T) : wfT (delT k T) := by
  refine ⟨?_, ?_⟩
  · rw [al_del hw]; exact hw.1.filter _
  · rw [al_del hw]; exact fun j hj => hw.2 j (List.mem_filter.mp hj).1
theorem hg_move {h h' : Int → Int} {t : Tr} {s s' : Int} (a : hg h t s) (b : h' s' = rt t) (c : ∀ j ∈ lb t, h' (2 * j) = h (2 * j) ∧ h' (2 * j + 1) = h (2 * j + 1)) : hg h' t s' := by
  cases t with
  | leaf _ => exact b
  | branch k l r =>
    unfold hg at a
    have ck := c k (List.mem_append_right _ (List.mem_cons_self ..))
    exact ⟨b, hg_cong a.2.1 ck.1 (fun j hj => c j (List.mem_append_left _ hj)), hg_cong a.2.2 ck.2 (fun j hj => c j (List.mem_append_right _ (List.mem_cons_of_mem _ hj)))⟩
/-- the slot of the leftmost knot -/
def fr : Tr → Int → Int
  | .leaf _, s => s
  | .branch _ (.leaf _) _, s => s
  | .branch k (.branch k2 l2 r2) _, _ => fr (.branch k2 l2 r2) (2 * (k : Int))
theorem fr_at : ∀ {t : Tr} {s : Int}, fr t s = s ∨ ∃ i ∈ lb t, fr t s = 2 * i
  | .leaf _, s => .inl rfl
  | .branch _ (.leaf _) _, s => .inl rfl
  | .branch k (.branch k2 l2 r2) r, s => by
    right
    have e : fr (.branch k (.branch k2 l2 r2) r) s = fr (.branch k2 l2 r2) (2 * (k : Int)) := rfl
    rcases fr_at (t := .branch k2 l2 r2) (s := 2 * (k : Int)) with h | ⟨i, hi, h⟩
    · exact ⟨k, List.mem_append_right _ (List.mem_cons_self ..), by rw [e, h]⟩
    · exact ⟨i, List.mem_append_left _ hi, by rw [e, h]⟩
theorem dm_hg {h : Int → Int} : ∀ {k : Nat} {l r : Tr} {s : Int}, hg h (.branch k l r) s → (lb (.branch k l r)).Nodup → (∀ j ∈ lb (.branch k l r), s ≠ 2 * j ∧ s ≠ 2 * j + 1) → hg (fun x => if x = fr (.branch k l r) s then h (2 * (mn (.branch k l r) 0 : Int) + 1) else h x) (dm (.branch k l r)) s
  | k, .leaf _, r, s, a, hn, hs => by
    unfold hg at a
    refine hg_move a.2.2 ?_ (fun j hj => ?_)
    · show (if s = s then _ else _) = _
      rw [if_pos rfl]
      exact hg_rt a.2.2
    · have q := hs j (List.mem_append_right _ (List.mem_cons_of_mem _ hj))
      show (if 2 * j = s then _ else _) = _ ∧ (if 2 * j + 1 = s then _ else _) = _
      rw [if_neg (fun e => q.1 e.symm), if_neg (fun e => q.2 e.symm)]
      exact ⟨rfl, rfl⟩
  | k, .branch k2 l2 r2, r, s, a, hn, hs => by
    unfold hg at a
    unfold lb at hn
    have h1 := List.nodup_append.mp hn
    have h2 := List.nodup_cons.mp h1.2.1
    have hkl : ∀ j ∈ lb (.branch k2 l2 r2), j ≠ (k : Int) := fun j hj => h1.2.2 j hj k (List.mem_cons_self ..)
    have ih := dm_hg a.2.1 h1.1 (fun j hj => ⟨by have := hkl j hj; omega, by omega⟩)
    have e : fr (.branch k (.branch k2 l2 r2) r) s = fr (.branch k2 l2 r2) (2 * (k : Int)) := rfl
    have e2 : mn (.branch k (.branch k2 l2 r2) r) 0 = mn (.branch k2 l2 r2) 0 := rfl
    rw [e, e2, dm]
    have hfr : fr (.branch k2 l2 r2) (2 * (k : Int)) = 2 * (k : Int) ∨ ∃ i ∈ lb (.branch k2 l2 r2), fr (.branch k2 l2 r2) (2 * (k : Int)) = 2 * i := fr_at
    refine ⟨?_, ih, hg_cong a.2.2 ?_ (fun j hj => ?_)⟩
    · have : s ≠ fr (.branch k2 l2 r2) (2 * (k : Int)) := by
        rcases hfr with q | ⟨i, hi, q⟩
        · rw [q]; exact (hs k (List.mem_append_right _ (List.mem_cons_self ..))).1
        · rw [q]; exact (hs i (List.mem_append_left _ hi)).1
      show (if s = _ then _ else _) = _
      rw [if_neg this]; exact a.1
    · show (if 2 * (k : Int) + 1 = _ then _ else _) = _
      rw [if_neg (by rcases hfr with q | ⟨i, hi, q⟩ <;> omega)]
    · have : ∀ i ∈ lb (.branch k2 l2 r2), i ≠ j := fun i hi => h1.2.2 i hi j (List.mem_cons_of_mem _ hj)
      have hkj : (k : Int) ≠ j := fun e => h2.1 (e ▸ hj)
      show (if 2 * j = _ then _ else _) = _ ∧ (if 2 * j + 1 = _ then _ else _) = _
      rw [if_neg (by
        rcases hfr with q | ⟨i, hi, q⟩
        · omega
        · have := this i hi; omega), if_neg (by rcases hfr with q | ⟨i, hi, q⟩ <;> omega)]
      exact ⟨rfl, rfl⟩
/-- what hangs below a knot is replaced -/
theorem hg_del {h h' : Int → Int} {k : Nat} {l r : Tr} {sk dk : Int} {Ak Bk : List (Int × Int)} : ∀ {t : Tr} {s d : Int} {A B : List (Int × Int)}, hg h t s → (lb t).Nodup → (∀ i ∈ lb t, s ≠ 2 * i ∧ s ≠ 2 * i + 1) → (sk, .branch k l r, dk, Ak, Bk) ∈ cx t s d A B → hg h' (jn l r) sk → (∀ x, (x = s ∨ ∃ j ∈ lb t, x = 2 * j ∨ x = 2 * j + 1) → x ≠ sk → (∀ j ∈ lb (.branch k l r), x ≠ 2 * j ∧ x ≠ 2 * j + 1) → h' x = h x) → hg h' (del k t) s
  | .leaf _, _, _, _, _, _, _, _, hc, _, _ => absurd hc List.not_mem_nil
  | .branch j a b, s, d, A, B, hh, hn, hs, hc, hj, hx => by
    have hn0 := hn
    unfold lb at hn
    have h1 := List.nodup_append.mp hn
    have h2 := List.nodup_cons.mp h1.2.1
    have hsub := cx_lb hc
    rcases List.mem_cons.mp hc with e | hc
    · cases e
      rw [del, if_pos rfl]
      exact hj
    · unfold hg at hh
      have hself : (k : Int) ∈ lb (.branch k l r) := List.mem_append_right _ (List.mem_cons_self ..)
      rcases List.mem_append.mp hc with hc | hc
      · have hsub' := cx_lb hc
        have hka := hsub' k hself
        have hne : (j : Int) ≠ k := fun e => h1.2.2 k hka j (List.mem_cons_self ..) e.symm
        have hkb : (k : Int) ∉ lb b := fun e => h1.2.2 k hka k (List.mem_cons_of_mem _ e) rfl
        have hsk : sk = 2 * (j : Int) ∨ ∃ i ∈ lb a, sk = 2 * i ∨ sk = 2 * i + 1 := by
          rcases cx_par hc with ⟨q, _⟩ | ⟨p, l', r', sp, dp, Ap, Bp, hm, _, q⟩
          · exact .inl q
          · refine .inr ⟨p, cx_lb hm p (List.mem_append_right _ (List.mem_cons_self ..)), ?_⟩
            rcases q with ⟨q, _⟩ | ⟨q, _⟩
            · exact .inl q
            · exact .inr q
        rw [del, if_neg hne, del_no hkb]
        refine ⟨?_, hg_del hh.2.1 h1.1 (fun i hi => ⟨by have := h1.2.2 i hi j (List.mem_cons_self ..); omega, by omega⟩) hc hj (fun x hxx => hx x ?_), hg_cong hh.2.2 ?_ (fun i hi => ?_)⟩
        · rw [hx s (.inl rfl) ?_ (fun i hi => hs i (hsub i hi))]
          · exact hh.1
          · rcases hsk with q | ⟨i, hi, q⟩
            · rw [q]; exact (hs j (List.mem_append_right _ (List.mem_cons_self ..))).1
            · have := hs i (List.mem_append_left _ hi)
              rcases q with q | q <;> rw [q]
              · exact this.1
              · exact this.2
        · right
          rcases hxx with q | ⟨i, hi, q⟩
          · exact ⟨j, List.mem_append_right _ (List.mem_cons_self ..), .inl q⟩
          · exact ⟨i, List.mem_append_left _ hi, q⟩
        · refine hx _ (.inr ⟨j, List.mem_append_right _ (List.mem_cons_self ..), .inr rfl⟩) ?_ (fun i hi => ?_)
          · rcases hsk with q | ⟨i, hi, q⟩
            · omega
            · have := h1.2.2 i hi j (List.mem_cons_self ..)
              rcases q with q | q <;> omega
          · have := h1.2.2 i (hsub' i hi) j (List.mem_cons_self ..)
            omega
        · have hia : ∀ i' ∈ lb a, i' ≠ i := fun i' hi' => h1.2.2 i' hi' i (List.mem_cons_of_mem _ hi)
          have hji : (j : Int) ≠ i := fun e => h2.1 (e ▸ hi)
          have hh1 : 2 * i ≠ sk ∧ 2 * i + 1 ≠ sk := by
            rcases hsk with q | ⟨i', hi', q⟩
            · omega
            · have := hia i' hi'
              rcases q with q | q <;> omega
          refine ⟨hx _ (.inr ⟨i, List.mem_append_right _ (List.mem_cons_of_mem _ hi), .inl rfl⟩) hh1.1 (fun i' hi' => ?_), hx _ (.inr ⟨i, List.mem_append_right _ (List.mem_cons_of_mem _ hi), .inr rfl⟩) hh1.2 (fun i' hi' => ?_)⟩
          · have := hia i' (hsub' i' hi'); omega
          · have := hia i' (hsub' i' hi'); omega
      · have hsub' := cx_lb hc
        have hkb := hsub' k hself
        have hne : (j : Int) ≠ k := fun e => h2.1 (e ▸ hkb)
        have hka : (k : Int) ∉ lb a := fun e => h1.2.2 k e k (List.mem_cons_of_mem _ hkb) rfl
        have hsk : sk = 2 * (j : Int) + 1 ∨ ∃ i ∈ lb b, sk = 2 * i ∨ sk = 2 * i + 1 := by
          rcases cx_par hc with ⟨q, _⟩ | ⟨p, l', r', sp, dp, Ap, Bp, hm, _, q⟩
          · exact .inl q
          · refine .inr ⟨p, cx_lb hm p (List.mem_append_right _ (List.mem_cons_self ..)), ?_⟩
            rcases q with ⟨q, _⟩ | ⟨q, _⟩
            · exact .inl q
            · exact .inr q
        have hjb : ∀ i ∈ lb b, (j : Int) ≠ i := fun i hi e => h2.1 (e ▸ hi)
        rw [del, if_neg hne, del_no hka]
        refine ⟨?_, hg_cong hh.2.1 ?_ (fun i hi => ?_), hg_del hh.2.2 h2.2 (fun i hi => ⟨by omega, by have := hjb i hi; omega⟩) hc hj (fun x hxx => hx x ?_)⟩
        · rw [hx s (.inl rfl) ?_ (fun i hi => hs i (hsub i hi))]
          · exact hh.1
          · rcases hsk with q | ⟨i, hi, q⟩
            · rw [q]; exact (hs j (List.mem_append_right _ (List.mem_cons_self ..))).2
            · have := hs i (List.mem_append_right _ (List.mem_cons_of_mem _ hi))
              rcases q with q | q <;> rw [q]
              · exact this.1
              · exact this.2
        · refine hx _ (.inr ⟨j, List.mem_append_right _ (List.mem_cons_self ..), .inl rfl⟩) ?_ (fun i hi => ?_)
          · rcases hsk with q | ⟨i, hi, q⟩
            · omega
            · have := hjb i hi
              rcases q with q | q <;> omega
          · have := hjb i (hsub' i hi)
            omega
        · have hia : ∀ i' ∈ lb b, i ≠ i' := fun i' hi' => h1.2.2 i hi i' (List.mem_cons_of_mem _ hi')
          have hji : i ≠ (j : Int) := h1.2.2 i hi j (List.mem_cons_self ..)
          have hh1 : 2 * i ≠ sk ∧ 2 * i + 1 ≠ sk := by
            rcases hsk with q | ⟨i', hi', q⟩
            · omega
            · have := hia i' hi'
              rcases q with q | q <;> omega
          refine ⟨hx _ (.inr ⟨i, List.mem_append_left _ hi, .inl rfl⟩) hh1.1 (fun i' hi' => ?_), hx _ (.inr ⟨i, List.mem_append_left _ hi, .inr rfl⟩) hh1.2 (fun i' hi' => ?_)⟩
          · have := hia i' (hsub' i' hi'); omega
          · have := hia i' (hsub' i' hi'); omega
        · right
          rcases hxx with q | ⟨i, hi, q⟩
          · exact ⟨j, List.mem_append_right _ (List.mem_cons_self ..), .inr q⟩
          · exact ⟨i, List.mem_append_right _ (List.mem_cons_of_mem _ hi), q⟩
