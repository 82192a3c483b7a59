/-! ===== the reference's trees: a row holds a list of knots with depths ===== -/
def gl (l : List (Int × Int)) (i : Int) : Int × Int := l.getD i.toNat (0, 0)
def pf (l : List (Int × Int)) : Int → Int := fun i => (gl l i).1
def df (l : List (Int × Int)) : Int → Int := fun i => (gl l i).2
theorem gl_lt {A B : List (Int × Int)} {i : Int} (h0 : 0 ≤ i) (h : i < A.length) : gl (A ++ B) i = gl A i := by
  unfold gl
  rw [List.getD_eq_getElem?_getD, List.getD_eq_getElem?_getD, List.getElem?_append_left (by omega)]
theorem gl_ge {A B : List (Int × Int)} {i : Int} (h : (A.length : Int) ≤ i) : gl (A ++ B) i = gl B (i - A.length) := by
  unfold gl
  rw [List.getD_eq_getElem?_getD, List.getD_eq_getElem?_getD, List.getElem?_append_right (by omega)]
  congr 2
  omega
theorem gl_0 (x : Int × Int) (B : List (Int × Int)) {i : Int} (h : i = 0) : gl (x :: B) i = x := by subst h; rfl
theorem gl_s (x : Int × Int) (B : List (Int × Int)) {i : Int} (h : 1 ≤ i) : gl (x :: B) i = gl B (i - 1) := by
  have := gl_ge (A := [x]) (B := B) (i := i) (by simpa using h)
  simpa using this
theorem gl_mem {l : List (Int × Int)} {i : Int} (h0 : 0 ≤ i) (h : i < l.length) : gl l i ∈ l := by
  unfold gl
  rw [List.getD_eq_getElem?_getD, List.getElem?_eq_getElem (by omega)]
  exact List.getElem_mem ..
abbrev rowl (R : Int → Int) (t : Int) (l : List (Int × Int)) : Prop := rowf R t l.length (pf l) (df l)
theorem rowf_cong {R : Int → Int} {t n : Int} {p d p' d' : Int → Int} (h : rowf R t n p d) (e : ∀ i, 0 ≤ i → i < n → p i = p' i ∧ d i = d' i) : rowf R t n p' d' := ⟨h.1, fun i h1 h2 => by have q := h.2 i h1 h2; have q2 := e i h1 h2; exact ⟨q.1.trans q2.1, q.2.trans q2.2⟩⟩
theorem gl_cut {A B : List (Int × Int)} {x : Int × Int} {c i : Int} (hc : c = A.length) (h0 : 0 ≤ i) : (if i < c then gl (A ++ x :: B) i else gl (A ++ x :: B) (i + 1)) = gl (A ++ B) i := by
  subst hc
  split
  · rename_i h; rw [gl_lt h0 h, gl_lt h0 h]
  · rename_i h; rw [gl_ge (by omega), gl_ge (by omega), gl_s _ _ (by omega)]; congr 1; omega
theorem row_cut {R : Int → Int} {t : Int} {A B : List (Int × Int)} {x : Int × Int} {c : Int} (hc : c = A.length) (h : rowf R t (((A ++ x :: B).length : Int) - 1) (cutf (pf (A ++ x :: B)) c) (cutf (df (A ++ x :: B)) c)) : rowl R t (A ++ B) := by
  have e : ((A ++ x :: B).length : Int) - 1 = (A ++ B).length := by simp only [List.length_append, List.length_cons]; omega
  rw [e] at h
  refine rowf_cong h (fun i h1 h2 => ?_)
  have q := gl_cut (x := x) (B := B) hc h1
  unfold cutf pf df
  rw [← q]
  split <;> exact ⟨rfl, rfl⟩
theorem row_put {R : Int → Int} {t : Int} {A B : List (Int × Int)} {x : Int × Int} {c : Int} (hc : c = A.length) (h : rowf R t (((A ++ B).length : Int) + 1) (putf (pf (A ++ B)) c x.1) (putf (df (A ++ B)) c x.2)) : rowl R t (A ++ x :: B) := by
  have e : ((A ++ B).length : Int) + 1 = (A ++ x :: B).length := by simp only [List.length_append, List.length_cons]; omega
  rw [e] at h
  refine rowf_cong h (fun i h1 h2 => ?_)
  subst hc
  unfold putf pf df
  by_cases c1 : i < A.length
  · rw [if_pos c1, if_pos c1, gl_lt h1 c1, gl_lt h1 c1]; exact ⟨rfl, rfl⟩
  · rw [if_neg c1, if_neg c1]
    by_cases c2 : i = A.length
    · rw [if_pos c2, if_pos c2, gl_ge (by omega), gl_0 _ _ (by omega)]; exact ⟨rfl, rfl⟩
    · rw [if_neg c2, if_neg c2, gl_ge (by omega), gl_ge (by omega), gl_s _ _ (by omega), show i - 1 - (A.length : Int) = i - A.length - 1 by omega]
      exact ⟨rfl, rfl⟩
def dec (l : List (Int × Int)) : List (Int × Int) := l.map fun x => (x.1, x.2 - 1)
theorem gl_dec {l : List (Int × Int)} {i : Int} (h0 : 0 ≤ i) (h : i < l.length) : gl (dec l) i = ((gl l i).1, (gl l i).2 - 1) := by
  unfold gl dec
  rw [List.getD_eq_getElem?_getD, List.getD_eq_getElem?_getD, List.getElem?_map, List.getElem?_eq_getElem (by omega)]
  rfl
theorem row_dec {l A M B : List (Int × Int)} {j e : Int} (hl : l = A ++ M ++ B) (hj : j = A.length) (he : e = A.length + M.length) {i : Int} (h0 : 0 ≤ i) : pf l i = pf (A ++ dec M ++ B) i ∧ decf (df l) j e i = df (A ++ dec M ++ B) i := by
  subst hl hj he
  have hdl : (dec M).length = M.length := by unfold dec; rw [List.length_map]
  unfold decf pf df
  by_cases c1 : i < A.length
  · have e1 : gl (A ++ M ++ B) i = gl A i := by rw [gl_lt h0 (by rw [List.length_append]; omega), gl_lt h0 c1]
    have e2 : gl (A ++ dec M ++ B) i = gl A i := by rw [gl_lt h0 (by rw [List.length_append]; omega), gl_lt h0 c1]
    rw [e1, e2, if_neg (by omega)]; exact ⟨rfl, rfl⟩
  · by_cases c2 : i < A.length + M.length
    · have e1 : gl (A ++ M ++ B) i = gl M (i - A.length) := by rw [gl_lt h0 (by rw [List.length_append]; omega), gl_ge (by omega)]
      have e2 : gl (A ++ dec M ++ B) i = ((gl M (i - A.length)).1, (gl M (i - A.length)).2 - 1) := by rw [gl_lt h0 (by rw [List.length_append]; omega), gl_ge (by omega), gl_dec (by omega) (by omega)]
      rw [e1, e2, if_pos (by omega)]; exact ⟨rfl, rfl⟩
    · have e1 : gl (A ++ M ++ B) i = gl B (i - A.length - M.length) := by rw [gl_ge (by rw [List.length_append]; omega), List.length_append]; congr 1; omega
      have e2 : gl (A ++ dec M ++ B) i = gl B (i - A.length - M.length) := by rw [gl_ge (by rw [List.length_append]; omega), List.length_append, hdl]; congr 1; omega
      rw [e1, e2, if_neg (by omega)]; exact ⟨rfl, rfl⟩
theorem fd_ge : ∀ {t : Tr} {d : Int} {x : Int × Int}, x ∈ fd t d → d ≤ x.2
  | .leaf _, _, _, h => absurd h List.not_mem_nil
  | .branch k l r, d, x, h => by
    rcases List.mem_append.mp h with h | h
    · have := fd_ge h; omega
    · rcases List.mem_cons.mp h with h | h
      · rw [h]; exact Int.le_refl _
      · have := fd_ge h; omega
theorem dec_fd : ∀ (t : Tr) (d : Int), dec (fd t (d + 1)) = fd t d
  | .leaf _, _ => rfl
  | .branch k l r, d => by
    unfold fd dec
    rw [List.map_append, List.map_cons]
    have h1 := dec_fd l (d + 1)
    have h2 := dec_fd r (d + 1)
    unfold dec at h1 h2
    rw [h1, h2, show d + 1 - 1 = d by omega]
/-- the leftmost knot of a tree, its right side, the rest -/
theorem fd_min : ∀ (k : Nat) (l r : Tr) (d : Int), ∃ (m : Int) (u : Tr) (B : List (Int × Int)), d ≤ m ∧ fd (.branch k l r) d = ((mn (.branch k l r) 0 : Int), m) :: (fd u (m + 1) ++ B) ∧ (∀ y B0, B = y :: B0 → y.2 < m) ∧ fd (dm (.branch k l r)) d = fd u m ++ B ∧ ∀ y ∈ B, d ≤ y.2
  | k, .leaf _, r, d => ⟨d, r, [], Int.le_refl _, by simp [fd, mn], fun y B0 h => (nomatch h), by rw [List.append_nil]; rfl, fun y h => absurd h List.not_mem_nil⟩
  | k, .branch k2 l2 r2, r, d => by
    obtain ⟨m, u, B, h1, h2, h3, h4, h5⟩ := fd_min k2 l2 r2 (d + 1)
    refine ⟨m, u, B ++ ((k : Int), d) :: fd r (d + 1), by omega, ?_, fun y B0 h => ?_, ?_, fun y hy => ?_⟩
    · rw [fd, h2, show mn (.branch k (.branch k2 l2 r2) r) 0 = mn (.branch k2 l2 r2) 0 from rfl]; simp
    · cases B with
      | nil => rw [List.nil_append] at h; have := (List.cons.inj h).1; rw [← this]; show d < m; omega
      | cons y' B' => have := (List.cons.inj h).1; rw [← this]; exact h3 y' B' rfl
    · rw [dm, fd, h4]; simp
    · rcases List.mem_append.mp hy with hy | hy
      · have := h5 y hy; omega
      · rcases List.mem_cons.mp hy with hy | hy
        · rw [hy]; exact Int.le_refl _
        · have := fd_ge hy; omega
section
variable {sc : Nat × (Nat → Int32)} {SH : List mCell} {S : mStore} {t : Int}
theorem lift_l (h0 : sMod SH) (ht : 0 ≤ t ∧ t < 137300) {A M N B : List (Int × Int)} {x : Int × Int} (hr : rowl (S 91) t (A ++ M ++ x :: N ++ B)) (hn : (A ++ M ++ x :: N ++ B).length ≤ 48) (hd : ∀ y ∈ A ++ M ++ x :: N ++ B, 0 ≤ y.2 ∧ y.2 < 48) (hM : ∀ y ∈ M, x.2 < y.2) (hN : ∀ y ∈ N, x.2 < y.2) (hA : ∀ A0 y, A = A0 ++ [y] → y.2 ≤ x.2) (hB : ∀ y B0, B = y :: B0 → y.2 ≤ x.2) {c : Int} (hc : c = (A ++ M).length) {u u' u'' : Option Value} : ∃ S', G sc MX11_liftsOut 0 [some (.ref 90), some (.int (I t)), some (.int (I c)), u, u', u''] [] SH S (rV SH S') ∧ rowl (S' 91) t (A ++ dec M ++ dec N ++ B) ∧ rowF S S' t := by
  have hlen : (A ++ M ++ x :: N ++ B).length = A.length + M.length + 1 + N.length + B.length := by simp only [List.length_append, List.length_cons]; omega
  have hcl : c = A.length + M.length := by rw [hc, List.length_append]; omega
  have gx : gl (A ++ M ++ x :: N ++ B) c = x := by
    rw [gl_lt (by omega) (by simp only [List.length_append, List.length_cons]; omega), gl_ge (by rw [List.length_append]; omega), gl_0 _ _ (by rw [List.length_append]; omega)]
  have gM : ∀ i, (A.length : Int) ≤ i → i < c → gl (A ++ M ++ x :: N ++ B) i ∈ M := fun i h1 h2 => by
    rw [gl_lt (by omega) (by simp only [List.length_append, List.length_cons]; omega), gl_lt (by omega) (by rw [List.length_append]; omega), gl_ge h1]
    exact gl_mem (by omega) (by omega)
  have gN : ∀ i, c < i → i < c + 1 + N.length → gl (A ++ M ++ x :: N ++ B) i ∈ N := fun i h1 h2 => by
    rw [gl_lt (by omega) (by simp only [List.length_append, List.length_cons]; omega), gl_ge (by rw [List.length_append]; omega), gl_s _ _ (by rw [List.length_append]; omega)]
    exact gl_mem (by rw [List.length_append]; omega) (by rw [List.length_append]; omega)
  have hdx : df (A ++ M ++ x :: N ++ B) c = x.2 := by unfold df; rw [gx]
  obtain ⟨S', g', r', f'⟩ := mlift_ok (sc := sc) h0 ht (by omega) hr (fun i h1 h2 => hd _ (gl_mem h1 h2)) (c := c) ⟨by omega, by omega⟩ (j := A.length) (e := c + 1 + N.length) ⟨by omega, by omega⟩
    (fun i h1 h2 => by rw [hdx]; exact hM _ (gM i h1 h2))
    (by
      rw [hdx]
      by_cases hAn : A = []
      · left; rw [hAn]; rfl
      · right
        obtain ⟨A0, y, hy⟩ : ∃ A0 y, A = A0 ++ [y] := ⟨_, _, (List.dropLast_concat_getLast hAn).symm⟩
        have q := hA _ _ hy
        have hl : 0 < A.length := List.length_pos_iff.mpr hAn
        have : gl (A ++ M ++ x :: N ++ B) (A.length - 1) = y := by
          rw [gl_lt (by omega) (by simp only [List.length_append, List.length_cons]; omega), gl_lt (by omega) (by rw [List.length_append]; omega), gl_lt (by omega) (by omega)]
          rw [hy, gl_ge (by simp)]
          exact gl_0 _ _ (by simp)
        unfold df
        rw [this]; exact q)
    ⟨by omega, by omega⟩
    (fun i h1 h2 => by rw [hdx]; exact hN _ (gN i h1 h2))
    (by
      rw [hdx]
      cases hBn : B with
      | nil => left; rw [hBn] at hlen; simp only [List.length_nil] at hlen; rw [hBn] at *; omega
      | cons y B0 =>
        right
        have q := hB y B0 hBn
        unfold df
        rw [gl_ge (by simp only [List.length_append, List.length_cons]; omega), gl_0 _ _ (by simp only [List.length_append, List.length_cons]; omega)]
        exact q)
    (u := u) (u' := u') (u'' := u'')
  refine ⟨S', g', ?_, f'⟩
  have e1 : A ++ M ++ x :: N ++ B = A ++ (M ++ x :: N) ++ B := by simp
  have e2 : A ++ dec (M ++ x :: N) ++ B = (A ++ dec M) ++ (x.1, x.2 - 1) :: (dec N ++ B) := by unfold dec; simp
  have hdl : (dec M).length = M.length := by unfold dec; rw [List.length_map]
  have hr2 : rowf (S' 91) t (((A ++ dec M) ++ (x.1, x.2 - 1) :: (dec N ++ B)).length - 1) (cutf (pf ((A ++ dec M) ++ (x.1, x.2 - 1) :: (dec N ++ B))) c) (cutf (df ((A ++ dec M) ++ (x.1, x.2 - 1) :: (dec N ++ B))) c) := by
    have hl2 : ((A ++ dec M) ++ (x.1, x.2 - 1) :: (dec N ++ B)).length = (A ++ M ++ x :: N ++ B).length := by unfold dec; simp
    rw [hl2]
    refine rowf_cong r' (fun i h1 h2 => ?_)
    have q := fun i' h' => row_dec (i := i') e1 (j := A.length) (e := c + 1 + N.length) rfl (by simp only [List.length_append, List.length_cons]; omega) h'
    rw [e2] at q
    unfold cutf
    split
    · exact q i h1
    · exact q (i + 1) (by omega)
  have := row_cut (A := A ++ dec M) (B := dec N ++ B) (by rw [List.length_append, hdl]; omega) hr2
  rw [List.append_assoc (A ++ dec M)]
  exact this
end
