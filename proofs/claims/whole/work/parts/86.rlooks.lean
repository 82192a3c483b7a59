/-! ===== the reference: looksFor ===== -/
section
variable {sc : Nat × (Nat → Int32)} {SH : List mCell} {b N : Int} {P : aP}
theorem refR_wait {S S' : mStore} {A : aS} (hb : 0 ≤ b) (hr : refR S b A N) (hA : wfA P A) {ρ x p : Int} (hρ : 0 ≤ ρ ∧ ρ < 3) (hp : 0 ≤ p ∧ p < 48) (hno : p ∉ al A.tw) (hu : rt (skc (keyA A 0) (A.v 0) x (A.tw ρ) (96 + ρ) 0 [] []).2.1 = -1) (hrow : rowl (S' 91) (b + 1363 + 97 * ρ) (fd (ins (keyA A 0) (A.v 0) x p.toNat (A.tw ρ)) 0)) (hF : rowF S S' (b + 1363 + 97 * ρ)) : refR (up S' 91 (b + 304 + p) 1) b (A.stw (insT (keyA A 0) (A.v 0) x p.toNat A.tw ρ)) N := by
  have hnat : (p.toNat : Int) = p := Int.toNat_of_nonneg hp.1
  have hwi := wf_ins (p := p.toNat) hA.2.2.2.1 hρ hu (by omega) (by rw [hnat]; exact hno)
  have hmem : ∀ q, q ∈ al (insT (keyA A 0) (A.v 0) x p.toNat A.tw ρ) ↔ (q = p ∨ q ∈ al A.tw) := fun q => by
    rw [(al_ins (p := p.toNat) hρ hu).mem_iff, List.mem_cons, hnat]
  refine refR_tw hr hA.2.1 (fun q a c => ?_) (fun ρ' a c => ?_) (fun ρ' => ?_) (fun i h1 h2 h3 => by rw [up_at, if_neg (by omega)]; exact hF.1 i (by omega))
  · rw [up_at]
    by_cases e : q = p
    · rw [if_pos (by omega), if_pos ((hmem q).mpr (.inl e))]
    · rw [if_neg (by omega), hF.1 _ (by omega), hr.2.2.2.2.2.2.2.1 q a c]
      by_cases e2 : q ∈ al A.tw
      · rw [if_pos e2, if_pos ((hmem q).mpr (.inr e2))]
      · rw [if_neg e2, if_neg (fun h => ((hmem q).mp h).elim e e2)]
  · have hl : (fd (insT (keyA A 0) (A.v 0) x p.toNat A.tw ρ ρ') 0).length ≤ 48 := by rw [fd_len]; exact lb_len hwi a c
    refine rowl_cong (R := S' 91) ?_ hl (fun i h1 h2 => by rw [up_at, if_neg (by omega)])
    show rowl (S' 91) _ (fd (if ρ' = ρ then _ else A.tw ρ') 0)
    by_cases eρ : ρ' = ρ
    · rw [if_pos eρ, eρ]
      exact hrow
    · rw [if_neg eρ]
      exact rowl_F (hr.2.2.2.2.2.2.2.2.2.2.2.2.2.2.1 ρ' a c) (by rw [fd_len]; exact lb_len hA.2.2.2.1 a c) hF (by omega)
  · show (lb (if ρ' = ρ then _ else A.tw ρ')).length ≤ 48
    by_cases eρ : ρ' = ρ
    · have q := lb_len hwi hρ.1 hρ.2
      have q : (lb (if ρ = ρ then ins (keyA A 0) (A.v 0) x p.toNat (A.tw ρ) else A.tw ρ)).length ≤ 48 := q
      rw [if_pos rfl] at q
      rw [if_pos eρ]
      exact q
    · rw [if_neg eρ]
      exact (hr.2.2.2.2.2.2.2.2.2.2.2.2.2.2.2.2 ρ').2
theorem rlook_ok {S : mStore} {A : aS} (h0 : sMod SH) (hb : 0 ≤ b ∧ b ≤ 135000) (hN : N < 2147483648) (hm : modP S P) (hP : wfP P) (hr : refR S b A N) (hA : wfA P A) {p : Int} (hpp : 0 ≤ p ∧ p < P 0 7) (hwp : A.w p ≠ -1) (hkp : A.k (A.w p) = -1) (hcur : ∀ ρ, 0 ≤ ρ → ρ < 3 → p ∉ lb (A.tw ρ)) {u3 u4 u5 u6 u7 u8 u9 u10 : Option Value} : ∃ S', G sc MX11_looksFor 0 [some (.ref 90), some (.int (I b)), some (.int (I p)), u3, u4, u5, u6, u7, u8, u9, u10] [] SH S (rI (lookA P A p).1 SH S') ∧ refR S' b (lookA P A p).2 (N + 1) ∧ modF S S' b := by
  have hP7 := hP.2.2.2.2.2.1
  have hP1 := hP.2.1
  have hρ := rlm_rg hP hpp
  have hp48 : 0 ≤ p ∧ p < 48 := ⟨hpp.1, by omega⟩
  have g1 := rrealm_ok (sc := sc) (S := S) h0 hm hP hpp
  have hcx : cellsA A p = A.v 0 (A.w p) := if_neg hwp
  have hno : p ∉ al A.tw := fun h => by
    obtain ⟨ρ', a1, a2, a3⟩ := al_of h
    exact hcur ρ' a1 a2 a3
  unfold lookA
  generalize rlm P p = ρ at *
  obtain ⟨S1, gs, s1, f1⟩ := rseek_ok (sc := sc) h0 hb hr hA hp48 (u := none)
  rw [hcx] at s1
  have r1 := refR_far hr (f1 91 (by decide))
  have hw48 := hA.1.2.2 p
  generalize hx : A.v 0 (A.w p) = x at *
  obtain ⟨S2, g2, fo2⟩ := rsea_ok (sc := sc) h0 hb hN r1 hA (st := 1) (x := x) (ρ := ρ) (.inr rfl) hρ s1 (t := b + 1072 + 97 * ρ) (by rw [if_neg (by decide)]) (u4 := none) (u5 := none) (u6 := none) (u7 := none) (u8 := none)
  rw [if_neg (by decide)] at fo2
  have r2 := refR_found r1 hA.2.1 fo2
  have m2 : modF S S2 b := modF_tr ⟨fun i _ => by rw [f1 91 (by decide)], fun j _ _ hj _ => f1 j hj, fun i _ => by rw [f1 90 (by decide)]⟩ (modF_found fo2)
  have hA2 : wfA P (A.sv 6 3 (A.v 6 3 + skw (keyA A 1) (A.v 0) x (A.ts ρ))) := wf_work hA
  have hrr := rt_rg2 (key := keyA A 1) (v := A.v 0) (x := x) hA.2.2.1 hρ
  have hm2 := modP_F hm m2
  have hroom := fun (k : Int) (hk : 0 ≤ k ∧ k < 48) => rroom_ok (sc := sc) h0 hb hN hm2 hP r2 hA2 hk (u := none) (u' := none) (u2 := none) (u3 := none)
  have hkey : rt (skc (keyA A 1) (A.v 0) x (A.ts ρ) (96 + ρ) 0 [] []).2.1 ≠ -1 → keyA A 1 (rt (skc (keyA A 1) (A.v 0) x (A.ts ρ) (96 + ρ) 0 [] []).2.1) ≠ -1 := fun hn => by
    have hin := cxs_lb (cxs_in hρ.1 hρ.2 (skc_cx (key := keyA A 1) (v := A.v 0) (x := x) (A.ts ρ) (96 + ρ) 0 [] [] hn))
    have hc := (hA.2.2.2.2.2.2.2.2.1 _).mp hin
    have ek : keyA A 1 (rt (skc (keyA A 1) (A.v 0) x (A.ts ρ) (96 + ρ) 0 [] []).2.1) = hd (A.C (rt (skc (keyA A 1) (A.v 0) x (A.ts ρ) (96 + ρ) 0 [] []).2.1)) := if_neg (by decide)
    rw [ek]
    cases hq : A.C (rt (skc (keyA A 1) (A.v 0) x (A.ts ρ) (96 + ρ) 0 [] []).2.1) with
    | nil => exact absurd hq hc
    | cons y t =>
      have := wf_bd hA.2.1 (show y ∈ A.C (rt (skc (keyA A 1) (A.v 0) x (A.ts ρ) (96 + ρ) 0 [] []).2.1) by rw [hq]; exact List.mem_cons_self ..)
      show y ≠ -1
      omega
  have hfound := fun (hn : rt (skc (keyA A 1) (A.v 0) x (A.ts ρ) (96 + ρ) 0 [] []).2.1 ≠ -1) => found_at (T := A.ts ρ) (key := keyA A 1) (v := A.v 0) (x := x) (s := 96 + ρ) (r2.2.2.2.2.2.2.2.2.2.2.2.2.2.1 ρ hρ.1 hρ.2) (lb_len hA.2.2.1 hρ.1 hρ.2) hn
  have hl67 : rt (skc (keyA A 1) (A.v 0) x (A.ts ρ) (96 + ρ) 0 [] []).2.1 = -1 → S2 90 28 = (skc (keyA A 1) (A.v 0) x (A.ts ρ) (96 + ρ) 0 [] []).2.2.2.1.length ∧ S2 90 29 = (skc (keyA A 1) (A.v 0) x (A.ts ρ) (96 + ρ) 0 [] []).2.2.1 := fun h => (fo2.2.2.2.2.1 h).2.2
  have start : ∀ r, G sc MX11_looksFor 100 [some (.ref 90), some (.int (I b)), some (.int (I p)), some (.int (I (b + 1072 + 97 * ρ))), some (.int (I (b + 1363 + 97 * ρ))), some (.int (I (rt (skc (keyA A 1) (A.v 0) x (A.ts ρ) (96 + ρ) 0 [] []).2.1))), some (.int (I (S2 90 28))), some (.int (I (S2 90 29))), u8, u9, u10] [.int (I (roomA P A (rt (skc (keyA A 1) (A.v 0) x (A.ts ρ) (96 + ρ) 0 [] []).2.1)))] SH S2 r → G sc MX11_looksFor 0 [some (.ref 90), some (.int (I b)), some (.int (I p)), u3, u4, u5, u6, u7, u8, u9, u10] [] SH S r := fun r h => by
    refine qX11_looksFor_0 h0 ⟨_, _, g1, _, _, g1, _, gs, _, g2, ?_⟩
    by_cases c : rt (skc (keyA A 1) (A.v 0) x (A.ts ρ) (96 + ρ) 0 [] []).2.1 = -1
    · rw [(fo2.2.2.2.2.1 c).1, if_pos rfl, if_pos rfl]
      rw [c] at h
      exact h
    · obtain ⟨a1, a2, a3⟩ := hfound c
      rw [(fo2.2.2.2.2.2.2 c (hkey c)).1, if_neg (by rw [I_eq ⟨by omega, by omega⟩ ⟨by omega, by omega⟩]; omega)]
      rw [a3, if_neg (by rw [I_eq ⟨by omega, by omega⟩ ⟨by omega, by omega⟩]; omega)]
      exact ⟨⟨by omega, by omega⟩, _, _, hroom _ ⟨by omega, by omega⟩, h⟩
  generalize hE : skc (keyA A 1) (A.v 0) x (A.ts ρ) (96 + ρ) 0 [] [] = e1 at *
  generalize hW1 : skw (keyA A 1) (A.v 0) x (A.ts ρ) = W1 at *
  by_cases c1 : roomA P A (rt e1.2.1) = -1
  · rw [if_neg (fun q => q c1)]
    rw [c1] at start
    have e16 : S2 91 (b + 160 + p) = A.v 3 p := by rw [r2.2.2.2.2.1 p hp48.1 hp48.2, sv_ne _ _ _ (by decide)]
    have ecB : cellsA (A.sv 6 3 (A.v 6 3 + W1)) p = x := by
      show (if A.w p = -1 then 0 else (A.sv 6 3 (A.v 6 3 + W1)).v 0 (A.w p)) = x
      rw [if_neg hwp, v0_6]; exact hx
    have gsum := rsum_ok (sc := sc) h0 hb r2 hA2 hp48
    rw [ecB] at gsum
    by_cases c2 : I (A.v 3 p) = I (sumA x)
    · rw [if_pos c2]
      have s2 : soughtR S2 x := fun c a d => by rw [fo2.2.2.1 100 (by decide) (by decide)]; exact s1 c a d
      obtain ⟨S3, g3, fo3⟩ := rsea_ok (sc := sc) h0 hb hN r2 hA2 (st := 0) (x := x) (ρ := ρ) (.inl rfl) hρ s2 (t := b + 1363 + 97 * ρ) (by rw [if_pos rfl]) (u4 := none) (u5 := none) (u6 := none) (u7 := none) (u8 := none)
      rw [if_pos rfl, v0_6] at fo3
      have fo3 : sfound S2 S3 b (keyA A 0) (skc (keyA A 0) (A.v 0) x (A.tw ρ) (96 + ρ) 0 [] []) (skw (keyA A 0) (A.v 0) x (A.tw ρ)) := fo3
      have r3 := refR_found r2 hA.2.1 fo3
      rw [sv_at, if_pos rfl, sv_sv] at r3
      have m3 : modF S S3 b := modF_tr m2 (modF_found fo3)
      have hm3 := modP_F hm m3
      have hrr2 := rt_rg2 (key := keyA A 0) (v := A.v 0) (x := x) hA.2.2.2.1 hρ
      have hfound2 := fun (hn : rt (skc (keyA A 0) (A.v 0) x (A.tw ρ) (96 + ρ) 0 [] []).2.1 ≠ -1) => found_at (T := A.tw ρ) (key := keyA A 0) (v := A.v 0) (x := x) (s := 96 + ρ) (r3.2.2.2.2.2.2.2.2.2.2.2.2.2.2.1 ρ hρ.1 hρ.2) (lb_len hA.2.2.2.1 hρ.1 hρ.2) hn
      generalize hX : A.v 6 3 + W1 + skw (keyA A 0) (A.v 0) x (A.tw ρ) = X at *
      have hA3 : wfA P (A.sv 6 3 X) := wf_work hA
      by_cases d1 : rt (skc (keyA A 0) (A.v 0) x (A.tw ρ) (96 + ρ) 0 [] []).2.1 = -1
      · rw [if_pos d1]
        obtain ⟨q1, q2, q3, q4⟩ := fo3.2.2.2.2.1 d1
        obtain ⟨S4, g4, row4, f4⟩ := rput_t (sc := sc) (T := A.tw ρ) h0 (t := b + 1363 + 97 * ρ) ⟨by omega, by omega⟩ (p := p.toNat) (r3.2.2.2.2.2.2.2.2.2.2.2.2.2.2.1 ρ hρ.1 hρ.2) d1 (lb_47 hA.2.2.2.1 hρ hp48 hno) (u := none)
        rw [Int.toNat_of_nonneg hpp.1, ← q3, ← q4] at g4
        have r4 := refR_wait (A := A.sv 6 3 X) (x := x) (S' := S4) hb.1 r3 hA3 hρ hp48 hno (by rw [v0_6]; exact d1) (by rw [v0_6]; exact row4) f4
        rw [v0_6] at r4
        refine ⟨_, start _ (qX11_looksFor_100 h0 ?_), refR_N r4 (by omega), modF_tr m3 (modG_F (modG_tr (modG_row f4 ⟨by omega, by omega⟩) (modG_up ⟨by omega, by omega⟩)))⟩
        rw [if_pos rfl]
        refine ⟨_, _, gsum, ⟨by omega, by omega⟩, ?_⟩
        rw [e16, if_pos c2.symm]
        refine ⟨_, g3, ?_⟩
        rw [q2, q1, if_pos rfl, if_pos rfl]
        exact ⟨_, g4, ⟨by omega, by omega⟩, rfl⟩
      · rw [if_neg d1]
        obtain ⟨a1, a2, a3⟩ := hfound2 d1
        have hkk : keyA A 0 (rt (skc (keyA A 0) (A.v 0) x (A.tw ρ) (96 + ρ) 0 [] []).2.1) = A.w (rt (skc (keyA A 0) (A.v 0) x (A.tw ρ) (96 + ρ) 0 [] []).2.1) := if_pos rfl
        by_cases d2 : A.w (rt (skc (keyA A 0) (A.v 0) x (A.tw ρ) (96 + ρ) 0 [] []).2.1) = -1
        · rw [if_pos d2]
          obtain ⟨q1, q2⟩ := fo3.2.2.2.2.2.1 d1 (by rw [hkk]; exact d2)
          refine ⟨_, start _ (qX11_looksFor_100 h0 ?_), refR_N r3 (by omega), m3⟩
          rw [if_pos rfl]
          refine ⟨_, _, gsum, ⟨by omega, by omega⟩, ?_⟩
          rw [e16, if_pos c2.symm]
          refine ⟨_, g3, ?_⟩
          rw [q2, if_neg (by decide)]
        · rw [if_neg d2]
          obtain ⟨q1, q2⟩ := fo3.2.2.2.2.2.2 d1 (by rw [hkk]; exact d2)
          have hin := cxs_lb (cxs_in hρ.1 hρ.2 (skc_cx (key := keyA A 0) (v := A.v 0) (x := x) (A.tw ρ) (96 + ρ) 0 [] [] d1))
          obtain ⟨ρ', b1, b2, b3⟩ := al_of hin
          have hwf := hA.2.2.2.2.2.2.2.2.2.1 ρ' _ b1 b2 b3
          have q := rpair_ok (sc := sc) h0 hb hm3 hP r3 hA3 (ρ := ρ) (x := x) (p := p) (o := rt (skc (keyA A 0) (A.v 0) x (A.tw ρ) (96 + ρ) 0 [] []).2.1) hρ hpp ⟨by omega, hwf.1⟩ hwp hkp d2 (hwf.2.2.2 d2) (fun e => hcur ρ' b1 b2 (e ▸ b3)) (l4 := b + 1363 + 97 * ρ) (l6 := S2 90 28) (l7 := S2 90 29) (s0 := -1) (v101 := sumA x) (by
            rw [v0_6]
            rw [← hE] at hl67
            exact hl67)
          obtain ⟨S5, g5, r5, m5⟩ := q
          refine ⟨S5, start _ (qX11_looksFor_100 h0 ?_), r5, modF_tr m3 (modG_F m5)⟩
          rw [if_pos rfl]
          refine ⟨_, _, gsum, ⟨by omega, by omega⟩, ?_⟩
          rw [e16, if_pos c2.symm]
          refine ⟨_, g3, ?_⟩
          rw [q2, if_pos rfl, q1, if_neg (by rw [I_eq ⟨by omega, by omega⟩ ⟨by omega, by omega⟩]; omega)]
          rw [a3]
          refine ⟨⟨by omega, by omega⟩, ?_⟩
          rw [v0_6] at g5
          have g5' := g5
          rw [show skc (keyA (A.sv 6 3 X) 1) (A.v 0) x ((A.sv 6 3 X).ts ρ) (96 + ρ) 0 [] [] = e1 from hE] at g5'
          exact g5'
    · rw [if_neg c2]
      refine ⟨_, start _ (qX11_looksFor_100 h0 ?_), refR_N (refR_v3 r2 hA.2.1 (i := p) (x := sumA x) hp48) (by omega), modF_tr m2 (modF_up ⟨by omega, by omega⟩)⟩
      rw [if_pos rfl]
      refine ⟨_, _, gsum, ⟨by omega, by omega⟩, ?_⟩
      rw [e16, if_neg (fun h => c2 h.symm)]
      exact ⟨⟨by omega, by omega⟩, rfl⟩
  · rw [if_pos c1]
    have hmem := roomA_mem c1
    have hbd := wf_bd hA.2.1 hmem.1
    obtain ⟨S3, g3, r3, m3⟩ := rmove_ok (sc := sc) h0 hb r2 hA.1 hA.2.1 hA.2.2.1 hp48 hwp hkp (f := roomA P A (rt e1.2.1)) hbd (by show (A.L (roomA P A (rt e1.2.1))).length < 8; omega)
    refine ⟨S3, start _ (qX11_looksFor_100 h0 ?_), refR_N r3 (by omega), modF_tr m2 (modG_F m3)⟩
    rw [if_neg (by rw [I_eq ⟨by omega, by omega⟩ ⟨by omega, by omega⟩]; exact c1)]
    exact ⟨_, g3, rfl⟩
end
