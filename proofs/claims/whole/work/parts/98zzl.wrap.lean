/-! ===== the law's wrappers (gen_law.py) ===== -/
theorem i2j_int (v : Int) : (i2j v).toInt = (I v).toInt := by
  unfold i2j
  exact Int32.toInt_toInt64 _
section
variable {sc : Nat × (Nat → Int32)} {SH : List mCell} {F : Nat → Nat → Option Nat} {S : mStore} {e : Nat}
theorem w_machine {o : aO} {W' : aW} {p1 : Int} (h0 : sGP SH) (hq : ∀ q, o = .inr q → q = 1) (h : CL sc MX10_machine [some (.ref 0), some (.int (I p1))] SH F e S o W') : WR sc ML_machine [some (.ref 0), some (.int (I p1)), some (.ref 110), none] SH F e S 1 o W' := by
  obtain ⟨SH', F', e', S', g, c, he, hf⟩ := h
  cases o with
  | inl v =>
    refine ⟨0, SH', F', e', up S' 110 0 (i2j v).toInt, ?_, clR_md c (fun j hj => up_ne (by omega)), he, fun j h1 h2 => by rw [up_ne (by omega)]; exact hf j h1 (by omega), fun w hw => ⟨rfl, ?_⟩, fun q hw => by cases hw⟩
    · refine tt_ld (P := True) (M := ML_machine) (pc := 0) dL_machine_0 rfl rfl rfl rfl rfl (fun _ => ?_) trivial
      refine tt_iconst (P := True) (M := ML_machine) (pc := 1) dL_machine_1 (fun _ => ?_) trivial
      refine tt_ld (P := True) (M := ML_machine) (pc := 2) dL_machine_2 rfl rfl rfl rfl rfl (fun _ => ?_) trivial
      refine tt_ld (P := True) (M := ML_machine) (pc := 3) dL_machine_3 rfl rfl rfl rfl rfl (fun _ => ?_) trivial
      refine tt_vcHI (M := ML_machine) (pc := 4) dL_machine_4 rfl rfl [.int (I 0), .ref 110] rfl rfl ⟨rfl, by decide, Nat.le_of_ble_eq_true rfl⟩ h0.1 g ?_
      refine tt_i2l (P := True) (M := ML_machine) (pc := 7) dL_machine_7 (fun _ => ?_) trivial
      refine tt_lastore (P := True) (M := ML_machine) (pc := 8) dL_machine_8 (m := 1) c.1.1.2.2 rfl (fun _ => ?_) ⟨⟨by decide, by decide⟩, trivial⟩
      refine tt_goto (P := True) (M := ML_machine) (pc := 9) 15 dL_machine_9 rfl (fun _ => ?_) trivial
      refine tt_iconst (P := True) (M := ML_machine) (pc := 15) dL_machine_15 (fun _ => ?_) trivial
      exact tt_iret (M := ML_machine) (pc := 16) dL_machine_16 rfl rfl
    · cases hw; rw [up_eq]; exact i2j_int v
  | inr q =>
    obtain rfl := hq q rfl
    refine ⟨1, SH', F', e', S', ?_, c, he, fun j h1 h2 => hf j h1 (by omega), fun w hw => (by cases hw), fun q hw => (by cases hw; rfl)⟩
    refine tt_ld (P := True) (M := ML_machine) (pc := 0) dL_machine_0 rfl rfl rfl rfl rfl (fun _ => ?_) trivial
    refine tt_iconst (P := True) (M := ML_machine) (pc := 1) dL_machine_1 (fun _ => ?_) trivial
    refine tt_ld (P := True) (M := ML_machine) (pc := 2) dL_machine_2 rfl rfl rfl rfl rfl (fun _ => ?_) trivial
    refine tt_ld (P := True) (M := ML_machine) (pc := 3) dL_machine_3 rfl rfl rfl rfl rfl (fun _ => ?_) trivial
    refine tt_vcHX (e := 1) (t := 13) (M := ML_machine) (pc := 4) dL_machine_4 rfl rfl [.int (I 0), .ref 110] rfl rfl ⟨rfl, by decide, Nat.le_of_ble_eq_true rfl⟩ h0.1 g (s_hand1 rfl rfl ⟨rfl, rfl, by decide⟩ dL_machine_12 rfl) ?_
    refine tt_iconst (P := True) (M := ML_machine) (pc := 13) dL_machine_13 (fun _ => ?_) trivial
    exact tt_iret (M := ML_machine) (pc := 14) dL_machine_14 rfl rfl
theorem w_orders {o : aO} {W' : aW} {p1 : Int} (h0 : sGP SH) (hq : ∀ q, o = .inr q → q = 1) (h : CL sc MX10_orders [some (.ref 0), some (.int (I p1)), none, none] SH F e S o W') : WR sc ML_orders [some (.ref 0), some (.int (I p1)), some (.ref 110), none] SH F e S 1 o W' := by
  obtain ⟨SH', F', e', S', g, c, he, hf⟩ := h
  cases o with
  | inl v =>
    refine ⟨0, SH', F', e', up S' 110 0 (i2j v).toInt, ?_, clR_md c (fun j hj => up_ne (by omega)), he, fun j h1 h2 => by rw [up_ne (by omega)]; exact hf j h1 (by omega), fun w hw => ⟨rfl, ?_⟩, fun q hw => by cases hw⟩
    · refine tt_ld (P := True) (M := ML_orders) (pc := 0) dL_orders_0 rfl rfl rfl rfl rfl (fun _ => ?_) trivial
      refine tt_iconst (P := True) (M := ML_orders) (pc := 1) dL_orders_1 (fun _ => ?_) trivial
      refine tt_ld (P := True) (M := ML_orders) (pc := 2) dL_orders_2 rfl rfl rfl rfl rfl (fun _ => ?_) trivial
      refine tt_ld (P := True) (M := ML_orders) (pc := 3) dL_orders_3 rfl rfl rfl rfl rfl (fun _ => ?_) trivial
      refine tt_vcHI (M := ML_orders) (pc := 4) dL_orders_4 rfl rfl [.int (I 0), .ref 110] rfl rfl ⟨rfl, by decide, Nat.le_of_ble_eq_true rfl⟩ h0.1 g ?_
      refine tt_i2l (P := True) (M := ML_orders) (pc := 7) dL_orders_7 (fun _ => ?_) trivial
      refine tt_lastore (P := True) (M := ML_orders) (pc := 8) dL_orders_8 (m := 1) c.1.1.2.2 rfl (fun _ => ?_) ⟨⟨by decide, by decide⟩, trivial⟩
      refine tt_goto (P := True) (M := ML_orders) (pc := 9) 15 dL_orders_9 rfl (fun _ => ?_) trivial
      refine tt_iconst (P := True) (M := ML_orders) (pc := 15) dL_orders_15 (fun _ => ?_) trivial
      exact tt_iret (M := ML_orders) (pc := 16) dL_orders_16 rfl rfl
    · cases hw; rw [up_eq]; exact i2j_int v
  | inr q =>
    obtain rfl := hq q rfl
    refine ⟨1, SH', F', e', S', ?_, c, he, fun j h1 h2 => hf j h1 (by omega), fun w hw => (by cases hw), fun q hw => (by cases hw; rfl)⟩
    refine tt_ld (P := True) (M := ML_orders) (pc := 0) dL_orders_0 rfl rfl rfl rfl rfl (fun _ => ?_) trivial
    refine tt_iconst (P := True) (M := ML_orders) (pc := 1) dL_orders_1 (fun _ => ?_) trivial
    refine tt_ld (P := True) (M := ML_orders) (pc := 2) dL_orders_2 rfl rfl rfl rfl rfl (fun _ => ?_) trivial
    refine tt_ld (P := True) (M := ML_orders) (pc := 3) dL_orders_3 rfl rfl rfl rfl rfl (fun _ => ?_) trivial
    refine tt_vcHX (e := 1) (t := 13) (M := ML_orders) (pc := 4) dL_orders_4 rfl rfl [.int (I 0), .ref 110] rfl rfl ⟨rfl, by decide, Nat.le_of_ble_eq_true rfl⟩ h0.1 g (s_hand1 rfl rfl ⟨rfl, rfl, by decide⟩ dL_orders_12 rfl) ?_
    refine tt_iconst (P := True) (M := ML_orders) (pc := 13) dL_orders_13 (fun _ => ?_) trivial
    exact tt_iret (M := ML_orders) (pc := 14) dL_orders_14 rfl rfl
theorem w_count {o : aO} {W' : aW} {p1 : Int} (h0 : sGP SH) (hq : ∀ q, o = .inr q → q = 0) (h : CL sc MX10_count [some (.ref 0), some (.int (I p1))] SH F e S o W') : WR sc ML_count [some (.ref 0), some (.int (I p1)), some (.ref 110), none] SH F e S 1 o W' := by
  obtain ⟨SH', F', e', S', g, c, he, hf⟩ := h
  cases o with
  | inl v =>
    refine ⟨0, SH', F', e', up S' 110 0 (i2j v).toInt, ?_, clR_md c (fun j hj => up_ne (by omega)), he, fun j h1 h2 => by rw [up_ne (by omega)]; exact hf j h1 (by omega), fun w hw => ⟨rfl, ?_⟩, fun q hw => by cases hw⟩
    · refine tt_ld (P := True) (M := ML_count) (pc := 0) dL_count_0 rfl rfl rfl rfl rfl (fun _ => ?_) trivial
      refine tt_iconst (P := True) (M := ML_count) (pc := 1) dL_count_1 (fun _ => ?_) trivial
      refine tt_ld (P := True) (M := ML_count) (pc := 2) dL_count_2 rfl rfl rfl rfl rfl (fun _ => ?_) trivial
      refine tt_ld (P := True) (M := ML_count) (pc := 3) dL_count_3 rfl rfl rfl rfl rfl (fun _ => ?_) trivial
      refine tt_vcHI (M := ML_count) (pc := 4) dL_count_4 rfl rfl [.int (I 0), .ref 110] rfl rfl ⟨rfl, by decide, Nat.le_of_ble_eq_true rfl⟩ h0.1 g ?_
      refine tt_i2l (P := True) (M := ML_count) (pc := 7) dL_count_7 (fun _ => ?_) trivial
      refine tt_lastore (P := True) (M := ML_count) (pc := 8) dL_count_8 (m := 1) c.1.1.2.2 rfl (fun _ => ?_) ⟨⟨by decide, by decide⟩, trivial⟩
      refine tt_goto (P := True) (M := ML_count) (pc := 9) 15 dL_count_9 rfl (fun _ => ?_) trivial
      refine tt_iconst (P := True) (M := ML_count) (pc := 15) dL_count_15 (fun _ => ?_) trivial
      exact tt_iret (M := ML_count) (pc := 16) dL_count_16 rfl rfl
    · cases hw; rw [up_eq]; exact i2j_int v
  | inr q =>
    obtain rfl := hq q rfl
    refine ⟨1, SH', F', e', S', ?_, c, he, fun j h1 h2 => hf j h1 (by omega), fun w hw => (by cases hw), fun q hw => (by cases hw; rfl)⟩
    refine tt_ld (P := True) (M := ML_count) (pc := 0) dL_count_0 rfl rfl rfl rfl rfl (fun _ => ?_) trivial
    refine tt_iconst (P := True) (M := ML_count) (pc := 1) dL_count_1 (fun _ => ?_) trivial
    refine tt_ld (P := True) (M := ML_count) (pc := 2) dL_count_2 rfl rfl rfl rfl rfl (fun _ => ?_) trivial
    refine tt_ld (P := True) (M := ML_count) (pc := 3) dL_count_3 rfl rfl rfl rfl rfl (fun _ => ?_) trivial
    refine tt_vcHX (e := 0) (t := 13) (M := ML_count) (pc := 4) dL_count_4 rfl rfl [.int (I 0), .ref 110] rfl rfl ⟨rfl, by decide, Nat.le_of_ble_eq_true rfl⟩ h0.1 g (s_hand1 rfl rfl ⟨rfl, rfl, by decide⟩ dL_count_12 rfl) ?_
    refine tt_iconst (P := True) (M := ML_count) (pc := 13) dL_count_13 (fun _ => ?_) trivial
    exact tt_iret (M := ML_count) (pc := 14) dL_count_14 rfl rfl
theorem w_guest {o : aO} {W' : aW} {p1 p2 : Int} (h0 : sGP SH) (hq : ∀ q, o = .inr q → q = 0) (h : CL sc MX10_guest [some (.ref 0), some (.int (I p1)), some (.int (I p2)), none, none] SH F e S o W') : WR sc ML_guest [some (.ref 0), some (.int (I p1)), some (.int (I p2)), some (.ref 110), none] SH F e S 1 o W' := by
  obtain ⟨SH', F', e', S', g, c, he, hf⟩ := h
  cases o with
  | inl v =>
    refine ⟨0, SH', F', e', up S' 110 0 (i2j v).toInt, ?_, clR_md c (fun j hj => up_ne (by omega)), he, fun j h1 h2 => by rw [up_ne (by omega)]; exact hf j h1 (by omega), fun w hw => ⟨rfl, ?_⟩, fun q hw => by cases hw⟩
    · refine tt_ld (P := True) (M := ML_guest) (pc := 0) dL_guest_0 rfl rfl rfl rfl rfl (fun _ => ?_) trivial
      refine tt_iconst (P := True) (M := ML_guest) (pc := 1) dL_guest_1 (fun _ => ?_) trivial
      refine tt_ld (P := True) (M := ML_guest) (pc := 2) dL_guest_2 rfl rfl rfl rfl rfl (fun _ => ?_) trivial
      refine tt_ld (P := True) (M := ML_guest) (pc := 3) dL_guest_3 rfl rfl rfl rfl rfl (fun _ => ?_) trivial
      refine tt_ld (P := True) (M := ML_guest) (pc := 4) dL_guest_4 rfl rfl rfl rfl rfl (fun _ => ?_) trivial
      refine tt_vcHI (M := ML_guest) (pc := 5) dL_guest_5 rfl rfl [.int (I 0), .ref 110] rfl rfl ⟨rfl, by decide, Nat.le_of_ble_eq_true rfl⟩ h0.1 g ?_
      refine tt_i2l (P := True) (M := ML_guest) (pc := 8) dL_guest_8 (fun _ => ?_) trivial
      refine tt_lastore (P := True) (M := ML_guest) (pc := 9) dL_guest_9 (m := 1) c.1.1.2.2 rfl (fun _ => ?_) ⟨⟨by decide, by decide⟩, trivial⟩
      refine tt_goto (P := True) (M := ML_guest) (pc := 10) 17 dL_guest_10 rfl (fun _ => ?_) trivial
      refine tt_iconst (P := True) (M := ML_guest) (pc := 17) dL_guest_17 (fun _ => ?_) trivial
      exact tt_iret (M := ML_guest) (pc := 18) dL_guest_18 rfl rfl
    · cases hw; rw [up_eq]; exact i2j_int v
  | inr q =>
    obtain rfl := hq q rfl
    refine ⟨1, SH', F', e', S', ?_, c, he, fun j h1 h2 => hf j h1 (by omega), fun w hw => (by cases hw), fun q hw => (by cases hw; rfl)⟩
    refine tt_ld (P := True) (M := ML_guest) (pc := 0) dL_guest_0 rfl rfl rfl rfl rfl (fun _ => ?_) trivial
    refine tt_iconst (P := True) (M := ML_guest) (pc := 1) dL_guest_1 (fun _ => ?_) trivial
    refine tt_ld (P := True) (M := ML_guest) (pc := 2) dL_guest_2 rfl rfl rfl rfl rfl (fun _ => ?_) trivial
    refine tt_ld (P := True) (M := ML_guest) (pc := 3) dL_guest_3 rfl rfl rfl rfl rfl (fun _ => ?_) trivial
    refine tt_ld (P := True) (M := ML_guest) (pc := 4) dL_guest_4 rfl rfl rfl rfl rfl (fun _ => ?_) trivial
    refine tt_vcHX (e := 0) (t := 15) (M := ML_guest) (pc := 5) dL_guest_5 rfl rfl [.int (I 0), .ref 110] rfl rfl ⟨rfl, by decide, Nat.le_of_ble_eq_true rfl⟩ h0.1 g (s_hand2 rfl ⟨rfl, rfl, by decide⟩ dL_guest_13 rfl) ?_
    refine tt_iconst (P := True) (M := ML_guest) (pc := 15) dL_guest_15 (fun _ => ?_) trivial
    exact tt_iret (M := ML_guest) (pc := 16) dL_guest_16 rfl rfl
theorem w_read {o : aO} {W' : aW} {p1 p2 p3 : Int} (h0 : sGP SH) (hq : ∀ q, o = .inr q → q = 0) (h : CL sc MX10_read [some (.ref 0), some (.int (I p1)), some (.int (I p2)), some (.int (I p3)), none] SH F e S o W') : WR sc ML_read [some (.ref 0), some (.int (I p1)), some (.int (I p2)), some (.int (I p3)), some (.ref 110), none] SH F e S 1 o W' := by
  obtain ⟨SH', F', e', S', g, c, he, hf⟩ := h
  cases o with
  | inl v =>
    refine ⟨0, SH', F', e', up S' 110 0 (i2j v).toInt, ?_, clR_md c (fun j hj => up_ne (by omega)), he, fun j h1 h2 => by rw [up_ne (by omega)]; exact hf j h1 (by omega), fun w hw => ⟨rfl, ?_⟩, fun q hw => by cases hw⟩
    · refine tt_ld (P := True) (M := ML_read) (pc := 0) dL_read_0 rfl rfl rfl rfl rfl (fun _ => ?_) trivial
      refine tt_iconst (P := True) (M := ML_read) (pc := 2) dL_read_2 (fun _ => ?_) trivial
      refine tt_ld (P := True) (M := ML_read) (pc := 3) dL_read_3 rfl rfl rfl rfl rfl (fun _ => ?_) trivial
      refine tt_ld (P := True) (M := ML_read) (pc := 4) dL_read_4 rfl rfl rfl rfl rfl (fun _ => ?_) trivial
      refine tt_ld (P := True) (M := ML_read) (pc := 5) dL_read_5 rfl rfl rfl rfl rfl (fun _ => ?_) trivial
      refine tt_ld (P := True) (M := ML_read) (pc := 6) dL_read_6 rfl rfl rfl rfl rfl (fun _ => ?_) trivial
      refine tt_vcHI (M := ML_read) (pc := 7) dL_read_7 rfl rfl [.int (I 0), .ref 110] rfl rfl ⟨rfl, by decide, Nat.le_of_ble_eq_true rfl⟩ h0.1 g ?_
      refine tt_i2l (P := True) (M := ML_read) (pc := 10) dL_read_10 (fun _ => ?_) trivial
      refine tt_lastore (P := True) (M := ML_read) (pc := 11) dL_read_11 (m := 1) c.1.1.2.2 rfl (fun _ => ?_) ⟨⟨by decide, by decide⟩, trivial⟩
      refine tt_goto (P := True) (M := ML_read) (pc := 12) 19 dL_read_12 rfl (fun _ => ?_) trivial
      refine tt_iconst (P := True) (M := ML_read) (pc := 19) dL_read_19 (fun _ => ?_) trivial
      exact tt_iret (M := ML_read) (pc := 20) dL_read_20 rfl rfl
    · cases hw; rw [up_eq]; exact i2j_int v
  | inr q =>
    obtain rfl := hq q rfl
    refine ⟨1, SH', F', e', S', ?_, c, he, fun j h1 h2 => hf j h1 (by omega), fun w hw => (by cases hw), fun q hw => (by cases hw; rfl)⟩
    refine tt_ld (P := True) (M := ML_read) (pc := 0) dL_read_0 rfl rfl rfl rfl rfl (fun _ => ?_) trivial
    refine tt_iconst (P := True) (M := ML_read) (pc := 2) dL_read_2 (fun _ => ?_) trivial
    refine tt_ld (P := True) (M := ML_read) (pc := 3) dL_read_3 rfl rfl rfl rfl rfl (fun _ => ?_) trivial
    refine tt_ld (P := True) (M := ML_read) (pc := 4) dL_read_4 rfl rfl rfl rfl rfl (fun _ => ?_) trivial
    refine tt_ld (P := True) (M := ML_read) (pc := 5) dL_read_5 rfl rfl rfl rfl rfl (fun _ => ?_) trivial
    refine tt_ld (P := True) (M := ML_read) (pc := 6) dL_read_6 rfl rfl rfl rfl rfl (fun _ => ?_) trivial
    refine tt_vcHX (e := 0) (t := 17) (M := ML_read) (pc := 7) dL_read_7 rfl rfl [.int (I 0), .ref 110] rfl rfl ⟨rfl, by decide, Nat.le_of_ble_eq_true rfl⟩ h0.1 g (s_hand2 rfl ⟨rfl, rfl, by decide⟩ dL_read_15 rfl) ?_
    refine tt_iconst (P := True) (M := ML_read) (pc := 17) dL_read_17 (fun _ => ?_) trivial
    exact tt_iret (M := ML_read) (pc := 18) dL_read_18 rfl rfl
theorem w_page {o : aO} {W' : aW} {p1 p2 p3 : Int} (h0 : sGP SH) (hq : ∀ q, o = .inr q → q = 0) (h : CL sc MX10_page [some (.ref 0), some (.int (I p1)), some (.int (I p2)), some (.int (I p3)), none, none] SH F e S o W') : WR sc ML_page [some (.ref 0), some (.int (I p1)), some (.int (I p2)), some (.int (I p3)), some (.ref 110), none] SH F e S 1 o W' := by
  obtain ⟨SH', F', e', S', g, c, he, hf⟩ := h
  cases o with
  | inl v =>
    refine ⟨0, SH', F', e', up S' 110 0 (i2j v).toInt, ?_, clR_md c (fun j hj => up_ne (by omega)), he, fun j h1 h2 => by rw [up_ne (by omega)]; exact hf j h1 (by omega), fun w hw => ⟨rfl, ?_⟩, fun q hw => by cases hw⟩
    · refine tt_ld (P := True) (M := ML_page) (pc := 0) dL_page_0 rfl rfl rfl rfl rfl (fun _ => ?_) trivial
      refine tt_iconst (P := True) (M := ML_page) (pc := 2) dL_page_2 (fun _ => ?_) trivial
      refine tt_ld (P := True) (M := ML_page) (pc := 3) dL_page_3 rfl rfl rfl rfl rfl (fun _ => ?_) trivial
      refine tt_ld (P := True) (M := ML_page) (pc := 4) dL_page_4 rfl rfl rfl rfl rfl (fun _ => ?_) trivial
      refine tt_ld (P := True) (M := ML_page) (pc := 5) dL_page_5 rfl rfl rfl rfl rfl (fun _ => ?_) trivial
      refine tt_ld (P := True) (M := ML_page) (pc := 6) dL_page_6 rfl rfl rfl rfl rfl (fun _ => ?_) trivial
      refine tt_vcHI (M := ML_page) (pc := 7) dL_page_7 rfl rfl [.int (I 0), .ref 110] rfl rfl ⟨rfl, by decide, Nat.le_of_ble_eq_true rfl⟩ h0.1 g ?_
      refine tt_i2l (P := True) (M := ML_page) (pc := 10) dL_page_10 (fun _ => ?_) trivial
      refine tt_lastore (P := True) (M := ML_page) (pc := 11) dL_page_11 (m := 1) c.1.1.2.2 rfl (fun _ => ?_) ⟨⟨by decide, by decide⟩, trivial⟩
      refine tt_goto (P := True) (M := ML_page) (pc := 12) 19 dL_page_12 rfl (fun _ => ?_) trivial
      refine tt_iconst (P := True) (M := ML_page) (pc := 19) dL_page_19 (fun _ => ?_) trivial
      exact tt_iret (M := ML_page) (pc := 20) dL_page_20 rfl rfl
    · cases hw; rw [up_eq]; exact i2j_int v
  | inr q =>
    obtain rfl := hq q rfl
    refine ⟨1, SH', F', e', S', ?_, c, he, fun j h1 h2 => hf j h1 (by omega), fun w hw => (by cases hw), fun q hw => (by cases hw; rfl)⟩
    refine tt_ld (P := True) (M := ML_page) (pc := 0) dL_page_0 rfl rfl rfl rfl rfl (fun _ => ?_) trivial
    refine tt_iconst (P := True) (M := ML_page) (pc := 2) dL_page_2 (fun _ => ?_) trivial
    refine tt_ld (P := True) (M := ML_page) (pc := 3) dL_page_3 rfl rfl rfl rfl rfl (fun _ => ?_) trivial
    refine tt_ld (P := True) (M := ML_page) (pc := 4) dL_page_4 rfl rfl rfl rfl rfl (fun _ => ?_) trivial
    refine tt_ld (P := True) (M := ML_page) (pc := 5) dL_page_5 rfl rfl rfl rfl rfl (fun _ => ?_) trivial
    refine tt_ld (P := True) (M := ML_page) (pc := 6) dL_page_6 rfl rfl rfl rfl rfl (fun _ => ?_) trivial
    refine tt_vcHX (e := 0) (t := 17) (M := ML_page) (pc := 7) dL_page_7 rfl rfl [.int (I 0), .ref 110] rfl rfl ⟨rfl, by decide, Nat.le_of_ble_eq_true rfl⟩ h0.1 g (s_hand2 rfl ⟨rfl, rfl, by decide⟩ dL_page_15 rfl) ?_
    refine tt_iconst (P := True) (M := ML_page) (pc := 17) dL_page_17 (fun _ => ?_) trivial
    exact tt_iret (M := ML_page) (pc := 18) dL_page_18 rfl rfl
theorem w_frame {o : aO} {W' : aW} {p1 p2 : Int} (h0 : sGP SH) (hq : ∀ q, o = .inr q → q = 0) (h : CL sc MX10_frame [some (.ref 0), some (.int (I p1)), some (.int (I p2)), none] SH F e S o W') : WR sc ML_frame [some (.ref 0), some (.int (I p1)), some (.int (I p2)), some (.ref 110), none] SH F e S 1 o W' := by
  obtain ⟨SH', F', e', S', g, c, he, hf⟩ := h
  cases o with
  | inl v =>
    refine ⟨0, SH', F', e', up S' 110 0 (i2j v).toInt, ?_, clR_md c (fun j hj => up_ne (by omega)), he, fun j h1 h2 => by rw [up_ne (by omega)]; exact hf j h1 (by omega), fun w hw => ⟨rfl, ?_⟩, fun q hw => by cases hw⟩
    · refine tt_ld (P := True) (M := ML_frame) (pc := 0) dL_frame_0 rfl rfl rfl rfl rfl (fun _ => ?_) trivial
      refine tt_iconst (P := True) (M := ML_frame) (pc := 1) dL_frame_1 (fun _ => ?_) trivial
      refine tt_ld (P := True) (M := ML_frame) (pc := 2) dL_frame_2 rfl rfl rfl rfl rfl (fun _ => ?_) trivial
      refine tt_ld (P := True) (M := ML_frame) (pc := 3) dL_frame_3 rfl rfl rfl rfl rfl (fun _ => ?_) trivial
      refine tt_ld (P := True) (M := ML_frame) (pc := 4) dL_frame_4 rfl rfl rfl rfl rfl (fun _ => ?_) trivial
      refine tt_vcHI (M := ML_frame) (pc := 5) dL_frame_5 rfl rfl [.int (I 0), .ref 110] rfl rfl ⟨rfl, by decide, Nat.le_of_ble_eq_true rfl⟩ h0.1 g ?_
      refine tt_i2l (P := True) (M := ML_frame) (pc := 8) dL_frame_8 (fun _ => ?_) trivial
      refine tt_lastore (P := True) (M := ML_frame) (pc := 9) dL_frame_9 (m := 1) c.1.1.2.2 rfl (fun _ => ?_) ⟨⟨by decide, by decide⟩, trivial⟩
      refine tt_goto (P := True) (M := ML_frame) (pc := 10) 17 dL_frame_10 rfl (fun _ => ?_) trivial
      refine tt_iconst (P := True) (M := ML_frame) (pc := 17) dL_frame_17 (fun _ => ?_) trivial
      exact tt_iret (M := ML_frame) (pc := 18) dL_frame_18 rfl rfl
    · cases hw; rw [up_eq]; exact i2j_int v
  | inr q =>
    obtain rfl := hq q rfl
    refine ⟨1, SH', F', e', S', ?_, c, he, fun j h1 h2 => hf j h1 (by omega), fun w hw => (by cases hw), fun q hw => (by cases hw; rfl)⟩
    refine tt_ld (P := True) (M := ML_frame) (pc := 0) dL_frame_0 rfl rfl rfl rfl rfl (fun _ => ?_) trivial
    refine tt_iconst (P := True) (M := ML_frame) (pc := 1) dL_frame_1 (fun _ => ?_) trivial
    refine tt_ld (P := True) (M := ML_frame) (pc := 2) dL_frame_2 rfl rfl rfl rfl rfl (fun _ => ?_) trivial
    refine tt_ld (P := True) (M := ML_frame) (pc := 3) dL_frame_3 rfl rfl rfl rfl rfl (fun _ => ?_) trivial
    refine tt_ld (P := True) (M := ML_frame) (pc := 4) dL_frame_4 rfl rfl rfl rfl rfl (fun _ => ?_) trivial
    refine tt_vcHX (e := 0) (t := 15) (M := ML_frame) (pc := 5) dL_frame_5 rfl rfl [.int (I 0), .ref 110] rfl rfl ⟨rfl, by decide, Nat.le_of_ble_eq_true rfl⟩ h0.1 g (s_hand2 rfl ⟨rfl, rfl, by decide⟩ dL_frame_13 rfl) ?_
    refine tt_iconst (P := True) (M := ML_frame) (pc := 15) dL_frame_15 (fun _ => ?_) trivial
    exact tt_iret (M := ML_frame) (pc := 16) dL_frame_16 rfl rfl
theorem w_chain {o : aO} {W' : aW} {p1 p2 : Int} (h0 : sGP SH) (hq : ∀ q, o = .inr q → q = 0) (h : CL sc MX10_chain [some (.ref 0), some (.int (I p1)), some (.int (I p2)), none, none] SH F e S o W') : WR sc ML_chain [some (.ref 0), some (.int (I p1)), some (.int (I p2)), some (.ref 110), none] SH F e S 1 o W' := by
  obtain ⟨SH', F', e', S', g, c, he, hf⟩ := h
  cases o with
  | inl v =>
    refine ⟨0, SH', F', e', up S' 110 0 (i2j v).toInt, ?_, clR_md c (fun j hj => up_ne (by omega)), he, fun j h1 h2 => by rw [up_ne (by omega)]; exact hf j h1 (by omega), fun w hw => ⟨rfl, ?_⟩, fun q hw => by cases hw⟩
    · refine tt_ld (P := True) (M := ML_chain) (pc := 0) dL_chain_0 rfl rfl rfl rfl rfl (fun _ => ?_) trivial
      refine tt_iconst (P := True) (M := ML_chain) (pc := 1) dL_chain_1 (fun _ => ?_) trivial
      refine tt_ld (P := True) (M := ML_chain) (pc := 2) dL_chain_2 rfl rfl rfl rfl rfl (fun _ => ?_) trivial
      refine tt_ld (P := True) (M := ML_chain) (pc := 3) dL_chain_3 rfl rfl rfl rfl rfl (fun _ => ?_) trivial
      refine tt_ld (P := True) (M := ML_chain) (pc := 4) dL_chain_4 rfl rfl rfl rfl rfl (fun _ => ?_) trivial
      refine tt_vcHI (M := ML_chain) (pc := 5) dL_chain_5 rfl rfl [.int (I 0), .ref 110] rfl rfl ⟨rfl, by decide, Nat.le_of_ble_eq_true rfl⟩ h0.1 g ?_
      refine tt_i2l (P := True) (M := ML_chain) (pc := 8) dL_chain_8 (fun _ => ?_) trivial
      refine tt_lastore (P := True) (M := ML_chain) (pc := 9) dL_chain_9 (m := 1) c.1.1.2.2 rfl (fun _ => ?_) ⟨⟨by decide, by decide⟩, trivial⟩
      refine tt_goto (P := True) (M := ML_chain) (pc := 10) 17 dL_chain_10 rfl (fun _ => ?_) trivial
      refine tt_iconst (P := True) (M := ML_chain) (pc := 17) dL_chain_17 (fun _ => ?_) trivial
      exact tt_iret (M := ML_chain) (pc := 18) dL_chain_18 rfl rfl
    · cases hw; rw [up_eq]; exact i2j_int v
  | inr q =>
    obtain rfl := hq q rfl
    refine ⟨1, SH', F', e', S', ?_, c, he, fun j h1 h2 => hf j h1 (by omega), fun w hw => (by cases hw), fun q hw => (by cases hw; rfl)⟩
    refine tt_ld (P := True) (M := ML_chain) (pc := 0) dL_chain_0 rfl rfl rfl rfl rfl (fun _ => ?_) trivial
    refine tt_iconst (P := True) (M := ML_chain) (pc := 1) dL_chain_1 (fun _ => ?_) trivial
    refine tt_ld (P := True) (M := ML_chain) (pc := 2) dL_chain_2 rfl rfl rfl rfl rfl (fun _ => ?_) trivial
    refine tt_ld (P := True) (M := ML_chain) (pc := 3) dL_chain_3 rfl rfl rfl rfl rfl (fun _ => ?_) trivial
    refine tt_ld (P := True) (M := ML_chain) (pc := 4) dL_chain_4 rfl rfl rfl rfl rfl (fun _ => ?_) trivial
    refine tt_vcHX (e := 0) (t := 15) (M := ML_chain) (pc := 5) dL_chain_5 rfl rfl [.int (I 0), .ref 110] rfl rfl ⟨rfl, by decide, Nat.le_of_ble_eq_true rfl⟩ h0.1 g (s_hand2 rfl ⟨rfl, rfl, by decide⟩ dL_chain_13 rfl) ?_
    refine tt_iconst (P := True) (M := ML_chain) (pc := 15) dL_chain_15 (fun _ => ?_) trivial
    exact tt_iret (M := ML_chain) (pc := 16) dL_chain_16 rfl rfl
theorem w_knot {o : aO} {W' : aW} {p1 p2 p3 p4 : Int} (h0 : sGP SH) (hq : ∀ q, o = .inr q → q = 0) (h : CL sc MX10_knot [some (.ref 0), some (.int (I p1)), some (.int (I p2)), some (.int (I p3)), some (.int (I p4)), none, none] SH F e S o W') : WR sc ML_knot [some (.ref 0), some (.int (I p1)), some (.int (I p2)), some (.int (I p3)), some (.int (I p4)), some (.ref 110), none] SH F e S 1 o W' := by
  obtain ⟨SH', F', e', S', g, c, he, hf⟩ := h
  cases o with
  | inl v =>
    refine ⟨0, SH', F', e', up S' 110 0 (i2j v).toInt, ?_, clR_md c (fun j hj => up_ne (by omega)), he, fun j h1 h2 => by rw [up_ne (by omega)]; exact hf j h1 (by omega), fun w hw => ⟨rfl, ?_⟩, fun q hw => by cases hw⟩
    · refine tt_ld (P := True) (M := ML_knot) (pc := 0) dL_knot_0 rfl rfl rfl rfl rfl (fun _ => ?_) trivial
      refine tt_iconst (P := True) (M := ML_knot) (pc := 2) dL_knot_2 (fun _ => ?_) trivial
      refine tt_ld (P := True) (M := ML_knot) (pc := 3) dL_knot_3 rfl rfl rfl rfl rfl (fun _ => ?_) trivial
      refine tt_ld (P := True) (M := ML_knot) (pc := 4) dL_knot_4 rfl rfl rfl rfl rfl (fun _ => ?_) trivial
      refine tt_ld (P := True) (M := ML_knot) (pc := 5) dL_knot_5 rfl rfl rfl rfl rfl (fun _ => ?_) trivial
      refine tt_ld (P := True) (M := ML_knot) (pc := 6) dL_knot_6 rfl rfl rfl rfl rfl (fun _ => ?_) trivial
      refine tt_ld (P := True) (M := ML_knot) (pc := 7) dL_knot_7 rfl rfl rfl rfl rfl (fun _ => ?_) trivial
      refine tt_vcHI (M := ML_knot) (pc := 9) dL_knot_9 rfl rfl [.int (I 0), .ref 110] rfl rfl ⟨rfl, by decide, Nat.le_of_ble_eq_true rfl⟩ h0.1 g ?_
      refine tt_i2l (P := True) (M := ML_knot) (pc := 12) dL_knot_12 (fun _ => ?_) trivial
      refine tt_lastore (P := True) (M := ML_knot) (pc := 13) dL_knot_13 (m := 1) c.1.1.2.2 rfl (fun _ => ?_) ⟨⟨by decide, by decide⟩, trivial⟩
      refine tt_goto (P := True) (M := ML_knot) (pc := 14) 21 dL_knot_14 rfl (fun _ => ?_) trivial
      refine tt_iconst (P := True) (M := ML_knot) (pc := 21) dL_knot_21 (fun _ => ?_) trivial
      exact tt_iret (M := ML_knot) (pc := 22) dL_knot_22 rfl rfl
    · cases hw; rw [up_eq]; exact i2j_int v
  | inr q =>
    obtain rfl := hq q rfl
    refine ⟨1, SH', F', e', S', ?_, c, he, fun j h1 h2 => hf j h1 (by omega), fun w hw => (by cases hw), fun q hw => (by cases hw; rfl)⟩
    refine tt_ld (P := True) (M := ML_knot) (pc := 0) dL_knot_0 rfl rfl rfl rfl rfl (fun _ => ?_) trivial
    refine tt_iconst (P := True) (M := ML_knot) (pc := 2) dL_knot_2 (fun _ => ?_) trivial
    refine tt_ld (P := True) (M := ML_knot) (pc := 3) dL_knot_3 rfl rfl rfl rfl rfl (fun _ => ?_) trivial
    refine tt_ld (P := True) (M := ML_knot) (pc := 4) dL_knot_4 rfl rfl rfl rfl rfl (fun _ => ?_) trivial
    refine tt_ld (P := True) (M := ML_knot) (pc := 5) dL_knot_5 rfl rfl rfl rfl rfl (fun _ => ?_) trivial
    refine tt_ld (P := True) (M := ML_knot) (pc := 6) dL_knot_6 rfl rfl rfl rfl rfl (fun _ => ?_) trivial
    refine tt_ld (P := True) (M := ML_knot) (pc := 7) dL_knot_7 rfl rfl rfl rfl rfl (fun _ => ?_) trivial
    refine tt_vcHX (e := 0) (t := 19) (M := ML_knot) (pc := 9) dL_knot_9 rfl rfl [.int (I 0), .ref 110] rfl rfl ⟨rfl, by decide, Nat.le_of_ble_eq_true rfl⟩ h0.1 g (s_hand2 rfl ⟨rfl, rfl, by decide⟩ dL_knot_17 rfl) ?_
    refine tt_iconst (P := True) (M := ML_knot) (pc := 19) dL_knot_19 (fun _ => ?_) trivial
    exact tt_iret (M := ML_knot) (pc := 20) dL_knot_20 rfl rfl
theorem w_like {o : aO} {W' : aW} {p1 p2 p3 : Int} (h0 : sGP SH) (hq : ∀ q, o = .inr q → q = 0) (h : CL sc MX10_like [some (.ref 0), some (.int (I p1)), some (.int (I p2)), some (.int (I p3)), none, none, none, none] SH F e S o W') : WR sc ML_like [some (.ref 0), some (.int (I p1)), some (.int (I p2)), some (.int (I p3)), some (.ref 110), none] SH F e S 1 o W' := by
  obtain ⟨SH', F', e', S', g, c, he, hf⟩ := h
  cases o with
  | inl v =>
    refine ⟨0, SH', F', e', up S' 110 0 (i2j v).toInt, ?_, clR_md c (fun j hj => up_ne (by omega)), he, fun j h1 h2 => by rw [up_ne (by omega)]; exact hf j h1 (by omega), fun w hw => ⟨rfl, ?_⟩, fun q hw => by cases hw⟩
    · refine tt_ld (P := True) (M := ML_like) (pc := 0) dL_like_0 rfl rfl rfl rfl rfl (fun _ => ?_) trivial
      refine tt_iconst (P := True) (M := ML_like) (pc := 2) dL_like_2 (fun _ => ?_) trivial
      refine tt_ld (P := True) (M := ML_like) (pc := 3) dL_like_3 rfl rfl rfl rfl rfl (fun _ => ?_) trivial
      refine tt_ld (P := True) (M := ML_like) (pc := 4) dL_like_4 rfl rfl rfl rfl rfl (fun _ => ?_) trivial
      refine tt_ld (P := True) (M := ML_like) (pc := 5) dL_like_5 rfl rfl rfl rfl rfl (fun _ => ?_) trivial
      refine tt_ld (P := True) (M := ML_like) (pc := 6) dL_like_6 rfl rfl rfl rfl rfl (fun _ => ?_) trivial
      refine tt_vcHI (M := ML_like) (pc := 7) dL_like_7 rfl rfl [.int (I 0), .ref 110] rfl rfl ⟨rfl, by decide, Nat.le_of_ble_eq_true rfl⟩ h0.1 g ?_
      refine tt_i2l (P := True) (M := ML_like) (pc := 10) dL_like_10 (fun _ => ?_) trivial
      refine tt_lastore (P := True) (M := ML_like) (pc := 11) dL_like_11 (m := 1) c.1.1.2.2 rfl (fun _ => ?_) ⟨⟨by decide, by decide⟩, trivial⟩
      refine tt_goto (P := True) (M := ML_like) (pc := 12) 19 dL_like_12 rfl (fun _ => ?_) trivial
      refine tt_iconst (P := True) (M := ML_like) (pc := 19) dL_like_19 (fun _ => ?_) trivial
      exact tt_iret (M := ML_like) (pc := 20) dL_like_20 rfl rfl
    · cases hw; rw [up_eq]; exact i2j_int v
  | inr q =>
    obtain rfl := hq q rfl
    refine ⟨1, SH', F', e', S', ?_, c, he, fun j h1 h2 => hf j h1 (by omega), fun w hw => (by cases hw), fun q hw => (by cases hw; rfl)⟩
    refine tt_ld (P := True) (M := ML_like) (pc := 0) dL_like_0 rfl rfl rfl rfl rfl (fun _ => ?_) trivial
    refine tt_iconst (P := True) (M := ML_like) (pc := 2) dL_like_2 (fun _ => ?_) trivial
    refine tt_ld (P := True) (M := ML_like) (pc := 3) dL_like_3 rfl rfl rfl rfl rfl (fun _ => ?_) trivial
    refine tt_ld (P := True) (M := ML_like) (pc := 4) dL_like_4 rfl rfl rfl rfl rfl (fun _ => ?_) trivial
    refine tt_ld (P := True) (M := ML_like) (pc := 5) dL_like_5 rfl rfl rfl rfl rfl (fun _ => ?_) trivial
    refine tt_ld (P := True) (M := ML_like) (pc := 6) dL_like_6 rfl rfl rfl rfl rfl (fun _ => ?_) trivial
    refine tt_vcHX (e := 0) (t := 17) (M := ML_like) (pc := 7) dL_like_7 rfl rfl [.int (I 0), .ref 110] rfl rfl ⟨rfl, by decide, Nat.le_of_ble_eq_true rfl⟩ h0.1 g (s_hand2 rfl ⟨rfl, rfl, by decide⟩ dL_like_15 rfl) ?_
    refine tt_iconst (P := True) (M := ML_like) (pc := 17) dL_like_17 (fun _ => ?_) trivial
    exact tt_iret (M := ML_like) (pc := 18) dL_like_18 rfl rfl
theorem w_write {o : aO} {W' : aW} {p1 p2 p3 p4 : Int} (h0 : sGP SH) (hq : ∀ q, o = .inr q → q = 0) (h : CL sc MX10_write [some (.ref 0), some (.int (I p1)), some (.int (I p2)), some (.int (I p3)), some (.int (I p4)), none] SH F e S o W') : WR sc ML_write [some (.ref 0), some (.int (I p1)), some (.int (I p2)), some (.int (I p3)), some (.int (I p4)), some (.ref 110), none] SH F e S 1 o W' := by
  obtain ⟨SH', F', e', S', g, c, he, hf⟩ := h
  cases o with
  | inl v =>
    refine ⟨0, SH', F', e', up S' 110 0 (i2j v).toInt, ?_, clR_md c (fun j hj => up_ne (by omega)), he, fun j h1 h2 => by rw [up_ne (by omega)]; exact hf j h1 (by omega), fun w hw => ⟨rfl, ?_⟩, fun q hw => by cases hw⟩
    · refine tt_ld (P := True) (M := ML_write) (pc := 0) dL_write_0 rfl rfl rfl rfl rfl (fun _ => ?_) trivial
      refine tt_iconst (P := True) (M := ML_write) (pc := 2) dL_write_2 (fun _ => ?_) trivial
      refine tt_ld (P := True) (M := ML_write) (pc := 3) dL_write_3 rfl rfl rfl rfl rfl (fun _ => ?_) trivial
      refine tt_ld (P := True) (M := ML_write) (pc := 4) dL_write_4 rfl rfl rfl rfl rfl (fun _ => ?_) trivial
      refine tt_ld (P := True) (M := ML_write) (pc := 5) dL_write_5 rfl rfl rfl rfl rfl (fun _ => ?_) trivial
      refine tt_ld (P := True) (M := ML_write) (pc := 6) dL_write_6 rfl rfl rfl rfl rfl (fun _ => ?_) trivial
      refine tt_ld (P := True) (M := ML_write) (pc := 7) dL_write_7 rfl rfl rfl rfl rfl (fun _ => ?_) trivial
      refine tt_vcHI (M := ML_write) (pc := 9) dL_write_9 rfl rfl [.int (I 0), .ref 110] rfl rfl ⟨rfl, by decide, Nat.le_of_ble_eq_true rfl⟩ h0.1 g ?_
      refine tt_i2l (P := True) (M := ML_write) (pc := 12) dL_write_12 (fun _ => ?_) trivial
      refine tt_lastore (P := True) (M := ML_write) (pc := 13) dL_write_13 (m := 1) c.1.1.2.2 rfl (fun _ => ?_) ⟨⟨by decide, by decide⟩, trivial⟩
      refine tt_goto (P := True) (M := ML_write) (pc := 14) 21 dL_write_14 rfl (fun _ => ?_) trivial
      refine tt_iconst (P := True) (M := ML_write) (pc := 21) dL_write_21 (fun _ => ?_) trivial
      exact tt_iret (M := ML_write) (pc := 22) dL_write_22 rfl rfl
    · cases hw; rw [up_eq]; exact i2j_int v
  | inr q =>
    obtain rfl := hq q rfl
    refine ⟨1, SH', F', e', S', ?_, c, he, fun j h1 h2 => hf j h1 (by omega), fun w hw => (by cases hw), fun q hw => (by cases hw; rfl)⟩
    refine tt_ld (P := True) (M := ML_write) (pc := 0) dL_write_0 rfl rfl rfl rfl rfl (fun _ => ?_) trivial
    refine tt_iconst (P := True) (M := ML_write) (pc := 2) dL_write_2 (fun _ => ?_) trivial
    refine tt_ld (P := True) (M := ML_write) (pc := 3) dL_write_3 rfl rfl rfl rfl rfl (fun _ => ?_) trivial
    refine tt_ld (P := True) (M := ML_write) (pc := 4) dL_write_4 rfl rfl rfl rfl rfl (fun _ => ?_) trivial
    refine tt_ld (P := True) (M := ML_write) (pc := 5) dL_write_5 rfl rfl rfl rfl rfl (fun _ => ?_) trivial
    refine tt_ld (P := True) (M := ML_write) (pc := 6) dL_write_6 rfl rfl rfl rfl rfl (fun _ => ?_) trivial
    refine tt_ld (P := True) (M := ML_write) (pc := 7) dL_write_7 rfl rfl rfl rfl rfl (fun _ => ?_) trivial
    refine tt_vcHX (e := 0) (t := 19) (M := ML_write) (pc := 9) dL_write_9 rfl rfl [.int (I 0), .ref 110] rfl rfl ⟨rfl, by decide, Nat.le_of_ble_eq_true rfl⟩ h0.1 g (s_hand2 rfl ⟨rfl, rfl, by decide⟩ dL_write_17 rfl) ?_
    refine tt_iconst (P := True) (M := ML_write) (pc := 19) dL_write_19 (fun _ => ?_) trivial
    exact tt_iret (M := ML_write) (pc := 20) dL_write_20 rfl rfl
theorem w_copy {o : aO} {W' : aW} {p1 p2 p3 p4 : Int} (h0 : sGP SH) (hq : ∀ q, o = .inr q → q = 0) (h : CL sc MX10_copy [some (.ref 0), some (.int (I p1)), some (.int (I p2)), some (.int (I p3)), some (.int (I p4)), none, none] SH F e S o W') : WR sc ML_copy [some (.ref 0), some (.int (I p1)), some (.int (I p2)), some (.int (I p3)), some (.int (I p4)), some (.ref 110), none] SH F e S 1 o W' := by
  obtain ⟨SH', F', e', S', g, c, he, hf⟩ := h
  cases o with
  | inl v =>
    refine ⟨0, SH', F', e', up S' 110 0 (i2j v).toInt, ?_, clR_md c (fun j hj => up_ne (by omega)), he, fun j h1 h2 => by rw [up_ne (by omega)]; exact hf j h1 (by omega), fun w hw => ⟨rfl, ?_⟩, fun q hw => by cases hw⟩
    · refine tt_ld (P := True) (M := ML_copy) (pc := 0) dL_copy_0 rfl rfl rfl rfl rfl (fun _ => ?_) trivial
      refine tt_iconst (P := True) (M := ML_copy) (pc := 2) dL_copy_2 (fun _ => ?_) trivial
      refine tt_ld (P := True) (M := ML_copy) (pc := 3) dL_copy_3 rfl rfl rfl rfl rfl (fun _ => ?_) trivial
      refine tt_ld (P := True) (M := ML_copy) (pc := 4) dL_copy_4 rfl rfl rfl rfl rfl (fun _ => ?_) trivial
      refine tt_ld (P := True) (M := ML_copy) (pc := 5) dL_copy_5 rfl rfl rfl rfl rfl (fun _ => ?_) trivial
      refine tt_ld (P := True) (M := ML_copy) (pc := 6) dL_copy_6 rfl rfl rfl rfl rfl (fun _ => ?_) trivial
      refine tt_ld (P := True) (M := ML_copy) (pc := 7) dL_copy_7 rfl rfl rfl rfl rfl (fun _ => ?_) trivial
      refine tt_vcHI (M := ML_copy) (pc := 9) dL_copy_9 rfl rfl [.int (I 0), .ref 110] rfl rfl ⟨rfl, by decide, Nat.le_of_ble_eq_true rfl⟩ h0.1 g ?_
      refine tt_i2l (P := True) (M := ML_copy) (pc := 12) dL_copy_12 (fun _ => ?_) trivial
      refine tt_lastore (P := True) (M := ML_copy) (pc := 13) dL_copy_13 (m := 1) c.1.1.2.2 rfl (fun _ => ?_) ⟨⟨by decide, by decide⟩, trivial⟩
      refine tt_goto (P := True) (M := ML_copy) (pc := 14) 21 dL_copy_14 rfl (fun _ => ?_) trivial
      refine tt_iconst (P := True) (M := ML_copy) (pc := 21) dL_copy_21 (fun _ => ?_) trivial
      exact tt_iret (M := ML_copy) (pc := 22) dL_copy_22 rfl rfl
    · cases hw; rw [up_eq]; exact i2j_int v
  | inr q =>
    obtain rfl := hq q rfl
    refine ⟨1, SH', F', e', S', ?_, c, he, fun j h1 h2 => hf j h1 (by omega), fun w hw => (by cases hw), fun q hw => (by cases hw; rfl)⟩
    refine tt_ld (P := True) (M := ML_copy) (pc := 0) dL_copy_0 rfl rfl rfl rfl rfl (fun _ => ?_) trivial
    refine tt_iconst (P := True) (M := ML_copy) (pc := 2) dL_copy_2 (fun _ => ?_) trivial
    refine tt_ld (P := True) (M := ML_copy) (pc := 3) dL_copy_3 rfl rfl rfl rfl rfl (fun _ => ?_) trivial
    refine tt_ld (P := True) (M := ML_copy) (pc := 4) dL_copy_4 rfl rfl rfl rfl rfl (fun _ => ?_) trivial
    refine tt_ld (P := True) (M := ML_copy) (pc := 5) dL_copy_5 rfl rfl rfl rfl rfl (fun _ => ?_) trivial
    refine tt_ld (P := True) (M := ML_copy) (pc := 6) dL_copy_6 rfl rfl rfl rfl rfl (fun _ => ?_) trivial
    refine tt_ld (P := True) (M := ML_copy) (pc := 7) dL_copy_7 rfl rfl rfl rfl rfl (fun _ => ?_) trivial
    refine tt_vcHX (e := 0) (t := 19) (M := ML_copy) (pc := 9) dL_copy_9 rfl rfl [.int (I 0), .ref 110] rfl rfl ⟨rfl, by decide, Nat.le_of_ble_eq_true rfl⟩ h0.1 g (s_hand2 rfl ⟨rfl, rfl, by decide⟩ dL_copy_17 rfl) ?_
    refine tt_iconst (P := True) (M := ML_copy) (pc := 19) dL_copy_19 (fun _ => ?_) trivial
    exact tt_iret (M := ML_copy) (pc := 20) dL_copy_20 rfl rfl
theorem w_drop {o : aO} {W' : aW} {p1 p2 : Int} (h0 : sGP SH) (hq : ∀ q, o = .inr q → q = 0) (h : CL sc MX10_drop [some (.ref 0), some (.int (I p1)), some (.int (I p2)), none] SH F e S o W') : WR sc ML_drop [some (.ref 0), some (.int (I p1)), some (.int (I p2)), some (.ref 110), none] SH F e S 1 o W' := by
  obtain ⟨SH', F', e', S', g, c, he, hf⟩ := h
  cases o with
  | inl v =>
    refine ⟨0, SH', F', e', up S' 110 0 (i2j v).toInt, ?_, clR_md c (fun j hj => up_ne (by omega)), he, fun j h1 h2 => by rw [up_ne (by omega)]; exact hf j h1 (by omega), fun w hw => ⟨rfl, ?_⟩, fun q hw => by cases hw⟩
    · refine tt_ld (P := True) (M := ML_drop) (pc := 0) dL_drop_0 rfl rfl rfl rfl rfl (fun _ => ?_) trivial
      refine tt_iconst (P := True) (M := ML_drop) (pc := 1) dL_drop_1 (fun _ => ?_) trivial
      refine tt_ld (P := True) (M := ML_drop) (pc := 2) dL_drop_2 rfl rfl rfl rfl rfl (fun _ => ?_) trivial
      refine tt_ld (P := True) (M := ML_drop) (pc := 3) dL_drop_3 rfl rfl rfl rfl rfl (fun _ => ?_) trivial
      refine tt_ld (P := True) (M := ML_drop) (pc := 4) dL_drop_4 rfl rfl rfl rfl rfl (fun _ => ?_) trivial
      refine tt_vcHI (M := ML_drop) (pc := 5) dL_drop_5 rfl rfl [.int (I 0), .ref 110] rfl rfl ⟨rfl, by decide, Nat.le_of_ble_eq_true rfl⟩ h0.1 g ?_
      refine tt_i2l (P := True) (M := ML_drop) (pc := 8) dL_drop_8 (fun _ => ?_) trivial
      refine tt_lastore (P := True) (M := ML_drop) (pc := 9) dL_drop_9 (m := 1) c.1.1.2.2 rfl (fun _ => ?_) ⟨⟨by decide, by decide⟩, trivial⟩
      refine tt_goto (P := True) (M := ML_drop) (pc := 10) 17 dL_drop_10 rfl (fun _ => ?_) trivial
      refine tt_iconst (P := True) (M := ML_drop) (pc := 17) dL_drop_17 (fun _ => ?_) trivial
      exact tt_iret (M := ML_drop) (pc := 18) dL_drop_18 rfl rfl
    · cases hw; rw [up_eq]; exact i2j_int v
  | inr q =>
    obtain rfl := hq q rfl
    refine ⟨1, SH', F', e', S', ?_, c, he, fun j h1 h2 => hf j h1 (by omega), fun w hw => (by cases hw), fun q hw => (by cases hw; rfl)⟩
    refine tt_ld (P := True) (M := ML_drop) (pc := 0) dL_drop_0 rfl rfl rfl rfl rfl (fun _ => ?_) trivial
    refine tt_iconst (P := True) (M := ML_drop) (pc := 1) dL_drop_1 (fun _ => ?_) trivial
    refine tt_ld (P := True) (M := ML_drop) (pc := 2) dL_drop_2 rfl rfl rfl rfl rfl (fun _ => ?_) trivial
    refine tt_ld (P := True) (M := ML_drop) (pc := 3) dL_drop_3 rfl rfl rfl rfl rfl (fun _ => ?_) trivial
    refine tt_ld (P := True) (M := ML_drop) (pc := 4) dL_drop_4 rfl rfl rfl rfl rfl (fun _ => ?_) trivial
    refine tt_vcHX (e := 0) (t := 15) (M := ML_drop) (pc := 5) dL_drop_5 rfl rfl [.int (I 0), .ref 110] rfl rfl ⟨rfl, by decide, Nat.le_of_ble_eq_true rfl⟩ h0.1 g (s_hand2 rfl ⟨rfl, rfl, by decide⟩ dL_drop_13 rfl) ?_
    refine tt_iconst (P := True) (M := ML_drop) (pc := 15) dL_drop_15 (fun _ => ?_) trivial
    exact tt_iret (M := ML_drop) (pc := 16) dL_drop_16 rfl rfl
theorem w_advise {o : aO} {W' : aW} {p1 p2 p3 p4 : Int} (h0 : sGP SH) (hq : ∀ q, o = .inr q → q = 0) (h : CL sc MX10_advise [some (.ref 0), some (.int (I p1)), some (.int (I p2)), some (.int (I p3)), some (.int (I p4)), none, none, none] SH F e S o W') : WR sc ML_advise [some (.ref 0), some (.int (I p1)), some (.int (I p2)), some (.int (I p3)), some (.int (I p4)), some (.ref 110), none] SH F e S 1 o W' := by
  obtain ⟨SH', F', e', S', g, c, he, hf⟩ := h
  cases o with
  | inl v =>
    refine ⟨0, SH', F', e', up S' 110 0 (i2j v).toInt, ?_, clR_md c (fun j hj => up_ne (by omega)), he, fun j h1 h2 => by rw [up_ne (by omega)]; exact hf j h1 (by omega), fun w hw => ⟨rfl, ?_⟩, fun q hw => by cases hw⟩
    · refine tt_ld (P := True) (M := ML_advise) (pc := 0) dL_advise_0 rfl rfl rfl rfl rfl (fun _ => ?_) trivial
      refine tt_iconst (P := True) (M := ML_advise) (pc := 2) dL_advise_2 (fun _ => ?_) trivial
      refine tt_ld (P := True) (M := ML_advise) (pc := 3) dL_advise_3 rfl rfl rfl rfl rfl (fun _ => ?_) trivial
      refine tt_ld (P := True) (M := ML_advise) (pc := 4) dL_advise_4 rfl rfl rfl rfl rfl (fun _ => ?_) trivial
      refine tt_ld (P := True) (M := ML_advise) (pc := 5) dL_advise_5 rfl rfl rfl rfl rfl (fun _ => ?_) trivial
      refine tt_ld (P := True) (M := ML_advise) (pc := 6) dL_advise_6 rfl rfl rfl rfl rfl (fun _ => ?_) trivial
      refine tt_ld (P := True) (M := ML_advise) (pc := 7) dL_advise_7 rfl rfl rfl rfl rfl (fun _ => ?_) trivial
      refine tt_vcHI (M := ML_advise) (pc := 9) dL_advise_9 rfl rfl [.int (I 0), .ref 110] rfl rfl ⟨rfl, by decide, Nat.le_of_ble_eq_true rfl⟩ h0.1 g ?_
      refine tt_i2l (P := True) (M := ML_advise) (pc := 12) dL_advise_12 (fun _ => ?_) trivial
      refine tt_lastore (P := True) (M := ML_advise) (pc := 13) dL_advise_13 (m := 1) c.1.1.2.2 rfl (fun _ => ?_) ⟨⟨by decide, by decide⟩, trivial⟩
      refine tt_goto (P := True) (M := ML_advise) (pc := 14) 21 dL_advise_14 rfl (fun _ => ?_) trivial
      refine tt_iconst (P := True) (M := ML_advise) (pc := 21) dL_advise_21 (fun _ => ?_) trivial
      exact tt_iret (M := ML_advise) (pc := 22) dL_advise_22 rfl rfl
    · cases hw; rw [up_eq]; exact i2j_int v
  | inr q =>
    obtain rfl := hq q rfl
    refine ⟨1, SH', F', e', S', ?_, c, he, fun j h1 h2 => hf j h1 (by omega), fun w hw => (by cases hw), fun q hw => (by cases hw; rfl)⟩
    refine tt_ld (P := True) (M := ML_advise) (pc := 0) dL_advise_0 rfl rfl rfl rfl rfl (fun _ => ?_) trivial
    refine tt_iconst (P := True) (M := ML_advise) (pc := 2) dL_advise_2 (fun _ => ?_) trivial
    refine tt_ld (P := True) (M := ML_advise) (pc := 3) dL_advise_3 rfl rfl rfl rfl rfl (fun _ => ?_) trivial
    refine tt_ld (P := True) (M := ML_advise) (pc := 4) dL_advise_4 rfl rfl rfl rfl rfl (fun _ => ?_) trivial
    refine tt_ld (P := True) (M := ML_advise) (pc := 5) dL_advise_5 rfl rfl rfl rfl rfl (fun _ => ?_) trivial
    refine tt_ld (P := True) (M := ML_advise) (pc := 6) dL_advise_6 rfl rfl rfl rfl rfl (fun _ => ?_) trivial
    refine tt_ld (P := True) (M := ML_advise) (pc := 7) dL_advise_7 rfl rfl rfl rfl rfl (fun _ => ?_) trivial
    refine tt_vcHX (e := 0) (t := 19) (M := ML_advise) (pc := 9) dL_advise_9 rfl rfl [.int (I 0), .ref 110] rfl rfl ⟨rfl, by decide, Nat.le_of_ble_eq_true rfl⟩ h0.1 g (s_hand2 rfl ⟨rfl, rfl, by decide⟩ dL_advise_17 rfl) ?_
    refine tt_iconst (P := True) (M := ML_advise) (pc := 19) dL_advise_19 (fun _ => ?_) trivial
    exact tt_iret (M := ML_advise) (pc := 20) dL_advise_20 rfl rfl
theorem w_then {o : aO} {W' : aW} {p1 p2 : Int} (h0 : sGP SH) (hq : ∀ q, o = .inr q → q = 0 ∨ q = 1) (h : CL sc MX10_then [some (.ref 0), some (.int (I p1)), some (.int (I p2))] SH F e S o W') : WR sc ML_then [some (.ref 0), some (.int (I p1)), some (.int (I p2)), some (.ref 110), none] SH F e S 2 o W' := by
  obtain ⟨SH', F', e', S', g, c, he, hf⟩ := h
  cases o with
  | inl v =>
    refine ⟨0, SH', F', e', up S' 110 0 (i2j v).toInt, ?_, clR_md c (fun j hj => up_ne (by omega)), he, fun j h1 h2 => by rw [up_ne (by omega)]; exact hf j h1 (by omega), fun w hw => ⟨rfl, ?_⟩, fun q hw => by cases hw⟩
    · refine tt_ld (P := True) (M := ML_then) (pc := 0) dL_then_0 rfl rfl rfl rfl rfl (fun _ => ?_) trivial
      refine tt_iconst (P := True) (M := ML_then) (pc := 1) dL_then_1 (fun _ => ?_) trivial
      refine tt_ld (P := True) (M := ML_then) (pc := 2) dL_then_2 rfl rfl rfl rfl rfl (fun _ => ?_) trivial
      refine tt_ld (P := True) (M := ML_then) (pc := 3) dL_then_3 rfl rfl rfl rfl rfl (fun _ => ?_) trivial
      refine tt_ld (P := True) (M := ML_then) (pc := 4) dL_then_4 rfl rfl rfl rfl rfl (fun _ => ?_) trivial
      refine tt_vcHI (M := ML_then) (pc := 5) dL_then_5 rfl rfl [.int (I 0), .ref 110] rfl rfl ⟨rfl, by decide, Nat.le_of_ble_eq_true rfl⟩ h0.1 g ?_
      refine tt_i2l (P := True) (M := ML_then) (pc := 8) dL_then_8 (fun _ => ?_) trivial
      refine tt_lastore (P := True) (M := ML_then) (pc := 9) dL_then_9 (m := 1) c.1.1.2.2 rfl (fun _ => ?_) ⟨⟨by decide, by decide⟩, trivial⟩
      refine tt_goto (P := True) (M := ML_then) (pc := 10) 21 dL_then_10 rfl (fun _ => ?_) trivial
      refine tt_iconst (P := True) (M := ML_then) (pc := 21) dL_then_21 (fun _ => ?_) trivial
      exact tt_iret (M := ML_then) (pc := 22) dL_then_22 rfl rfl
    · cases hw; rw [up_eq]; exact i2j_int v
  | inr q =>
    rcases hq q rfl with rfl | rfl
    · refine ⟨1, SH', F', e', S', ?_, c, he, fun j h1 h2 => hf j h1 (by omega), fun w hw => (by cases hw), fun q hw => (by cases hw; rfl)⟩
      refine tt_ld (P := True) (M := ML_then) (pc := 0) dL_then_0 rfl rfl rfl rfl rfl (fun _ => ?_) trivial
      refine tt_iconst (P := True) (M := ML_then) (pc := 1) dL_then_1 (fun _ => ?_) trivial
      refine tt_ld (P := True) (M := ML_then) (pc := 2) dL_then_2 rfl rfl rfl rfl rfl (fun _ => ?_) trivial
      refine tt_ld (P := True) (M := ML_then) (pc := 3) dL_then_3 rfl rfl rfl rfl rfl (fun _ => ?_) trivial
      refine tt_ld (P := True) (M := ML_then) (pc := 4) dL_then_4 rfl rfl rfl rfl rfl (fun _ => ?_) trivial
      refine tt_vcHX (e := 0) (t := 15) (M := ML_then) (pc := 5) dL_then_5 rfl rfl [.int (I 0), .ref 110] rfl rfl ⟨rfl, by decide, Nat.le_of_ble_eq_true rfl⟩ h0.1 g (s_hand2 rfl ⟨rfl, rfl, by decide⟩ dL_then_13 rfl) ?_
      refine tt_iconst (P := True) (M := ML_then) (pc := 15) dL_then_15 (fun _ => ?_) trivial
      exact tt_iret (M := ML_then) (pc := 16) dL_then_16 rfl rfl
    · refine ⟨2, SH', F', e', S', ?_, c, he, fun j h1 h2 => hf j h1 (by omega), fun w hw => (by cases hw), fun q hw => (by cases hw; rfl)⟩
      refine tt_ld (P := True) (M := ML_then) (pc := 0) dL_then_0 rfl rfl rfl rfl rfl (fun _ => ?_) trivial
      refine tt_iconst (P := True) (M := ML_then) (pc := 1) dL_then_1 (fun _ => ?_) trivial
      refine tt_ld (P := True) (M := ML_then) (pc := 2) dL_then_2 rfl rfl rfl rfl rfl (fun _ => ?_) trivial
      refine tt_ld (P := True) (M := ML_then) (pc := 3) dL_then_3 rfl rfl rfl rfl rfl (fun _ => ?_) trivial
      refine tt_ld (P := True) (M := ML_then) (pc := 4) dL_then_4 rfl rfl rfl rfl rfl (fun _ => ?_) trivial
      refine tt_vcHX (e := 1) (t := 19) (M := ML_then) (pc := 5) dL_then_5 rfl rfl [.int (I 0), .ref 110] rfl rfl ⟨rfl, by decide, Nat.le_of_ble_eq_true rfl⟩ h0.1 g (s_hand2 rfl ⟨rfl, rfl, by decide⟩ dL_then_17 rfl) ?_
      refine tt_iconst (P := True) (M := ML_then) (pc := 19) dL_then_19 (fun _ => ?_) trivial
      exact tt_iret (M := ML_then) (pc := 20) dL_then_20 rfl rfl
theorem w_merges {o : aO} {W' : aW} {p1 p2 : Int} (h0 : sGP SH) (hq : ∀ q, o = .inr q → q = 0) (h : CL sc MX10_merges [some (.ref 0), some (.int (I p1)), some (.int (I p2)), none, none] SH F e S o W') : WR sc ML_merges [some (.ref 0), some (.int (I p1)), some (.int (I p2)), some (.ref 110), none] SH F e S 1 o W' := by
  obtain ⟨SH', F', e', S', g, c, he, hf⟩ := h
  cases o with
  | inl v =>
    refine ⟨0, SH', F', e', up S' 110 0 (i2j v).toInt, ?_, clR_md c (fun j hj => up_ne (by omega)), he, fun j h1 h2 => by rw [up_ne (by omega)]; exact hf j h1 (by omega), fun w hw => ⟨rfl, ?_⟩, fun q hw => by cases hw⟩
    · refine tt_ld (P := True) (M := ML_merges) (pc := 0) dL_merges_0 rfl rfl rfl rfl rfl (fun _ => ?_) trivial
      refine tt_iconst (P := True) (M := ML_merges) (pc := 1) dL_merges_1 (fun _ => ?_) trivial
      refine tt_ld (P := True) (M := ML_merges) (pc := 2) dL_merges_2 rfl rfl rfl rfl rfl (fun _ => ?_) trivial
      refine tt_ld (P := True) (M := ML_merges) (pc := 3) dL_merges_3 rfl rfl rfl rfl rfl (fun _ => ?_) trivial
      refine tt_ld (P := True) (M := ML_merges) (pc := 4) dL_merges_4 rfl rfl rfl rfl rfl (fun _ => ?_) trivial
      refine tt_vcHI (M := ML_merges) (pc := 5) dL_merges_5 rfl rfl [.int (I 0), .ref 110] rfl rfl ⟨rfl, by decide, Nat.le_of_ble_eq_true rfl⟩ h0.1 g ?_
      refine tt_i2l (P := True) (M := ML_merges) (pc := 8) dL_merges_8 (fun _ => ?_) trivial
      refine tt_lastore (P := True) (M := ML_merges) (pc := 9) dL_merges_9 (m := 1) c.1.1.2.2 rfl (fun _ => ?_) ⟨⟨by decide, by decide⟩, trivial⟩
      refine tt_goto (P := True) (M := ML_merges) (pc := 10) 17 dL_merges_10 rfl (fun _ => ?_) trivial
      refine tt_iconst (P := True) (M := ML_merges) (pc := 17) dL_merges_17 (fun _ => ?_) trivial
      exact tt_iret (M := ML_merges) (pc := 18) dL_merges_18 rfl rfl
    · cases hw; rw [up_eq]; exact i2j_int v
  | inr q =>
    obtain rfl := hq q rfl
    refine ⟨1, SH', F', e', S', ?_, c, he, fun j h1 h2 => hf j h1 (by omega), fun w hw => (by cases hw), fun q hw => (by cases hw; rfl)⟩
    refine tt_ld (P := True) (M := ML_merges) (pc := 0) dL_merges_0 rfl rfl rfl rfl rfl (fun _ => ?_) trivial
    refine tt_iconst (P := True) (M := ML_merges) (pc := 1) dL_merges_1 (fun _ => ?_) trivial
    refine tt_ld (P := True) (M := ML_merges) (pc := 2) dL_merges_2 rfl rfl rfl rfl rfl (fun _ => ?_) trivial
    refine tt_ld (P := True) (M := ML_merges) (pc := 3) dL_merges_3 rfl rfl rfl rfl rfl (fun _ => ?_) trivial
    refine tt_ld (P := True) (M := ML_merges) (pc := 4) dL_merges_4 rfl rfl rfl rfl rfl (fun _ => ?_) trivial
    refine tt_vcHX (e := 0) (t := 15) (M := ML_merges) (pc := 5) dL_merges_5 rfl rfl [.int (I 0), .ref 110] rfl rfl ⟨rfl, by decide, Nat.le_of_ble_eq_true rfl⟩ h0.1 g (s_hand2 rfl ⟨rfl, rfl, by decide⟩ dL_merges_13 rfl) ?_
    refine tt_iconst (P := True) (M := ML_merges) (pc := 15) dL_merges_15 (fun _ => ?_) trivial
    exact tt_iret (M := ML_merges) (pc := 16) dL_merges_16 rfl rfl
theorem w_ideal {o : aO} {W' : aW} {p1 : Int} (h0 : sGP SH) (hq : ∀ q, o = .inr q → q = 0) (h : CL sc MX10_ideal [some (.ref 0), some (.int (I p1))] SH F e S o W') : WR sc ML_ideal [some (.ref 0), some (.int (I p1)), some (.ref 110), none] SH F e S 1 o W' := by
  obtain ⟨SH', F', e', S', g, c, he, hf⟩ := h
  cases o with
  | inl v =>
    refine ⟨0, SH', F', e', up S' 110 0 (i2j v).toInt, ?_, clR_md c (fun j hj => up_ne (by omega)), he, fun j h1 h2 => by rw [up_ne (by omega)]; exact hf j h1 (by omega), fun w hw => ⟨rfl, ?_⟩, fun q hw => by cases hw⟩
    · refine tt_ld (P := True) (M := ML_ideal) (pc := 0) dL_ideal_0 rfl rfl rfl rfl rfl (fun _ => ?_) trivial
      refine tt_iconst (P := True) (M := ML_ideal) (pc := 1) dL_ideal_1 (fun _ => ?_) trivial
      refine tt_ld (P := True) (M := ML_ideal) (pc := 2) dL_ideal_2 rfl rfl rfl rfl rfl (fun _ => ?_) trivial
      refine tt_ld (P := True) (M := ML_ideal) (pc := 3) dL_ideal_3 rfl rfl rfl rfl rfl (fun _ => ?_) trivial
      refine tt_vcHI (M := ML_ideal) (pc := 4) dL_ideal_4 rfl rfl [.int (I 0), .ref 110] rfl rfl ⟨rfl, by decide, Nat.le_of_ble_eq_true rfl⟩ h0.1 g ?_
      refine tt_i2l (P := True) (M := ML_ideal) (pc := 7) dL_ideal_7 (fun _ => ?_) trivial
      refine tt_lastore (P := True) (M := ML_ideal) (pc := 8) dL_ideal_8 (m := 1) c.1.1.2.2 rfl (fun _ => ?_) ⟨⟨by decide, by decide⟩, trivial⟩
      refine tt_goto (P := True) (M := ML_ideal) (pc := 9) 15 dL_ideal_9 rfl (fun _ => ?_) trivial
      refine tt_iconst (P := True) (M := ML_ideal) (pc := 15) dL_ideal_15 (fun _ => ?_) trivial
      exact tt_iret (M := ML_ideal) (pc := 16) dL_ideal_16 rfl rfl
    · cases hw; rw [up_eq]; exact i2j_int v
  | inr q =>
    obtain rfl := hq q rfl
    refine ⟨1, SH', F', e', S', ?_, c, he, fun j h1 h2 => hf j h1 (by omega), fun w hw => (by cases hw), fun q hw => (by cases hw; rfl)⟩
    refine tt_ld (P := True) (M := ML_ideal) (pc := 0) dL_ideal_0 rfl rfl rfl rfl rfl (fun _ => ?_) trivial
    refine tt_iconst (P := True) (M := ML_ideal) (pc := 1) dL_ideal_1 (fun _ => ?_) trivial
    refine tt_ld (P := True) (M := ML_ideal) (pc := 2) dL_ideal_2 rfl rfl rfl rfl rfl (fun _ => ?_) trivial
    refine tt_ld (P := True) (M := ML_ideal) (pc := 3) dL_ideal_3 rfl rfl rfl rfl rfl (fun _ => ?_) trivial
    refine tt_vcHX (e := 0) (t := 13) (M := ML_ideal) (pc := 4) dL_ideal_4 rfl rfl [.int (I 0), .ref 110] rfl rfl ⟨rfl, by decide, Nat.le_of_ble_eq_true rfl⟩ h0.1 g (s_hand1 rfl rfl ⟨rfl, rfl, by decide⟩ dL_ideal_12 rfl) ?_
    refine tt_iconst (P := True) (M := ML_ideal) (pc := 13) dL_ideal_13 (fun _ => ?_) trivial
    exact tt_iret (M := ML_ideal) (pc := 14) dL_ideal_14 rfl rfl
theorem w_probe {o : aO} {W' : aW} {p1 p2 p3 p4 : Int} (h0 : sGP SH) (hq : ∀ q, o = .inr q → q = 0 ∨ q = 1) (h : CL sc MX10_probe [some (.ref 0), some (.int (I p1)), some (.int (I p2)), some (.int (I p3)), some (.int (I p4)), none, none] SH F e S o W') : WR sc ML_probe [some (.ref 0), some (.int (I p1)), some (.int (I p2)), some (.int (I p3)), some (.int (I p4)), some (.ref 110), none] SH F e S 2 o W' := by
  obtain ⟨SH', F', e', S', g, c, he, hf⟩ := h
  cases o with
  | inl v =>
    refine ⟨0, SH', F', e', up S' 110 0 (i2j v).toInt, ?_, clR_md c (fun j hj => up_ne (by omega)), he, fun j h1 h2 => by rw [up_ne (by omega)]; exact hf j h1 (by omega), fun w hw => ⟨rfl, ?_⟩, fun q hw => by cases hw⟩
    · refine tt_ld (P := True) (M := ML_probe) (pc := 0) dL_probe_0 rfl rfl rfl rfl rfl (fun _ => ?_) trivial
      refine tt_iconst (P := True) (M := ML_probe) (pc := 2) dL_probe_2 (fun _ => ?_) trivial
      refine tt_ld (P := True) (M := ML_probe) (pc := 3) dL_probe_3 rfl rfl rfl rfl rfl (fun _ => ?_) trivial
      refine tt_ld (P := True) (M := ML_probe) (pc := 4) dL_probe_4 rfl rfl rfl rfl rfl (fun _ => ?_) trivial
      refine tt_ld (P := True) (M := ML_probe) (pc := 5) dL_probe_5 rfl rfl rfl rfl rfl (fun _ => ?_) trivial
      refine tt_ld (P := True) (M := ML_probe) (pc := 6) dL_probe_6 rfl rfl rfl rfl rfl (fun _ => ?_) trivial
      refine tt_ld (P := True) (M := ML_probe) (pc := 7) dL_probe_7 rfl rfl rfl rfl rfl (fun _ => ?_) trivial
      refine tt_vcHI (M := ML_probe) (pc := 9) dL_probe_9 rfl rfl [.int (I 0), .ref 110] rfl rfl ⟨rfl, by decide, Nat.le_of_ble_eq_true rfl⟩ h0.1 g ?_
      refine tt_i2l (P := True) (M := ML_probe) (pc := 12) dL_probe_12 (fun _ => ?_) trivial
      refine tt_lastore (P := True) (M := ML_probe) (pc := 13) dL_probe_13 (m := 1) c.1.1.2.2 rfl (fun _ => ?_) ⟨⟨by decide, by decide⟩, trivial⟩
      refine tt_goto (P := True) (M := ML_probe) (pc := 14) 25 dL_probe_14 rfl (fun _ => ?_) trivial
      refine tt_iconst (P := True) (M := ML_probe) (pc := 25) dL_probe_25 (fun _ => ?_) trivial
      exact tt_iret (M := ML_probe) (pc := 26) dL_probe_26 rfl rfl
    · cases hw; rw [up_eq]; exact i2j_int v
  | inr q =>
    rcases hq q rfl with rfl | rfl
    · refine ⟨1, SH', F', e', S', ?_, c, he, fun j h1 h2 => hf j h1 (by omega), fun w hw => (by cases hw), fun q hw => (by cases hw; rfl)⟩
      refine tt_ld (P := True) (M := ML_probe) (pc := 0) dL_probe_0 rfl rfl rfl rfl rfl (fun _ => ?_) trivial
      refine tt_iconst (P := True) (M := ML_probe) (pc := 2) dL_probe_2 (fun _ => ?_) trivial
      refine tt_ld (P := True) (M := ML_probe) (pc := 3) dL_probe_3 rfl rfl rfl rfl rfl (fun _ => ?_) trivial
      refine tt_ld (P := True) (M := ML_probe) (pc := 4) dL_probe_4 rfl rfl rfl rfl rfl (fun _ => ?_) trivial
      refine tt_ld (P := True) (M := ML_probe) (pc := 5) dL_probe_5 rfl rfl rfl rfl rfl (fun _ => ?_) trivial
      refine tt_ld (P := True) (M := ML_probe) (pc := 6) dL_probe_6 rfl rfl rfl rfl rfl (fun _ => ?_) trivial
      refine tt_ld (P := True) (M := ML_probe) (pc := 7) dL_probe_7 rfl rfl rfl rfl rfl (fun _ => ?_) trivial
      refine tt_vcHX (e := 0) (t := 19) (M := ML_probe) (pc := 9) dL_probe_9 rfl rfl [.int (I 0), .ref 110] rfl rfl ⟨rfl, by decide, Nat.le_of_ble_eq_true rfl⟩ h0.1 g (s_hand2 rfl ⟨rfl, rfl, by decide⟩ dL_probe_17 rfl) ?_
      refine tt_iconst (P := True) (M := ML_probe) (pc := 19) dL_probe_19 (fun _ => ?_) trivial
      exact tt_iret (M := ML_probe) (pc := 20) dL_probe_20 rfl rfl
    · refine ⟨2, SH', F', e', S', ?_, c, he, fun j h1 h2 => hf j h1 (by omega), fun w hw => (by cases hw), fun q hw => (by cases hw; rfl)⟩
      refine tt_ld (P := True) (M := ML_probe) (pc := 0) dL_probe_0 rfl rfl rfl rfl rfl (fun _ => ?_) trivial
      refine tt_iconst (P := True) (M := ML_probe) (pc := 2) dL_probe_2 (fun _ => ?_) trivial
      refine tt_ld (P := True) (M := ML_probe) (pc := 3) dL_probe_3 rfl rfl rfl rfl rfl (fun _ => ?_) trivial
      refine tt_ld (P := True) (M := ML_probe) (pc := 4) dL_probe_4 rfl rfl rfl rfl rfl (fun _ => ?_) trivial
      refine tt_ld (P := True) (M := ML_probe) (pc := 5) dL_probe_5 rfl rfl rfl rfl rfl (fun _ => ?_) trivial
      refine tt_ld (P := True) (M := ML_probe) (pc := 6) dL_probe_6 rfl rfl rfl rfl rfl (fun _ => ?_) trivial
      refine tt_ld (P := True) (M := ML_probe) (pc := 7) dL_probe_7 rfl rfl rfl rfl rfl (fun _ => ?_) trivial
      refine tt_vcHX (e := 1) (t := 23) (M := ML_probe) (pc := 9) dL_probe_9 rfl rfl [.int (I 0), .ref 110] rfl rfl ⟨rfl, by decide, Nat.le_of_ble_eq_true rfl⟩ h0.1 g (s_hand2 rfl ⟨rfl, rfl, by decide⟩ dL_probe_21 rfl) ?_
      refine tt_iconst (P := True) (M := ML_probe) (pc := 23) dL_probe_23 (fun _ => ?_) trivial
      exact tt_iret (M := ML_probe) (pc := 24) dL_probe_24 rfl rfl
theorem w_toAdvise {o : aO} {W' : aW} {p1 p2 : Int} (h0 : sGP SH) (hq : ∀ q, o = .inr q → q = 0 ∨ q = 1) (h : CL sc MX10_toAdvise [some (.ref 0), some (.int (I p1)), some (.int (I p2)), none, none, none, none] SH F e S o W') : WR sc ML_toAdvise [some (.ref 0), some (.int (I p1)), some (.int (I p2)), some (.ref 110), none] SH F e S 2 o W' := by
  obtain ⟨SH', F', e', S', g, c, he, hf⟩ := h
  cases o with
  | inl v =>
    refine ⟨0, SH', F', e', up S' 110 0 (i2j v).toInt, ?_, clR_md c (fun j hj => up_ne (by omega)), he, fun j h1 h2 => by rw [up_ne (by omega)]; exact hf j h1 (by omega), fun w hw => ⟨rfl, ?_⟩, fun q hw => by cases hw⟩
    · refine tt_ld (P := True) (M := ML_toAdvise) (pc := 0) dL_toAdvise_0 rfl rfl rfl rfl rfl (fun _ => ?_) trivial
      refine tt_iconst (P := True) (M := ML_toAdvise) (pc := 1) dL_toAdvise_1 (fun _ => ?_) trivial
      refine tt_ld (P := True) (M := ML_toAdvise) (pc := 2) dL_toAdvise_2 rfl rfl rfl rfl rfl (fun _ => ?_) trivial
      refine tt_ld (P := True) (M := ML_toAdvise) (pc := 3) dL_toAdvise_3 rfl rfl rfl rfl rfl (fun _ => ?_) trivial
      refine tt_ld (P := True) (M := ML_toAdvise) (pc := 4) dL_toAdvise_4 rfl rfl rfl rfl rfl (fun _ => ?_) trivial
      refine tt_vcHI (M := ML_toAdvise) (pc := 5) dL_toAdvise_5 rfl rfl [.int (I 0), .ref 110] rfl rfl ⟨rfl, by decide, Nat.le_of_ble_eq_true rfl⟩ h0.1 g ?_
      refine tt_i2l (P := True) (M := ML_toAdvise) (pc := 8) dL_toAdvise_8 (fun _ => ?_) trivial
      refine tt_lastore (P := True) (M := ML_toAdvise) (pc := 9) dL_toAdvise_9 (m := 1) c.1.1.2.2 rfl (fun _ => ?_) ⟨⟨by decide, by decide⟩, trivial⟩
      refine tt_goto (P := True) (M := ML_toAdvise) (pc := 10) 21 dL_toAdvise_10 rfl (fun _ => ?_) trivial
      refine tt_iconst (P := True) (M := ML_toAdvise) (pc := 21) dL_toAdvise_21 (fun _ => ?_) trivial
      exact tt_iret (M := ML_toAdvise) (pc := 22) dL_toAdvise_22 rfl rfl
    · cases hw; rw [up_eq]; exact i2j_int v
  | inr q =>
    rcases hq q rfl with rfl | rfl
    · refine ⟨1, SH', F', e', S', ?_, c, he, fun j h1 h2 => hf j h1 (by omega), fun w hw => (by cases hw), fun q hw => (by cases hw; rfl)⟩
      refine tt_ld (P := True) (M := ML_toAdvise) (pc := 0) dL_toAdvise_0 rfl rfl rfl rfl rfl (fun _ => ?_) trivial
      refine tt_iconst (P := True) (M := ML_toAdvise) (pc := 1) dL_toAdvise_1 (fun _ => ?_) trivial
      refine tt_ld (P := True) (M := ML_toAdvise) (pc := 2) dL_toAdvise_2 rfl rfl rfl rfl rfl (fun _ => ?_) trivial
      refine tt_ld (P := True) (M := ML_toAdvise) (pc := 3) dL_toAdvise_3 rfl rfl rfl rfl rfl (fun _ => ?_) trivial
      refine tt_ld (P := True) (M := ML_toAdvise) (pc := 4) dL_toAdvise_4 rfl rfl rfl rfl rfl (fun _ => ?_) trivial
      refine tt_vcHX (e := 0) (t := 15) (M := ML_toAdvise) (pc := 5) dL_toAdvise_5 rfl rfl [.int (I 0), .ref 110] rfl rfl ⟨rfl, by decide, Nat.le_of_ble_eq_true rfl⟩ h0.1 g (s_hand2 rfl ⟨rfl, rfl, by decide⟩ dL_toAdvise_13 rfl) ?_
      refine tt_iconst (P := True) (M := ML_toAdvise) (pc := 15) dL_toAdvise_15 (fun _ => ?_) trivial
      exact tt_iret (M := ML_toAdvise) (pc := 16) dL_toAdvise_16 rfl rfl
    · refine ⟨2, SH', F', e', S', ?_, c, he, fun j h1 h2 => hf j h1 (by omega), fun w hw => (by cases hw), fun q hw => (by cases hw; rfl)⟩
      refine tt_ld (P := True) (M := ML_toAdvise) (pc := 0) dL_toAdvise_0 rfl rfl rfl rfl rfl (fun _ => ?_) trivial
      refine tt_iconst (P := True) (M := ML_toAdvise) (pc := 1) dL_toAdvise_1 (fun _ => ?_) trivial
      refine tt_ld (P := True) (M := ML_toAdvise) (pc := 2) dL_toAdvise_2 rfl rfl rfl rfl rfl (fun _ => ?_) trivial
      refine tt_ld (P := True) (M := ML_toAdvise) (pc := 3) dL_toAdvise_3 rfl rfl rfl rfl rfl (fun _ => ?_) trivial
      refine tt_ld (P := True) (M := ML_toAdvise) (pc := 4) dL_toAdvise_4 rfl rfl rfl rfl rfl (fun _ => ?_) trivial
      refine tt_vcHX (e := 1) (t := 19) (M := ML_toAdvise) (pc := 5) dL_toAdvise_5 rfl rfl [.int (I 0), .ref 110] rfl rfl ⟨rfl, by decide, Nat.le_of_ble_eq_true rfl⟩ h0.1 g (s_hand2 rfl ⟨rfl, rfl, by decide⟩ dL_toAdvise_17 rfl) ?_
      refine tt_iconst (P := True) (M := ML_toAdvise) (pc := 19) dL_toAdvise_19 (fun _ => ?_) trivial
      exact tt_iret (M := ML_toAdvise) (pc := 20) dL_toAdvise_20 rfl rfl
theorem w_toRate {o : aO} {W' : aW} {p1 p2 : Int} (h0 : sGP SH) (hq : ∀ q, o = .inr q → q = 0 ∨ q = 1) (h : CL sc MX10_toRate [some (.ref 0), some (.int (I p1)), some (.int (I p2)), none, none, none, none, none, none] SH F e S o W') : WR sc ML_toRate [some (.ref 0), some (.int (I p1)), some (.int (I p2)), some (.ref 110), none] SH F e S 2 o W' := by
  obtain ⟨SH', F', e', S', g, c, he, hf⟩ := h
  cases o with
  | inl v =>
    refine ⟨0, SH', F', e', up S' 110 0 (i2j v).toInt, ?_, clR_md c (fun j hj => up_ne (by omega)), he, fun j h1 h2 => by rw [up_ne (by omega)]; exact hf j h1 (by omega), fun w hw => ⟨rfl, ?_⟩, fun q hw => by cases hw⟩
    · refine tt_ld (P := True) (M := ML_toRate) (pc := 0) dL_toRate_0 rfl rfl rfl rfl rfl (fun _ => ?_) trivial
      refine tt_iconst (P := True) (M := ML_toRate) (pc := 1) dL_toRate_1 (fun _ => ?_) trivial
      refine tt_ld (P := True) (M := ML_toRate) (pc := 2) dL_toRate_2 rfl rfl rfl rfl rfl (fun _ => ?_) trivial
      refine tt_ld (P := True) (M := ML_toRate) (pc := 3) dL_toRate_3 rfl rfl rfl rfl rfl (fun _ => ?_) trivial
      refine tt_ld (P := True) (M := ML_toRate) (pc := 4) dL_toRate_4 rfl rfl rfl rfl rfl (fun _ => ?_) trivial
      refine tt_vcHI (M := ML_toRate) (pc := 5) dL_toRate_5 rfl rfl [.int (I 0), .ref 110] rfl rfl ⟨rfl, by decide, Nat.le_of_ble_eq_true rfl⟩ h0.1 g ?_
      refine tt_i2l (P := True) (M := ML_toRate) (pc := 8) dL_toRate_8 (fun _ => ?_) trivial
      refine tt_lastore (P := True) (M := ML_toRate) (pc := 9) dL_toRate_9 (m := 1) c.1.1.2.2 rfl (fun _ => ?_) ⟨⟨by decide, by decide⟩, trivial⟩
      refine tt_goto (P := True) (M := ML_toRate) (pc := 10) 21 dL_toRate_10 rfl (fun _ => ?_) trivial
      refine tt_iconst (P := True) (M := ML_toRate) (pc := 21) dL_toRate_21 (fun _ => ?_) trivial
      exact tt_iret (M := ML_toRate) (pc := 22) dL_toRate_22 rfl rfl
    · cases hw; rw [up_eq]; exact i2j_int v
  | inr q =>
    rcases hq q rfl with rfl | rfl
    · refine ⟨1, SH', F', e', S', ?_, c, he, fun j h1 h2 => hf j h1 (by omega), fun w hw => (by cases hw), fun q hw => (by cases hw; rfl)⟩
      refine tt_ld (P := True) (M := ML_toRate) (pc := 0) dL_toRate_0 rfl rfl rfl rfl rfl (fun _ => ?_) trivial
      refine tt_iconst (P := True) (M := ML_toRate) (pc := 1) dL_toRate_1 (fun _ => ?_) trivial
      refine tt_ld (P := True) (M := ML_toRate) (pc := 2) dL_toRate_2 rfl rfl rfl rfl rfl (fun _ => ?_) trivial
      refine tt_ld (P := True) (M := ML_toRate) (pc := 3) dL_toRate_3 rfl rfl rfl rfl rfl (fun _ => ?_) trivial
      refine tt_ld (P := True) (M := ML_toRate) (pc := 4) dL_toRate_4 rfl rfl rfl rfl rfl (fun _ => ?_) trivial
      refine tt_vcHX (e := 0) (t := 15) (M := ML_toRate) (pc := 5) dL_toRate_5 rfl rfl [.int (I 0), .ref 110] rfl rfl ⟨rfl, by decide, Nat.le_of_ble_eq_true rfl⟩ h0.1 g (s_hand2 rfl ⟨rfl, rfl, by decide⟩ dL_toRate_13 rfl) ?_
      refine tt_iconst (P := True) (M := ML_toRate) (pc := 15) dL_toRate_15 (fun _ => ?_) trivial
      exact tt_iret (M := ML_toRate) (pc := 16) dL_toRate_16 rfl rfl
    · refine ⟨2, SH', F', e', S', ?_, c, he, fun j h1 h2 => hf j h1 (by omega), fun w hw => (by cases hw), fun q hw => (by cases hw; rfl)⟩
      refine tt_ld (P := True) (M := ML_toRate) (pc := 0) dL_toRate_0 rfl rfl rfl rfl rfl (fun _ => ?_) trivial
      refine tt_iconst (P := True) (M := ML_toRate) (pc := 1) dL_toRate_1 (fun _ => ?_) trivial
      refine tt_ld (P := True) (M := ML_toRate) (pc := 2) dL_toRate_2 rfl rfl rfl rfl rfl (fun _ => ?_) trivial
      refine tt_ld (P := True) (M := ML_toRate) (pc := 3) dL_toRate_3 rfl rfl rfl rfl rfl (fun _ => ?_) trivial
      refine tt_ld (P := True) (M := ML_toRate) (pc := 4) dL_toRate_4 rfl rfl rfl rfl rfl (fun _ => ?_) trivial
      refine tt_vcHX (e := 1) (t := 19) (M := ML_toRate) (pc := 5) dL_toRate_5 rfl rfl [.int (I 0), .ref 110] rfl rfl ⟨rfl, by decide, Nat.le_of_ble_eq_true rfl⟩ h0.1 g (s_hand2 rfl ⟨rfl, rfl, by decide⟩ dL_toRate_17 rfl) ?_
      refine tt_iconst (P := True) (M := ML_toRate) (pc := 19) dL_toRate_19 (fun _ => ?_) trivial
      exact tt_iret (M := ML_toRate) (pc := 20) dL_toRate_20 rfl rfl
theorem w_guess {o : aO} {W' : aW} {p1 p2 p3 p4 : Int} (h0 : sGP SH) (hq : ∀ q, o = .inr q → q = 0) (h : CL sc MX10_guess [some (.ref 0), some (.int (I p1)), some (.int (I p2)), some (.int (I p3)), some (.int (I p4)), none, none, none, none, none] SH F e S o W') : WR sc ML_guess [some (.ref 0), some (.int (I p1)), some (.int (I p2)), some (.int (I p3)), some (.int (I p4)), some (.ref 110), none] SH F e S 1 o W' := by
  obtain ⟨SH', F', e', S', g, c, he, hf⟩ := h
  cases o with
  | inl v =>
    refine ⟨0, SH', F', e', up S' 110 0 (i2j v).toInt, ?_, clR_md c (fun j hj => up_ne (by omega)), he, fun j h1 h2 => by rw [up_ne (by omega)]; exact hf j h1 (by omega), fun w hw => ⟨rfl, ?_⟩, fun q hw => by cases hw⟩
    · refine tt_ld (P := True) (M := ML_guess) (pc := 0) dL_guess_0 rfl rfl rfl rfl rfl (fun _ => ?_) trivial
      refine tt_iconst (P := True) (M := ML_guess) (pc := 2) dL_guess_2 (fun _ => ?_) trivial
      refine tt_ld (P := True) (M := ML_guess) (pc := 3) dL_guess_3 rfl rfl rfl rfl rfl (fun _ => ?_) trivial
      refine tt_ld (P := True) (M := ML_guess) (pc := 4) dL_guess_4 rfl rfl rfl rfl rfl (fun _ => ?_) trivial
      refine tt_ld (P := True) (M := ML_guess) (pc := 5) dL_guess_5 rfl rfl rfl rfl rfl (fun _ => ?_) trivial
      refine tt_ld (P := True) (M := ML_guess) (pc := 6) dL_guess_6 rfl rfl rfl rfl rfl (fun _ => ?_) trivial
      refine tt_ld (P := True) (M := ML_guess) (pc := 7) dL_guess_7 rfl rfl rfl rfl rfl (fun _ => ?_) trivial
      refine tt_vcHI (M := ML_guess) (pc := 9) dL_guess_9 rfl rfl [.int (I 0), .ref 110] rfl rfl ⟨rfl, by decide, Nat.le_of_ble_eq_true rfl⟩ h0.1 g ?_
      refine tt_i2l (P := True) (M := ML_guess) (pc := 12) dL_guess_12 (fun _ => ?_) trivial
      refine tt_lastore (P := True) (M := ML_guess) (pc := 13) dL_guess_13 (m := 1) c.1.1.2.2 rfl (fun _ => ?_) ⟨⟨by decide, by decide⟩, trivial⟩
      refine tt_goto (P := True) (M := ML_guess) (pc := 14) 21 dL_guess_14 rfl (fun _ => ?_) trivial
      refine tt_iconst (P := True) (M := ML_guess) (pc := 21) dL_guess_21 (fun _ => ?_) trivial
      exact tt_iret (M := ML_guess) (pc := 22) dL_guess_22 rfl rfl
    · cases hw; rw [up_eq]; exact i2j_int v
  | inr q =>
    obtain rfl := hq q rfl
    refine ⟨1, SH', F', e', S', ?_, c, he, fun j h1 h2 => hf j h1 (by omega), fun w hw => (by cases hw), fun q hw => (by cases hw; rfl)⟩
    refine tt_ld (P := True) (M := ML_guess) (pc := 0) dL_guess_0 rfl rfl rfl rfl rfl (fun _ => ?_) trivial
    refine tt_iconst (P := True) (M := ML_guess) (pc := 2) dL_guess_2 (fun _ => ?_) trivial
    refine tt_ld (P := True) (M := ML_guess) (pc := 3) dL_guess_3 rfl rfl rfl rfl rfl (fun _ => ?_) trivial
    refine tt_ld (P := True) (M := ML_guess) (pc := 4) dL_guess_4 rfl rfl rfl rfl rfl (fun _ => ?_) trivial
    refine tt_ld (P := True) (M := ML_guess) (pc := 5) dL_guess_5 rfl rfl rfl rfl rfl (fun _ => ?_) trivial
    refine tt_ld (P := True) (M := ML_guess) (pc := 6) dL_guess_6 rfl rfl rfl rfl rfl (fun _ => ?_) trivial
    refine tt_ld (P := True) (M := ML_guess) (pc := 7) dL_guess_7 rfl rfl rfl rfl rfl (fun _ => ?_) trivial
    refine tt_vcHX (e := 0) (t := 19) (M := ML_guess) (pc := 9) dL_guess_9 rfl rfl [.int (I 0), .ref 110] rfl rfl ⟨rfl, by decide, Nat.le_of_ble_eq_true rfl⟩ h0.1 g (s_hand2 rfl ⟨rfl, rfl, by decide⟩ dL_guess_17 rfl) ?_
    refine tt_iconst (P := True) (M := ML_guess) (pc := 19) dL_guess_19 (fun _ => ?_) trivial
    exact tt_iret (M := ML_guess) (pc := 20) dL_guess_20 rfl rfl
theorem w_look {o : aO} {W' : aW} {p1 p2 p3 p4 : Int} (h0 : sGP SH) (hq : ∀ q, o = .inr q → q = 0) (h : CL sc MX10_look [some (.ref 0), some (.int (I p1)), some (.int (I p2)), some (.int (I p3)), some (.int (I p4)), none, none, none, none, none, none] SH F e S o W') : WR sc ML_look [some (.ref 0), some (.int (I p1)), some (.int (I p2)), some (.int (I p3)), some (.int (I p4)), some (.ref 110), none] SH F e S 1 o W' := by
  obtain ⟨SH', F', e', S', g, c, he, hf⟩ := h
  cases o with
  | inl v =>
    refine ⟨0, SH', F', e', up S' 110 0 (i2j v).toInt, ?_, clR_md c (fun j hj => up_ne (by omega)), he, fun j h1 h2 => by rw [up_ne (by omega)]; exact hf j h1 (by omega), fun w hw => ⟨rfl, ?_⟩, fun q hw => by cases hw⟩
    · refine tt_ld (P := True) (M := ML_look) (pc := 0) dL_look_0 rfl rfl rfl rfl rfl (fun _ => ?_) trivial
      refine tt_iconst (P := True) (M := ML_look) (pc := 2) dL_look_2 (fun _ => ?_) trivial
      refine tt_ld (P := True) (M := ML_look) (pc := 3) dL_look_3 rfl rfl rfl rfl rfl (fun _ => ?_) trivial
      refine tt_ld (P := True) (M := ML_look) (pc := 4) dL_look_4 rfl rfl rfl rfl rfl (fun _ => ?_) trivial
      refine tt_ld (P := True) (M := ML_look) (pc := 5) dL_look_5 rfl rfl rfl rfl rfl (fun _ => ?_) trivial
      refine tt_ld (P := True) (M := ML_look) (pc := 6) dL_look_6 rfl rfl rfl rfl rfl (fun _ => ?_) trivial
      refine tt_ld (P := True) (M := ML_look) (pc := 7) dL_look_7 rfl rfl rfl rfl rfl (fun _ => ?_) trivial
      refine tt_vcHI (M := ML_look) (pc := 9) dL_look_9 rfl rfl [.int (I 0), .ref 110] rfl rfl ⟨rfl, by decide, Nat.le_of_ble_eq_true rfl⟩ h0.1 g ?_
      refine tt_i2l (P := True) (M := ML_look) (pc := 12) dL_look_12 (fun _ => ?_) trivial
      refine tt_lastore (P := True) (M := ML_look) (pc := 13) dL_look_13 (m := 1) c.1.1.2.2 rfl (fun _ => ?_) ⟨⟨by decide, by decide⟩, trivial⟩
      refine tt_goto (P := True) (M := ML_look) (pc := 14) 21 dL_look_14 rfl (fun _ => ?_) trivial
      refine tt_iconst (P := True) (M := ML_look) (pc := 21) dL_look_21 (fun _ => ?_) trivial
      exact tt_iret (M := ML_look) (pc := 22) dL_look_22 rfl rfl
    · cases hw; rw [up_eq]; exact i2j_int v
  | inr q =>
    obtain rfl := hq q rfl
    refine ⟨1, SH', F', e', S', ?_, c, he, fun j h1 h2 => hf j h1 (by omega), fun w hw => (by cases hw), fun q hw => (by cases hw; rfl)⟩
    refine tt_ld (P := True) (M := ML_look) (pc := 0) dL_look_0 rfl rfl rfl rfl rfl (fun _ => ?_) trivial
    refine tt_iconst (P := True) (M := ML_look) (pc := 2) dL_look_2 (fun _ => ?_) trivial
    refine tt_ld (P := True) (M := ML_look) (pc := 3) dL_look_3 rfl rfl rfl rfl rfl (fun _ => ?_) trivial
    refine tt_ld (P := True) (M := ML_look) (pc := 4) dL_look_4 rfl rfl rfl rfl rfl (fun _ => ?_) trivial
    refine tt_ld (P := True) (M := ML_look) (pc := 5) dL_look_5 rfl rfl rfl rfl rfl (fun _ => ?_) trivial
    refine tt_ld (P := True) (M := ML_look) (pc := 6) dL_look_6 rfl rfl rfl rfl rfl (fun _ => ?_) trivial
    refine tt_ld (P := True) (M := ML_look) (pc := 7) dL_look_7 rfl rfl rfl rfl rfl (fun _ => ?_) trivial
    refine tt_vcHX (e := 0) (t := 19) (M := ML_look) (pc := 9) dL_look_9 rfl rfl [.int (I 0), .ref 110] rfl rfl ⟨rfl, by decide, Nat.le_of_ble_eq_true rfl⟩ h0.1 g (s_hand2 rfl ⟨rfl, rfl, by decide⟩ dL_look_17 rfl) ?_
    refine tt_iconst (P := True) (M := ML_look) (pc := 19) dL_look_19 (fun _ => ?_) trivial
    exact tt_iret (M := ML_look) (pc := 20) dL_look_20 rfl rfl
theorem w_dirt {o : aO} {W' : aW} {p1 p2 p3 p4 p5 : Int} (h0 : sGP SH) (hq : ∀ q, o = .inr q → q = 0 ∨ q = 1) (h : CL sc MX10_dirt [some (.ref 0), some (.int (I p1)), some (.int (I p2)), some (.int (I p3)), some (.int (I p4)), some (.int (I p5)), none, none, none, none, none] SH F e S o W') : WR sc ML_dirt [some (.ref 0), some (.int (I p1)), some (.int (I p2)), some (.int (I p3)), some (.int (I p4)), some (.int (I p5)), some (.ref 110), none] SH F e S 2 o W' := by
  obtain ⟨SH', F', e', S', g, c, he, hf⟩ := h
  cases o with
  | inl v =>
    refine ⟨0, SH', F', e', up S' 110 0 (i2j v).toInt, ?_, clR_md c (fun j hj => up_ne (by omega)), he, fun j h1 h2 => by rw [up_ne (by omega)]; exact hf j h1 (by omega), fun w hw => ⟨rfl, ?_⟩, fun q hw => by cases hw⟩
    · refine tt_ld (P := True) (M := ML_dirt) (pc := 0) dL_dirt_0 rfl rfl rfl rfl rfl (fun _ => ?_) trivial
      refine tt_iconst (P := True) (M := ML_dirt) (pc := 2) dL_dirt_2 (fun _ => ?_) trivial
      refine tt_ld (P := True) (M := ML_dirt) (pc := 3) dL_dirt_3 rfl rfl rfl rfl rfl (fun _ => ?_) trivial
      refine tt_ld (P := True) (M := ML_dirt) (pc := 4) dL_dirt_4 rfl rfl rfl rfl rfl (fun _ => ?_) trivial
      refine tt_ld (P := True) (M := ML_dirt) (pc := 5) dL_dirt_5 rfl rfl rfl rfl rfl (fun _ => ?_) trivial
      refine tt_ld (P := True) (M := ML_dirt) (pc := 6) dL_dirt_6 rfl rfl rfl rfl rfl (fun _ => ?_) trivial
      refine tt_ld (P := True) (M := ML_dirt) (pc := 7) dL_dirt_7 rfl rfl rfl rfl rfl (fun _ => ?_) trivial
      refine tt_ld (P := True) (M := ML_dirt) (pc := 9) dL_dirt_9 rfl rfl rfl rfl rfl (fun _ => ?_) trivial
      refine tt_vcHI (M := ML_dirt) (pc := 11) dL_dirt_11 rfl rfl [.int (I 0), .ref 110] rfl rfl ⟨rfl, by decide, Nat.le_of_ble_eq_true rfl⟩ h0.1 g ?_
      refine tt_i2l (P := True) (M := ML_dirt) (pc := 14) dL_dirt_14 (fun _ => ?_) trivial
      refine tt_lastore (P := True) (M := ML_dirt) (pc := 15) dL_dirt_15 (m := 1) c.1.1.2.2 rfl (fun _ => ?_) ⟨⟨by decide, by decide⟩, trivial⟩
      refine tt_goto (P := True) (M := ML_dirt) (pc := 16) 27 dL_dirt_16 rfl (fun _ => ?_) trivial
      refine tt_iconst (P := True) (M := ML_dirt) (pc := 27) dL_dirt_27 (fun _ => ?_) trivial
      exact tt_iret (M := ML_dirt) (pc := 28) dL_dirt_28 rfl rfl
    · cases hw; rw [up_eq]; exact i2j_int v
  | inr q =>
    rcases hq q rfl with rfl | rfl
    · refine ⟨1, SH', F', e', S', ?_, c, he, fun j h1 h2 => hf j h1 (by omega), fun w hw => (by cases hw), fun q hw => (by cases hw; rfl)⟩
      refine tt_ld (P := True) (M := ML_dirt) (pc := 0) dL_dirt_0 rfl rfl rfl rfl rfl (fun _ => ?_) trivial
      refine tt_iconst (P := True) (M := ML_dirt) (pc := 2) dL_dirt_2 (fun _ => ?_) trivial
      refine tt_ld (P := True) (M := ML_dirt) (pc := 3) dL_dirt_3 rfl rfl rfl rfl rfl (fun _ => ?_) trivial
      refine tt_ld (P := True) (M := ML_dirt) (pc := 4) dL_dirt_4 rfl rfl rfl rfl rfl (fun _ => ?_) trivial
      refine tt_ld (P := True) (M := ML_dirt) (pc := 5) dL_dirt_5 rfl rfl rfl rfl rfl (fun _ => ?_) trivial
      refine tt_ld (P := True) (M := ML_dirt) (pc := 6) dL_dirt_6 rfl rfl rfl rfl rfl (fun _ => ?_) trivial
      refine tt_ld (P := True) (M := ML_dirt) (pc := 7) dL_dirt_7 rfl rfl rfl rfl rfl (fun _ => ?_) trivial
      refine tt_ld (P := True) (M := ML_dirt) (pc := 9) dL_dirt_9 rfl rfl rfl rfl rfl (fun _ => ?_) trivial
      refine tt_vcHX (e := 0) (t := 21) (M := ML_dirt) (pc := 11) dL_dirt_11 rfl rfl [.int (I 0), .ref 110] rfl rfl ⟨rfl, by decide, Nat.le_of_ble_eq_true rfl⟩ h0.1 g (s_hand2 rfl ⟨rfl, rfl, by decide⟩ dL_dirt_19 rfl) ?_
      refine tt_iconst (P := True) (M := ML_dirt) (pc := 21) dL_dirt_21 (fun _ => ?_) trivial
      exact tt_iret (M := ML_dirt) (pc := 22) dL_dirt_22 rfl rfl
    · refine ⟨2, SH', F', e', S', ?_, c, he, fun j h1 h2 => hf j h1 (by omega), fun w hw => (by cases hw), fun q hw => (by cases hw; rfl)⟩
      refine tt_ld (P := True) (M := ML_dirt) (pc := 0) dL_dirt_0 rfl rfl rfl rfl rfl (fun _ => ?_) trivial
      refine tt_iconst (P := True) (M := ML_dirt) (pc := 2) dL_dirt_2 (fun _ => ?_) trivial
      refine tt_ld (P := True) (M := ML_dirt) (pc := 3) dL_dirt_3 rfl rfl rfl rfl rfl (fun _ => ?_) trivial
      refine tt_ld (P := True) (M := ML_dirt) (pc := 4) dL_dirt_4 rfl rfl rfl rfl rfl (fun _ => ?_) trivial
      refine tt_ld (P := True) (M := ML_dirt) (pc := 5) dL_dirt_5 rfl rfl rfl rfl rfl (fun _ => ?_) trivial
      refine tt_ld (P := True) (M := ML_dirt) (pc := 6) dL_dirt_6 rfl rfl rfl rfl rfl (fun _ => ?_) trivial
      refine tt_ld (P := True) (M := ML_dirt) (pc := 7) dL_dirt_7 rfl rfl rfl rfl rfl (fun _ => ?_) trivial
      refine tt_ld (P := True) (M := ML_dirt) (pc := 9) dL_dirt_9 rfl rfl rfl rfl rfl (fun _ => ?_) trivial
      refine tt_vcHX (e := 1) (t := 25) (M := ML_dirt) (pc := 11) dL_dirt_11 rfl rfl [.int (I 0), .ref 110] rfl rfl ⟨rfl, by decide, Nat.le_of_ble_eq_true rfl⟩ h0.1 g (s_hand2 rfl ⟨rfl, rfl, by decide⟩ dL_dirt_23 rfl) ?_
      refine tt_iconst (P := True) (M := ML_dirt) (pc := 25) dL_dirt_25 (fun _ => ?_) trivial
      exact tt_iret (M := ML_dirt) (pc := 26) dL_dirt_26 rfl rfl
theorem w_years {o : aO} {W' : aW} {p1 p2 p3 : Int} (h0 : sGP SH) (hq : ∀ q, o = .inr q → q = 0 ∨ q = 1) (h : CL sc MX10_years [some (.ref 0), some (.int (I p1)), some (.int (I p2)), some (.int (I p3)), none, none, none] SH F e S o W') : WR sc ML_years [some (.ref 0), some (.int (I p1)), some (.int (I p2)), some (.int (I p3)), some (.ref 110), none] SH F e S 2 o W' := by
  obtain ⟨SH', F', e', S', g, c, he, hf⟩ := h
  cases o with
  | inl v =>
    refine ⟨0, SH', F', e', up S' 110 0 (i2j v).toInt, ?_, clR_md c (fun j hj => up_ne (by omega)), he, fun j h1 h2 => by rw [up_ne (by omega)]; exact hf j h1 (by omega), fun w hw => ⟨rfl, ?_⟩, fun q hw => by cases hw⟩
    · refine tt_ld (P := True) (M := ML_years) (pc := 0) dL_years_0 rfl rfl rfl rfl rfl (fun _ => ?_) trivial
      refine tt_iconst (P := True) (M := ML_years) (pc := 2) dL_years_2 (fun _ => ?_) trivial
      refine tt_ld (P := True) (M := ML_years) (pc := 3) dL_years_3 rfl rfl rfl rfl rfl (fun _ => ?_) trivial
      refine tt_ld (P := True) (M := ML_years) (pc := 4) dL_years_4 rfl rfl rfl rfl rfl (fun _ => ?_) trivial
      refine tt_ld (P := True) (M := ML_years) (pc := 5) dL_years_5 rfl rfl rfl rfl rfl (fun _ => ?_) trivial
      refine tt_ld (P := True) (M := ML_years) (pc := 6) dL_years_6 rfl rfl rfl rfl rfl (fun _ => ?_) trivial
      refine tt_vcHI (M := ML_years) (pc := 7) dL_years_7 rfl rfl [.int (I 0), .ref 110] rfl rfl ⟨rfl, by decide, Nat.le_of_ble_eq_true rfl⟩ h0.1 g ?_
      refine tt_i2l (P := True) (M := ML_years) (pc := 10) dL_years_10 (fun _ => ?_) trivial
      refine tt_lastore (P := True) (M := ML_years) (pc := 11) dL_years_11 (m := 1) c.1.1.2.2 rfl (fun _ => ?_) ⟨⟨by decide, by decide⟩, trivial⟩
      refine tt_goto (P := True) (M := ML_years) (pc := 12) 23 dL_years_12 rfl (fun _ => ?_) trivial
      refine tt_iconst (P := True) (M := ML_years) (pc := 23) dL_years_23 (fun _ => ?_) trivial
      exact tt_iret (M := ML_years) (pc := 24) dL_years_24 rfl rfl
    · cases hw; rw [up_eq]; exact i2j_int v
  | inr q =>
    rcases hq q rfl with rfl | rfl
    · refine ⟨1, SH', F', e', S', ?_, c, he, fun j h1 h2 => hf j h1 (by omega), fun w hw => (by cases hw), fun q hw => (by cases hw; rfl)⟩
      refine tt_ld (P := True) (M := ML_years) (pc := 0) dL_years_0 rfl rfl rfl rfl rfl (fun _ => ?_) trivial
      refine tt_iconst (P := True) (M := ML_years) (pc := 2) dL_years_2 (fun _ => ?_) trivial
      refine tt_ld (P := True) (M := ML_years) (pc := 3) dL_years_3 rfl rfl rfl rfl rfl (fun _ => ?_) trivial
      refine tt_ld (P := True) (M := ML_years) (pc := 4) dL_years_4 rfl rfl rfl rfl rfl (fun _ => ?_) trivial
      refine tt_ld (P := True) (M := ML_years) (pc := 5) dL_years_5 rfl rfl rfl rfl rfl (fun _ => ?_) trivial
      refine tt_ld (P := True) (M := ML_years) (pc := 6) dL_years_6 rfl rfl rfl rfl rfl (fun _ => ?_) trivial
      refine tt_vcHX (e := 0) (t := 17) (M := ML_years) (pc := 7) dL_years_7 rfl rfl [.int (I 0), .ref 110] rfl rfl ⟨rfl, by decide, Nat.le_of_ble_eq_true rfl⟩ h0.1 g (s_hand2 rfl ⟨rfl, rfl, by decide⟩ dL_years_15 rfl) ?_
      refine tt_iconst (P := True) (M := ML_years) (pc := 17) dL_years_17 (fun _ => ?_) trivial
      exact tt_iret (M := ML_years) (pc := 18) dL_years_18 rfl rfl
    · refine ⟨2, SH', F', e', S', ?_, c, he, fun j h1 h2 => hf j h1 (by omega), fun w hw => (by cases hw), fun q hw => (by cases hw; rfl)⟩
      refine tt_ld (P := True) (M := ML_years) (pc := 0) dL_years_0 rfl rfl rfl rfl rfl (fun _ => ?_) trivial
      refine tt_iconst (P := True) (M := ML_years) (pc := 2) dL_years_2 (fun _ => ?_) trivial
      refine tt_ld (P := True) (M := ML_years) (pc := 3) dL_years_3 rfl rfl rfl rfl rfl (fun _ => ?_) trivial
      refine tt_ld (P := True) (M := ML_years) (pc := 4) dL_years_4 rfl rfl rfl rfl rfl (fun _ => ?_) trivial
      refine tt_ld (P := True) (M := ML_years) (pc := 5) dL_years_5 rfl rfl rfl rfl rfl (fun _ => ?_) trivial
      refine tt_ld (P := True) (M := ML_years) (pc := 6) dL_years_6 rfl rfl rfl rfl rfl (fun _ => ?_) trivial
      refine tt_vcHX (e := 1) (t := 21) (M := ML_years) (pc := 7) dL_years_7 rfl rfl [.int (I 0), .ref 110] rfl rfl ⟨rfl, by decide, Nat.le_of_ble_eq_true rfl⟩ h0.1 g (s_hand2 rfl ⟨rfl, rfl, by decide⟩ dL_years_19 rfl) ?_
      refine tt_iconst (P := True) (M := ML_years) (pc := 21) dL_years_21 (fun _ => ?_) trivial
      exact tt_iret (M := ML_years) (pc := 22) dL_years_22 rfl rfl
end
