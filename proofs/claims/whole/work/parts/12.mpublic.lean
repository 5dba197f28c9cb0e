/-! DepotTraysModel: public methods, loops -/
theorem m6_in {u : MS} (hI : MI u) (h : ¬ m_things u = 60) : vp_in (m_things u) 60 := by
  have h1 := hI.1
  have h2 : ¬ (m_things u).toInt = 60 := by
    rw [← ti60]
    exact fun q => h (Int32.toInt_inj.mp q)
  rw [vp_in_iff]; omega
theorem sz_1 {u : MS} (hI : MI u) (i : Nat) : (m_sizes u i - 1).toInt = (m_sizes u i).toInt - 1 := by
  have h := hI.2.1 i
  rw [ti_sub (by rw [ti1]; omega) (by rw [ti1]; omega), ti1]
theorem mp_iff {u : MS} (hI : MI u) {i : Int32} {r : Nat} : ¬ fm_isIn i 0 (m_sizes u r - 1) = 0 ↔ 0 ≤ i.toInt ∧ i.toInt < (m_sizes u r).toInt := by
  rw [isIn_iff, sz_1 hI, ti0]; omega
theorem mp_in {u : MS} (hI : MI u) {r i : Int32} (hr : vp_in r 60) (h : ¬ fm_isIn i 0 (m_sizes u r.toNatClampNeg - 1) = 0) : vp_in ((8 * r) + i) 480 := by
  have h1 := (mp_iff hI).mp h
  have h2 := hI.2.1 r.toNatClampNeg
  exact mi_in hr (by omega) (by omega)
theorem mr_0 {u : MS} {r i : Int32} (h : fm_refused u r i = 0) : ¬ r = (-1) ∧ ¬ fm_isLedger u r = 0 ∧ ¬ fm_isIn i 0 (m_sizes u r.toNatClampNeg - 1) = 0 := by
  unfold fm_refused at h
  by_cases h1 : r = (-1)
  · rw [if_pos h1] at h; exact absurd h (by decide)
  by_cases h2 : fm_isLedger u r = 0
  · rw [if_neg h1, if_pos h2] at h; exact absurd h (by decide)
  by_cases h3 : fm_isIn i 0 (m_sizes u r.toNatClampNeg - 1) = 0
  · rw [if_neg h1, if_neg h2, if_pos h3] at h; exact absurd h (by decide)
  exact ⟨h1, h2, h3⟩
theorem mr_le {u : MS} {r i : Int32} (h : fm_refused u r i ≤ 0) : fm_refused u r i = 0 := by
  unfold fm_refused at h ⊢
  by_cases h1 : r = (-1)
  · rw [if_pos h1] at h; exact absurd h (by decide)
  rw [if_neg h1] at h ⊢
  by_cases h2 : fm_isLedger u r = 0
  · rw [if_pos h2] at h; exact absurd h (by decide)
  rw [if_neg h2] at h ⊢
  by_cases h3 : fm_isIn i 0 (m_sizes u r.toNatClampNeg - 1) = 0
  · rw [if_pos h3] at h; exact absurd h (by decide)
  rw [if_neg h3]
theorem mr_in {u : MS} {r i : Int32} (hI : MI u) (h0 : ¬ fm_mayBe u r = 0) (h : fm_refused u r i = 0) : vp_in ((8 * r) + i) 480 := by
  obtain ⟨h1, h2, h3⟩ := mr_0 h
  exact mp_in hI (mn_in hI h0 h1) h3
theorem md_in {k : Int32} (h : ¬ fm_isIn k 0 7 = 0) : vp_in k 8 := by
  have h1 := isIn_iff.mp h
  rw [ti0, show (7 : Int32).toInt = 7 by decide] at h1
  rw [vp_in_iff]; omega
def rowFillI (f : Nat → Int32) (a b : Nat) (e : Int32) : Nat → Int32 := fun q => if a ≤ q ∧ q < b then e else f q
theorem fillI_0 {f : Nat → Int32} {a b : Nat} {e : Int32} (h : b ≤ a) : rowFillI f a b e = f := by
  funext q; unfold rowFillI; rw [if_neg (by omega)]
theorem fill_0 {f : Nat → Int64} {a b : Nat} {e : Int64} (h : b ≤ a) : rowFill f a b e = f := by
  funext q; unfold rowFill; rw [if_neg (by omega)]
theorem fillI_s {f : Nat → Int32} {a b : Nat} {e : Int32} (h : a < b) : rowFillI (upd f a e) (a + 1) b e = rowFillI f a b e := by
  funext q
  unfold rowFillI upd
  by_cases q1 : q = a
  · rw [if_neg (by omega), if_pos q1, if_pos (by omega)]
  · by_cases q2 : a ≤ q ∧ q < b
    · rw [if_pos (by omega), if_pos q2]
    · rw [if_neg (by omega), if_neg q1, if_neg q2]
theorem fill_s {f : Nat → Int64} {a b : Nat} {e : Int64} (h : a < b) : rowFill (vp_updL f a e) (a + 1) b e = rowFill f a b e := by
  funext q
  unfold rowFill vp_updL
  by_cases q1 : q = a
  · rw [if_neg (by omega), if_pos q1, if_pos (by omega)]
  · by_cases q2 : a ≤ q ∧ q < b
    · rw [if_pos (by omega), if_pos q2]
    · rw [if_neg (by omega), if_neg q1, if_neg q2]
theorem mk_eta (u : MS) : ms_numbers (ms_lies u (m_lies u)) (m_numbers u) = u := rfl
theorem mk_pp (u : MS) (f f2 : Nat → Int32) (g g2 : Nat → Int64) : ms_numbers (ms_lies (ms_numbers (ms_lies u f) g) f2) g2 = ms_numbers (ms_lies u f2) g2 := rfl
theorem mk_l (u : MS) (f : Nat → Int32) (g : Nat → Int64) : m_lies (ms_numbers (ms_lies u f) g) = f := rfl
theorem mk_n (u : MS) (f : Nat → Int32) (g : Nat → Int64) : m_numbers (ms_numbers (ms_lies u f) g) = g := rfl
theorem mkL : ∀ (f : Nat) (w : MS) (b d n wo x k : Int32), vp_in x 60 → 0 ≤ k.toInt ∧ k.toInt ≤ 8 → 8 - k.toInt < (f : Int) →
    fm_make_L f w b d n wo x k = (x, ms_numbers (ms_lies w (rowFillI (m_lies w) (8 * x.toNatClampNeg + k.toNatClampNeg) (8 * x.toNatClampNeg + 8) (-1))) (rowFill (m_numbers w) (8 * x.toNatClampNeg + k.toNatClampNeg) (8 * x.toNatClampNeg + 8) 0)) := by
  intro f
  induction f with
  | zero => intro w b d n wo x k hx hk hf; exfalso; omega
  | succ f ih =>
    intro w b d n wo x k hx hk hf
    have e3 := cl_ti (a := k) (by omega)
    rw [fm_make_L]
    by_cases h : 8 ≤ k
    · rw [if_pos h]
      rw [le_ti, ti8] at h
      rw [fillI_0 (by omega), fill_0 (by omega), mk_eta]
    · rw [if_neg h]
      rw [le_ti, ti8] at h
      have e7 : (k + 1).toInt = k.toInt + 1 := ti_inc (by omega) (by omega)
      have e5 := cl_ti (a := k + 1) (by omega)
      rw [ih _ b d n wo x (k + 1) hx (by omega) (by omega), mk_pp, mk_l, mk_n, mi_cl hx (by omega) (by omega)]
      have e6 : 8 * x.toNatClampNeg + (k + 1).toNatClampNeg = (8 * x.toNatClampNeg + k.toNatClampNeg) + 1 := by omega
      rw [e6, fillI_s (by omega), fill_s (by omega)]
/-- a state with one thing more, its rows not yet laid -/
def mAdd (u : MS) (b d n wo : Int32) : MS := ms_worths (ms_sizes (ms_depths (ms_bases (ms_things u ((m_things u) + 1)) (upd (m_bases u) (m_things u).toNatClampNeg b)) (upd (m_depths u) (m_things u).toNatClampNeg d)) (upd (m_sizes u) (m_things u).toNatClampNeg n)) (upd (m_worths u) (m_things u).toNatClampNeg wo)
theorem mk_eq {u : MS} {b d n wo : Int32} (htc : vp_in (m_things u) 60) : fm_make u b d n wo = (m_things u, ms_numbers (ms_lies (mAdd u b d n wo) (rowFillI (m_lies u) (8 * (m_things u).toNatClampNeg) (8 * (m_things u).toNatClampNeg + 8) (-1))) (rowFill (m_numbers u) (8 * (m_things u).toNatClampNeg) (8 * (m_things u).toNatClampNeg + 8) 0)) := by
  have e0 : (0 : Int32).toNatClampNeg = 0 := by decide
  unfold fm_make
  have k1 := mkL 9 (mAdd u b d n wo) b d n wo (m_things u) 0 htc (by rw [ti0]; omega) (by rw [ti0]; omega)
  rw [e0, Nat.add_zero] at k1
  exact k1
theorem mk_1 {u : MS} {b d n wo : Int32} (htc : vp_in (m_things u) 60) : (fm_make u b d n wo).1 = m_things u := by rw [mk_eq htc]
theorem mk_t {u : MS} {b d n wo : Int32} (htc : vp_in (m_things u) 60) : m_things (fm_make u b d n wo).2 = m_things u + 1 := by rw [mk_eq htc]; rfl
def fm_piece (u : MS) (q_base : Int32) (q_worth : Int32) : Int32 × MS := if (fm_isIn q_base 0 3) = 0 then ((-2), u) else (if (m_things u) = 60 then ((-3), u) else ((fm_make u q_base 0 0 q_worth).1, (fm_make u q_base 0 0 q_worth).2))
theorem hd_X1_piece : yX1_piece.cls = RX1 ∧ yX1_piece.cls ≠ "java/lang/invoke/MethodHandle" ∧ yX1_piece.cls ≠ "java/lang/invoke/VarHandle" ∧ (parseMethodDescriptor yX1_piece.desc).map (fun d => d.parameters.length) = some 2 := by decide +kernel
set_option maxRecDepth 100000 in
set_option maxHeartbeats 4000000 in
theorem kX1_piece (l : Launch) (D : va_G) (ad : Nat → Nat) (ca : Nat → ClassId) (g : Nat) (u : MS) (q_base : Int32) (q_worth : Int32) (hI : MI u) : CiM l yX1_piece cX1_piece 3 .int 2 D ad ca g [.int q_base, .int q_worth] u (fm_piece u q_base q_worth) := by
  refine CiM.of (by decide) rfl (Nat.le_of_ble_eq_true rfl) ?_
  intro p e s m below meth c A ls E hS hl
  have hx := E.1.1
  have hb := E.1.2.1
  have hml := E.1.2.2.1
  have hown := E.1.2.2.2.1
  have hts := E.1.2.2.2.2
  have hl : lv_has ls 3 [(0, .ref (ad 0)), (1, .int q_base), (2, .int q_worth)] := hl
  refine lv_iload_n hx hb dX1_piece_0 rfl (lv_at hl 1 rfl) ?_
  refine lv_iconst (v := 0) hx hb dX1_piece_1 (by decide) ?_
  refine lv_iconst (v := 3) hx hb dX1_piece_2 (by decide) ?_
  refine EnM.sti (r := fm_isIn q_base 0 3) E hS [.int q_base, .int 0, .int 3] [] (kX1_isIn l q_base 0 3 ) (fun _ _ _ _ h => h) (fun _ _ _ => trivial) gc_X1_60 hd_X1_isIn ⟨Nat.le_of_ble_eq_true rfl, Nat.le_of_ble_eq_true rfl⟩ rfl hl.1 (Nat.le_of_ble_eq_true rfl) ⟨Nat.le_refl 0, Nat.le_refl 0⟩ dX1_piece_3 (fun H locs hS => ?_)
  refine lv_if_ne (tgt := 12) hx hb dX1_piece_6 (by decide) (fun h6 => ?_) (fun h6 => ?_)
  · refine lv_aload_n hx hb dX1_piece_12 rfl (lv_at hl 0 rfl) ?_
    refine gM_things (v := m_things u) E hS rfl dX1_piece_13 ?_
    refine lv_bipush (v := 60) hx hb dX1_piece_16 (by decide) ?_
    refine lv_icmp_ne (tgt := 26) hx hb dX1_piece_18 (by decide) (fun h18 => ?_) (fun h18 => ?_)
    · refine lv_aload_n hx hb dX1_piece_26 rfl (lv_at hl 0 rfl) ?_
      refine lv_iload_n hx hb dX1_piece_27 rfl (lv_at hl 1 rfl) ?_
      refine lv_iconst (v := 0) hx hb dX1_piece_28 (by decide) ?_
      refine lv_iconst (v := 0) hx hb dX1_piece_29 (by decide) ?_
      refine lv_iload_n hx hb dX1_piece_30 rfl (lv_at hl 2 rfl) ?_
      refine EnM.calli (r := (fm_make u q_base 0 0 q_worth).1) (u2 := (fm_make u q_base 0 0 q_worth).2) E hS [.int q_base, .int 0, .int 0, .int q_worth] [] (kX1_make l D ad ca g u q_base 0 0 q_worth (by first | with_reducible assumption | (refine mt_in hI ?_; with_reducible assumption) | (refine mn_in hI ?_ ?_ <;> with_reducible assumption) | (refine mb_lt hI ?_; with_reducible assumption) | (refine m6_in hI ?_; with_reducible assumption))) gc_X1_68 hd_X1_make ⟨Nat.le_of_ble_eq_true rfl, Nat.le_of_ble_eq_true rfl⟩ rfl hl.1 (Nat.le_of_ble_eq_true rfl) ⟨Nat.le_refl 0, Nat.le_refl 0⟩ dX1_piece_31 (fun H locs hS => ?_)
      exact EnM.iret E hS (ni_i _) (by first | (simp only [fm_piece, if_neg h6, if_neg h18]; done) | (unfold fm_piece; rw [if_neg h6, if_neg h18])) dX1_piece_34
    · refine lv_bipush (v := (-3)) hx hb dX1_piece_21 (by decide) ?_
      refine lv_goto (tgt := 34) hx hb dX1_piece_23 (by decide) ?_
      exact EnM.iret E hS (ni_i _) (by first | (simp only [fm_piece, if_neg h6, if_pos h18]; done) | (unfold fm_piece; rw [if_neg h6, if_pos h18])) dX1_piece_34
  · refine lv_bipush (v := (-2)) hx hb dX1_piece_9 (by decide) ?_
    exact EnM.iret E hS (ni_i _) (by first | (simp only [fm_piece, if_pos h6]; done) | (unfold fm_piece; rw [if_pos h6])) dX1_piece_11
def fm_row (u : MS) (q_base : Int32) (q_depth : Int32) (q_n : Int32) : Int32 × MS := if (fm_isShape q_base q_depth) = 0 then ((-2), u) else (if q_n ≤ 8 then (if (m_things u) = 60 then ((-3), u) else (if 0 ≤ q_n then ((fm_make u q_base q_depth q_n 0).1, (fm_make u q_base q_depth q_n 0).2) else ((fm_fails u 5).1, (fm_fails u 5).2))) else ((-2), u))
theorem hd_X1_row : yX1_row.cls = RX1 ∧ yX1_row.cls ≠ "java/lang/invoke/MethodHandle" ∧ yX1_row.cls ≠ "java/lang/invoke/VarHandle" ∧ (parseMethodDescriptor yX1_row.desc).map (fun d => d.parameters.length) = some 3 := by decide +kernel
set_option maxRecDepth 100000 in
set_option maxHeartbeats 4000000 in
theorem kX1_row (l : Launch) (D : va_G) (ad : Nat → Nat) (ca : Nat → ClassId) (g : Nat) (u : MS) (q_base : Int32) (q_depth : Int32) (q_n : Int32) (hI : MI u) : CiM l yX1_row cX1_row 4 .int 3 D ad ca g [.int q_base, .int q_depth, .int q_n] u (fm_row u q_base q_depth q_n) := by
  refine CiM.of (by decide) rfl (Nat.le_of_ble_eq_true rfl) ?_
  intro p e s m below meth c A ls E hS hl
  have hx := E.1.1
  have hb := E.1.2.1
  have hml := E.1.2.2.1
  have hown := E.1.2.2.2.1
  have hts := E.1.2.2.2.2
  have hl : lv_has ls 4 [(0, .ref (ad 0)), (1, .int q_base), (2, .int q_depth), (3, .int q_n)] := hl
  refine lv_iload_n hx hb dX1_row_0 rfl (lv_at hl 1 rfl) ?_
  refine lv_iload_n hx hb dX1_row_1 rfl (lv_at hl 2 rfl) ?_
  refine EnM.sti (r := fm_isShape q_base q_depth) E hS [.int q_base, .int q_depth] [] (kX1_isShape l q_base q_depth ) (fun _ _ _ _ h => h) (fun _ _ _ => trivial) gc_X1_72 hd_X1_isShape ⟨Nat.le_of_ble_eq_true rfl, Nat.le_of_ble_eq_true rfl⟩ rfl hl.1 (Nat.le_of_ble_eq_true rfl) ⟨Nat.le_refl 0, Nat.le_refl 0⟩ dX1_row_2 (fun H locs hS => ?_)
  refine lv_if_eq (tgt := 14) hx hb dX1_row_5 (by decide) (fun h5 => ?_) (fun h5 => ?_)
  · refine lv_bipush (v := (-2)) hx hb dX1_row_14 (by decide) ?_
    exact EnM.iret E hS (ni_i _) (by first | (simp only [fm_row, if_pos h5]; done) | (unfold fm_row; rw [if_pos h5])) dX1_row_16
  · refine lv_iload_n hx hb dX1_row_8 rfl (lv_at hl 3 rfl) ?_
    refine lv_bipush (v := 8) hx hb dX1_row_9 (by decide) ?_
    refine lv_icmp_le (tgt := 17) hx hb dX1_row_11 (by decide) (fun h11 => ?_) (fun h11 => ?_)
    · refine lv_aload_n hx hb dX1_row_17 rfl (lv_at hl 0 rfl) ?_
      refine gM_things (v := m_things u) E hS rfl dX1_row_18 ?_
      refine lv_bipush (v := 60) hx hb dX1_row_21 (by decide) ?_
      refine lv_icmp_ne (tgt := 29) hx hb dX1_row_23 (by decide) (fun h23 => ?_) (fun h23 => ?_)
      · refine lv_iload_n hx hb dX1_row_29 rfl (lv_at hl 3 rfl) ?_
        refine lv_if_ge (tgt := 41) hx hb dX1_row_30 (by decide) (fun h30 => ?_) (fun h30 => ?_)
        · refine lv_aload_n hx hb dX1_row_41 rfl (lv_at hl 0 rfl) ?_
          refine lv_iload_n hx hb dX1_row_42 rfl (lv_at hl 1 rfl) ?_
          refine lv_iload_n hx hb dX1_row_43 rfl (lv_at hl 2 rfl) ?_
          refine lv_iload_n hx hb dX1_row_44 rfl (lv_at hl 3 rfl) ?_
          refine lv_iconst (v := 0) hx hb dX1_row_45 (by decide) ?_
          refine EnM.calli (r := (fm_make u q_base q_depth q_n 0).1) (u2 := (fm_make u q_base q_depth q_n 0).2) E hS [.int q_base, .int q_depth, .int q_n, .int 0] [] (kX1_make l D ad ca g u q_base q_depth q_n 0 (by first | with_reducible assumption | (refine mt_in hI ?_; with_reducible assumption) | (refine mn_in hI ?_ ?_ <;> with_reducible assumption) | (refine mb_lt hI ?_; with_reducible assumption) | (refine m6_in hI ?_; with_reducible assumption))) gc_X1_68 hd_X1_make ⟨Nat.le_of_ble_eq_true rfl, Nat.le_of_ble_eq_true rfl⟩ rfl hl.1 (Nat.le_of_ble_eq_true rfl) ⟨Nat.le_refl 0, Nat.le_refl 0⟩ dX1_row_46 (fun H locs hS => ?_)
          exact EnM.iret E hS (ni_i _) (by first | (simp only [fm_row, if_neg h5, if_pos h11, if_neg h23, if_pos h30]; done) | (unfold fm_row; rw [if_neg h5, if_pos h11, if_neg h23, if_pos h30])) dX1_row_49
        · refine lv_aload_n hx hb dX1_row_33 rfl (lv_at hl 0 rfl) ?_
          refine lv_iconst (v := 5) hx hb dX1_row_34 (by decide) ?_
          refine EnM.calli (r := (fm_fails u 5).1) (u2 := (fm_fails u 5).2) E hS [.int 5] [] (kX1_fails l D ad ca g u 5 ) gc_X1_75 hd_X1_fails ⟨Nat.le_of_ble_eq_true rfl, Nat.le_of_ble_eq_true rfl⟩ rfl hl.1 (Nat.le_of_ble_eq_true rfl) ⟨Nat.le_refl 0, Nat.le_refl 0⟩ dX1_row_35 (fun H locs hS => ?_)
          refine lv_goto (tgt := 49) hx hb dX1_row_38 (by decide) ?_
          exact EnM.iret E hS (ni_i _) (by first | (simp only [fm_row, if_neg h5, if_pos h11, if_neg h23, if_neg h30]; done) | (unfold fm_row; rw [if_neg h5, if_pos h11, if_neg h23, if_neg h30])) dX1_row_49
      · refine lv_bipush (v := (-3)) hx hb dX1_row_26 (by decide) ?_
        exact EnM.iret E hS (ni_i _) (by first | (simp only [fm_row, if_neg h5, if_pos h11, if_pos h23]; done) | (unfold fm_row; rw [if_neg h5, if_pos h11, if_pos h23])) dX1_row_28
    · refine lv_bipush (v := (-2)) hx hb dX1_row_14 (by decide) ?_
      exact EnM.iret E hS (ni_i _) (by first | (simp only [fm_row, if_neg h5, if_neg h11]; done) | (unfold fm_row; rw [if_neg h5, if_neg h11])) dX1_row_16
def fm_put (u : MS) (q_r : Int32) (q_i : Int32) (q_x : Int32) : Int32 × MS := if (fm_mayBe u q_r) = 0 then ((-2), u) else (if (fm_mayBe u q_x) = 0 then ((-2), u) else (if q_r = (-1) then (if q_x = (-1) then ((fm_fails u 1).1, (fm_fails u 1).2) else (if (fm_isSuch u q_x 0 0) = 0 then ((fm_fails u 2).1, (fm_fails u 2).2) else ((fm_fails u 1).1, (fm_fails u 1).2))) else (if (m_depths u (q_r).toNatClampNeg) = 0 then ((fm_fails u 2).1, (fm_fails u 2).2) else (if (fm_isLedger u q_r) = 0 then (if 4 ≤ (m_bases u (q_r).toNatClampNeg) then (if q_x = (-1) then (if (fm_isIn q_i 0 ((m_sizes u (q_r).toNatClampNeg) - 1)) = 0 then ((fm_fails u 3).1, (fm_fails u 3).2) else (if q_x = (-1) then (1, ms_lies u (upd (m_lies u) ((8 * q_r) + q_i).toNatClampNeg q_x)) else (if (fm_isSuch u q_x (m_bases u (q_r).toNatClampNeg) ((m_depths u (q_r).toNatClampNeg) - 1)) = 0 then ((fm_fails u 4).1, (fm_fails u 4).2) else (1, ms_lies u (upd (m_lies u) ((8 * q_r) + q_i).toNatClampNeg q_x))))) else (if (fm_isSuch u q_x (m_bases u (q_r).toNatClampNeg) ((m_depths u (q_r).toNatClampNeg) - 1)) = 0 then ((fm_fails u 2).1, (fm_fails u 2).2) else (if (fm_isIn q_i 0 ((m_sizes u (q_r).toNatClampNeg) - 1)) = 0 then ((fm_fails u 3).1, (fm_fails u 3).2) else (if q_x = (-1) then (1, ms_lies u (upd (m_lies u) ((8 * q_r) + q_i).toNatClampNeg q_x)) else (if (fm_isSuch u q_x (m_bases u (q_r).toNatClampNeg) ((m_depths u (q_r).toNatClampNeg) - 1)) = 0 then ((fm_fails u 4).1, (fm_fails u 4).2) else (1, ms_lies u (upd (m_lies u) ((8 * q_r) + q_i).toNatClampNeg q_x))))))) else (if q_x = (-1) then (if (fm_isIn q_i 0 ((m_sizes u (q_r).toNatClampNeg) - 1)) = 0 then ((fm_fails u 3).1, (fm_fails u 3).2) else (if q_x = (-1) then (1, ms_lies u (upd (m_lies u) ((8 * q_r) + q_i).toNatClampNeg q_x)) else (if (fm_isSuch u q_x (m_bases u (q_r).toNatClampNeg) ((m_depths u (q_r).toNatClampNeg) - 1)) = 0 then ((fm_fails u 4).1, (fm_fails u 4).2) else (1, ms_lies u (upd (m_lies u) ((8 * q_r) + q_i).toNatClampNeg q_x))))) else (if (fm_isSuch u q_x 0 ((m_depths u (q_r).toNatClampNeg) - 1)) = 0 then ((fm_fails u 2).1, (fm_fails u 2).2) else (if (fm_isIn q_i 0 ((m_sizes u (q_r).toNatClampNeg) - 1)) = 0 then ((fm_fails u 3).1, (fm_fails u 3).2) else (if q_x = (-1) then (1, ms_lies u (upd (m_lies u) ((8 * q_r) + q_i).toNatClampNeg q_x)) else (if (fm_isSuch u q_x (m_bases u (q_r).toNatClampNeg) ((m_depths u (q_r).toNatClampNeg) - 1)) = 0 then ((fm_fails u 4).1, (fm_fails u 4).2) else (1, ms_lies u (upd (m_lies u) ((8 * q_r) + q_i).toNatClampNeg q_x)))))))) else ((fm_fails u 2).1, (fm_fails u 2).2)))))
theorem hd_X1_put : yX1_put.cls = RX1 ∧ yX1_put.cls ≠ "java/lang/invoke/MethodHandle" ∧ yX1_put.cls ≠ "java/lang/invoke/VarHandle" ∧ (parseMethodDescriptor yX1_put.desc).map (fun d => d.parameters.length) = some 3 := by decide +kernel
set_option maxRecDepth 100000 in
set_option maxHeartbeats 4000000 in
theorem kX1_put (l : Launch) (D : va_G) (ad : Nat → Nat) (ca : Nat → ClassId) (g : Nat) (u : MS) (q_r : Int32) (q_i : Int32) (q_x : Int32) (hI : MI u) : CiM l yX1_put cX1_put 5 .int 4 D ad ca g [.int q_r, .int q_i, .int q_x] u (fm_put u q_r q_i q_x) := by
  refine CiM.of (by decide) rfl (Nat.le_of_ble_eq_true rfl) ?_
  intro p e s m below meth c A ls E hS hl
  have hx := E.1.1
  have hb := E.1.2.1
  have hml := E.1.2.2.1
  have hown := E.1.2.2.2.1
  have hts := E.1.2.2.2.2
  have hl : lv_has ls 5 [(0, .ref (ad 0)), (1, .int q_r), (2, .int q_i), (3, .int q_x)] := hl
  refine lv_aload_n hx hb dX1_put_0 rfl (lv_at hl 0 rfl) ?_
  refine lv_iload_n hx hb dX1_put_1 rfl (lv_at hl 1 rfl) ?_
  refine EnM.calli (r := fm_mayBe u q_r) (u2 := u) E hS [.int q_r] [] (kX1_mayBe l D ad ca g u q_r ) gc_X1_79 hd_X1_mayBe ⟨Nat.le_of_ble_eq_true rfl, Nat.le_of_ble_eq_true rfl⟩ rfl hl.1 (Nat.le_of_ble_eq_true rfl) ⟨Nat.le_refl 0, Nat.le_refl 0⟩ dX1_put_2 (fun H locs hS => ?_)
  refine lv_if_eq (tgt := 16) hx hb dX1_put_5 (by decide) (fun h5 => ?_) (fun h5 => ?_)
  · refine lv_bipush (v := (-2)) hx hb dX1_put_16 (by decide) ?_
    exact EnM.iret E hS (ni_i _) (by first | (simp only [fm_put, if_pos h5]; done) | (unfold fm_put; rw [if_pos h5])) dX1_put_18
  · refine lv_aload_n hx hb dX1_put_8 rfl (lv_at hl 0 rfl) ?_
    refine lv_iload_n hx hb dX1_put_9 rfl (lv_at hl 3 rfl) ?_
    refine EnM.calli (r := fm_mayBe u q_x) (u2 := u) E hS [.int q_x] [] (kX1_mayBe l D ad ca g u q_x ) gc_X1_79 hd_X1_mayBe ⟨Nat.le_of_ble_eq_true rfl, Nat.le_of_ble_eq_true rfl⟩ rfl hl.1 (Nat.le_of_ble_eq_true rfl) ⟨Nat.le_refl 0, Nat.le_refl 0⟩ dX1_put_10 (fun H locs hS => ?_)
    refine lv_if_ne (tgt := 19) hx hb dX1_put_13 (by decide) (fun h13 => ?_) (fun h13 => ?_)
    · refine lv_iload_n hx hb dX1_put_19 rfl (lv_at hl 1 rfl) ?_
      refine lv_iconst (v := (-1)) hx hb dX1_put_20 (by decide) ?_
      refine lv_icmp_ne (tgt := 49) hx hb dX1_put_21 (by decide) (fun h21 => ?_) (fun h21 => ?_)
      · refine lv_aload_n hx hb dX1_put_49 rfl (lv_at hl 0 rfl) ?_
        refine gM_depths E hS dX1_put_50 ?_
        refine lv_iload_n hx hb dX1_put_53 rfl (lv_at hl 1 rfl) ?_
        refine lM_depths (v := m_depths u (q_r).toNatClampNeg) E hS (show vp_in q_r 60 from by first | with_reducible assumption | (refine mt_in hI ?_; with_reducible assumption) | (refine mn_in hI ?_ ?_ <;> with_reducible assumption) | (refine mb_lt hI ?_; with_reducible assumption) | (refine m6_in hI ?_; with_reducible assumption)) rfl dX1_put_54 ?_
        refine lv_if_eq (tgt := 66) hx hb dX1_put_55 (by decide) (fun h55 => ?_) (fun h55 => ?_)
        · refine lv_aload_n hx hb dX1_put_66 rfl (lv_at hl 0 rfl) ?_
          refine lv_iconst (v := 2) hx hb dX1_put_67 (by decide) ?_
          refine EnM.calli (r := (fm_fails u 2).1) (u2 := (fm_fails u 2).2) E hS [.int 2] [] (kX1_fails l D ad ca g u 2 ) gc_X1_75 hd_X1_fails ⟨Nat.le_of_ble_eq_true rfl, Nat.le_of_ble_eq_true rfl⟩ rfl hl.1 (Nat.le_of_ble_eq_true rfl) ⟨Nat.le_refl 0, Nat.le_refl 0⟩ dX1_put_68 (fun H locs hS => ?_)
          exact EnM.iret E hS (ni_i _) (by first | (simp only [fm_put, if_neg h5, if_neg h13, if_neg h21, if_pos h55]; done) | (unfold fm_put; rw [if_neg h5, if_neg h13, if_neg h21, if_pos h55])) dX1_put_71
        · refine lv_aload_n hx hb dX1_put_58 rfl (lv_at hl 0 rfl) ?_
          refine lv_iload_n hx hb dX1_put_59 rfl (lv_at hl 1 rfl) ?_
          refine EnM.calli (r := fm_isLedger u q_r) (u2 := u) E hS [.int q_r] [] (kX1_isLedger l D ad ca g u q_r (by first | with_reducible assumption | (refine mt_in hI ?_; with_reducible assumption) | (refine mn_in hI ?_ ?_ <;> with_reducible assumption) | (refine mb_lt hI ?_; with_reducible assumption) | (refine m6_in hI ?_; with_reducible assumption))) gc_X1_86 hd_X1_isLedger ⟨Nat.le_of_ble_eq_true rfl, Nat.le_of_ble_eq_true rfl⟩ rfl hl.1 (Nat.le_of_ble_eq_true rfl) ⟨Nat.le_refl 0, Nat.le_refl 0⟩ dX1_put_60 (fun H locs hS => ?_)
          refine lv_if_eq (tgt := 72) hx hb dX1_put_63 (by decide) (fun h63 => ?_) (fun h63 => ?_)
          · refine lv_aload_n hx hb dX1_put_72 rfl (lv_at hl 0 rfl) ?_
            refine gM_bases E hS dX1_put_73 ?_
            refine lv_iload_n hx hb dX1_put_76 rfl (lv_at hl 1 rfl) ?_
            refine lM_bases (v := m_bases u (q_r).toNatClampNeg) E hS (show vp_in q_r 60 from by first | with_reducible assumption | (refine mt_in hI ?_; with_reducible assumption) | (refine mn_in hI ?_ ?_ <;> with_reducible assumption) | (refine mb_lt hI ?_; with_reducible assumption) | (refine m6_in hI ?_; with_reducible assumption)) rfl dX1_put_77 ?_
            refine lv_iconst (v := 4) hx hb dX1_put_78 (by decide) ?_
            refine lv_icmp_ge (tgt := 86) hx hb dX1_put_79 (by decide) (fun h79 => ?_) (fun h79 => ?_)
            · refine lv_aload_n hx hb dX1_put_86 rfl (lv_at hl 0 rfl) ?_
              refine gM_bases E hS dX1_put_87 ?_
              refine lv_iload_n hx hb dX1_put_90 rfl (lv_at hl 1 rfl) ?_
              refine lM_bases (v := m_bases u (q_r).toNatClampNeg) E hS (show vp_in q_r 60 from by first | with_reducible assumption | (refine mt_in hI ?_; with_reducible assumption) | (refine mn_in hI ?_ ?_ <;> with_reducible assumption) | (refine mb_lt hI ?_; with_reducible assumption) | (refine m6_in hI ?_; with_reducible assumption)) rfl dX1_put_91 ?_
              refine lv_istore (lv' := [(4, .int (m_bases u (q_r).toNatClampNeg)), (0, .ref (ad 0)), (1, .int q_r), (2, .int q_i), (3, .int q_x)]) hx hb dX1_put_92 hl (by decide) rfl (fun ls hl => ?_)
              refine lv_iload_n hx hb dX1_put_94 rfl (lv_at hl 4 rfl) ?_
              refine lv_iconst (v := (-1)) hx hb dX1_put_95 (by decide) ?_
              refine lv_icmp_eq (tgt := 123) hx hb dX1_put_96 (by decide) (fun h96 => ?_) (fun h96 => ?_)
              · refine lv_iload_n hx hb dX1_put_123 rfl (lv_at hl 3 rfl) ?_
                refine lv_iconst (v := 0) hx hb dX1_put_124 (by decide) ?_
                refine lv_aload_n hx hb dX1_put_125 rfl (lv_at hl 1 rfl) ?_
                refine gM_sizes E hS dX1_put_126 ?_
                refine lv_iload_n hx hb dX1_put_129 rfl (lv_at hl 2 rfl) ?_
                refine lM_sizes (v := m_sizes u (q_r).toNatClampNeg) E hS (show vp_in q_r 60 from by first | with_reducible assumption | (refine mt_in hI ?_; with_reducible assumption) | (refine mn_in hI ?_ ?_ <;> with_reducible assumption) | (refine mb_lt hI ?_; with_reducible assumption) | (refine m6_in hI ?_; with_reducible assumption)) rfl dX1_put_130 ?_
                refine lv_iconst (v := 1) hx hb dX1_put_131 (by decide) ?_
                refine lv_isub hx hb dX1_put_132 ?_
                refine EnM.sti (r := fm_isIn q_i 0 ((m_sizes u (q_r).toNatClampNeg) - 1)) E hS [.int q_i, .int 0, .int ((m_sizes u (q_r).toNatClampNeg) - 1)] [] (kX1_isIn l q_i 0 ((m_sizes u (q_r).toNatClampNeg) - 1) ) (fun _ _ _ _ h => h) (fun _ _ _ => trivial) gc_X1_60 hd_X1_isIn ⟨Nat.le_of_ble_eq_true rfl, Nat.le_of_ble_eq_true rfl⟩ rfl hl.1 (Nat.le_of_ble_eq_true rfl) ⟨Nat.le_refl 0, Nat.le_refl 0⟩ dX1_put_133 (fun H locs hS => ?_)
                refine lv_if_ne (tgt := 145) hx hb dX1_put_136 (by decide) (fun h136 => ?_) (fun h136 => ?_)
                · refine lv_iload_n hx hb dX1_put_145 rfl (lv_at hl 4 rfl) ?_
                  refine lv_iconst (v := (-1)) hx hb dX1_put_146 (by decide) ?_
                  refine lv_icmp_eq (tgt := 178) hx hb dX1_put_147 (by decide) (fun h147 => ?_) (fun h147 => ?_)
                  · refine lv_aload_n hx hb dX1_put_178 rfl (lv_at hl 1 rfl) ?_
                    refine gM_lies E hS dX1_put_179 ?_
                    refine lv_bipush (v := 8) hx hb dX1_put_182 (by decide) ?_
                    refine lv_iload_n hx hb dX1_put_184 rfl (lv_at hl 2 rfl) ?_
                    refine lv_imul hx hb dX1_put_185 ?_
                    refine lv_iload_n hx hb dX1_put_186 rfl (lv_at hl 3 rfl) ?_
                    refine lv_iadd hx hb dX1_put_187 ?_
                    refine lv_iload_n hx hb dX1_put_188 rfl (lv_at hl 4 rfl) ?_
                    refine sM_lies E hS (show vp_in ((8 * q_r) + q_i) 480 from mp_in hI (mn_in hI (by with_reducible assumption) (by with_reducible assumption)) (by with_reducible assumption)) dX1_put_189 (fun H locs hS => ?_)
                    have hS : SM D ad ca A s (ms_lies u (upd (m_lies u) ((8 * q_r) + q_i).toNatClampNeg q_x)) H locs := hS
                    refine lv_iconst (v := 1) hx hb dX1_put_190 (by decide) ?_
                    exact EnM.iret E hS (ni_i _) (by first | (simp only [fm_put, if_neg h5, if_neg h13, if_neg h21, if_neg h55, if_pos h63, if_pos h79, if_pos h96, if_neg h136, if_pos h147]; done) | (unfold fm_put; rw [if_neg h5, if_neg h13, if_neg h21, if_neg h55, if_pos h63, if_pos h79, if_pos h96, if_neg h136, if_pos h147])) dX1_put_191
                  · refine lv_aload_n hx hb dX1_put_150 rfl (lv_at hl 1 rfl) ?_
                    refine lv_iload_n hx hb dX1_put_151 rfl (lv_at hl 4 rfl) ?_
                    refine lv_aload_n hx hb dX1_put_152 rfl (lv_at hl 1 rfl) ?_
                    refine gM_bases E hS dX1_put_153 ?_
                    refine lv_iload_n hx hb dX1_put_156 rfl (lv_at hl 2 rfl) ?_
                    refine lM_bases (v := m_bases u (q_r).toNatClampNeg) E hS (show vp_in q_r 60 from by first | with_reducible assumption | (refine mt_in hI ?_; with_reducible assumption) | (refine mn_in hI ?_ ?_ <;> with_reducible assumption) | (refine mb_lt hI ?_; with_reducible assumption) | (refine m6_in hI ?_; with_reducible assumption)) rfl dX1_put_157 ?_
                    refine lv_aload_n hx hb dX1_put_158 rfl (lv_at hl 1 rfl) ?_
                    refine gM_depths E hS dX1_put_159 ?_
                    refine lv_iload_n hx hb dX1_put_162 rfl (lv_at hl 2 rfl) ?_
                    refine lM_depths (v := m_depths u (q_r).toNatClampNeg) E hS (show vp_in q_r 60 from by first | with_reducible assumption | (refine mt_in hI ?_; with_reducible assumption) | (refine mn_in hI ?_ ?_ <;> with_reducible assumption) | (refine mb_lt hI ?_; with_reducible assumption) | (refine m6_in hI ?_; with_reducible assumption)) rfl dX1_put_163 ?_
                    refine lv_iconst (v := 1) hx hb dX1_put_164 (by decide) ?_
                    refine lv_isub hx hb dX1_put_165 ?_
                    refine EnM.calli (r := fm_isSuch u q_x (m_bases u (q_r).toNatClampNeg) ((m_depths u (q_r).toNatClampNeg) - 1)) (u2 := u) E hS [.int q_x, .int (m_bases u (q_r).toNatClampNeg), .int ((m_depths u (q_r).toNatClampNeg) - 1)] [] (kX1_isSuch l D ad ca g u q_x (m_bases u (q_r).toNatClampNeg) ((m_depths u (q_r).toNatClampNeg) - 1) (by first | with_reducible assumption | (refine mt_in hI ?_; with_reducible assumption) | (refine mn_in hI ?_ ?_ <;> with_reducible assumption) | (refine mb_lt hI ?_; with_reducible assumption) | (refine m6_in hI ?_; with_reducible assumption))) gc_X1_83 hd_X1_isSuch ⟨Nat.le_of_ble_eq_true rfl, Nat.le_of_ble_eq_true rfl⟩ rfl hl.1 (Nat.le_of_ble_eq_true rfl) ⟨Nat.le_refl 0, Nat.le_refl 0⟩ dX1_put_166 (fun H locs hS => ?_)
                    refine lv_if_ne (tgt := 178) hx hb dX1_put_169 (by decide) (fun h169 => ?_) (fun h169 => ?_)
                    · refine lv_aload_n hx hb dX1_put_178 rfl (lv_at hl 1 rfl) ?_
                      refine gM_lies E hS dX1_put_179 ?_
                      refine lv_bipush (v := 8) hx hb dX1_put_182 (by decide) ?_
                      refine lv_iload_n hx hb dX1_put_184 rfl (lv_at hl 2 rfl) ?_
                      refine lv_imul hx hb dX1_put_185 ?_
                      refine lv_iload_n hx hb dX1_put_186 rfl (lv_at hl 3 rfl) ?_
                      refine lv_iadd hx hb dX1_put_187 ?_
                      refine lv_iload_n hx hb dX1_put_188 rfl (lv_at hl 4 rfl) ?_
                      refine sM_lies E hS (show vp_in ((8 * q_r) + q_i) 480 from mp_in hI (mn_in hI (by with_reducible assumption) (by with_reducible assumption)) (by with_reducible assumption)) dX1_put_189 (fun H locs hS => ?_)
                      have hS : SM D ad ca A s (ms_lies u (upd (m_lies u) ((8 * q_r) + q_i).toNatClampNeg q_x)) H locs := hS
                      refine lv_iconst (v := 1) hx hb dX1_put_190 (by decide) ?_
                      exact EnM.iret E hS (ni_i _) (by first | (simp only [fm_put, if_neg h5, if_neg h13, if_neg h21, if_neg h55, if_pos h63, if_pos h79, if_pos h96, if_neg h136, if_neg h147, if_neg h169]; done) | (unfold fm_put; rw [if_neg h5, if_neg h13, if_neg h21, if_neg h55, if_pos h63, if_pos h79, if_pos h96, if_neg h136, if_neg h147, if_neg h169])) dX1_put_191
                    · refine lv_aload_n hx hb dX1_put_172 rfl (lv_at hl 1 rfl) ?_
                      refine lv_iconst (v := 4) hx hb dX1_put_173 (by decide) ?_
                      refine EnM.calli (r := (fm_fails u 4).1) (u2 := (fm_fails u 4).2) E hS [.int 4] [] (kX1_fails l D ad ca g u 4 ) gc_X1_75 hd_X1_fails ⟨Nat.le_of_ble_eq_true rfl, Nat.le_of_ble_eq_true rfl⟩ rfl hl.1 (Nat.le_of_ble_eq_true rfl) ⟨Nat.le_refl 0, Nat.le_refl 0⟩ dX1_put_174 (fun H locs hS => ?_)
                      exact EnM.iret E hS (ni_i _) (by first | (simp only [fm_put, if_neg h5, if_neg h13, if_neg h21, if_neg h55, if_pos h63, if_pos h79, if_pos h96, if_neg h136, if_neg h147, if_pos h169]; done) | (unfold fm_put; rw [if_neg h5, if_neg h13, if_neg h21, if_neg h55, if_pos h63, if_pos h79, if_pos h96, if_neg h136, if_neg h147, if_pos h169])) dX1_put_177
                · refine lv_aload_n hx hb dX1_put_139 rfl (lv_at hl 1 rfl) ?_
                  refine lv_iconst (v := 3) hx hb dX1_put_140 (by decide) ?_
                  refine EnM.calli (r := (fm_fails u 3).1) (u2 := (fm_fails u 3).2) E hS [.int 3] [] (kX1_fails l D ad ca g u 3 ) gc_X1_75 hd_X1_fails ⟨Nat.le_of_ble_eq_true rfl, Nat.le_of_ble_eq_true rfl⟩ rfl hl.1 (Nat.le_of_ble_eq_true rfl) ⟨Nat.le_refl 0, Nat.le_refl 0⟩ dX1_put_141 (fun H locs hS => ?_)
                  exact EnM.iret E hS (ni_i _) (by first | (simp only [fm_put, if_neg h5, if_neg h13, if_neg h21, if_neg h55, if_pos h63, if_pos h79, if_pos h96, if_pos h136]; done) | (unfold fm_put; rw [if_neg h5, if_neg h13, if_neg h21, if_neg h55, if_pos h63, if_pos h79, if_pos h96, if_pos h136])) dX1_put_144
              · refine lv_aload_n hx hb dX1_put_99 rfl (lv_at hl 1 rfl) ?_
                refine lv_iload_n hx hb dX1_put_100 rfl (lv_at hl 4 rfl) ?_
                refine lv_iload hx hb dX1_put_101 (lv_at hl 0 rfl) ?_
                refine lv_aload_n hx hb dX1_put_103 rfl (lv_at hl 1 rfl) ?_
                refine gM_depths E hS dX1_put_104 ?_
                refine lv_iload_n hx hb dX1_put_107 rfl (lv_at hl 2 rfl) ?_
                refine lM_depths (v := m_depths u (q_r).toNatClampNeg) E hS (show vp_in q_r 60 from by first | with_reducible assumption | (refine mt_in hI ?_; with_reducible assumption) | (refine mn_in hI ?_ ?_ <;> with_reducible assumption) | (refine mb_lt hI ?_; with_reducible assumption) | (refine m6_in hI ?_; with_reducible assumption)) rfl dX1_put_108 ?_
                refine lv_iconst (v := 1) hx hb dX1_put_109 (by decide) ?_
                refine lv_isub hx hb dX1_put_110 ?_
                refine EnM.calli (r := fm_isSuch u q_x (m_bases u (q_r).toNatClampNeg) ((m_depths u (q_r).toNatClampNeg) - 1)) (u2 := u) E hS [.int q_x, .int (m_bases u (q_r).toNatClampNeg), .int ((m_depths u (q_r).toNatClampNeg) - 1)] [] (kX1_isSuch l D ad ca g u q_x (m_bases u (q_r).toNatClampNeg) ((m_depths u (q_r).toNatClampNeg) - 1) (by first | with_reducible assumption | (refine mt_in hI ?_; with_reducible assumption) | (refine mn_in hI ?_ ?_ <;> with_reducible assumption) | (refine mb_lt hI ?_; with_reducible assumption) | (refine m6_in hI ?_; with_reducible assumption))) gc_X1_83 hd_X1_isSuch ⟨Nat.le_of_ble_eq_true rfl, Nat.le_of_ble_eq_true rfl⟩ rfl hl.1 (Nat.le_of_ble_eq_true rfl) ⟨Nat.le_refl 0, Nat.le_refl 0⟩ dX1_put_111 (fun H locs hS => ?_)
                refine lv_if_ne (tgt := 123) hx hb dX1_put_114 (by decide) (fun h114 => ?_) (fun h114 => ?_)
                · refine lv_iload_n hx hb dX1_put_123 rfl (lv_at hl 3 rfl) ?_
                  refine lv_iconst (v := 0) hx hb dX1_put_124 (by decide) ?_
                  refine lv_aload_n hx hb dX1_put_125 rfl (lv_at hl 1 rfl) ?_
                  refine gM_sizes E hS dX1_put_126 ?_
                  refine lv_iload_n hx hb dX1_put_129 rfl (lv_at hl 2 rfl) ?_
                  refine lM_sizes (v := m_sizes u (q_r).toNatClampNeg) E hS (show vp_in q_r 60 from by first | with_reducible assumption | (refine mt_in hI ?_; with_reducible assumption) | (refine mn_in hI ?_ ?_ <;> with_reducible assumption) | (refine mb_lt hI ?_; with_reducible assumption) | (refine m6_in hI ?_; with_reducible assumption)) rfl dX1_put_130 ?_
                  refine lv_iconst (v := 1) hx hb dX1_put_131 (by decide) ?_
                  refine lv_isub hx hb dX1_put_132 ?_
                  refine EnM.sti (r := fm_isIn q_i 0 ((m_sizes u (q_r).toNatClampNeg) - 1)) E hS [.int q_i, .int 0, .int ((m_sizes u (q_r).toNatClampNeg) - 1)] [] (kX1_isIn l q_i 0 ((m_sizes u (q_r).toNatClampNeg) - 1) ) (fun _ _ _ _ h => h) (fun _ _ _ => trivial) gc_X1_60 hd_X1_isIn ⟨Nat.le_of_ble_eq_true rfl, Nat.le_of_ble_eq_true rfl⟩ rfl hl.1 (Nat.le_of_ble_eq_true rfl) ⟨Nat.le_refl 0, Nat.le_refl 0⟩ dX1_put_133 (fun H locs hS => ?_)
                  refine lv_if_ne (tgt := 145) hx hb dX1_put_136 (by decide) (fun h136 => ?_) (fun h136 => ?_)
                  · refine lv_iload_n hx hb dX1_put_145 rfl (lv_at hl 4 rfl) ?_
                    refine lv_iconst (v := (-1)) hx hb dX1_put_146 (by decide) ?_
                    refine lv_icmp_eq (tgt := 178) hx hb dX1_put_147 (by decide) (fun h147 => ?_) (fun h147 => ?_)
                    · refine lv_aload_n hx hb dX1_put_178 rfl (lv_at hl 1 rfl) ?_
                      refine gM_lies E hS dX1_put_179 ?_
                      refine lv_bipush (v := 8) hx hb dX1_put_182 (by decide) ?_
                      refine lv_iload_n hx hb dX1_put_184 rfl (lv_at hl 2 rfl) ?_
                      refine lv_imul hx hb dX1_put_185 ?_
                      refine lv_iload_n hx hb dX1_put_186 rfl (lv_at hl 3 rfl) ?_
                      refine lv_iadd hx hb dX1_put_187 ?_
                      refine lv_iload_n hx hb dX1_put_188 rfl (lv_at hl 4 rfl) ?_
                      refine sM_lies E hS (show vp_in ((8 * q_r) + q_i) 480 from mp_in hI (mn_in hI (by with_reducible assumption) (by with_reducible assumption)) (by with_reducible assumption)) dX1_put_189 (fun H locs hS => ?_)
                      have hS : SM D ad ca A s (ms_lies u (upd (m_lies u) ((8 * q_r) + q_i).toNatClampNeg q_x)) H locs := hS
                      refine lv_iconst (v := 1) hx hb dX1_put_190 (by decide) ?_
                      exact EnM.iret E hS (ni_i _) (by first | (simp only [fm_put, if_neg h5, if_neg h13, if_neg h21, if_neg h55, if_pos h63, if_pos h79, if_neg h96, if_neg h114, if_neg h136, if_pos h147]; done) | (unfold fm_put; rw [if_neg h5, if_neg h13, if_neg h21, if_neg h55, if_pos h63, if_pos h79, if_neg h96, if_neg h114, if_neg h136, if_pos h147])) dX1_put_191
                    · refine lv_aload_n hx hb dX1_put_150 rfl (lv_at hl 1 rfl) ?_
                      refine lv_iload_n hx hb dX1_put_151 rfl (lv_at hl 4 rfl) ?_
                      refine lv_aload_n hx hb dX1_put_152 rfl (lv_at hl 1 rfl) ?_
                      refine gM_bases E hS dX1_put_153 ?_
                      refine lv_iload_n hx hb dX1_put_156 rfl (lv_at hl 2 rfl) ?_
                      refine lM_bases (v := m_bases u (q_r).toNatClampNeg) E hS (show vp_in q_r 60 from by first | with_reducible assumption | (refine mt_in hI ?_; with_reducible assumption) | (refine mn_in hI ?_ ?_ <;> with_reducible assumption) | (refine mb_lt hI ?_; with_reducible assumption) | (refine m6_in hI ?_; with_reducible assumption)) rfl dX1_put_157 ?_
                      refine lv_aload_n hx hb dX1_put_158 rfl (lv_at hl 1 rfl) ?_
                      refine gM_depths E hS dX1_put_159 ?_
                      refine lv_iload_n hx hb dX1_put_162 rfl (lv_at hl 2 rfl) ?_
                      refine lM_depths (v := m_depths u (q_r).toNatClampNeg) E hS (show vp_in q_r 60 from by first | with_reducible assumption | (refine mt_in hI ?_; with_reducible assumption) | (refine mn_in hI ?_ ?_ <;> with_reducible assumption) | (refine mb_lt hI ?_; with_reducible assumption) | (refine m6_in hI ?_; with_reducible assumption)) rfl dX1_put_163 ?_
                      refine lv_iconst (v := 1) hx hb dX1_put_164 (by decide) ?_
                      refine lv_isub hx hb dX1_put_165 ?_
                      refine EnM.calli (r := fm_isSuch u q_x (m_bases u (q_r).toNatClampNeg) ((m_depths u (q_r).toNatClampNeg) - 1)) (u2 := u) E hS [.int q_x, .int (m_bases u (q_r).toNatClampNeg), .int ((m_depths u (q_r).toNatClampNeg) - 1)] [] (kX1_isSuch l D ad ca g u q_x (m_bases u (q_r).toNatClampNeg) ((m_depths u (q_r).toNatClampNeg) - 1) (by first | with_reducible assumption | (refine mt_in hI ?_; with_reducible assumption) | (refine mn_in hI ?_ ?_ <;> with_reducible assumption) | (refine mb_lt hI ?_; with_reducible assumption) | (refine m6_in hI ?_; with_reducible assumption))) gc_X1_83 hd_X1_isSuch ⟨Nat.le_of_ble_eq_true rfl, Nat.le_of_ble_eq_true rfl⟩ rfl hl.1 (Nat.le_of_ble_eq_true rfl) ⟨Nat.le_refl 0, Nat.le_refl 0⟩ dX1_put_166 (fun H locs hS => ?_)
                      refine lv_if_ne (tgt := 178) hx hb dX1_put_169 (by decide) (fun h169 => ?_) (fun h169 => ?_)
                      · refine lv_aload_n hx hb dX1_put_178 rfl (lv_at hl 1 rfl) ?_
                        refine gM_lies E hS dX1_put_179 ?_
                        refine lv_bipush (v := 8) hx hb dX1_put_182 (by decide) ?_
                        refine lv_iload_n hx hb dX1_put_184 rfl (lv_at hl 2 rfl) ?_
                        refine lv_imul hx hb dX1_put_185 ?_
                        refine lv_iload_n hx hb dX1_put_186 rfl (lv_at hl 3 rfl) ?_
                        refine lv_iadd hx hb dX1_put_187 ?_
                        refine lv_iload_n hx hb dX1_put_188 rfl (lv_at hl 4 rfl) ?_
                        refine sM_lies E hS (show vp_in ((8 * q_r) + q_i) 480 from mp_in hI (mn_in hI (by with_reducible assumption) (by with_reducible assumption)) (by with_reducible assumption)) dX1_put_189 (fun H locs hS => ?_)
                        have hS : SM D ad ca A s (ms_lies u (upd (m_lies u) ((8 * q_r) + q_i).toNatClampNeg q_x)) H locs := hS
                        refine lv_iconst (v := 1) hx hb dX1_put_190 (by decide) ?_
                        exact EnM.iret E hS (ni_i _) (by first | (simp only [fm_put, if_neg h5, if_neg h13, if_neg h21, if_neg h55, if_pos h63, if_pos h79, if_neg h96, if_neg h114, if_neg h136, if_neg h147, if_neg h169]; done) | (unfold fm_put; rw [if_neg h5, if_neg h13, if_neg h21, if_neg h55, if_pos h63, if_pos h79, if_neg h96, if_neg h114, if_neg h136, if_neg h147, if_neg h169])) dX1_put_191
                      · refine lv_aload_n hx hb dX1_put_172 rfl (lv_at hl 1 rfl) ?_
                        refine lv_iconst (v := 4) hx hb dX1_put_173 (by decide) ?_
                        refine EnM.calli (r := (fm_fails u 4).1) (u2 := (fm_fails u 4).2) E hS [.int 4] [] (kX1_fails l D ad ca g u 4 ) gc_X1_75 hd_X1_fails ⟨Nat.le_of_ble_eq_true rfl, Nat.le_of_ble_eq_true rfl⟩ rfl hl.1 (Nat.le_of_ble_eq_true rfl) ⟨Nat.le_refl 0, Nat.le_refl 0⟩ dX1_put_174 (fun H locs hS => ?_)
                        exact EnM.iret E hS (ni_i _) (by first | (simp only [fm_put, if_neg h5, if_neg h13, if_neg h21, if_neg h55, if_pos h63, if_pos h79, if_neg h96, if_neg h114, if_neg h136, if_neg h147, if_pos h169]; done) | (unfold fm_put; rw [if_neg h5, if_neg h13, if_neg h21, if_neg h55, if_pos h63, if_pos h79, if_neg h96, if_neg h114, if_neg h136, if_neg h147, if_pos h169])) dX1_put_177
                  · refine lv_aload_n hx hb dX1_put_139 rfl (lv_at hl 1 rfl) ?_
                    refine lv_iconst (v := 3) hx hb dX1_put_140 (by decide) ?_
                    refine EnM.calli (r := (fm_fails u 3).1) (u2 := (fm_fails u 3).2) E hS [.int 3] [] (kX1_fails l D ad ca g u 3 ) gc_X1_75 hd_X1_fails ⟨Nat.le_of_ble_eq_true rfl, Nat.le_of_ble_eq_true rfl⟩ rfl hl.1 (Nat.le_of_ble_eq_true rfl) ⟨Nat.le_refl 0, Nat.le_refl 0⟩ dX1_put_141 (fun H locs hS => ?_)
                    exact EnM.iret E hS (ni_i _) (by first | (simp only [fm_put, if_neg h5, if_neg h13, if_neg h21, if_neg h55, if_pos h63, if_pos h79, if_neg h96, if_neg h114, if_pos h136]; done) | (unfold fm_put; rw [if_neg h5, if_neg h13, if_neg h21, if_neg h55, if_pos h63, if_pos h79, if_neg h96, if_neg h114, if_pos h136])) dX1_put_144
                · refine lv_aload_n hx hb dX1_put_117 rfl (lv_at hl 1 rfl) ?_
                  refine lv_iconst (v := 2) hx hb dX1_put_118 (by decide) ?_
                  refine EnM.calli (r := (fm_fails u 2).1) (u2 := (fm_fails u 2).2) E hS [.int 2] [] (kX1_fails l D ad ca g u 2 ) gc_X1_75 hd_X1_fails ⟨Nat.le_of_ble_eq_true rfl, Nat.le_of_ble_eq_true rfl⟩ rfl hl.1 (Nat.le_of_ble_eq_true rfl) ⟨Nat.le_refl 0, Nat.le_refl 0⟩ dX1_put_119 (fun H locs hS => ?_)
                  exact EnM.iret E hS (ni_i _) (by first | (simp only [fm_put, if_neg h5, if_neg h13, if_neg h21, if_neg h55, if_pos h63, if_pos h79, if_neg h96, if_pos h114]; done) | (unfold fm_put; rw [if_neg h5, if_neg h13, if_neg h21, if_neg h55, if_pos h63, if_pos h79, if_neg h96, if_pos h114])) dX1_put_122
            · refine lv_iconst (v := 0) hx hb dX1_put_82 (by decide) ?_
              refine lv_goto (tgt := 92) hx hb dX1_put_83 (by decide) ?_
              refine lv_istore (lv' := [(4, .int 0), (0, .ref (ad 0)), (1, .int q_r), (2, .int q_i), (3, .int q_x)]) hx hb dX1_put_92 hl (by decide) rfl (fun ls hl => ?_)
              refine lv_iload_n hx hb dX1_put_94 rfl (lv_at hl 4 rfl) ?_
              refine lv_iconst (v := (-1)) hx hb dX1_put_95 (by decide) ?_
              refine lv_icmp_eq (tgt := 123) hx hb dX1_put_96 (by decide) (fun h96 => ?_) (fun h96 => ?_)
              · refine lv_iload_n hx hb dX1_put_123 rfl (lv_at hl 3 rfl) ?_
                refine lv_iconst (v := 0) hx hb dX1_put_124 (by decide) ?_
                refine lv_aload_n hx hb dX1_put_125 rfl (lv_at hl 1 rfl) ?_
                refine gM_sizes E hS dX1_put_126 ?_
                refine lv_iload_n hx hb dX1_put_129 rfl (lv_at hl 2 rfl) ?_
                refine lM_sizes (v := m_sizes u (q_r).toNatClampNeg) E hS (show vp_in q_r 60 from by first | with_reducible assumption | (refine mt_in hI ?_; with_reducible assumption) | (refine mn_in hI ?_ ?_ <;> with_reducible assumption) | (refine mb_lt hI ?_; with_reducible assumption) | (refine m6_in hI ?_; with_reducible assumption)) rfl dX1_put_130 ?_
                refine lv_iconst (v := 1) hx hb dX1_put_131 (by decide) ?_
                refine lv_isub hx hb dX1_put_132 ?_
                refine EnM.sti (r := fm_isIn q_i 0 ((m_sizes u (q_r).toNatClampNeg) - 1)) E hS [.int q_i, .int 0, .int ((m_sizes u (q_r).toNatClampNeg) - 1)] [] (kX1_isIn l q_i 0 ((m_sizes u (q_r).toNatClampNeg) - 1) ) (fun _ _ _ _ h => h) (fun _ _ _ => trivial) gc_X1_60 hd_X1_isIn ⟨Nat.le_of_ble_eq_true rfl, Nat.le_of_ble_eq_true rfl⟩ rfl hl.1 (Nat.le_of_ble_eq_true rfl) ⟨Nat.le_refl 0, Nat.le_refl 0⟩ dX1_put_133 (fun H locs hS => ?_)
                refine lv_if_ne (tgt := 145) hx hb dX1_put_136 (by decide) (fun h136 => ?_) (fun h136 => ?_)
                · refine lv_iload_n hx hb dX1_put_145 rfl (lv_at hl 4 rfl) ?_
                  refine lv_iconst (v := (-1)) hx hb dX1_put_146 (by decide) ?_
                  refine lv_icmp_eq (tgt := 178) hx hb dX1_put_147 (by decide) (fun h147 => ?_) (fun h147 => ?_)
                  · refine lv_aload_n hx hb dX1_put_178 rfl (lv_at hl 1 rfl) ?_
                    refine gM_lies E hS dX1_put_179 ?_
                    refine lv_bipush (v := 8) hx hb dX1_put_182 (by decide) ?_
                    refine lv_iload_n hx hb dX1_put_184 rfl (lv_at hl 2 rfl) ?_
                    refine lv_imul hx hb dX1_put_185 ?_
                    refine lv_iload_n hx hb dX1_put_186 rfl (lv_at hl 3 rfl) ?_
                    refine lv_iadd hx hb dX1_put_187 ?_
                    refine lv_iload_n hx hb dX1_put_188 rfl (lv_at hl 4 rfl) ?_
                    refine sM_lies E hS (show vp_in ((8 * q_r) + q_i) 480 from mp_in hI (mn_in hI (by with_reducible assumption) (by with_reducible assumption)) (by with_reducible assumption)) dX1_put_189 (fun H locs hS => ?_)
                    have hS : SM D ad ca A s (ms_lies u (upd (m_lies u) ((8 * q_r) + q_i).toNatClampNeg q_x)) H locs := hS
                    refine lv_iconst (v := 1) hx hb dX1_put_190 (by decide) ?_
                    exact EnM.iret E hS (ni_i _) (by first | (simp only [fm_put, if_neg h5, if_neg h13, if_neg h21, if_neg h55, if_pos h63, if_neg h79, if_pos h96, if_neg h136, if_pos h147]; done) | (unfold fm_put; rw [if_neg h5, if_neg h13, if_neg h21, if_neg h55, if_pos h63, if_neg h79, if_pos h96, if_neg h136, if_pos h147])) dX1_put_191
                  · refine lv_aload_n hx hb dX1_put_150 rfl (lv_at hl 1 rfl) ?_
                    refine lv_iload_n hx hb dX1_put_151 rfl (lv_at hl 4 rfl) ?_
                    refine lv_aload_n hx hb dX1_put_152 rfl (lv_at hl 1 rfl) ?_
                    refine gM_bases E hS dX1_put_153 ?_
                    refine lv_iload_n hx hb dX1_put_156 rfl (lv_at hl 2 rfl) ?_
                    refine lM_bases (v := m_bases u (q_r).toNatClampNeg) E hS (show vp_in q_r 60 from by first | with_reducible assumption | (refine mt_in hI ?_; with_reducible assumption) | (refine mn_in hI ?_ ?_ <;> with_reducible assumption) | (refine mb_lt hI ?_; with_reducible assumption) | (refine m6_in hI ?_; with_reducible assumption)) rfl dX1_put_157 ?_
                    refine lv_aload_n hx hb dX1_put_158 rfl (lv_at hl 1 rfl) ?_
                    refine gM_depths E hS dX1_put_159 ?_
                    refine lv_iload_n hx hb dX1_put_162 rfl (lv_at hl 2 rfl) ?_
                    refine lM_depths (v := m_depths u (q_r).toNatClampNeg) E hS (show vp_in q_r 60 from by first | with_reducible assumption | (refine mt_in hI ?_; with_reducible assumption) | (refine mn_in hI ?_ ?_ <;> with_reducible assumption) | (refine mb_lt hI ?_; with_reducible assumption) | (refine m6_in hI ?_; with_reducible assumption)) rfl dX1_put_163 ?_
                    refine lv_iconst (v := 1) hx hb dX1_put_164 (by decide) ?_
                    refine lv_isub hx hb dX1_put_165 ?_
                    refine EnM.calli (r := fm_isSuch u q_x (m_bases u (q_r).toNatClampNeg) ((m_depths u (q_r).toNatClampNeg) - 1)) (u2 := u) E hS [.int q_x, .int (m_bases u (q_r).toNatClampNeg), .int ((m_depths u (q_r).toNatClampNeg) - 1)] [] (kX1_isSuch l D ad ca g u q_x (m_bases u (q_r).toNatClampNeg) ((m_depths u (q_r).toNatClampNeg) - 1) (by first | with_reducible assumption | (refine mt_in hI ?_; with_reducible assumption) | (refine mn_in hI ?_ ?_ <;> with_reducible assumption) | (refine mb_lt hI ?_; with_reducible assumption) | (refine m6_in hI ?_; with_reducible assumption))) gc_X1_83 hd_X1_isSuch ⟨Nat.le_of_ble_eq_true rfl, Nat.le_of_ble_eq_true rfl⟩ rfl hl.1 (Nat.le_of_ble_eq_true rfl) ⟨Nat.le_refl 0, Nat.le_refl 0⟩ dX1_put_166 (fun H locs hS => ?_)
                    refine lv_if_ne (tgt := 178) hx hb dX1_put_169 (by decide) (fun h169 => ?_) (fun h169 => ?_)
                    · refine lv_aload_n hx hb dX1_put_178 rfl (lv_at hl 1 rfl) ?_
                      refine gM_lies E hS dX1_put_179 ?_
                      refine lv_bipush (v := 8) hx hb dX1_put_182 (by decide) ?_
                      refine lv_iload_n hx hb dX1_put_184 rfl (lv_at hl 2 rfl) ?_
                      refine lv_imul hx hb dX1_put_185 ?_
                      refine lv_iload_n hx hb dX1_put_186 rfl (lv_at hl 3 rfl) ?_
                      refine lv_iadd hx hb dX1_put_187 ?_
                      refine lv_iload_n hx hb dX1_put_188 rfl (lv_at hl 4 rfl) ?_
                      refine sM_lies E hS (show vp_in ((8 * q_r) + q_i) 480 from mp_in hI (mn_in hI (by with_reducible assumption) (by with_reducible assumption)) (by with_reducible assumption)) dX1_put_189 (fun H locs hS => ?_)
                      have hS : SM D ad ca A s (ms_lies u (upd (m_lies u) ((8 * q_r) + q_i).toNatClampNeg q_x)) H locs := hS
                      refine lv_iconst (v := 1) hx hb dX1_put_190 (by decide) ?_
                      exact EnM.iret E hS (ni_i _) (by first | (simp only [fm_put, if_neg h5, if_neg h13, if_neg h21, if_neg h55, if_pos h63, if_neg h79, if_pos h96, if_neg h136, if_neg h147, if_neg h169]; done) | (unfold fm_put; rw [if_neg h5, if_neg h13, if_neg h21, if_neg h55, if_pos h63, if_neg h79, if_pos h96, if_neg h136, if_neg h147, if_neg h169])) dX1_put_191
                    · refine lv_aload_n hx hb dX1_put_172 rfl (lv_at hl 1 rfl) ?_
                      refine lv_iconst (v := 4) hx hb dX1_put_173 (by decide) ?_
                      refine EnM.calli (r := (fm_fails u 4).1) (u2 := (fm_fails u 4).2) E hS [.int 4] [] (kX1_fails l D ad ca g u 4 ) gc_X1_75 hd_X1_fails ⟨Nat.le_of_ble_eq_true rfl, Nat.le_of_ble_eq_true rfl⟩ rfl hl.1 (Nat.le_of_ble_eq_true rfl) ⟨Nat.le_refl 0, Nat.le_refl 0⟩ dX1_put_174 (fun H locs hS => ?_)
                      exact EnM.iret E hS (ni_i _) (by first | (simp only [fm_put, if_neg h5, if_neg h13, if_neg h21, if_neg h55, if_pos h63, if_neg h79, if_pos h96, if_neg h136, if_neg h147, if_pos h169]; done) | (unfold fm_put; rw [if_neg h5, if_neg h13, if_neg h21, if_neg h55, if_pos h63, if_neg h79, if_pos h96, if_neg h136, if_neg h147, if_pos h169])) dX1_put_177
                · refine lv_aload_n hx hb dX1_put_139 rfl (lv_at hl 1 rfl) ?_
                  refine lv_iconst (v := 3) hx hb dX1_put_140 (by decide) ?_
                  refine EnM.calli (r := (fm_fails u 3).1) (u2 := (fm_fails u 3).2) E hS [.int 3] [] (kX1_fails l D ad ca g u 3 ) gc_X1_75 hd_X1_fails ⟨Nat.le_of_ble_eq_true rfl, Nat.le_of_ble_eq_true rfl⟩ rfl hl.1 (Nat.le_of_ble_eq_true rfl) ⟨Nat.le_refl 0, Nat.le_refl 0⟩ dX1_put_141 (fun H locs hS => ?_)
                  exact EnM.iret E hS (ni_i _) (by first | (simp only [fm_put, if_neg h5, if_neg h13, if_neg h21, if_neg h55, if_pos h63, if_neg h79, if_pos h96, if_pos h136]; done) | (unfold fm_put; rw [if_neg h5, if_neg h13, if_neg h21, if_neg h55, if_pos h63, if_neg h79, if_pos h96, if_pos h136])) dX1_put_144
              · refine lv_aload_n hx hb dX1_put_99 rfl (lv_at hl 1 rfl) ?_
                refine lv_iload_n hx hb dX1_put_100 rfl (lv_at hl 4 rfl) ?_
                refine lv_iload hx hb dX1_put_101 (lv_at hl 0 rfl) ?_
                refine lv_aload_n hx hb dX1_put_103 rfl (lv_at hl 1 rfl) ?_
                refine gM_depths E hS dX1_put_104 ?_
                refine lv_iload_n hx hb dX1_put_107 rfl (lv_at hl 2 rfl) ?_
                refine lM_depths (v := m_depths u (q_r).toNatClampNeg) E hS (show vp_in q_r 60 from by first | with_reducible assumption | (refine mt_in hI ?_; with_reducible assumption) | (refine mn_in hI ?_ ?_ <;> with_reducible assumption) | (refine mb_lt hI ?_; with_reducible assumption) | (refine m6_in hI ?_; with_reducible assumption)) rfl dX1_put_108 ?_
                refine lv_iconst (v := 1) hx hb dX1_put_109 (by decide) ?_
                refine lv_isub hx hb dX1_put_110 ?_
                refine EnM.calli (r := fm_isSuch u q_x 0 ((m_depths u (q_r).toNatClampNeg) - 1)) (u2 := u) E hS [.int q_x, .int 0, .int ((m_depths u (q_r).toNatClampNeg) - 1)] [] (kX1_isSuch l D ad ca g u q_x 0 ((m_depths u (q_r).toNatClampNeg) - 1) (by first | with_reducible assumption | (refine mt_in hI ?_; with_reducible assumption) | (refine mn_in hI ?_ ?_ <;> with_reducible assumption) | (refine mb_lt hI ?_; with_reducible assumption) | (refine m6_in hI ?_; with_reducible assumption))) gc_X1_83 hd_X1_isSuch ⟨Nat.le_of_ble_eq_true rfl, Nat.le_of_ble_eq_true rfl⟩ rfl hl.1 (Nat.le_of_ble_eq_true rfl) ⟨Nat.le_refl 0, Nat.le_refl 0⟩ dX1_put_111 (fun H locs hS => ?_)
                refine lv_if_ne (tgt := 123) hx hb dX1_put_114 (by decide) (fun h114 => ?_) (fun h114 => ?_)
                · refine lv_iload_n hx hb dX1_put_123 rfl (lv_at hl 3 rfl) ?_
                  refine lv_iconst (v := 0) hx hb dX1_put_124 (by decide) ?_
                  refine lv_aload_n hx hb dX1_put_125 rfl (lv_at hl 1 rfl) ?_
                  refine gM_sizes E hS dX1_put_126 ?_
                  refine lv_iload_n hx hb dX1_put_129 rfl (lv_at hl 2 rfl) ?_
                  refine lM_sizes (v := m_sizes u (q_r).toNatClampNeg) E hS (show vp_in q_r 60 from by first | with_reducible assumption | (refine mt_in hI ?_; with_reducible assumption) | (refine mn_in hI ?_ ?_ <;> with_reducible assumption) | (refine mb_lt hI ?_; with_reducible assumption) | (refine m6_in hI ?_; with_reducible assumption)) rfl dX1_put_130 ?_
                  refine lv_iconst (v := 1) hx hb dX1_put_131 (by decide) ?_
                  refine lv_isub hx hb dX1_put_132 ?_
                  refine EnM.sti (r := fm_isIn q_i 0 ((m_sizes u (q_r).toNatClampNeg) - 1)) E hS [.int q_i, .int 0, .int ((m_sizes u (q_r).toNatClampNeg) - 1)] [] (kX1_isIn l q_i 0 ((m_sizes u (q_r).toNatClampNeg) - 1) ) (fun _ _ _ _ h => h) (fun _ _ _ => trivial) gc_X1_60 hd_X1_isIn ⟨Nat.le_of_ble_eq_true rfl, Nat.le_of_ble_eq_true rfl⟩ rfl hl.1 (Nat.le_of_ble_eq_true rfl) ⟨Nat.le_refl 0, Nat.le_refl 0⟩ dX1_put_133 (fun H locs hS => ?_)
                  refine lv_if_ne (tgt := 145) hx hb dX1_put_136 (by decide) (fun h136 => ?_) (fun h136 => ?_)
                  · refine lv_iload_n hx hb dX1_put_145 rfl (lv_at hl 4 rfl) ?_
                    refine lv_iconst (v := (-1)) hx hb dX1_put_146 (by decide) ?_
                    refine lv_icmp_eq (tgt := 178) hx hb dX1_put_147 (by decide) (fun h147 => ?_) (fun h147 => ?_)
                    · refine lv_aload_n hx hb dX1_put_178 rfl (lv_at hl 1 rfl) ?_
                      refine gM_lies E hS dX1_put_179 ?_
                      refine lv_bipush (v := 8) hx hb dX1_put_182 (by decide) ?_
                      refine lv_iload_n hx hb dX1_put_184 rfl (lv_at hl 2 rfl) ?_
                      refine lv_imul hx hb dX1_put_185 ?_
                      refine lv_iload_n hx hb dX1_put_186 rfl (lv_at hl 3 rfl) ?_
                      refine lv_iadd hx hb dX1_put_187 ?_
                      refine lv_iload_n hx hb dX1_put_188 rfl (lv_at hl 4 rfl) ?_
                      refine sM_lies E hS (show vp_in ((8 * q_r) + q_i) 480 from mp_in hI (mn_in hI (by with_reducible assumption) (by with_reducible assumption)) (by with_reducible assumption)) dX1_put_189 (fun H locs hS => ?_)
                      have hS : SM D ad ca A s (ms_lies u (upd (m_lies u) ((8 * q_r) + q_i).toNatClampNeg q_x)) H locs := hS
                      refine lv_iconst (v := 1) hx hb dX1_put_190 (by decide) ?_
                      exact EnM.iret E hS (ni_i _) (by first | (simp only [fm_put, if_neg h5, if_neg h13, if_neg h21, if_neg h55, if_pos h63, if_neg h79, if_neg h96, if_neg h114, if_neg h136, if_pos h147]; done) | (unfold fm_put; rw [if_neg h5, if_neg h13, if_neg h21, if_neg h55, if_pos h63, if_neg h79, if_neg h96, if_neg h114, if_neg h136, if_pos h147])) dX1_put_191
                    · refine lv_aload_n hx hb dX1_put_150 rfl (lv_at hl 1 rfl) ?_
                      refine lv_iload_n hx hb dX1_put_151 rfl (lv_at hl 4 rfl) ?_
                      refine lv_aload_n hx hb dX1_put_152 rfl (lv_at hl 1 rfl) ?_
                      refine gM_bases E hS dX1_put_153 ?_
                      refine lv_iload_n hx hb dX1_put_156 rfl (lv_at hl 2 rfl) ?_
                      refine lM_bases (v := m_bases u (q_r).toNatClampNeg) E hS (show vp_in q_r 60 from by first | with_reducible assumption | (refine mt_in hI ?_; with_reducible assumption) | (refine mn_in hI ?_ ?_ <;> with_reducible assumption) | (refine mb_lt hI ?_; with_reducible assumption) | (refine m6_in hI ?_; with_reducible assumption)) rfl dX1_put_157 ?_
                      refine lv_aload_n hx hb dX1_put_158 rfl (lv_at hl 1 rfl) ?_
                      refine gM_depths E hS dX1_put_159 ?_
                      refine lv_iload_n hx hb dX1_put_162 rfl (lv_at hl 2 rfl) ?_
                      refine lM_depths (v := m_depths u (q_r).toNatClampNeg) E hS (show vp_in q_r 60 from by first | with_reducible assumption | (refine mt_in hI ?_; with_reducible assumption) | (refine mn_in hI ?_ ?_ <;> with_reducible assumption) | (refine mb_lt hI ?_; with_reducible assumption) | (refine m6_in hI ?_; with_reducible assumption)) rfl dX1_put_163 ?_
                      refine lv_iconst (v := 1) hx hb dX1_put_164 (by decide) ?_
                      refine lv_isub hx hb dX1_put_165 ?_
                      refine EnM.calli (r := fm_isSuch u q_x (m_bases u (q_r).toNatClampNeg) ((m_depths u (q_r).toNatClampNeg) - 1)) (u2 := u) E hS [.int q_x, .int (m_bases u (q_r).toNatClampNeg), .int ((m_depths u (q_r).toNatClampNeg) - 1)] [] (kX1_isSuch l D ad ca g u q_x (m_bases u (q_r).toNatClampNeg) ((m_depths u (q_r).toNatClampNeg) - 1) (by first | with_reducible assumption | (refine mt_in hI ?_; with_reducible assumption) | (refine mn_in hI ?_ ?_ <;> with_reducible assumption) | (refine mb_lt hI ?_; with_reducible assumption) | (refine m6_in hI ?_; with_reducible assumption))) gc_X1_83 hd_X1_isSuch ⟨Nat.le_of_ble_eq_true rfl, Nat.le_of_ble_eq_true rfl⟩ rfl hl.1 (Nat.le_of_ble_eq_true rfl) ⟨Nat.le_refl 0, Nat.le_refl 0⟩ dX1_put_166 (fun H locs hS => ?_)
                      refine lv_if_ne (tgt := 178) hx hb dX1_put_169 (by decide) (fun h169 => ?_) (fun h169 => ?_)
                      · refine lv_aload_n hx hb dX1_put_178 rfl (lv_at hl 1 rfl) ?_
                        refine gM_lies E hS dX1_put_179 ?_
                        refine lv_bipush (v := 8) hx hb dX1_put_182 (by decide) ?_
                        refine lv_iload_n hx hb dX1_put_184 rfl (lv_at hl 2 rfl) ?_
                        refine lv_imul hx hb dX1_put_185 ?_
                        refine lv_iload_n hx hb dX1_put_186 rfl (lv_at hl 3 rfl) ?_
                        refine lv_iadd hx hb dX1_put_187 ?_
                        refine lv_iload_n hx hb dX1_put_188 rfl (lv_at hl 4 rfl) ?_
                        refine sM_lies E hS (show vp_in ((8 * q_r) + q_i) 480 from mp_in hI (mn_in hI (by with_reducible assumption) (by with_reducible assumption)) (by with_reducible assumption)) dX1_put_189 (fun H locs hS => ?_)
                        have hS : SM D ad ca A s (ms_lies u (upd (m_lies u) ((8 * q_r) + q_i).toNatClampNeg q_x)) H locs := hS
                        refine lv_iconst (v := 1) hx hb dX1_put_190 (by decide) ?_
                        exact EnM.iret E hS (ni_i _) (by first | (simp only [fm_put, if_neg h5, if_neg h13, if_neg h21, if_neg h55, if_pos h63, if_neg h79, if_neg h96, if_neg h114, if_neg h136, if_neg h147, if_neg h169]; done) | (unfold fm_put; rw [if_neg h5, if_neg h13, if_neg h21, if_neg h55, if_pos h63, if_neg h79, if_neg h96, if_neg h114, if_neg h136, if_neg h147, if_neg h169])) dX1_put_191
                      · refine lv_aload_n hx hb dX1_put_172 rfl (lv_at hl 1 rfl) ?_
                        refine lv_iconst (v := 4) hx hb dX1_put_173 (by decide) ?_
                        refine EnM.calli (r := (fm_fails u 4).1) (u2 := (fm_fails u 4).2) E hS [.int 4] [] (kX1_fails l D ad ca g u 4 ) gc_X1_75 hd_X1_fails ⟨Nat.le_of_ble_eq_true rfl, Nat.le_of_ble_eq_true rfl⟩ rfl hl.1 (Nat.le_of_ble_eq_true rfl) ⟨Nat.le_refl 0, Nat.le_refl 0⟩ dX1_put_174 (fun H locs hS => ?_)
                        exact EnM.iret E hS (ni_i _) (by first | (simp only [fm_put, if_neg h5, if_neg h13, if_neg h21, if_neg h55, if_pos h63, if_neg h79, if_neg h96, if_neg h114, if_neg h136, if_neg h147, if_pos h169]; done) | (unfold fm_put; rw [if_neg h5, if_neg h13, if_neg h21, if_neg h55, if_pos h63, if_neg h79, if_neg h96, if_neg h114, if_neg h136, if_neg h147, if_pos h169])) dX1_put_177
                  · refine lv_aload_n hx hb dX1_put_139 rfl (lv_at hl 1 rfl) ?_
                    refine lv_iconst (v := 3) hx hb dX1_put_140 (by decide) ?_
                    refine EnM.calli (r := (fm_fails u 3).1) (u2 := (fm_fails u 3).2) E hS [.int 3] [] (kX1_fails l D ad ca g u 3 ) gc_X1_75 hd_X1_fails ⟨Nat.le_of_ble_eq_true rfl, Nat.le_of_ble_eq_true rfl⟩ rfl hl.1 (Nat.le_of_ble_eq_true rfl) ⟨Nat.le_refl 0, Nat.le_refl 0⟩ dX1_put_141 (fun H locs hS => ?_)
                    exact EnM.iret E hS (ni_i _) (by first | (simp only [fm_put, if_neg h5, if_neg h13, if_neg h21, if_neg h55, if_pos h63, if_neg h79, if_neg h96, if_neg h114, if_pos h136]; done) | (unfold fm_put; rw [if_neg h5, if_neg h13, if_neg h21, if_neg h55, if_pos h63, if_neg h79, if_neg h96, if_neg h114, if_pos h136])) dX1_put_144
                · refine lv_aload_n hx hb dX1_put_117 rfl (lv_at hl 1 rfl) ?_
                  refine lv_iconst (v := 2) hx hb dX1_put_118 (by decide) ?_
                  refine EnM.calli (r := (fm_fails u 2).1) (u2 := (fm_fails u 2).2) E hS [.int 2] [] (kX1_fails l D ad ca g u 2 ) gc_X1_75 hd_X1_fails ⟨Nat.le_of_ble_eq_true rfl, Nat.le_of_ble_eq_true rfl⟩ rfl hl.1 (Nat.le_of_ble_eq_true rfl) ⟨Nat.le_refl 0, Nat.le_refl 0⟩ dX1_put_119 (fun H locs hS => ?_)
                  exact EnM.iret E hS (ni_i _) (by first | (simp only [fm_put, if_neg h5, if_neg h13, if_neg h21, if_neg h55, if_pos h63, if_neg h79, if_neg h96, if_pos h114]; done) | (unfold fm_put; rw [if_neg h5, if_neg h13, if_neg h21, if_neg h55, if_pos h63, if_neg h79, if_neg h96, if_pos h114])) dX1_put_122
          · refine lv_aload_n hx hb dX1_put_66 rfl (lv_at hl 0 rfl) ?_
            refine lv_iconst (v := 2) hx hb dX1_put_67 (by decide) ?_
            refine EnM.calli (r := (fm_fails u 2).1) (u2 := (fm_fails u 2).2) E hS [.int 2] [] (kX1_fails l D ad ca g u 2 ) gc_X1_75 hd_X1_fails ⟨Nat.le_of_ble_eq_true rfl, Nat.le_of_ble_eq_true rfl⟩ rfl hl.1 (Nat.le_of_ble_eq_true rfl) ⟨Nat.le_refl 0, Nat.le_refl 0⟩ dX1_put_68 (fun H locs hS => ?_)
            exact EnM.iret E hS (ni_i _) (by first | (simp only [fm_put, if_neg h5, if_neg h13, if_neg h21, if_neg h55, if_neg h63]; done) | (unfold fm_put; rw [if_neg h5, if_neg h13, if_neg h21, if_neg h55, if_neg h63])) dX1_put_71
      · refine lv_aload_n hx hb dX1_put_24 rfl (lv_at hl 0 rfl) ?_
        refine lv_iload_n hx hb dX1_put_25 rfl (lv_at hl 3 rfl) ?_
        refine lv_iconst (v := (-1)) hx hb dX1_put_26 (by decide) ?_
        refine lv_icmp_eq (tgt := 44) hx hb dX1_put_27 (by decide) (fun h27 => ?_) (fun h27 => ?_)
        · refine lv_iconst (v := 1) hx hb dX1_put_44 (by decide) ?_
          refine EnM.calli (r := (fm_fails u 1).1) (u2 := (fm_fails u 1).2) E hS [.int 1] [] (kX1_fails l D ad ca g u 1 ) gc_X1_75 hd_X1_fails ⟨Nat.le_of_ble_eq_true rfl, Nat.le_of_ble_eq_true rfl⟩ rfl hl.1 (Nat.le_of_ble_eq_true rfl) ⟨Nat.le_refl 0, Nat.le_refl 0⟩ dX1_put_45 (fun H locs hS => ?_)
          exact EnM.iret E hS (ni_i _) (by first | (simp only [fm_put, if_neg h5, if_neg h13, if_pos h21, if_pos h27]; done) | (unfold fm_put; rw [if_neg h5, if_neg h13, if_pos h21, if_pos h27])) dX1_put_48
        · refine lv_aload_n hx hb dX1_put_30 rfl (lv_at hl 0 rfl) ?_
          refine lv_iload_n hx hb dX1_put_31 rfl (lv_at hl 3 rfl) ?_
          refine lv_iconst (v := 0) hx hb dX1_put_32 (by decide) ?_
          refine lv_iconst (v := 0) hx hb dX1_put_33 (by decide) ?_
          refine EnM.calli (r := fm_isSuch u q_x 0 0) (u2 := u) E hS [.int q_x, .int 0, .int 0] [.ref (ad 0)] (kX1_isSuch l D ad ca g u q_x 0 0 (by first | with_reducible assumption | (refine mt_in hI ?_; with_reducible assumption) | (refine mn_in hI ?_ ?_ <;> with_reducible assumption) | (refine mb_lt hI ?_; with_reducible assumption) | (refine m6_in hI ?_; with_reducible assumption))) gc_X1_83 hd_X1_isSuch ⟨Nat.le_of_ble_eq_true rfl, Nat.le_of_ble_eq_true rfl⟩ rfl hl.1 (Nat.le_of_ble_eq_true rfl) ⟨Nat.le_refl 0, Nat.le_refl 0⟩ dX1_put_34 (fun H locs hS => ?_)
          refine lv_if_ne (tgt := 44) hx hb dX1_put_37 (by decide) (fun h37 => ?_) (fun h37 => ?_)
          · refine lv_iconst (v := 1) hx hb dX1_put_44 (by decide) ?_
            refine EnM.calli (r := (fm_fails u 1).1) (u2 := (fm_fails u 1).2) E hS [.int 1] [] (kX1_fails l D ad ca g u 1 ) gc_X1_75 hd_X1_fails ⟨Nat.le_of_ble_eq_true rfl, Nat.le_of_ble_eq_true rfl⟩ rfl hl.1 (Nat.le_of_ble_eq_true rfl) ⟨Nat.le_refl 0, Nat.le_refl 0⟩ dX1_put_45 (fun H locs hS => ?_)
            exact EnM.iret E hS (ni_i _) (by first | (simp only [fm_put, if_neg h5, if_neg h13, if_pos h21, if_neg h27, if_neg h37]; done) | (unfold fm_put; rw [if_neg h5, if_neg h13, if_pos h21, if_neg h27, if_neg h37])) dX1_put_48
          · refine lv_iconst (v := 2) hx hb dX1_put_40 (by decide) ?_
            refine lv_goto (tgt := 45) hx hb dX1_put_41 (by decide) ?_
            refine EnM.calli (r := (fm_fails u 2).1) (u2 := (fm_fails u 2).2) E hS [.int 2] [] (kX1_fails l D ad ca g u 2 ) gc_X1_75 hd_X1_fails ⟨Nat.le_of_ble_eq_true rfl, Nat.le_of_ble_eq_true rfl⟩ rfl hl.1 (Nat.le_of_ble_eq_true rfl) ⟨Nat.le_refl 0, Nat.le_refl 0⟩ dX1_put_45 (fun H locs hS => ?_)
            exact EnM.iret E hS (ni_i _) (by first | (simp only [fm_put, if_neg h5, if_neg h13, if_pos h21, if_neg h27, if_pos h37]; done) | (unfold fm_put; rw [if_neg h5, if_neg h13, if_pos h21, if_neg h27, if_pos h37])) dX1_put_48
    · refine lv_bipush (v := (-2)) hx hb dX1_put_16 (by decide) ?_
      exact EnM.iret E hS (ni_i _) (by first | (simp only [fm_put, if_neg h5, if_pos h13]; done) | (unfold fm_put; rw [if_neg h5, if_pos h13])) dX1_put_18
def fm_get (u : MS) (q_r : Int32) (q_i : Int32) : Int32 × MS := if (fm_mayBe u q_r) = 0 then ((-2), u) else (if q_r = (-1) then ((fm_fails u 1).1, (fm_fails u 1).2) else (if (m_depths u (q_r).toNatClampNeg) = 0 then ((fm_fails u 2).1, (fm_fails u 2).2) else (if (fm_isLedger u q_r) = 0 then (if (fm_isIn q_i 0 ((m_sizes u (q_r).toNatClampNeg) - 1)) = 0 then ((fm_fails u 3).1, (fm_fails u 3).2) else (m_lies u ((8 * q_r) + q_i).toNatClampNeg, u)) else ((fm_fails u 2).1, (fm_fails u 2).2))))
theorem hd_X1_get : yX1_get.cls = RX1 ∧ yX1_get.cls ≠ "java/lang/invoke/MethodHandle" ∧ yX1_get.cls ≠ "java/lang/invoke/VarHandle" ∧ (parseMethodDescriptor yX1_get.desc).map (fun d => d.parameters.length) = some 2 := by decide +kernel
set_option maxRecDepth 100000 in
set_option maxHeartbeats 4000000 in
theorem kX1_get (l : Launch) (D : va_G) (ad : Nat → Nat) (ca : Nat → ClassId) (g : Nat) (u : MS) (q_r : Int32) (q_i : Int32) (hI : MI u) : CiM l yX1_get cX1_get 3 .int 3 D ad ca g [.int q_r, .int q_i] u (fm_get u q_r q_i) := by
  refine CiM.of (by decide) rfl (Nat.le_of_ble_eq_true rfl) ?_
  intro p e s m below meth c A ls E hS hl
  have hx := E.1.1
  have hb := E.1.2.1
  have hml := E.1.2.2.1
  have hown := E.1.2.2.2.1
  have hts := E.1.2.2.2.2
  have hl : lv_has ls 3 [(0, .ref (ad 0)), (1, .int q_r), (2, .int q_i)] := hl
  refine lv_aload_n hx hb dX1_get_0 rfl (lv_at hl 0 rfl) ?_
  refine lv_iload_n hx hb dX1_get_1 rfl (lv_at hl 1 rfl) ?_
  refine EnM.calli (r := fm_mayBe u q_r) (u2 := u) E hS [.int q_r] [] (kX1_mayBe l D ad ca g u q_r ) gc_X1_79 hd_X1_mayBe ⟨Nat.le_of_ble_eq_true rfl, Nat.le_of_ble_eq_true rfl⟩ rfl hl.1 (Nat.le_of_ble_eq_true rfl) ⟨Nat.le_refl 0, Nat.le_refl 0⟩ dX1_get_2 (fun H locs hS => ?_)
  refine lv_if_ne (tgt := 11) hx hb dX1_get_5 (by decide) (fun h5 => ?_) (fun h5 => ?_)
  · refine lv_iload_n hx hb dX1_get_11 rfl (lv_at hl 1 rfl) ?_
    refine lv_iconst (v := (-1)) hx hb dX1_get_12 (by decide) ?_
    refine lv_icmp_ne (tgt := 22) hx hb dX1_get_13 (by decide) (fun h13 => ?_) (fun h13 => ?_)
    · refine lv_aload_n hx hb dX1_get_22 rfl (lv_at hl 0 rfl) ?_
      refine gM_depths E hS dX1_get_23 ?_
      refine lv_iload_n hx hb dX1_get_26 rfl (lv_at hl 1 rfl) ?_
      refine lM_depths (v := m_depths u (q_r).toNatClampNeg) E hS (show vp_in q_r 60 from by first | with_reducible assumption | (refine mt_in hI ?_; with_reducible assumption) | (refine mn_in hI ?_ ?_ <;> with_reducible assumption) | (refine mb_lt hI ?_; with_reducible assumption) | (refine m6_in hI ?_; with_reducible assumption)) rfl dX1_get_27 ?_
      refine lv_if_eq (tgt := 39) hx hb dX1_get_28 (by decide) (fun h28 => ?_) (fun h28 => ?_)
      · refine lv_aload_n hx hb dX1_get_39 rfl (lv_at hl 0 rfl) ?_
        refine lv_iconst (v := 2) hx hb dX1_get_40 (by decide) ?_
        refine EnM.calli (r := (fm_fails u 2).1) (u2 := (fm_fails u 2).2) E hS [.int 2] [] (kX1_fails l D ad ca g u 2 ) gc_X1_75 hd_X1_fails ⟨Nat.le_of_ble_eq_true rfl, Nat.le_of_ble_eq_true rfl⟩ rfl hl.1 (Nat.le_of_ble_eq_true rfl) ⟨Nat.le_refl 0, Nat.le_refl 0⟩ dX1_get_41 (fun H locs hS => ?_)
        exact EnM.iret E hS (ni_i _) (by first | (simp only [fm_get, if_neg h5, if_neg h13, if_pos h28]; done) | (unfold fm_get; rw [if_neg h5, if_neg h13, if_pos h28])) dX1_get_44
      · refine lv_aload_n hx hb dX1_get_31 rfl (lv_at hl 0 rfl) ?_
        refine lv_iload_n hx hb dX1_get_32 rfl (lv_at hl 1 rfl) ?_
        refine EnM.calli (r := fm_isLedger u q_r) (u2 := u) E hS [.int q_r] [] (kX1_isLedger l D ad ca g u q_r (by first | with_reducible assumption | (refine mt_in hI ?_; with_reducible assumption) | (refine mn_in hI ?_ ?_ <;> with_reducible assumption) | (refine mb_lt hI ?_; with_reducible assumption) | (refine m6_in hI ?_; with_reducible assumption))) gc_X1_86 hd_X1_isLedger ⟨Nat.le_of_ble_eq_true rfl, Nat.le_of_ble_eq_true rfl⟩ rfl hl.1 (Nat.le_of_ble_eq_true rfl) ⟨Nat.le_refl 0, Nat.le_refl 0⟩ dX1_get_33 (fun H locs hS => ?_)
        refine lv_if_eq (tgt := 45) hx hb dX1_get_36 (by decide) (fun h36 => ?_) (fun h36 => ?_)
        · refine lv_iload_n hx hb dX1_get_45 rfl (lv_at hl 2 rfl) ?_
          refine lv_iconst (v := 0) hx hb dX1_get_46 (by decide) ?_
          refine lv_aload_n hx hb dX1_get_47 rfl (lv_at hl 0 rfl) ?_
          refine gM_sizes E hS dX1_get_48 ?_
          refine lv_iload_n hx hb dX1_get_51 rfl (lv_at hl 1 rfl) ?_
          refine lM_sizes (v := m_sizes u (q_r).toNatClampNeg) E hS (show vp_in q_r 60 from by first | with_reducible assumption | (refine mt_in hI ?_; with_reducible assumption) | (refine mn_in hI ?_ ?_ <;> with_reducible assumption) | (refine mb_lt hI ?_; with_reducible assumption) | (refine m6_in hI ?_; with_reducible assumption)) rfl dX1_get_52 ?_
          refine lv_iconst (v := 1) hx hb dX1_get_53 (by decide) ?_
          refine lv_isub hx hb dX1_get_54 ?_
          refine EnM.sti (r := fm_isIn q_i 0 ((m_sizes u (q_r).toNatClampNeg) - 1)) E hS [.int q_i, .int 0, .int ((m_sizes u (q_r).toNatClampNeg) - 1)] [] (kX1_isIn l q_i 0 ((m_sizes u (q_r).toNatClampNeg) - 1) ) (fun _ _ _ _ h => h) (fun _ _ _ => trivial) gc_X1_60 hd_X1_isIn ⟨Nat.le_of_ble_eq_true rfl, Nat.le_of_ble_eq_true rfl⟩ rfl hl.1 (Nat.le_of_ble_eq_true rfl) ⟨Nat.le_refl 0, Nat.le_refl 0⟩ dX1_get_55 (fun H locs hS => ?_)
          refine lv_if_eq (tgt := 75) hx hb dX1_get_58 (by decide) (fun h58 => ?_) (fun h58 => ?_)
          · refine lv_aload_n hx hb dX1_get_75 rfl (lv_at hl 0 rfl) ?_
            refine lv_iconst (v := 3) hx hb dX1_get_76 (by decide) ?_
            refine EnM.calli (r := (fm_fails u 3).1) (u2 := (fm_fails u 3).2) E hS [.int 3] [] (kX1_fails l D ad ca g u 3 ) gc_X1_75 hd_X1_fails ⟨Nat.le_of_ble_eq_true rfl, Nat.le_of_ble_eq_true rfl⟩ rfl hl.1 (Nat.le_of_ble_eq_true rfl) ⟨Nat.le_refl 0, Nat.le_refl 0⟩ dX1_get_77 (fun H locs hS => ?_)
            exact EnM.iret E hS (ni_i _) (by first | (simp only [fm_get, if_neg h5, if_neg h13, if_neg h28, if_pos h36, if_pos h58]; done) | (unfold fm_get; rw [if_neg h5, if_neg h13, if_neg h28, if_pos h36, if_pos h58])) dX1_get_80
          · refine lv_aload_n hx hb dX1_get_61 rfl (lv_at hl 0 rfl) ?_
            refine gM_lies E hS dX1_get_62 ?_
            refine lv_bipush (v := 8) hx hb dX1_get_65 (by decide) ?_
            refine lv_iload_n hx hb dX1_get_67 rfl (lv_at hl 1 rfl) ?_
            refine lv_imul hx hb dX1_get_68 ?_
            refine lv_iload_n hx hb dX1_get_69 rfl (lv_at hl 2 rfl) ?_
            refine lv_iadd hx hb dX1_get_70 ?_
            refine lM_lies (v := m_lies u ((8 * q_r) + q_i).toNatClampNeg) E hS (show vp_in ((8 * q_r) + q_i) 480 from mp_in hI (mn_in hI (by with_reducible assumption) (by with_reducible assumption)) (by with_reducible assumption)) rfl dX1_get_71 ?_
            refine lv_goto (tgt := 80) hx hb dX1_get_72 (by decide) ?_
            exact EnM.iret E hS (ni_i _) (by first | (simp only [fm_get, if_neg h5, if_neg h13, if_neg h28, if_pos h36, if_neg h58]; done) | (unfold fm_get; rw [if_neg h5, if_neg h13, if_neg h28, if_pos h36, if_neg h58])) dX1_get_80
        · refine lv_aload_n hx hb dX1_get_39 rfl (lv_at hl 0 rfl) ?_
          refine lv_iconst (v := 2) hx hb dX1_get_40 (by decide) ?_
          refine EnM.calli (r := (fm_fails u 2).1) (u2 := (fm_fails u 2).2) E hS [.int 2] [] (kX1_fails l D ad ca g u 2 ) gc_X1_75 hd_X1_fails ⟨Nat.le_of_ble_eq_true rfl, Nat.le_of_ble_eq_true rfl⟩ rfl hl.1 (Nat.le_of_ble_eq_true rfl) ⟨Nat.le_refl 0, Nat.le_refl 0⟩ dX1_get_41 (fun H locs hS => ?_)
          exact EnM.iret E hS (ni_i _) (by first | (simp only [fm_get, if_neg h5, if_neg h13, if_neg h28, if_neg h36]; done) | (unfold fm_get; rw [if_neg h5, if_neg h13, if_neg h28, if_neg h36])) dX1_get_44
    · refine lv_aload_n hx hb dX1_get_16 rfl (lv_at hl 0 rfl) ?_
      refine lv_iconst (v := 1) hx hb dX1_get_17 (by decide) ?_
      refine EnM.calli (r := (fm_fails u 1).1) (u2 := (fm_fails u 1).2) E hS [.int 1] [] (kX1_fails l D ad ca g u 1 ) gc_X1_75 hd_X1_fails ⟨Nat.le_of_ble_eq_true rfl, Nat.le_of_ble_eq_true rfl⟩ rfl hl.1 (Nat.le_of_ble_eq_true rfl) ⟨Nat.le_refl 0, Nat.le_refl 0⟩ dX1_get_18 (fun H locs hS => ?_)
      exact EnM.iret E hS (ni_i _) (by first | (simp only [fm_get, if_neg h5, if_pos h13]; done) | (unfold fm_get; rw [if_neg h5, if_pos h13])) dX1_get_21
  · refine lv_bipush (v := (-2)) hx hb dX1_get_8 (by decide) ?_
    exact EnM.iret E hS (ni_i _) (by first | (simp only [fm_get, if_pos h5]; done) | (unfold fm_get; rw [if_pos h5])) dX1_get_10
def fm_set (u : MS) (q_r : Int32) (q_i : Int32) (q_v : Int64) : Int32 × MS := if (fm_mayBe u q_r) = 0 then ((-2), u) else (if (fm_refused u q_r q_i) ≤ 0 then (if (m_bases u (q_r).toNatClampNeg) = 5 then (1, ms_numbers u (vp_updL (m_numbers u) ((8 * q_r) + q_i).toNatClampNeg (Int32.toInt64 (Int64.toInt32 q_v)))) else (1, ms_numbers u (vp_updL (m_numbers u) ((8 * q_r) + q_i).toNatClampNeg q_v))) else ((fm_fails u (fm_refused u q_r q_i)).1, (fm_fails u (fm_refused u q_r q_i)).2))
theorem hd_X1_set : yX1_set.cls = RX1 ∧ yX1_set.cls ≠ "java/lang/invoke/MethodHandle" ∧ yX1_set.cls ≠ "java/lang/invoke/VarHandle" ∧ (parseMethodDescriptor yX1_set.desc).map (fun d => d.parameters.length) = some 3 := by decide +kernel
set_option maxRecDepth 100000 in
set_option maxHeartbeats 4000000 in
theorem kX1_set (l : Launch) (D : va_G) (ad : Nat → Nat) (ca : Nat → ClassId) (g : Nat) (u : MS) (q_r : Int32) (q_i : Int32) (q_v : Int64) (hI : MI u) : CiM l yX1_set cX1_set 6 .int 3 D ad ca g [.int q_r, .int q_i, .long q_v] u (fm_set u q_r q_i q_v) := by
  refine CiM.of (by decide) rfl (Nat.le_of_ble_eq_true rfl) ?_
  intro p e s m below meth c A ls E hS hl
  have hx := E.1.1
  have hb := E.1.2.1
  have hml := E.1.2.2.1
  have hown := E.1.2.2.2.1
  have hts := E.1.2.2.2.2
  have hl : lv_has ls 6 [(0, .ref (ad 0)), (1, .int q_r), (2, .int q_i), (3, .long q_v)] := hl
  refine lv_aload_n hx hb dX1_set_0 rfl (lv_at hl 0 rfl) ?_
  refine lv_iload_n hx hb dX1_set_1 rfl (lv_at hl 1 rfl) ?_
  refine EnM.calli (r := fm_mayBe u q_r) (u2 := u) E hS [.int q_r] [] (kX1_mayBe l D ad ca g u q_r ) gc_X1_79 hd_X1_mayBe ⟨Nat.le_of_ble_eq_true rfl, Nat.le_of_ble_eq_true rfl⟩ rfl hl.1 (Nat.le_of_ble_eq_true rfl) ⟨Nat.le_refl 0, Nat.le_refl 0⟩ dX1_set_2 (fun H locs hS => ?_)
  refine lv_if_ne (tgt := 11) hx hb dX1_set_5 (by decide) (fun h5 => ?_) (fun h5 => ?_)
  · refine lv_aload_n hx hb dX1_set_11 rfl (lv_at hl 0 rfl) ?_
    refine lv_iload_n hx hb dX1_set_12 rfl (lv_at hl 1 rfl) ?_
    refine lv_iload_n hx hb dX1_set_13 rfl (lv_at hl 2 rfl) ?_
    refine EnM.calli (r := fm_refused u q_r q_i) (u2 := u) E hS [.int q_r, .int q_i] [] (kX1_refused l D ad ca g u q_r q_i (fun h => mn_in hI (by with_reducible assumption) h)) gc_X1_89 hd_X1_refused ⟨Nat.le_of_ble_eq_true rfl, Nat.le_of_ble_eq_true rfl⟩ rfl hl.1 (Nat.le_of_ble_eq_true rfl) ⟨Nat.le_refl 0, Nat.le_refl 0⟩ dX1_set_14 (fun H locs hS => ?_)
    refine lv_istore (lv' := [(5, .int (fm_refused u q_r q_i)), (0, .ref (ad 0)), (1, .int q_r), (2, .int q_i), (3, .long q_v)]) hx hb dX1_set_17 hl (by decide) rfl (fun ls hl => ?_)
    refine lv_iload hx hb dX1_set_19 (lv_at hl 0 rfl) ?_
    refine lv_if_le (tgt := 31) hx hb dX1_set_21 (by decide) (fun h21 => ?_) (fun h21 => ?_)
    · refine lv_aload_n hx hb dX1_set_31 rfl (lv_at hl 1 rfl) ?_
      refine gM_numbers E hS dX1_set_32 ?_
      refine lv_bipush (v := 8) hx hb dX1_set_35 (by decide) ?_
      refine lv_iload_n hx hb dX1_set_37 rfl (lv_at hl 2 rfl) ?_
      refine lv_imul hx hb dX1_set_38 ?_
      refine lv_iload_n hx hb dX1_set_39 rfl (lv_at hl 3 rfl) ?_
      refine lv_iadd hx hb dX1_set_40 ?_
      refine lv_aload_n hx hb dX1_set_41 rfl (lv_at hl 1 rfl) ?_
      refine gM_bases E hS dX1_set_42 ?_
      refine lv_iload_n hx hb dX1_set_45 rfl (lv_at hl 2 rfl) ?_
      refine lM_bases (v := m_bases u (q_r).toNatClampNeg) E hS (show vp_in q_r 60 from mn_in hI (by with_reducible assumption) (mr_0 (mr_le h21)).1) rfl dX1_set_46 ?_
      refine lv_iconst (v := 5) hx hb dX1_set_47 (by decide) ?_
      refine lv_icmp_ne (tgt := 57) hx hb dX1_set_48 (by decide) (fun h48 => ?_) (fun h48 => ?_)
      · refine lv_lload_n hx hb dX1_set_57 rfl (lv_at hl 4 rfl) ?_
        refine sM_numbers E hS (show vp_in ((8 * q_r) + q_i) 480 from mr_in hI (by with_reducible assumption) (mr_le h21)) dX1_set_58 (fun H locs hS => ?_)
        have hS : SM D ad ca A s (ms_numbers u (vp_updL (m_numbers u) ((8 * q_r) + q_i).toNatClampNeg q_v)) H locs := hS
        refine lv_iconst (v := 1) hx hb dX1_set_59 (by decide) ?_
        exact EnM.iret E hS (ni_i _) (by first | (simp only [fm_set, if_neg h5, if_pos h21, if_neg h48]; done) | (unfold fm_set; rw [if_neg h5, if_pos h21, if_neg h48])) dX1_set_60
      · refine lv_lload_n hx hb dX1_set_51 rfl (lv_at hl 4 rfl) ?_
        refine lv_l2i (v := Int64.toInt32 q_v) hx hb dX1_set_52 rfl ?_
        refine lv_i2l (v := Int32.toInt64 (Int64.toInt32 q_v)) hx hb dX1_set_53 rfl ?_
        refine lv_goto (tgt := 58) hx hb dX1_set_54 (by decide) ?_
        refine sM_numbers E hS (show vp_in ((8 * q_r) + q_i) 480 from mr_in hI (by with_reducible assumption) (mr_le h21)) dX1_set_58 (fun H locs hS => ?_)
        have hS : SM D ad ca A s (ms_numbers u (vp_updL (m_numbers u) ((8 * q_r) + q_i).toNatClampNeg (Int32.toInt64 (Int64.toInt32 q_v)))) H locs := hS
        refine lv_iconst (v := 1) hx hb dX1_set_59 (by decide) ?_
        exact EnM.iret E hS (ni_i _) (by first | (simp only [fm_set, if_neg h5, if_pos h21, if_pos h48]; done) | (unfold fm_set; rw [if_neg h5, if_pos h21, if_pos h48])) dX1_set_60
    · refine lv_aload_n hx hb dX1_set_24 rfl (lv_at hl 1 rfl) ?_
      refine lv_iload hx hb dX1_set_25 (lv_at hl 0 rfl) ?_
      refine EnM.calli (r := (fm_fails u (fm_refused u q_r q_i)).1) (u2 := (fm_fails u (fm_refused u q_r q_i)).2) E hS [.int (fm_refused u q_r q_i)] [] (kX1_fails l D ad ca g u (fm_refused u q_r q_i) ) gc_X1_75 hd_X1_fails ⟨Nat.le_of_ble_eq_true rfl, Nat.le_of_ble_eq_true rfl⟩ rfl hl.1 (Nat.le_of_ble_eq_true rfl) ⟨Nat.le_refl 0, Nat.le_refl 0⟩ dX1_set_27 (fun H locs hS => ?_)
      exact EnM.iret E hS (ni_i _) (by first | (simp only [fm_set, if_neg h5, if_neg h21]; done) | (unfold fm_set; rw [if_neg h5, if_neg h21])) dX1_set_30
  · refine lv_bipush (v := (-2)) hx hb dX1_set_8 (by decide) ?_
    exact EnM.iret E hS (ni_i _) (by first | (simp only [fm_set, if_pos h5]; done) | (unfold fm_set; rw [if_pos h5])) dX1_set_10
def fm_number (u : MS) (q_r : Int32) (q_i : Int32) : Int64 := if (fm_mayBe u q_r) = 0 then 0 else (if (fm_refused u q_r q_i) = 0 then m_numbers u ((8 * q_r) + q_i).toNatClampNeg else 0)
theorem hd_X1_number : yX1_number.cls = RX1 ∧ yX1_number.cls ≠ "java/lang/invoke/MethodHandle" ∧ yX1_number.cls ≠ "java/lang/invoke/VarHandle" ∧ (parseMethodDescriptor yX1_number.desc).map (fun d => d.parameters.length) = some 2 := by decide +kernel
set_option maxRecDepth 100000 in
set_option maxHeartbeats 4000000 in
theorem kX1_number (l : Launch) (D : va_G) (ad : Nat → Nat) (ca : Nat → ClassId) (g : Nat) (u : MS) (q_r : Int32) (q_i : Int32) (hI : MI u) : ClM l yX1_number cX1_number 3 3 D ad ca g [.int q_r, .int q_i] u ((fm_number u q_r q_i, u)) := by
  refine ClM.of (by decide) rfl (Nat.le_of_ble_eq_true rfl) ?_
  intro p e s m below meth c A ls E hS hl
  have hx := E.1.1
  have hb := E.1.2.1
  have hml := E.1.2.2.1
  have hown := E.1.2.2.2.1
  have hts := E.1.2.2.2.2
  have hl : lv_has ls 3 [(0, .ref (ad 0)), (1, .int q_r), (2, .int q_i)] := hl
  refine lv_aload_n hx hb dX1_number_0 rfl (lv_at hl 0 rfl) ?_
  refine lv_iload_n hx hb dX1_number_1 rfl (lv_at hl 1 rfl) ?_
  refine EnM.calli (r := fm_mayBe u q_r) (u2 := u) E hS [.int q_r] [] (kX1_mayBe l D ad ca g u q_r ) gc_X1_79 hd_X1_mayBe ⟨Nat.le_of_ble_eq_true rfl, Nat.le_of_ble_eq_true rfl⟩ rfl hl.1 (Nat.le_of_ble_eq_true rfl) ⟨Nat.le_refl 0, Nat.le_refl 0⟩ dX1_number_2 (fun H locs hS => ?_)
  refine lv_if_eq (tgt := 31) hx hb dX1_number_5 (by decide) (fun h5 => ?_) (fun h5 => ?_)
  · refine lv_lconst (v := 0) hx hb dX1_number_31 (by decide) ?_
    exact EnM.lret E hS (congrArg (fun z => (z, u)) (show (0 : Int64) = fm_number u q_r q_i by unfold fm_number; rw [if_pos h5])) dX1_number_32
  · refine lv_aload_n hx hb dX1_number_8 rfl (lv_at hl 0 rfl) ?_
    refine lv_iload_n hx hb dX1_number_9 rfl (lv_at hl 1 rfl) ?_
    refine lv_iload_n hx hb dX1_number_10 rfl (lv_at hl 2 rfl) ?_
    refine EnM.calli (r := fm_refused u q_r q_i) (u2 := u) E hS [.int q_r, .int q_i] [] (kX1_refused l D ad ca g u q_r q_i (fun h => mn_in hI (by with_reducible assumption) h)) gc_X1_89 hd_X1_refused ⟨Nat.le_of_ble_eq_true rfl, Nat.le_of_ble_eq_true rfl⟩ rfl hl.1 (Nat.le_of_ble_eq_true rfl) ⟨Nat.le_refl 0, Nat.le_refl 0⟩ dX1_number_11 (fun H locs hS => ?_)
    refine lv_if_ne (tgt := 31) hx hb dX1_number_14 (by decide) (fun h14 => ?_) (fun h14 => ?_)
    · refine lv_lconst (v := 0) hx hb dX1_number_31 (by decide) ?_
      exact EnM.lret E hS (congrArg (fun z => (z, u)) (show (0 : Int64) = fm_number u q_r q_i by unfold fm_number; rw [if_neg h5, if_neg h14])) dX1_number_32
    · refine lv_aload_n hx hb dX1_number_17 rfl (lv_at hl 0 rfl) ?_
      refine gM_numbers E hS dX1_number_18 ?_
      refine lv_bipush (v := 8) hx hb dX1_number_21 (by decide) ?_
      refine lv_iload_n hx hb dX1_number_23 rfl (lv_at hl 1 rfl) ?_
      refine lv_imul hx hb dX1_number_24 ?_
      refine lv_iload_n hx hb dX1_number_25 rfl (lv_at hl 2 rfl) ?_
      refine lv_iadd hx hb dX1_number_26 ?_
      refine lM_numbers (v := m_numbers u ((8 * q_r) + q_i).toNatClampNeg) E hS (show vp_in ((8 * q_r) + q_i) 480 from mr_in hI (by with_reducible assumption) h14) rfl dX1_number_27 ?_
      refine lv_goto (tgt := 32) hx hb dX1_number_28 (by decide) ?_
      exact EnM.lret E hS (congrArg (fun z => (z, u)) (show m_numbers u ((8 * q_r) + q_i).toNatClampNeg = fm_number u q_r q_i by unfold fm_number; rw [if_neg h5, if_pos h14])) dX1_number_32
def fm_is (u : MS) (q_x : Int32) (q_base : Int32) (q_depth : Int32) : Int32 := if (fm_mayBe u q_x) = 0 then (-2) else (if (fm_isAsked q_base q_depth) = 0 then (-2) else (if (fm_isSuch u q_x q_base q_depth) = 0 then 0 else 1))
theorem hd_X1_is : yX1_is.cls = RX1 ∧ yX1_is.cls ≠ "java/lang/invoke/MethodHandle" ∧ yX1_is.cls ≠ "java/lang/invoke/VarHandle" ∧ (parseMethodDescriptor yX1_is.desc).map (fun d => d.parameters.length) = some 3 := by decide +kernel
set_option maxRecDepth 100000 in
set_option maxHeartbeats 4000000 in
theorem kX1_is (l : Launch) (D : va_G) (ad : Nat → Nat) (ca : Nat → ClassId) (g : Nat) (u : MS) (q_x : Int32) (q_base : Int32) (q_depth : Int32) (hI : MI u) : CiM l yX1_is cX1_is 4 .int 4 D ad ca g [.int q_x, .int q_base, .int q_depth] u ((fm_is u q_x q_base q_depth, u)) := by
  refine CiM.of (by decide) rfl (Nat.le_of_ble_eq_true rfl) ?_
  intro p e s m below meth c A ls E hS hl
  have hx := E.1.1
  have hb := E.1.2.1
  have hml := E.1.2.2.1
  have hown := E.1.2.2.2.1
  have hts := E.1.2.2.2.2
  have hl : lv_has ls 4 [(0, .ref (ad 0)), (1, .int q_x), (2, .int q_base), (3, .int q_depth)] := hl
  refine lv_aload_n hx hb dX1_is_0 rfl (lv_at hl 0 rfl) ?_
  refine lv_iload_n hx hb dX1_is_1 rfl (lv_at hl 1 rfl) ?_
  refine EnM.calli (r := fm_mayBe u q_x) (u2 := u) E hS [.int q_x] [] (kX1_mayBe l D ad ca g u q_x ) gc_X1_79 hd_X1_mayBe ⟨Nat.le_of_ble_eq_true rfl, Nat.le_of_ble_eq_true rfl⟩ rfl hl.1 (Nat.le_of_ble_eq_true rfl) ⟨Nat.le_refl 0, Nat.le_refl 0⟩ dX1_is_2 (fun H locs hS => ?_)
  refine lv_if_eq (tgt := 16) hx hb dX1_is_5 (by decide) (fun h5 => ?_) (fun h5 => ?_)
  · refine lv_bipush (v := (-2)) hx hb dX1_is_16 (by decide) ?_
    exact EnM.iret E hS (ni_i _) (congrArg (fun z => (z, u)) (show ((-2) : Int32) = fm_is u q_x q_base q_depth by unfold fm_is; rw [if_pos h5])) dX1_is_18
  · refine lv_iload_n hx hb dX1_is_8 rfl (lv_at hl 2 rfl) ?_
    refine lv_iload_n hx hb dX1_is_9 rfl (lv_at hl 3 rfl) ?_
    refine EnM.sti (r := fm_isAsked q_base q_depth) E hS [.int q_base, .int q_depth] [] (kX1_isAsked l q_base q_depth ) (fun _ _ _ _ h => h) (fun _ _ _ => trivial) gc_X1_93 hd_X1_isAsked ⟨Nat.le_of_ble_eq_true rfl, Nat.le_of_ble_eq_true rfl⟩ rfl hl.1 (Nat.le_of_ble_eq_true rfl) ⟨Nat.le_refl 0, Nat.le_refl 0⟩ dX1_is_10 (fun H locs hS => ?_)
    refine lv_if_ne (tgt := 19) hx hb dX1_is_13 (by decide) (fun h13 => ?_) (fun h13 => ?_)
    · refine lv_aload_n hx hb dX1_is_19 rfl (lv_at hl 0 rfl) ?_
      refine lv_iload_n hx hb dX1_is_20 rfl (lv_at hl 1 rfl) ?_
      refine lv_iload_n hx hb dX1_is_21 rfl (lv_at hl 2 rfl) ?_
      refine lv_iload_n hx hb dX1_is_22 rfl (lv_at hl 3 rfl) ?_
      refine EnM.calli (r := fm_isSuch u q_x q_base q_depth) (u2 := u) E hS [.int q_x, .int q_base, .int q_depth] [] (kX1_isSuch l D ad ca g u q_x q_base q_depth (by first | with_reducible assumption | (refine mt_in hI ?_; with_reducible assumption) | (refine mn_in hI ?_ ?_ <;> with_reducible assumption) | (refine mb_lt hI ?_; with_reducible assumption) | (refine m6_in hI ?_; with_reducible assumption))) gc_X1_83 hd_X1_isSuch ⟨Nat.le_of_ble_eq_true rfl, Nat.le_of_ble_eq_true rfl⟩ rfl hl.1 (Nat.le_of_ble_eq_true rfl) ⟨Nat.le_refl 0, Nat.le_refl 0⟩ dX1_is_23 (fun H locs hS => ?_)
      refine lv_if_eq (tgt := 33) hx hb dX1_is_26 (by decide) (fun h26 => ?_) (fun h26 => ?_)
      · refine lv_iconst (v := 0) hx hb dX1_is_33 (by decide) ?_
        exact EnM.iret E hS (ni_i _) (congrArg (fun z => (z, u)) (show (0 : Int32) = fm_is u q_x q_base q_depth by unfold fm_is; rw [if_neg h5, if_neg h13, if_pos h26])) dX1_is_34
      · refine lv_iconst (v := 1) hx hb dX1_is_29 (by decide) ?_
        refine lv_goto (tgt := 34) hx hb dX1_is_30 (by decide) ?_
        exact EnM.iret E hS (ni_i _) (congrArg (fun z => (z, u)) (show (1 : Int32) = fm_is u q_x q_base q_depth by unfold fm_is; rw [if_neg h5, if_neg h13, if_neg h26])) dX1_is_34
    · refine lv_bipush (v := (-2)) hx hb dX1_is_16 (by decide) ?_
      exact EnM.iret E hS (ni_i _) (congrArg (fun z => (z, u)) (show ((-2) : Int32) = fm_is u q_x q_base q_depth by unfold fm_is; rw [if_neg h5, if_pos h13])) dX1_is_18
def fm_door (u : MS) (q_k : Int32) (q_base : Int32) (q_depth : Int32) : Int32 × MS := if (fm_isIn q_k 0 7) = 0 then ((-2), u) else (if (fm_isAsked q_base q_depth) = 0 then ((-2), u) else (1, ms_doorDepth (ms_doorBase u (upd (m_doorBase u) (q_k).toNatClampNeg q_base)) (upd (m_doorDepth u) (q_k).toNatClampNeg q_depth)))
theorem hd_X1_door : yX1_door.cls = RX1 ∧ yX1_door.cls ≠ "java/lang/invoke/MethodHandle" ∧ yX1_door.cls ≠ "java/lang/invoke/VarHandle" ∧ (parseMethodDescriptor yX1_door.desc).map (fun d => d.parameters.length) = some 3 := by decide +kernel
set_option maxRecDepth 100000 in
set_option maxHeartbeats 4000000 in
theorem kX1_door (l : Launch) (D : va_G) (ad : Nat → Nat) (ca : Nat → ClassId) (g : Nat) (u : MS) (q_k : Int32) (q_base : Int32) (q_depth : Int32) (hI : MI u) : CiM l yX1_door cX1_door 4 .int 3 D ad ca g [.int q_k, .int q_base, .int q_depth] u (fm_door u q_k q_base q_depth) := by
  refine CiM.of (by decide) rfl (Nat.le_of_ble_eq_true rfl) ?_
  intro p e s m below meth c A ls E hS hl
  have hx := E.1.1
  have hb := E.1.2.1
  have hml := E.1.2.2.1
  have hown := E.1.2.2.2.1
  have hts := E.1.2.2.2.2
  have hl : lv_has ls 4 [(0, .ref (ad 0)), (1, .int q_k), (2, .int q_base), (3, .int q_depth)] := hl
  refine lv_iload_n hx hb dX1_door_0 rfl (lv_at hl 1 rfl) ?_
  refine lv_iconst (v := 0) hx hb dX1_door_1 (by decide) ?_
  refine lv_bipush (v := 7) hx hb dX1_door_2 (by decide) ?_
  refine EnM.sti (r := fm_isIn q_k 0 7) E hS [.int q_k, .int 0, .int 7] [] (kX1_isIn l q_k 0 7 ) (fun _ _ _ _ h => h) (fun _ _ _ => trivial) gc_X1_60 hd_X1_isIn ⟨Nat.le_of_ble_eq_true rfl, Nat.le_of_ble_eq_true rfl⟩ rfl hl.1 (Nat.le_of_ble_eq_true rfl) ⟨Nat.le_refl 0, Nat.le_refl 0⟩ dX1_door_4 (fun H locs hS => ?_)
  refine lv_if_eq (tgt := 18) hx hb dX1_door_7 (by decide) (fun h7 => ?_) (fun h7 => ?_)
  · refine lv_bipush (v := (-2)) hx hb dX1_door_18 (by decide) ?_
    exact EnM.iret E hS (ni_i _) (by first | (simp only [fm_door, if_pos h7]; done) | (unfold fm_door; rw [if_pos h7])) dX1_door_20
  · refine lv_iload_n hx hb dX1_door_10 rfl (lv_at hl 2 rfl) ?_
    refine lv_iload_n hx hb dX1_door_11 rfl (lv_at hl 3 rfl) ?_
    refine EnM.sti (r := fm_isAsked q_base q_depth) E hS [.int q_base, .int q_depth] [] (kX1_isAsked l q_base q_depth ) (fun _ _ _ _ h => h) (fun _ _ _ => trivial) gc_X1_93 hd_X1_isAsked ⟨Nat.le_of_ble_eq_true rfl, Nat.le_of_ble_eq_true rfl⟩ rfl hl.1 (Nat.le_of_ble_eq_true rfl) ⟨Nat.le_refl 0, Nat.le_refl 0⟩ dX1_door_12 (fun H locs hS => ?_)
    refine lv_if_ne (tgt := 21) hx hb dX1_door_15 (by decide) (fun h15 => ?_) (fun h15 => ?_)
    · refine lv_aload_n hx hb dX1_door_21 rfl (lv_at hl 0 rfl) ?_
      refine gM_doorBase E hS dX1_door_22 ?_
      refine lv_iload_n hx hb dX1_door_25 rfl (lv_at hl 1 rfl) ?_
      refine lv_iload_n hx hb dX1_door_26 rfl (lv_at hl 2 rfl) ?_
      refine sM_doorBase E hS (show vp_in q_k 8 from md_in h7) dX1_door_27 (fun H locs hS => ?_)
      have hS : SM D ad ca A s (ms_doorBase u (upd (m_doorBase u) (q_k).toNatClampNeg q_base)) H locs := hS
      refine lv_aload_n hx hb dX1_door_28 rfl (lv_at hl 0 rfl) ?_
      refine gM_doorDepth E hS dX1_door_29 ?_
      refine lv_iload_n hx hb dX1_door_32 rfl (lv_at hl 1 rfl) ?_
      refine lv_iload_n hx hb dX1_door_33 rfl (lv_at hl 3 rfl) ?_
      refine sM_doorDepth E hS (show vp_in q_k 8 from md_in h7) dX1_door_34 (fun H locs hS => ?_)
      have hS : SM D ad ca A s (ms_doorDepth (ms_doorBase u (upd (m_doorBase u) (q_k).toNatClampNeg q_base)) (upd (m_doorDepth u) (q_k).toNatClampNeg q_depth)) H locs := hS
      refine lv_iconst (v := 1) hx hb dX1_door_35 (by decide) ?_
      exact EnM.iret E hS (ni_i _) (by first | (simp only [fm_door, if_neg h7, if_neg h15]; done) | (unfold fm_door; rw [if_neg h7, if_neg h15])) dX1_door_36
    · refine lv_bipush (v := (-2)) hx hb dX1_door_18 (by decide) ?_
      exact EnM.iret E hS (ni_i _) (by first | (simp only [fm_door, if_neg h7, if_pos h15]; done) | (unfold fm_door; rw [if_neg h7, if_pos h15])) dX1_door_20
def fm_lastDoor (u : MS)  : Int32 := m_last u
theorem hd_X1_lastDoor : yX1_lastDoor.cls = RX1 ∧ yX1_lastDoor.cls ≠ "java/lang/invoke/MethodHandle" ∧ yX1_lastDoor.cls ≠ "java/lang/invoke/VarHandle" ∧ (parseMethodDescriptor yX1_lastDoor.desc).map (fun d => d.parameters.length) = some 0 := by decide +kernel
set_option maxRecDepth 100000 in
set_option maxHeartbeats 4000000 in
theorem kX1_lastDoor (l : Launch) (D : va_G) (ad : Nat → Nat) (ca : Nat → ClassId) (g : Nat) (u : MS)   : CiM l yX1_lastDoor cX1_lastDoor 1 .int 1 D ad ca g [] u ((fm_lastDoor u, u)) := by
  refine CiM.of (by decide) rfl (Nat.le_of_ble_eq_true rfl) ?_
  intro p e s m below meth c A ls E hS hl
  have hx := E.1.1
  have hb := E.1.2.1
  have hml := E.1.2.2.1
  have hown := E.1.2.2.2.1
  have hts := E.1.2.2.2.2
  have hl : lv_has ls 1 [(0, .ref (ad 0))] := hl
  refine lv_aload_n hx hb dX1_lastDoor_0 rfl (lv_at hl 0 rfl) ?_
  refine gM_last (v := m_last u) E hS rfl dX1_lastDoor_1 ?_
  exact EnM.iret E hS (ni_i _) (congrArg (fun z => (z, u)) (show m_last u = fm_lastDoor u by unfold fm_lastDoor; rfl)) dX1_lastDoor_4
def fm_about (u : MS) (q_x : Int32) (q_what : Int32) : Int32 := if (fm_isThing u q_x) = 0 then (-2) else (if (fm_isIn q_what 0 2) = 0 then (-2) else (if q_what = 0 then m_bases u (q_x).toNatClampNeg else (if q_what = 1 then m_depths u (q_x).toNatClampNeg else (if (m_depths u (q_x).toNatClampNeg) = 0 then (-1) else m_sizes u (q_x).toNatClampNeg))))
theorem hd_X1_about : yX1_about.cls = RX1 ∧ yX1_about.cls ≠ "java/lang/invoke/MethodHandle" ∧ yX1_about.cls ≠ "java/lang/invoke/VarHandle" ∧ (parseMethodDescriptor yX1_about.desc).map (fun d => d.parameters.length) = some 2 := by decide +kernel
set_option maxRecDepth 100000 in
set_option maxHeartbeats 4000000 in
theorem kX1_about (l : Launch) (D : va_G) (ad : Nat → Nat) (ca : Nat → ClassId) (g : Nat) (u : MS) (q_x : Int32) (q_what : Int32) (hI : MI u) : CiM l yX1_about cX1_about 3 .int 3 D ad ca g [.int q_x, .int q_what] u ((fm_about u q_x q_what, u)) := by
  refine CiM.of (by decide) rfl (Nat.le_of_ble_eq_true rfl) ?_
  intro p e s m below meth c A ls E hS hl
  have hx := E.1.1
  have hb := E.1.2.1
  have hml := E.1.2.2.1
  have hown := E.1.2.2.2.1
  have hts := E.1.2.2.2.2
  have hl : lv_has ls 3 [(0, .ref (ad 0)), (1, .int q_x), (2, .int q_what)] := hl
  refine lv_aload_n hx hb dX1_about_0 rfl (lv_at hl 0 rfl) ?_
  refine lv_iload_n hx hb dX1_about_1 rfl (lv_at hl 1 rfl) ?_
  refine EnM.calli (r := fm_isThing u q_x) (u2 := u) E hS [.int q_x] [] (kX1_isThing l D ad ca g u q_x ) gc_X1_104 hd_X1_isThing ⟨Nat.le_of_ble_eq_true rfl, Nat.le_of_ble_eq_true rfl⟩ rfl hl.1 (Nat.le_of_ble_eq_true rfl) ⟨Nat.le_refl 0, Nat.le_refl 0⟩ dX1_about_2 (fun H locs hS => ?_)
  refine lv_if_eq (tgt := 17) hx hb dX1_about_5 (by decide) (fun h5 => ?_) (fun h5 => ?_)
  · refine lv_bipush (v := (-2)) hx hb dX1_about_17 (by decide) ?_
    exact EnM.iret E hS (ni_i _) (congrArg (fun z => (z, u)) (show ((-2) : Int32) = fm_about u q_x q_what by unfold fm_about; rw [if_pos h5])) dX1_about_19
  · refine lv_iload_n hx hb dX1_about_8 rfl (lv_at hl 2 rfl) ?_
    refine lv_iconst (v := 0) hx hb dX1_about_9 (by decide) ?_
    refine lv_iconst (v := 2) hx hb dX1_about_10 (by decide) ?_
    refine EnM.sti (r := fm_isIn q_what 0 2) E hS [.int q_what, .int 0, .int 2] [] (kX1_isIn l q_what 0 2 ) (fun _ _ _ _ h => h) (fun _ _ _ => trivial) gc_X1_60 hd_X1_isIn ⟨Nat.le_of_ble_eq_true rfl, Nat.le_of_ble_eq_true rfl⟩ rfl hl.1 (Nat.le_of_ble_eq_true rfl) ⟨Nat.le_refl 0, Nat.le_refl 0⟩ dX1_about_11 (fun H locs hS => ?_)
    refine lv_if_ne (tgt := 20) hx hb dX1_about_14 (by decide) (fun h14 => ?_) (fun h14 => ?_)
    · refine lv_iload_n hx hb dX1_about_20 rfl (lv_at hl 2 rfl) ?_
      refine lv_if_ne (tgt := 33) hx hb dX1_about_21 (by decide) (fun h21 => ?_) (fun h21 => ?_)
      · refine lv_iload_n hx hb dX1_about_33 rfl (lv_at hl 2 rfl) ?_
        refine lv_iconst (v := 1) hx hb dX1_about_34 (by decide) ?_
        refine lv_icmp_ne (tgt := 47) hx hb dX1_about_35 (by decide) (fun h35 => ?_) (fun h35 => ?_)
        · refine lv_aload_n hx hb dX1_about_47 rfl (lv_at hl 0 rfl) ?_
          refine gM_depths E hS dX1_about_48 ?_
          refine lv_iload_n hx hb dX1_about_51 rfl (lv_at hl 1 rfl) ?_
          refine lM_depths (v := m_depths u (q_x).toNatClampNeg) E hS (show vp_in q_x 60 from by first | with_reducible assumption | (refine mt_in hI ?_; with_reducible assumption) | (refine mn_in hI ?_ ?_ <;> with_reducible assumption) | (refine mb_lt hI ?_; with_reducible assumption) | (refine m6_in hI ?_; with_reducible assumption)) rfl dX1_about_52 ?_
          refine lv_if_ne (tgt := 60) hx hb dX1_about_53 (by decide) (fun h53 => ?_) (fun h53 => ?_)
          · refine lv_aload_n hx hb dX1_about_60 rfl (lv_at hl 0 rfl) ?_
            refine gM_sizes E hS dX1_about_61 ?_
            refine lv_iload_n hx hb dX1_about_64 rfl (lv_at hl 1 rfl) ?_
            refine lM_sizes (v := m_sizes u (q_x).toNatClampNeg) E hS (show vp_in q_x 60 from by first | with_reducible assumption | (refine mt_in hI ?_; with_reducible assumption) | (refine mn_in hI ?_ ?_ <;> with_reducible assumption) | (refine mb_lt hI ?_; with_reducible assumption) | (refine m6_in hI ?_; with_reducible assumption)) rfl dX1_about_65 ?_
            exact EnM.iret E hS (ni_i _) (congrArg (fun z => (z, u)) (show m_sizes u (q_x).toNatClampNeg = fm_about u q_x q_what by unfold fm_about; rw [if_neg h5, if_neg h14, if_neg h21, if_neg h35, if_neg h53])) dX1_about_66
          · refine lv_iconst (v := (-1)) hx hb dX1_about_56 (by decide) ?_
            refine lv_goto (tgt := 66) hx hb dX1_about_57 (by decide) ?_
            exact EnM.iret E hS (ni_i _) (congrArg (fun z => (z, u)) (show ((-1) : Int32) = fm_about u q_x q_what by unfold fm_about; rw [if_neg h5, if_neg h14, if_neg h21, if_neg h35, if_pos h53])) dX1_about_66
        · refine lv_aload_n hx hb dX1_about_38 rfl (lv_at hl 0 rfl) ?_
          refine gM_depths E hS dX1_about_39 ?_
          refine lv_iload_n hx hb dX1_about_42 rfl (lv_at hl 1 rfl) ?_
          refine lM_depths (v := m_depths u (q_x).toNatClampNeg) E hS (show vp_in q_x 60 from by first | with_reducible assumption | (refine mt_in hI ?_; with_reducible assumption) | (refine mn_in hI ?_ ?_ <;> with_reducible assumption) | (refine mb_lt hI ?_; with_reducible assumption) | (refine m6_in hI ?_; with_reducible assumption)) rfl dX1_about_43 ?_
          refine lv_goto (tgt := 66) hx hb dX1_about_44 (by decide) ?_
          exact EnM.iret E hS (ni_i _) (congrArg (fun z => (z, u)) (show m_depths u (q_x).toNatClampNeg = fm_about u q_x q_what by unfold fm_about; rw [if_neg h5, if_neg h14, if_neg h21, if_pos h35])) dX1_about_66
      · refine lv_aload_n hx hb dX1_about_24 rfl (lv_at hl 0 rfl) ?_
        refine gM_bases E hS dX1_about_25 ?_
        refine lv_iload_n hx hb dX1_about_28 rfl (lv_at hl 1 rfl) ?_
        refine lM_bases (v := m_bases u (q_x).toNatClampNeg) E hS (show vp_in q_x 60 from by first | with_reducible assumption | (refine mt_in hI ?_; with_reducible assumption) | (refine mn_in hI ?_ ?_ <;> with_reducible assumption) | (refine mb_lt hI ?_; with_reducible assumption) | (refine m6_in hI ?_; with_reducible assumption)) rfl dX1_about_29 ?_
        refine lv_goto (tgt := 66) hx hb dX1_about_30 (by decide) ?_
        exact EnM.iret E hS (ni_i _) (congrArg (fun z => (z, u)) (show m_bases u (q_x).toNatClampNeg = fm_about u q_x q_what by unfold fm_about; rw [if_neg h5, if_neg h14, if_pos h21])) dX1_about_66
    · refine lv_bipush (v := (-2)) hx hb dX1_about_17 (by decide) ?_
      exact EnM.iret E hS (ni_i _) (congrArg (fun z => (z, u)) (show ((-2) : Int32) = fm_about u q_x q_what by unfold fm_about; rw [if_neg h5, if_pos h14])) dX1_about_19
def fm_count (u : MS) (q_what : Int32) : Int32 := if q_what = 0 then m_things u else (if q_what = 1 then m_failures u else (if q_what = 2 then m_latest u else (-2)))
theorem hd_X1_count : yX1_count.cls = RX1 ∧ yX1_count.cls ≠ "java/lang/invoke/MethodHandle" ∧ yX1_count.cls ≠ "java/lang/invoke/VarHandle" ∧ (parseMethodDescriptor yX1_count.desc).map (fun d => d.parameters.length) = some 1 := by decide +kernel
set_option maxRecDepth 100000 in
set_option maxHeartbeats 4000000 in
theorem kX1_count (l : Launch) (D : va_G) (ad : Nat → Nat) (ca : Nat → ClassId) (g : Nat) (u : MS) (q_what : Int32)  : CiM l yX1_count cX1_count 2 .int 1 D ad ca g [.int q_what] u ((fm_count u q_what, u)) := by
  refine CiM.of (by decide) rfl (Nat.le_of_ble_eq_true rfl) ?_
  intro p e s m below meth c A ls E hS hl
  have hx := E.1.1
  have hb := E.1.2.1
  have hml := E.1.2.2.1
  have hown := E.1.2.2.2.1
  have hts := E.1.2.2.2.2
  have hl : lv_has ls 2 [(0, .ref (ad 0)), (1, .int q_what)] := hl
  refine lv_iload_n hx hb dX1_count_0 rfl (lv_at hl 1 rfl) ?_
  refine lv_if_ne (tgt := 11) hx hb dX1_count_1 (by decide) (fun h1 => ?_) (fun h1 => ?_)
  · refine lv_iload_n hx hb dX1_count_11 rfl (lv_at hl 1 rfl) ?_
    refine lv_iconst (v := 1) hx hb dX1_count_12 (by decide) ?_
    refine lv_icmp_ne (tgt := 23) hx hb dX1_count_13 (by decide) (fun h13 => ?_) (fun h13 => ?_)
    · refine lv_iload_n hx hb dX1_count_23 rfl (lv_at hl 1 rfl) ?_
      refine lv_iconst (v := 2) hx hb dX1_count_24 (by decide) ?_
      refine lv_icmp_ne (tgt := 35) hx hb dX1_count_25 (by decide) (fun h25 => ?_) (fun h25 => ?_)
      · refine lv_bipush (v := (-2)) hx hb dX1_count_35 (by decide) ?_
        exact EnM.iret E hS (ni_i _) (congrArg (fun z => (z, u)) (show ((-2) : Int32) = fm_count u q_what by unfold fm_count; rw [if_neg h1, if_neg h13, if_neg h25])) dX1_count_37
      · refine lv_aload_n hx hb dX1_count_28 rfl (lv_at hl 0 rfl) ?_
        refine gM_latest (v := m_latest u) E hS rfl dX1_count_29 ?_
        refine lv_goto (tgt := 37) hx hb dX1_count_32 (by decide) ?_
        exact EnM.iret E hS (ni_i _) (congrArg (fun z => (z, u)) (show m_latest u = fm_count u q_what by unfold fm_count; rw [if_neg h1, if_neg h13, if_pos h25])) dX1_count_37
    · refine lv_aload_n hx hb dX1_count_16 rfl (lv_at hl 0 rfl) ?_
      refine gM_failures (v := m_failures u) E hS rfl dX1_count_17 ?_
      refine lv_goto (tgt := 37) hx hb dX1_count_20 (by decide) ?_
      exact EnM.iret E hS (ni_i _) (congrArg (fun z => (z, u)) (show m_failures u = fm_count u q_what by unfold fm_count; rw [if_neg h1, if_pos h13])) dX1_count_37
  · refine lv_aload_n hx hb dX1_count_4 rfl (lv_at hl 0 rfl) ?_
    refine gM_things (v := m_things u) E hS rfl dX1_count_5 ?_
    refine lv_goto (tgt := 37) hx hb dX1_count_8 (by decide) ?_
    exact EnM.iret E hS (ni_i _) (congrArg (fun z => (z, u)) (show m_things u = fm_count u q_what by unfold fm_count; rw [if_pos h1])) dX1_count_37
def fm_clear_L : Nat → MS → Int32 → Int32 → Int32 × MS
  | 0, w, v_1, v_2 => (0, w)
  | f_ + 1, w, v_1, v_2 => (if 8 ≤ v_2 then (v_1, w) else fm_clear_L f_ (ms_doorDepth (ms_doorBase w (upd (m_doorBase w) (v_2).toNatClampNeg 0)) (upd (m_doorDepth w) (v_2).toNatClampNeg 0)) v_1 (v_2 + 1))
set_option maxRecDepth 100000 in
set_option maxHeartbeats 4000000 in
theorem loop_X1_clear_L {p : Program} {e : Env} {s : State} {m : MethodId} {below : List Frame} {meth : Method} {c : Code} {args : Array Value} {A : Nat → Prop} (l : Launch) (D : va_G) (ad : Nat → Nat) (ca : Nat → ClassId) (g : Nat) (u : MS) (E : EnM p s m c args cX1_clear 3 meth (some .int) D ca g A) : ∀ (f_ : Nat) (w : MS) (v_1 : Int32) (v_2 : Int32), (0 ≤ v_2.toInt ∧ v_2.toInt ≤ 8) → 8 - v_2.toInt < (f_ : Int) → ∀ (H : Heap) (locs : List Loc) (ls : Array Slot), SM D ad ca A s w H locs → lv_has ls 3 [(0, .ref (ad 0)), (1, .int v_1), (2, .int v_2)] → W p l e (rk 1) s m args below meth c H locs 0 0 (MQ below (va_Qi (fun r' v => (r', v) = fm_clear_L f_ w v_1 v_2) (BkM D ad ca) A) args s 0 0 A) (F0 m 12 ls []) := by
  have hx := E.1.1
  have hb := E.1.2.1
  have hml := E.1.2.2.1
  have hown := E.1.2.2.2.1
  have hts := E.1.2.2.2.2
  intro f_
  induction f_ with
  | zero =>
    intro w v_1 v_2 hi hf H locs ls hS hl
    exfalso
    omega
  | succ f_ ih =>
    intro w v_1 v_2 hi hf H locs ls hS hl
    refine lv_iload_n hx hb dX1_clear_12 rfl (lv_at hl 2 rfl) ?_
    refine lv_bipush (v := 8) hx hb dX1_clear_13 (by decide) ?_
    refine lv_icmp_ge (tgt := 38) hx hb dX1_clear_15 (by decide) (fun h15 => ?_) (fun h15 => ?_)
    · refine lv_iload_n hx hb dX1_clear_38 rfl (lv_at hl 1 rfl) ?_
      exact EnM.iret E hS (ni_i _) (by rw [fm_clear_L, if_pos h15]) dX1_clear_39
    · have g15 := h15
      rw [le_ti, ti8] at g15
      refine lv_aload_n hx hb dX1_clear_18 rfl (lv_at hl 0 rfl) ?_
      refine gM_doorBase E hS dX1_clear_19 ?_
      refine lv_iload_n hx hb dX1_clear_22 rfl (lv_at hl 2 rfl) ?_
      refine lv_iconst (v := 0) hx hb dX1_clear_23 (by decide) ?_
      refine sM_doorBase E hS (show vp_in v_2 8 from (by rw [vp_in_iff]; omega)) dX1_clear_24 (fun H locs hS => ?_)
      have hS : SM D ad ca A s (ms_doorBase w (upd (m_doorBase w) (v_2).toNatClampNeg 0)) H locs := hS
      refine lv_aload_n hx hb dX1_clear_25 rfl (lv_at hl 0 rfl) ?_
      refine gM_doorDepth E hS dX1_clear_26 ?_
      refine lv_iload_n hx hb dX1_clear_29 rfl (lv_at hl 2 rfl) ?_
      refine lv_iconst (v := 0) hx hb dX1_clear_30 (by decide) ?_
      refine sM_doorDepth E hS (show vp_in v_2 8 from (by rw [vp_in_iff]; omega)) dX1_clear_31 (fun H locs hS => ?_)
      have hS : SM D ad ca A s (ms_doorDepth (ms_doorBase w (upd (m_doorBase w) (v_2).toNatClampNeg 0)) (upd (m_doorDepth w) (v_2).toNatClampNeg 0)) H locs := hS
      refine lv_iinc (v := v_2 + 1) (lv' := [(2, .int (v_2 + 1)), (0, .ref (ad 0)), (1, .int v_1)]) hx hb dX1_clear_32 hl (k := 2) rfl rfl (by decide) rfl (fun ls hl => ?_)
      refine lv_goto (tgt := 12) hx hb dX1_clear_35 (by decide) ?_
      have hr : fm_clear_L (f_ + 1) w v_1 v_2 = fm_clear_L f_ (ms_doorDepth (ms_doorBase w (upd (m_doorBase w) (v_2).toNatClampNeg 0)) (upd (m_doorDepth w) (v_2).toNatClampNeg 0)) v_1 (v_2 + 1) := by rw [fm_clear_L, if_neg h15]
      have e2 : (v_2 + 1).toInt = v_2.toInt + 1 := ti_inc (by omega) (by omega)
      rw [hr]
      exact ih (ms_doorDepth (ms_doorBase w (upd (m_doorBase w) (v_2).toNatClampNeg 0)) (upd (m_doorDepth w) (v_2).toNatClampNeg 0)) v_1 (v_2 + 1) (by omega) (by omega) _ _ ls hS (lv_sub hl [1, 2, 0] rfl)
def fm_clear (u : MS)  : Int32 × MS := fm_clear_L 9 (ms_things u 0) (m_things u) 0
theorem hd_X1_clear : yX1_clear.cls = RX1 ∧ yX1_clear.cls ≠ "java/lang/invoke/MethodHandle" ∧ yX1_clear.cls ≠ "java/lang/invoke/VarHandle" ∧ (parseMethodDescriptor yX1_clear.desc).map (fun d => d.parameters.length) = some 0 := by decide +kernel
set_option maxRecDepth 100000 in
set_option maxHeartbeats 4000000 in
theorem kX1_clear (l : Launch) (D : va_G) (ad : Nat → Nat) (ca : Nat → ClassId) (g : Nat) (u : MS)   : CiM l yX1_clear cX1_clear 3 .int 1 D ad ca g [] u (fm_clear u) := by
  refine CiM.of (by decide) rfl (Nat.le_of_ble_eq_true rfl) ?_
  intro p e s m below meth c A ls E hS hl
  have hx := E.1.1
  have hb := E.1.2.1
  have hml := E.1.2.2.1
  have hown := E.1.2.2.2.1
  have hts := E.1.2.2.2.2
  have hl : lv_has ls 3 [(0, .ref (ad 0))] := hl
  refine lv_aload_n hx hb dX1_clear_0 rfl (lv_at hl 0 rfl) ?_
  refine gM_things (v := m_things u) E hS rfl dX1_clear_1 ?_
  refine lv_istore_n (lv' := [(1, .int (m_things u)), (0, .ref (ad 0))]) hx hb dX1_clear_4 rfl hl (by decide) rfl (fun ls hl => ?_)
  refine lv_aload_n hx hb dX1_clear_5 rfl (lv_at hl 1 rfl) ?_
  refine lv_iconst (v := 0) hx hb dX1_clear_6 (by decide) ?_
  refine pM_things E hS dX1_clear_7 (fun H locs hS => ?_)
  have hS : SM D ad ca A s (ms_things u 0) H locs := hS
  refine lv_iconst (v := 0) hx hb dX1_clear_10 (by decide) ?_
  refine lv_istore_n (lv' := [(2, .int 0), (1, .int (m_things u)), (0, .ref (ad 0))]) hx hb dX1_clear_11 rfl hl (by decide) rfl (fun ls hl => ?_)
  have hr : fm_clear u = fm_clear_L 9 (ms_things u 0) (m_things u) 0 := by unfold fm_clear; rfl
  rw [hr]
  exact loop_X1_clear_L l D ad ca g u  E 9 (ms_things u 0) (m_things u) 0 (by rw [ti0]; omega) (by rw [ti0]; omega) _ _ ls hS (lv_sub hl [2, 1, 0] rfl)
def fm_bases_L : Nat → MS → Int32 → Int32 → Int32 → Int32
  | 0, u, q_x, v_2, v_3 => 0
  | f_ + 1, u, q_x, v_2, v_3 => (if 7 ≤ v_3 then v_2 else (if (fm_goesFor (m_bases u (q_x).toNatClampNeg) v_3) = 0 then fm_bases_L f_ u q_x (v_2 ||| 0) (v_3 + 1) else fm_bases_L f_ u q_x (v_2 ||| (1 <<< (v_3 &&& 31))) (v_3 + 1)))
set_option maxRecDepth 100000 in
set_option maxHeartbeats 4000000 in
theorem loop_X1_bases_L {p : Program} {e : Env} {s : State} {m : MethodId} {below : List Frame} {meth : Method} {c : Code} {args : Array Value} {A : Nat → Prop} (l : Launch) (D : va_G) (ad : Nat → Nat) (ca : Nat → ClassId) (g : Nat) (u : MS) (E : EnM p s m c args cX1_bases 4 meth (some .int) D ca g A) : ∀ (f_ : Nat) (q_x : Int32) (v_2 : Int32) (v_3 : Int32), vp_in q_x 60 → (0 ≤ v_3.toInt ∧ v_3.toInt ≤ 7) → 7 - v_3.toInt < (f_ : Int) → ∀ (H : Heap) (locs : List Loc) (ls : Array Slot), SM D ad ca A s u H locs → lv_has ls 4 [(0, .ref (ad 0)), (1, .int q_x), (2, .int v_2), (3, .int v_3)] → W p l e (rk 3) s m args below meth c H locs 0 0 (MQ below (va_Qi (fun r' v => (r', v) = (fm_bases_L f_ u q_x v_2 v_3, u)) (BkM D ad ca) A) args s 0 0 A) (F0 m 15 ls []) := by
  have hx := E.1.1
  have hb := E.1.2.1
  have hml := E.1.2.2.1
  have hown := E.1.2.2.2.1
  have hts := E.1.2.2.2.2
  intro f_
  induction f_ with
  | zero =>
    intro q_x v_2 v_3 hqx hi hf H locs ls hS hl
    exfalso
    omega
  | succ f_ ih =>
    intro q_x v_2 v_3 hqx hi hf H locs ls hS hl
    refine lv_iload_n hx hb dX1_bases_15 rfl (lv_at hl 3 rfl) ?_
    refine lv_bipush (v := 7) hx hb dX1_bases_16 (by decide) ?_
    refine lv_icmp_ge (tgt := 50) hx hb dX1_bases_18 (by decide) (fun h18 => ?_) (fun h18 => ?_)
    · refine lv_iload_n hx hb dX1_bases_50 rfl (lv_at hl 2 rfl) ?_
      exact EnM.iret E hS (ni_i _) (congrArg (fun z => (z, u)) (by rw [fm_bases_L, if_pos h18])) dX1_bases_51
    · have g18 := h18
      rw [le_ti, show (7 : Int32).toInt = 7 by decide] at g18
      refine lv_iload_n hx hb dX1_bases_21 rfl (lv_at hl 2 rfl) ?_
      refine lv_aload_n hx hb dX1_bases_22 rfl (lv_at hl 0 rfl) ?_
      refine gM_bases E hS dX1_bases_23 ?_
      refine lv_iload_n hx hb dX1_bases_26 rfl (lv_at hl 1 rfl) ?_
      refine lM_bases (v := m_bases u (q_x).toNatClampNeg) E hS (show vp_in q_x 60 from hqx) rfl dX1_bases_27 ?_
      refine lv_iload_n hx hb dX1_bases_28 rfl (lv_at hl 3 rfl) ?_
      refine EnM.sti (r := fm_goesFor (m_bases u (q_x).toNatClampNeg) v_3) E hS [.int (m_bases u (q_x).toNatClampNeg), .int v_3] [.int v_2] (kX1_goesFor l (m_bases u (q_x).toNatClampNeg) v_3 ) (fun _ _ _ _ h => h) (fun _ _ _ => trivial) gc_X1_64 hd_X1_goesFor ⟨Nat.le_of_ble_eq_true rfl, Nat.le_of_ble_eq_true rfl⟩ rfl hl.1 (Nat.le_of_ble_eq_true rfl) ⟨Nat.le_refl 0, Nat.le_refl 0⟩ dX1_bases_29 (fun H locs hS => ?_)
      refine lv_if_eq (tgt := 41) hx hb dX1_bases_32 (by decide) (fun h32 => ?_) (fun h32 => ?_)
      · refine lv_iconst (v := 0) hx hb dX1_bases_41 (by decide) ?_
        refine lv_ior hx hb dX1_bases_42 ?_
        refine lv_istore_n (lv' := [(2, .int (v_2 ||| 0)), (0, .ref (ad 0)), (1, .int q_x), (3, .int v_3)]) hx hb dX1_bases_43 rfl hl (by decide) rfl (fun ls hl => ?_)
        refine lv_iinc (v := v_3 + 1) (lv' := [(3, .int (v_3 + 1)), (2, .int (v_2 ||| 0)), (0, .ref (ad 0)), (1, .int q_x)]) hx hb dX1_bases_44 hl (k := 3) rfl rfl (by decide) rfl (fun ls hl => ?_)
        refine lv_goto (tgt := 15) hx hb dX1_bases_47 (by decide) ?_
        have hr : fm_bases_L (f_ + 1) u q_x v_2 v_3 = fm_bases_L f_ u q_x (v_2 ||| 0) (v_3 + 1) := by rw [fm_bases_L, if_neg h18, if_pos h32]
        have e2 : (v_3 + 1).toInt = v_3.toInt + 1 := ti_inc (by omega) (by omega)
        rw [hr]
        exact ih q_x (v_2 ||| 0) (v_3 + 1) hqx (by omega) (by omega) _ _ ls hS (lv_sub hl [2, 3, 1, 0] rfl)
      · refine lv_iconst (v := 1) hx hb dX1_bases_35 (by decide) ?_
        refine lv_iload_n hx hb dX1_bases_36 rfl (lv_at hl 3 rfl) ?_
        refine lv_ishl hx hb dX1_bases_37 ?_
        refine lv_goto (tgt := 42) hx hb dX1_bases_38 (by decide) ?_
        refine lv_ior hx hb dX1_bases_42 ?_
        refine lv_istore_n (lv' := [(2, .int (v_2 ||| (1 <<< (v_3 &&& 31)))), (0, .ref (ad 0)), (1, .int q_x), (3, .int v_3)]) hx hb dX1_bases_43 rfl hl (by decide) rfl (fun ls hl => ?_)
        refine lv_iinc (v := v_3 + 1) (lv' := [(3, .int (v_3 + 1)), (2, .int (v_2 ||| (1 <<< (v_3 &&& 31)))), (0, .ref (ad 0)), (1, .int q_x)]) hx hb dX1_bases_44 hl (k := 3) rfl rfl (by decide) rfl (fun ls hl => ?_)
        refine lv_goto (tgt := 15) hx hb dX1_bases_47 (by decide) ?_
        have hr : fm_bases_L (f_ + 1) u q_x v_2 v_3 = fm_bases_L f_ u q_x (v_2 ||| (1 <<< (v_3 &&& 31))) (v_3 + 1) := by rw [fm_bases_L, if_neg h18, if_neg h32]
        have e2 : (v_3 + 1).toInt = v_3.toInt + 1 := ti_inc (by omega) (by omega)
        rw [hr]
        exact ih q_x (v_2 ||| (1 <<< (v_3 &&& 31))) (v_3 + 1) hqx (by omega) (by omega) _ _ ls hS (lv_sub hl [2, 3, 1, 0] rfl)
def fm_bases (u : MS) (q_x : Int32) : Int32 := if (fm_isThing u q_x) = 0 then (-2) else fm_bases_L 8 u q_x 0 0
theorem hd_X1_bases : yX1_bases.cls = RX1 ∧ yX1_bases.cls ≠ "java/lang/invoke/MethodHandle" ∧ yX1_bases.cls ≠ "java/lang/invoke/VarHandle" ∧ (parseMethodDescriptor yX1_bases.desc).map (fun d => d.parameters.length) = some 1 := by decide +kernel
set_option maxRecDepth 100000 in
set_option maxHeartbeats 4000000 in
theorem kX1_bases (l : Launch) (D : va_G) (ad : Nat → Nat) (ca : Nat → ClassId) (g : Nat) (u : MS) (q_x : Int32) (hI : MI u) : CiM l yX1_bases cX1_bases 4 .int 3 D ad ca g [.int q_x] u ((fm_bases u q_x, u)) := by
  refine CiM.of (by decide) rfl (Nat.le_of_ble_eq_true rfl) ?_
  intro p e s m below meth c A ls E hS hl
  have hx := E.1.1
  have hb := E.1.2.1
  have hml := E.1.2.2.1
  have hown := E.1.2.2.2.1
  have hts := E.1.2.2.2.2
  have hl : lv_has ls 4 [(0, .ref (ad 0)), (1, .int q_x)] := hl
  refine lv_aload_n hx hb dX1_bases_0 rfl (lv_at hl 0 rfl) ?_
  refine lv_iload_n hx hb dX1_bases_1 rfl (lv_at hl 1 rfl) ?_
  refine EnM.calli (r := fm_isThing u q_x) (u2 := u) E hS [.int q_x] [] (kX1_isThing l D ad ca g u q_x ) gc_X1_104 hd_X1_isThing ⟨Nat.le_of_ble_eq_true rfl, Nat.le_of_ble_eq_true rfl⟩ rfl hl.1 (Nat.le_of_ble_eq_true rfl) ⟨Nat.le_refl 0, Nat.le_refl 0⟩ dX1_bases_2 (fun H locs hS => ?_)
  refine lv_if_ne (tgt := 11) hx hb dX1_bases_5 (by decide) (fun h5 => ?_) (fun h5 => ?_)
  · refine lv_iconst (v := 0) hx hb dX1_bases_11 (by decide) ?_
    refine lv_istore_n (lv' := [(2, .int 0), (0, .ref (ad 0)), (1, .int q_x)]) hx hb dX1_bases_12 rfl hl (by decide) rfl (fun ls hl => ?_)
    refine lv_iconst (v := 0) hx hb dX1_bases_13 (by decide) ?_
    refine lv_istore_n (lv' := [(3, .int 0), (2, .int 0), (0, .ref (ad 0)), (1, .int q_x)]) hx hb dX1_bases_14 rfl hl (by decide) rfl (fun ls hl => ?_)
    have hr : fm_bases u q_x = fm_bases_L 8 u q_x 0 0 := by unfold fm_bases; rw [if_neg h5]
    rw [hr]
    exact loop_X1_bases_L l D ad ca g u  E 8 q_x 0 0 (mt_in hI h5) (by rw [ti0]; omega) (by rw [ti0]; omega) _ _ ls hS (lv_sub hl [2, 3, 1, 0] rfl)
  · refine lv_bipush (v := (-2)) hx hb dX1_bases_8 (by decide) ?_
    exact EnM.iret E hS (ni_i _) (congrArg (fun z => (z, u)) (show ((-2) : Int32) = fm_bases u q_x by unfold fm_bases; rw [if_pos h5])) dX1_bases_10
def fm_copy_L : Nat → MS → Int32 → Int32 → Int32 → Int32 × MS
  | 0, w, q_x, v_2, v_3 => (0, w)
  | f_ + 1, w, q_x, v_2, v_3 => (if 8 ≤ v_3 then (v_2, w) else fm_copy_L f_ (ms_numbers (ms_lies w (upd (m_lies w) ((8 * v_2) + v_3).toNatClampNeg (m_lies w ((8 * q_x) + v_3).toNatClampNeg))) (vp_updL (m_numbers w) ((8 * v_2) + v_3).toNatClampNeg (m_numbers w ((8 * q_x) + v_3).toNatClampNeg))) q_x v_2 (v_3 + 1))
set_option maxRecDepth 100000 in
set_option maxHeartbeats 4000000 in
theorem loop_X1_copy_L {p : Program} {e : Env} {s : State} {m : MethodId} {below : List Frame} {meth : Method} {c : Code} {args : Array Value} {A : Nat → Prop} (l : Launch) (D : va_G) (ad : Nat → Nat) (ca : Nat → ClassId) (g : Nat) (u : MS) (E : EnM p s m c args cX1_copy 4 meth (some .int) D ca g A) : ∀ (f_ : Nat) (w : MS) (q_x : Int32) (v_2 : Int32) (v_3 : Int32), vp_in q_x 60 → vp_in v_2 60 → (0 ≤ v_3.toInt ∧ v_3.toInt ≤ 8) → 8 - v_3.toInt < (f_ : Int) → ∀ (H : Heap) (locs : List Loc) (ls : Array Slot), SM D ad ca A s w H locs → lv_has ls 4 [(0, .ref (ad 0)), (1, .int q_x), (2, .int v_2), (3, .int v_3)] → W p l e (rk 3) s m args below meth c H locs 0 0 (MQ below (va_Qi (fun r' v => (r', v) = fm_copy_L f_ w q_x v_2 v_3) (BkM D ad ca) A) args s 0 0 A) (F0 m 78 ls []) := by
  have hx := E.1.1
  have hb := E.1.2.1
  have hml := E.1.2.2.1
  have hown := E.1.2.2.2.1
  have hts := E.1.2.2.2.2
  intro f_
  induction f_ with
  | zero =>
    intro w q_x v_2 v_3 hqx hr2 hi hf H locs ls hS hl
    exfalso
    omega
  | succ f_ ih =>
    intro w q_x v_2 v_3 hqx hr2 hi hf H locs ls hS hl
    refine lv_iload_n hx hb dX1_copy_78 rfl (lv_at hl 3 rfl) ?_
    refine lv_bipush (v := 8) hx hb dX1_copy_79 (by decide) ?_
    refine lv_icmp_ge (tgt := 134) hx hb dX1_copy_81 (by decide) (fun h81 => ?_) (fun h81 => ?_)
    · refine lv_iload_n hx hb dX1_copy_134 rfl (lv_at hl 2 rfl) ?_
      exact EnM.iret E hS (ni_i _) (by rw [fm_copy_L, if_pos h81]) dX1_copy_135
    · have g81 := h81
      rw [le_ti, ti8] at g81
      have hm1 := mi_in hqx (i := v_3) (by omega) (by omega)
      have hm2 := mi_in hr2 (i := v_3) (by omega) (by omega)
      refine lv_aload_n hx hb dX1_copy_84 rfl (lv_at hl 0 rfl) ?_
      refine gM_lies E hS dX1_copy_85 ?_
      refine lv_bipush (v := 8) hx hb dX1_copy_88 (by decide) ?_
      refine lv_iload_n hx hb dX1_copy_90 rfl (lv_at hl 2 rfl) ?_
      refine lv_imul hx hb dX1_copy_91 ?_
      refine lv_iload_n hx hb dX1_copy_92 rfl (lv_at hl 3 rfl) ?_
      refine lv_iadd hx hb dX1_copy_93 ?_
      refine lv_aload_n hx hb dX1_copy_94 rfl (lv_at hl 0 rfl) ?_
      refine gM_lies E hS dX1_copy_95 ?_
      refine lv_bipush (v := 8) hx hb dX1_copy_98 (by decide) ?_
      refine lv_iload_n hx hb dX1_copy_100 rfl (lv_at hl 1 rfl) ?_
      refine lv_imul hx hb dX1_copy_101 ?_
      refine lv_iload_n hx hb dX1_copy_102 rfl (lv_at hl 3 rfl) ?_
      refine lv_iadd hx hb dX1_copy_103 ?_
      refine lM_lies (v := m_lies w ((8 * q_x) + v_3).toNatClampNeg) E hS (show vp_in ((8 * q_x) + v_3) 480 from by first | with_reducible assumption | (refine mt_in hI ?_; with_reducible assumption) | (refine mn_in hI ?_ ?_ <;> with_reducible assumption) | (refine mb_lt hI ?_; with_reducible assumption) | (refine m6_in hI ?_; with_reducible assumption)) rfl dX1_copy_104 ?_
      refine sM_lies E hS (show vp_in ((8 * v_2) + v_3) 480 from by first | with_reducible assumption | (refine mt_in hI ?_; with_reducible assumption) | (refine mn_in hI ?_ ?_ <;> with_reducible assumption) | (refine mb_lt hI ?_; with_reducible assumption) | (refine m6_in hI ?_; with_reducible assumption)) dX1_copy_105 (fun H locs hS => ?_)
      have hS : SM D ad ca A s (ms_lies w (upd (m_lies w) ((8 * v_2) + v_3).toNatClampNeg (m_lies w ((8 * q_x) + v_3).toNatClampNeg))) H locs := hS
      refine lv_aload_n hx hb dX1_copy_106 rfl (lv_at hl 0 rfl) ?_
      refine gM_numbers E hS dX1_copy_107 ?_
      refine lv_bipush (v := 8) hx hb dX1_copy_110 (by decide) ?_
      refine lv_iload_n hx hb dX1_copy_112 rfl (lv_at hl 2 rfl) ?_
      refine lv_imul hx hb dX1_copy_113 ?_
      refine lv_iload_n hx hb dX1_copy_114 rfl (lv_at hl 3 rfl) ?_
      refine lv_iadd hx hb dX1_copy_115 ?_
      refine lv_aload_n hx hb dX1_copy_116 rfl (lv_at hl 0 rfl) ?_
      refine gM_numbers E hS dX1_copy_117 ?_
      refine lv_bipush (v := 8) hx hb dX1_copy_120 (by decide) ?_
      refine lv_iload_n hx hb dX1_copy_122 rfl (lv_at hl 1 rfl) ?_
      refine lv_imul hx hb dX1_copy_123 ?_
      refine lv_iload_n hx hb dX1_copy_124 rfl (lv_at hl 3 rfl) ?_
      refine lv_iadd hx hb dX1_copy_125 ?_
      refine lM_numbers (v := m_numbers w ((8 * q_x) + v_3).toNatClampNeg) E hS (show vp_in ((8 * q_x) + v_3) 480 from by first | with_reducible assumption | (refine mt_in hI ?_; with_reducible assumption) | (refine mn_in hI ?_ ?_ <;> with_reducible assumption) | (refine mb_lt hI ?_; with_reducible assumption) | (refine m6_in hI ?_; with_reducible assumption)) rfl dX1_copy_126 ?_
      refine sM_numbers E hS (show vp_in ((8 * v_2) + v_3) 480 from by first | with_reducible assumption | (refine mt_in hI ?_; with_reducible assumption) | (refine mn_in hI ?_ ?_ <;> with_reducible assumption) | (refine mb_lt hI ?_; with_reducible assumption) | (refine m6_in hI ?_; with_reducible assumption)) dX1_copy_127 (fun H locs hS => ?_)
      have hS : SM D ad ca A s (ms_numbers (ms_lies w (upd (m_lies w) ((8 * v_2) + v_3).toNatClampNeg (m_lies w ((8 * q_x) + v_3).toNatClampNeg))) (vp_updL (m_numbers w) ((8 * v_2) + v_3).toNatClampNeg (m_numbers w ((8 * q_x) + v_3).toNatClampNeg))) H locs := hS
      refine lv_iinc (v := v_3 + 1) (lv' := [(3, .int (v_3 + 1)), (0, .ref (ad 0)), (1, .int q_x), (2, .int v_2)]) hx hb dX1_copy_128 hl (k := 3) rfl rfl (by decide) rfl (fun ls hl => ?_)
      refine lv_goto (tgt := 78) hx hb dX1_copy_131 (by decide) ?_
      have hr : fm_copy_L (f_ + 1) w q_x v_2 v_3 = fm_copy_L f_ (ms_numbers (ms_lies w (upd (m_lies w) ((8 * v_2) + v_3).toNatClampNeg (m_lies w ((8 * q_x) + v_3).toNatClampNeg))) (vp_updL (m_numbers w) ((8 * v_2) + v_3).toNatClampNeg (m_numbers w ((8 * q_x) + v_3).toNatClampNeg))) q_x v_2 (v_3 + 1) := by rw [fm_copy_L, if_neg h81]
      have e2 : (v_3 + 1).toInt = v_3.toInt + 1 := ti_inc (by omega) (by omega)
      rw [hr]
      exact ih (ms_numbers (ms_lies w (upd (m_lies w) ((8 * v_2) + v_3).toNatClampNeg (m_lies w ((8 * q_x) + v_3).toNatClampNeg))) (vp_updL (m_numbers w) ((8 * v_2) + v_3).toNatClampNeg (m_numbers w ((8 * q_x) + v_3).toNatClampNeg))) q_x v_2 (v_3 + 1) hqx hr2 (by omega) (by omega) _ _ ls hS (lv_sub hl [1, 2, 3, 0] rfl)
def fm_copy (u : MS) (q_x : Int32) : Int32 × MS := if (fm_mayBe u q_x) = 0 then ((-2), u) else (if (m_things u) = 60 then ((-3), u) else (if q_x = (-1) then (if q_x = (-1) then ((fm_fails u 1).1, (fm_fails u 1).2) else ((fm_fails u 2).1, (fm_fails u 2).2)) else (if (m_depths u (q_x).toNatClampNeg) = 0 then (if q_x = (-1) then ((fm_fails u 1).1, (fm_fails u 1).2) else ((fm_fails u 2).1, (fm_fails u 2).2)) else fm_copy_L 9 ((fm_make u (m_bases u (q_x).toNatClampNeg) (m_depths u (q_x).toNatClampNeg) (m_sizes u (q_x).toNatClampNeg) 0).2) q_x ((fm_make u (m_bases u (q_x).toNatClampNeg) (m_depths u (q_x).toNatClampNeg) (m_sizes u (q_x).toNatClampNeg) 0).1) 0)))
theorem hd_X1_copy : yX1_copy.cls = RX1 ∧ yX1_copy.cls ≠ "java/lang/invoke/MethodHandle" ∧ yX1_copy.cls ≠ "java/lang/invoke/VarHandle" ∧ (parseMethodDescriptor yX1_copy.desc).map (fun d => d.parameters.length) = some 1 := by decide +kernel
set_option maxRecDepth 100000 in
set_option maxHeartbeats 4000000 in
theorem kX1_copy (l : Launch) (D : va_G) (ad : Nat → Nat) (ca : Nat → ClassId) (g : Nat) (u : MS) (q_x : Int32) (hI : MI u) : CiM l yX1_copy cX1_copy 4 .int 3 D ad ca g [.int q_x] u (fm_copy u q_x) := by
  refine CiM.of (by decide) rfl (Nat.le_of_ble_eq_true rfl) ?_
  intro p e s m below meth c A ls E hS hl
  have hx := E.1.1
  have hb := E.1.2.1
  have hml := E.1.2.2.1
  have hown := E.1.2.2.2.1
  have hts := E.1.2.2.2.2
  have hl : lv_has ls 4 [(0, .ref (ad 0)), (1, .int q_x)] := hl
  refine lv_aload_n hx hb dX1_copy_0 rfl (lv_at hl 0 rfl) ?_
  refine lv_iload_n hx hb dX1_copy_1 rfl (lv_at hl 1 rfl) ?_
  refine EnM.calli (r := fm_mayBe u q_x) (u2 := u) E hS [.int q_x] [] (kX1_mayBe l D ad ca g u q_x ) gc_X1_79 hd_X1_mayBe ⟨Nat.le_of_ble_eq_true rfl, Nat.le_of_ble_eq_true rfl⟩ rfl hl.1 (Nat.le_of_ble_eq_true rfl) ⟨Nat.le_refl 0, Nat.le_refl 0⟩ dX1_copy_2 (fun H locs hS => ?_)
  refine lv_if_ne (tgt := 11) hx hb dX1_copy_5 (by decide) (fun h5 => ?_) (fun h5 => ?_)
  · refine lv_aload_n hx hb dX1_copy_11 rfl (lv_at hl 0 rfl) ?_
    refine gM_things (v := m_things u) E hS rfl dX1_copy_12 ?_
    refine lv_bipush (v := 60) hx hb dX1_copy_15 (by decide) ?_
    refine lv_icmp_ne (tgt := 23) hx hb dX1_copy_17 (by decide) (fun h17 => ?_) (fun h17 => ?_)
    · refine lv_iload_n hx hb dX1_copy_23 rfl (lv_at hl 1 rfl) ?_
      refine lv_iconst (v := (-1)) hx hb dX1_copy_24 (by decide) ?_
      refine lv_icmp_eq (tgt := 37) hx hb dX1_copy_25 (by decide) (fun h25 => ?_) (fun h25 => ?_)
      · refine lv_aload_n hx hb dX1_copy_37 rfl (lv_at hl 0 rfl) ?_
        refine lv_iload_n hx hb dX1_copy_38 rfl (lv_at hl 1 rfl) ?_
        refine lv_iconst (v := (-1)) hx hb dX1_copy_39 (by decide) ?_
        refine lv_icmp_ne (tgt := 47) hx hb dX1_copy_40 (by decide) (fun h40 => ?_) (fun h40 => ?_)
        · refine lv_iconst (v := 2) hx hb dX1_copy_47 (by decide) ?_
          refine EnM.calli (r := (fm_fails u 2).1) (u2 := (fm_fails u 2).2) E hS [.int 2] [] (kX1_fails l D ad ca g u 2 ) gc_X1_75 hd_X1_fails ⟨Nat.le_of_ble_eq_true rfl, Nat.le_of_ble_eq_true rfl⟩ rfl hl.1 (Nat.le_of_ble_eq_true rfl) ⟨Nat.le_refl 0, Nat.le_refl 0⟩ dX1_copy_48 (fun H locs hS => ?_)
          exact EnM.iret E hS (ni_i _) (by first | (simp only [fm_copy, if_neg h5, if_neg h17, if_pos h25, if_neg h40]; done) | (unfold fm_copy; rw [if_neg h5, if_neg h17, if_pos h25, if_neg h40])) dX1_copy_51
        · refine lv_iconst (v := 1) hx hb dX1_copy_43 (by decide) ?_
          refine lv_goto (tgt := 48) hx hb dX1_copy_44 (by decide) ?_
          refine EnM.calli (r := (fm_fails u 1).1) (u2 := (fm_fails u 1).2) E hS [.int 1] [] (kX1_fails l D ad ca g u 1 ) gc_X1_75 hd_X1_fails ⟨Nat.le_of_ble_eq_true rfl, Nat.le_of_ble_eq_true rfl⟩ rfl hl.1 (Nat.le_of_ble_eq_true rfl) ⟨Nat.le_refl 0, Nat.le_refl 0⟩ dX1_copy_48 (fun H locs hS => ?_)
          exact EnM.iret E hS (ni_i _) (by first | (simp only [fm_copy, if_neg h5, if_neg h17, if_pos h25, if_pos h40]; done) | (unfold fm_copy; rw [if_neg h5, if_neg h17, if_pos h25, if_pos h40])) dX1_copy_51
      · refine lv_aload_n hx hb dX1_copy_28 rfl (lv_at hl 0 rfl) ?_
        refine gM_depths E hS dX1_copy_29 ?_
        refine lv_iload_n hx hb dX1_copy_32 rfl (lv_at hl 1 rfl) ?_
        refine lM_depths (v := m_depths u (q_x).toNatClampNeg) E hS (show vp_in q_x 60 from by first | with_reducible assumption | (refine mt_in hI ?_; with_reducible assumption) | (refine mn_in hI ?_ ?_ <;> with_reducible assumption) | (refine mb_lt hI ?_; with_reducible assumption) | (refine m6_in hI ?_; with_reducible assumption)) rfl dX1_copy_33 ?_
        refine lv_if_ne (tgt := 52) hx hb dX1_copy_34 (by decide) (fun h34 => ?_) (fun h34 => ?_)
        · refine lv_aload_n hx hb dX1_copy_52 rfl (lv_at hl 0 rfl) ?_
          refine lv_aload_n hx hb dX1_copy_53 rfl (lv_at hl 0 rfl) ?_
          refine gM_bases E hS dX1_copy_54 ?_
          refine lv_iload_n hx hb dX1_copy_57 rfl (lv_at hl 1 rfl) ?_
          refine lM_bases (v := m_bases u (q_x).toNatClampNeg) E hS (show vp_in q_x 60 from by first | with_reducible assumption | (refine mt_in hI ?_; with_reducible assumption) | (refine mn_in hI ?_ ?_ <;> with_reducible assumption) | (refine mb_lt hI ?_; with_reducible assumption) | (refine m6_in hI ?_; with_reducible assumption)) rfl dX1_copy_58 ?_
          refine lv_aload_n hx hb dX1_copy_59 rfl (lv_at hl 0 rfl) ?_
          refine gM_depths E hS dX1_copy_60 ?_
          refine lv_iload_n hx hb dX1_copy_63 rfl (lv_at hl 1 rfl) ?_
          refine lM_depths (v := m_depths u (q_x).toNatClampNeg) E hS (show vp_in q_x 60 from by first | with_reducible assumption | (refine mt_in hI ?_; with_reducible assumption) | (refine mn_in hI ?_ ?_ <;> with_reducible assumption) | (refine mb_lt hI ?_; with_reducible assumption) | (refine m6_in hI ?_; with_reducible assumption)) rfl dX1_copy_64 ?_
          refine lv_aload_n hx hb dX1_copy_65 rfl (lv_at hl 0 rfl) ?_
          refine gM_sizes E hS dX1_copy_66 ?_
          refine lv_iload_n hx hb dX1_copy_69 rfl (lv_at hl 1 rfl) ?_
          refine lM_sizes (v := m_sizes u (q_x).toNatClampNeg) E hS (show vp_in q_x 60 from by first | with_reducible assumption | (refine mt_in hI ?_; with_reducible assumption) | (refine mn_in hI ?_ ?_ <;> with_reducible assumption) | (refine mb_lt hI ?_; with_reducible assumption) | (refine m6_in hI ?_; with_reducible assumption)) rfl dX1_copy_70 ?_
          refine lv_iconst (v := 0) hx hb dX1_copy_71 (by decide) ?_
          refine EnM.calli (r := (fm_make u (m_bases u (q_x).toNatClampNeg) (m_depths u (q_x).toNatClampNeg) (m_sizes u (q_x).toNatClampNeg) 0).1) (u2 := (fm_make u (m_bases u (q_x).toNatClampNeg) (m_depths u (q_x).toNatClampNeg) (m_sizes u (q_x).toNatClampNeg) 0).2) E hS [.int (m_bases u (q_x).toNatClampNeg), .int (m_depths u (q_x).toNatClampNeg), .int (m_sizes u (q_x).toNatClampNeg), .int 0] [] (kX1_make l D ad ca g u (m_bases u (q_x).toNatClampNeg) (m_depths u (q_x).toNatClampNeg) (m_sizes u (q_x).toNatClampNeg) 0 (by first | with_reducible assumption | (refine mt_in hI ?_; with_reducible assumption) | (refine mn_in hI ?_ ?_ <;> with_reducible assumption) | (refine mb_lt hI ?_; with_reducible assumption) | (refine m6_in hI ?_; with_reducible assumption))) gc_X1_68 hd_X1_make ⟨Nat.le_of_ble_eq_true rfl, Nat.le_of_ble_eq_true rfl⟩ rfl hl.1 (Nat.le_of_ble_eq_true rfl) ⟨Nat.le_refl 0, Nat.le_refl 0⟩ dX1_copy_72 (fun H locs hS => ?_)
          refine lv_istore_n (lv' := [(2, .int ((fm_make u (m_bases u (q_x).toNatClampNeg) (m_depths u (q_x).toNatClampNeg) (m_sizes u (q_x).toNatClampNeg) 0).1)), (0, .ref (ad 0)), (1, .int q_x)]) hx hb dX1_copy_75 rfl hl (by decide) rfl (fun ls hl => ?_)
          refine lv_iconst (v := 0) hx hb dX1_copy_76 (by decide) ?_
          refine lv_istore_n (lv' := [(3, .int 0), (2, .int ((fm_make u (m_bases u (q_x).toNatClampNeg) (m_depths u (q_x).toNatClampNeg) (m_sizes u (q_x).toNatClampNeg) 0).1)), (0, .ref (ad 0)), (1, .int q_x)]) hx hb dX1_copy_77 rfl hl (by decide) rfl (fun ls hl => ?_)
          have hr : fm_copy u q_x = fm_copy_L 9 ((fm_make u (m_bases u (q_x).toNatClampNeg) (m_depths u (q_x).toNatClampNeg) (m_sizes u (q_x).toNatClampNeg) 0).2) q_x ((fm_make u (m_bases u (q_x).toNatClampNeg) (m_depths u (q_x).toNatClampNeg) (m_sizes u (q_x).toNatClampNeg) 0).1) 0 := by unfold fm_copy; rw [if_neg h5, if_neg h17, if_neg h25, if_neg h34]
          have htc := m6_in hI h17
          rw [hr]
          exact loop_X1_copy_L l D ad ca g u  E 9 ((fm_make u (m_bases u (q_x).toNatClampNeg) (m_depths u (q_x).toNatClampNeg) (m_sizes u (q_x).toNatClampNeg) 0).2) q_x ((fm_make u (m_bases u (q_x).toNatClampNeg) (m_depths u (q_x).toNatClampNeg) (m_sizes u (q_x).toNatClampNeg) 0).1) 0 (mn_in hI (by with_reducible assumption) (by with_reducible assumption)) (by rw [mk_1 htc]; exact htc) (by rw [ti0]; omega) (by rw [ti0]; omega) _ _ ls hS (lv_sub hl [2, 3, 1, 0] rfl)
        · refine lv_aload_n hx hb dX1_copy_37 rfl (lv_at hl 0 rfl) ?_
          refine lv_iload_n hx hb dX1_copy_38 rfl (lv_at hl 1 rfl) ?_
          refine lv_iconst (v := (-1)) hx hb dX1_copy_39 (by decide) ?_
          refine lv_icmp_ne (tgt := 47) hx hb dX1_copy_40 (by decide) (fun h40 => ?_) (fun h40 => ?_)
          · refine lv_iconst (v := 2) hx hb dX1_copy_47 (by decide) ?_
            refine EnM.calli (r := (fm_fails u 2).1) (u2 := (fm_fails u 2).2) E hS [.int 2] [] (kX1_fails l D ad ca g u 2 ) gc_X1_75 hd_X1_fails ⟨Nat.le_of_ble_eq_true rfl, Nat.le_of_ble_eq_true rfl⟩ rfl hl.1 (Nat.le_of_ble_eq_true rfl) ⟨Nat.le_refl 0, Nat.le_refl 0⟩ dX1_copy_48 (fun H locs hS => ?_)
            exact EnM.iret E hS (ni_i _) (by first | (simp only [fm_copy, if_neg h5, if_neg h17, if_neg h25, if_pos h34, if_neg h40]; done) | (unfold fm_copy; rw [if_neg h5, if_neg h17, if_neg h25, if_pos h34, if_neg h40])) dX1_copy_51
          · refine lv_iconst (v := 1) hx hb dX1_copy_43 (by decide) ?_
            refine lv_goto (tgt := 48) hx hb dX1_copy_44 (by decide) ?_
            refine EnM.calli (r := (fm_fails u 1).1) (u2 := (fm_fails u 1).2) E hS [.int 1] [] (kX1_fails l D ad ca g u 1 ) gc_X1_75 hd_X1_fails ⟨Nat.le_of_ble_eq_true rfl, Nat.le_of_ble_eq_true rfl⟩ rfl hl.1 (Nat.le_of_ble_eq_true rfl) ⟨Nat.le_refl 0, Nat.le_refl 0⟩ dX1_copy_48 (fun H locs hS => ?_)
            exact EnM.iret E hS (ni_i _) (by first | (simp only [fm_copy, if_neg h5, if_neg h17, if_neg h25, if_pos h34, if_pos h40]; done) | (unfold fm_copy; rw [if_neg h5, if_neg h17, if_neg h25, if_pos h34, if_pos h40])) dX1_copy_51
    · refine lv_bipush (v := (-3)) hx hb dX1_copy_20 (by decide) ?_
      exact EnM.iret E hS (ni_i _) (by first | (simp only [fm_copy, if_neg h5, if_pos h17]; done) | (unfold fm_copy; rw [if_neg h5, if_pos h17])) dX1_copy_22
  · refine lv_bipush (v := (-2)) hx hb dX1_copy_8 (by decide) ?_
    exact EnM.iret E hS (ni_i _) (by first | (simp only [fm_copy, if_pos h5]; done) | (unfold fm_copy; rw [if_pos h5])) dX1_copy_10
def fm_through_L : Nat → MS → Int32 → Int32 → Int32 → Int32 → Int32 × MS
  | 0, w, q_x, q_k, q_n, v_4 => (0, w)
  | f_ + 1, w, q_x, q_k, q_n, v_4 => (if (q_k + q_n) ≤ v_4 then (if (m_last w) = (-1) then (1, w) else ((fm_fails w 2).1, (fm_fails w 2).2)) else (if (m_last w) = (-1) then (if q_x = (-1) then fm_through_L f_ (ms_last w (-1)) q_x q_k q_n (v_4 + 1) else (if (fm_isSuch w q_x (m_doorBase w (v_4).toNatClampNeg) (m_doorDepth w (v_4).toNatClampNeg)) = 0 then fm_through_L f_ (ms_last w v_4) q_x q_k q_n (v_4 + 1) else fm_through_L f_ (ms_last w (-1)) q_x q_k q_n (v_4 + 1))) else (if (m_last w) = (-1) then (1, w) else ((fm_fails w 2).1, (fm_fails w 2).2))))
set_option maxRecDepth 100000 in
set_option maxHeartbeats 4000000 in
theorem loop_X1_through_L {p : Program} {e : Env} {s : State} {m : MethodId} {below : List Frame} {meth : Method} {c : Code} {args : Array Value} {A : Nat → Prop} (l : Launch) (D : va_G) (ad : Nat → Nat) (ca : Nat → ClassId) (g : Nat) (u : MS) (E : EnM p s m c args cX1_through 5 meth (some .int) D ca g A) : ∀ (f_ : Nat) (w : MS) (q_x : Int32) (q_k : Int32) (q_n : Int32) (v_4 : Int32), q_x.toInt < 60 → (0 ≤ q_k.toInt ∧ 0 ≤ q_n.toInt ∧ q_k.toInt + q_n.toInt ≤ 8) → (q_k.toInt ≤ v_4.toInt ∧ v_4.toInt ≤ q_k.toInt + q_n.toInt) → q_k.toInt + q_n.toInt - v_4.toInt < (f_ : Int) → ∀ (H : Heap) (locs : List Loc) (ls : Array Slot), SM D ad ca A s w H locs → lv_has ls 5 [(0, .ref (ad 0)), (1, .int q_x), (2, .int q_k), (3, .int q_n), (4, .int v_4)] → W p l e (rk 4) s m args below meth c H locs 0 0 (MQ below (va_Qi (fun r' v => (r', v) = fm_through_L f_ w q_x q_k q_n v_4) (BkM D ad ca) A) args s 0 0 A) (F0 m 41 ls []) := by
  have hx := E.1.1
  have hb := E.1.2.1
  have hml := E.1.2.2.1
  have hown := E.1.2.2.2.1
  have hts := E.1.2.2.2.2
  intro f_
  induction f_ with
  | zero =>
    intro w q_x q_k q_n v_4 hx60 hkn hd hf H locs ls hS hl
    exfalso
    omega
  | succ f_ ih =>
    intro w q_x q_k q_n v_4 hx60 hkn hd hf H locs ls hS hl
    refine lv_iload hx hb dX1_through_41 (lv_at hl 4 rfl) ?_
    refine lv_iload_n hx hb dX1_through_43 rfl (lv_at hl 2 rfl) ?_
    refine lv_iload_n hx hb dX1_through_44 rfl (lv_at hl 3 rfl) ?_
    refine lv_iadd hx hb dX1_through_45 ?_
    refine lv_icmp_ge (tgt := 100) hx hb dX1_through_46 (by decide) (fun h46 => ?_) (fun h46 => ?_)
    · refine lv_aload_n hx hb dX1_through_100 rfl (lv_at hl 0 rfl) ?_
      refine gM_last (v := m_last w) E hS rfl dX1_through_101 ?_
      refine lv_iconst (v := (-1)) hx hb dX1_through_104 (by decide) ?_
      refine lv_icmp_ne (tgt := 112) hx hb dX1_through_105 (by decide) (fun h105 => ?_) (fun h105 => ?_)
      · refine lv_aload_n hx hb dX1_through_112 rfl (lv_at hl 0 rfl) ?_
        refine lv_iconst (v := 2) hx hb dX1_through_113 (by decide) ?_
        refine EnM.calli (r := (fm_fails w 2).1) (u2 := (fm_fails w 2).2) E hS [.int 2] [] (kX1_fails l D ad ca g w 2 ) gc_X1_75 hd_X1_fails ⟨Nat.le_of_ble_eq_true rfl, Nat.le_of_ble_eq_true rfl⟩ rfl hl.1 (Nat.le_of_ble_eq_true rfl) ⟨Nat.le_refl 0, Nat.le_refl 0⟩ dX1_through_114 (fun H locs hS => ?_)
        exact EnM.iret E hS (ni_i _) (by rw [fm_through_L, if_pos h46, if_neg h105]) dX1_through_117
      · refine lv_iconst (v := 1) hx hb dX1_through_108 (by decide) ?_
        refine lv_goto (tgt := 117) hx hb dX1_through_109 (by decide) ?_
        exact EnM.iret E hS (ni_i _) (by rw [fm_through_L, if_pos h46, if_pos h105]) dX1_through_117
    · have g46 := h46
      rw [le_ti, ti_add (by omega) (by omega)] at g46
      refine lv_aload_n hx hb dX1_through_49 rfl (lv_at hl 0 rfl) ?_
      refine gM_last (v := m_last w) E hS rfl dX1_through_50 ?_
      refine lv_iconst (v := (-1)) hx hb dX1_through_53 (by decide) ?_
      refine lv_icmp_ne (tgt := 100) hx hb dX1_through_54 (by decide) (fun h54 => ?_) (fun h54 => ?_)
      · refine lv_aload_n hx hb dX1_through_100 rfl (lv_at hl 0 rfl) ?_
        refine gM_last (v := m_last w) E hS rfl dX1_through_101 ?_
        refine lv_iconst (v := (-1)) hx hb dX1_through_104 (by decide) ?_
        refine lv_icmp_ne (tgt := 112) hx hb dX1_through_105 (by decide) (fun h105 => ?_) (fun h105 => ?_)
        · refine lv_aload_n hx hb dX1_through_112 rfl (lv_at hl 0 rfl) ?_
          refine lv_iconst (v := 2) hx hb dX1_through_113 (by decide) ?_
          refine EnM.calli (r := (fm_fails w 2).1) (u2 := (fm_fails w 2).2) E hS [.int 2] [] (kX1_fails l D ad ca g w 2 ) gc_X1_75 hd_X1_fails ⟨Nat.le_of_ble_eq_true rfl, Nat.le_of_ble_eq_true rfl⟩ rfl hl.1 (Nat.le_of_ble_eq_true rfl) ⟨Nat.le_refl 0, Nat.le_refl 0⟩ dX1_through_114 (fun H locs hS => ?_)
          exact EnM.iret E hS (ni_i _) (by rw [fm_through_L, if_neg h46, if_neg h54, if_neg h105]) dX1_through_117
        · refine lv_iconst (v := 1) hx hb dX1_through_108 (by decide) ?_
          refine lv_goto (tgt := 117) hx hb dX1_through_109 (by decide) ?_
          exact EnM.iret E hS (ni_i _) (by rw [fm_through_L, if_neg h46, if_neg h54, if_pos h105]) dX1_through_117
      · refine lv_aload_n hx hb dX1_through_57 rfl (lv_at hl 0 rfl) ?_
        refine lv_iload_n hx hb dX1_through_58 rfl (lv_at hl 1 rfl) ?_
        refine lv_iconst (v := (-1)) hx hb dX1_through_59 (by decide) ?_
        refine lv_icmp_eq (tgt := 85) hx hb dX1_through_60 (by decide) (fun h60 => ?_) (fun h60 => ?_)
        · refine lv_iconst (v := (-1)) hx hb dX1_through_85 (by decide) ?_
          refine lv_goto (tgt := 91) hx hb dX1_through_86 (by decide) ?_
          refine pM_last E hS dX1_through_91 (fun H locs hS => ?_)
          have hS : SM D ad ca A s (ms_last w (-1)) H locs := hS
          refine lv_iinc (v := v_4 + 1) (lv' := [(4, .int (v_4 + 1)), (0, .ref (ad 0)), (1, .int q_x), (2, .int q_k), (3, .int q_n)]) hx hb dX1_through_94 hl (k := 4) rfl rfl (by decide) rfl (fun ls hl => ?_)
          refine lv_goto (tgt := 41) hx hb dX1_through_97 (by decide) ?_
          have hr : fm_through_L (f_ + 1) w q_x q_k q_n v_4 = fm_through_L f_ (ms_last w (-1)) q_x q_k q_n (v_4 + 1) := by rw [fm_through_L, if_neg h46, if_pos h54, if_pos h60]
          have e4 : (v_4 + 1).toInt = v_4.toInt + 1 := ti_inc (by omega) (by omega)
          rw [hr]
          exact ih (ms_last w (-1)) q_x q_k q_n (v_4 + 1) hx60 hkn (by omega) (by omega) _ _ ls hS (lv_sub hl [1, 2, 3, 4, 0] rfl)
        · refine lv_aload_n hx hb dX1_through_63 rfl (lv_at hl 0 rfl) ?_
          refine lv_iload_n hx hb dX1_through_64 rfl (lv_at hl 1 rfl) ?_
          refine lv_aload_n hx hb dX1_through_65 rfl (lv_at hl 0 rfl) ?_
          refine gM_doorBase E hS dX1_through_66 ?_
          refine lv_iload hx hb dX1_through_69 (lv_at hl 4 rfl) ?_
          refine lM_doorBase (v := m_doorBase w (v_4).toNatClampNeg) E hS (show vp_in v_4 8 from (by rw [vp_in_iff]; omega)) rfl dX1_through_71 ?_
          refine lv_aload_n hx hb dX1_through_72 rfl (lv_at hl 0 rfl) ?_
          refine gM_doorDepth E hS dX1_through_73 ?_
          refine lv_iload hx hb dX1_through_76 (lv_at hl 4 rfl) ?_
          refine lM_doorDepth (v := m_doorDepth w (v_4).toNatClampNeg) E hS (show vp_in v_4 8 from (by rw [vp_in_iff]; omega)) rfl dX1_through_78 ?_
          refine EnM.calli (r := fm_isSuch w q_x (m_doorBase w (v_4).toNatClampNeg) (m_doorDepth w (v_4).toNatClampNeg)) (u2 := w) E hS [.int q_x, .int (m_doorBase w (v_4).toNatClampNeg), .int (m_doorDepth w (v_4).toNatClampNeg)] [.ref (ad 0)] (kX1_isSuch l D ad ca g w q_x (m_doorBase w (v_4).toNatClampNeg) (m_doorDepth w (v_4).toNatClampNeg) hx60) gc_X1_83 hd_X1_isSuch ⟨Nat.le_of_ble_eq_true rfl, Nat.le_of_ble_eq_true rfl⟩ rfl hl.1 (Nat.le_of_ble_eq_true rfl) ⟨Nat.le_refl 0, Nat.le_refl 0⟩ dX1_through_79 (fun H locs hS => ?_)
          refine lv_if_eq (tgt := 89) hx hb dX1_through_82 (by decide) (fun h82 => ?_) (fun h82 => ?_)
          · refine lv_iload hx hb dX1_through_89 (lv_at hl 4 rfl) ?_
            refine pM_last E hS dX1_through_91 (fun H locs hS => ?_)
            have hS : SM D ad ca A s (ms_last w v_4) H locs := hS
            refine lv_iinc (v := v_4 + 1) (lv' := [(4, .int (v_4 + 1)), (0, .ref (ad 0)), (1, .int q_x), (2, .int q_k), (3, .int q_n)]) hx hb dX1_through_94 hl (k := 4) rfl rfl (by decide) rfl (fun ls hl => ?_)
            refine lv_goto (tgt := 41) hx hb dX1_through_97 (by decide) ?_
            have hr : fm_through_L (f_ + 1) w q_x q_k q_n v_4 = fm_through_L f_ (ms_last w v_4) q_x q_k q_n (v_4 + 1) := by rw [fm_through_L, if_neg h46, if_pos h54, if_neg h60, if_pos h82]
            have e4 : (v_4 + 1).toInt = v_4.toInt + 1 := ti_inc (by omega) (by omega)
            rw [hr]
            exact ih (ms_last w v_4) q_x q_k q_n (v_4 + 1) hx60 hkn (by omega) (by omega) _ _ ls hS (lv_sub hl [1, 2, 3, 4, 0] rfl)
          · refine lv_iconst (v := (-1)) hx hb dX1_through_85 (by decide) ?_
            refine lv_goto (tgt := 91) hx hb dX1_through_86 (by decide) ?_
            refine pM_last E hS dX1_through_91 (fun H locs hS => ?_)
            have hS : SM D ad ca A s (ms_last w (-1)) H locs := hS
            refine lv_iinc (v := v_4 + 1) (lv' := [(4, .int (v_4 + 1)), (0, .ref (ad 0)), (1, .int q_x), (2, .int q_k), (3, .int q_n)]) hx hb dX1_through_94 hl (k := 4) rfl rfl (by decide) rfl (fun ls hl => ?_)
            refine lv_goto (tgt := 41) hx hb dX1_through_97 (by decide) ?_
            have hr : fm_through_L (f_ + 1) w q_x q_k q_n v_4 = fm_through_L f_ (ms_last w (-1)) q_x q_k q_n (v_4 + 1) := by rw [fm_through_L, if_neg h46, if_pos h54, if_neg h60, if_neg h82]
            have e4 : (v_4 + 1).toInt = v_4.toInt + 1 := ti_inc (by omega) (by omega)
            rw [hr]
            exact ih (ms_last w (-1)) q_x q_k q_n (v_4 + 1) hx60 hkn (by omega) (by omega) _ _ ls hS (lv_sub hl [1, 2, 3, 4, 0] rfl)
def fm_through (u : MS) (q_x : Int32) (q_k : Int32) (q_n : Int32) : Int32 × MS := if (fm_mayBe u q_x) = 0 then ((-2), u) else (if (fm_isIn q_k 0 7) = 0 then ((-2), u) else (if (fm_isIn q_n 0 (8 - q_k)) = 0 then ((-2), u) else fm_through_L 9 (ms_last u (-1)) q_x q_k q_n q_k))
theorem hd_X1_through : yX1_through.cls = RX1 ∧ yX1_through.cls ≠ "java/lang/invoke/MethodHandle" ∧ yX1_through.cls ≠ "java/lang/invoke/VarHandle" ∧ (parseMethodDescriptor yX1_through.desc).map (fun d => d.parameters.length) = some 3 := by decide +kernel
set_option maxRecDepth 100000 in
set_option maxHeartbeats 4000000 in
theorem kX1_through (l : Launch) (D : va_G) (ad : Nat → Nat) (ca : Nat → ClassId) (g : Nat) (u : MS) (q_x : Int32) (q_k : Int32) (q_n : Int32) (hI : MI u) : CiM l yX1_through cX1_through 5 .int 4 D ad ca g [.int q_x, .int q_k, .int q_n] u (fm_through u q_x q_k q_n) := by
  refine CiM.of (by decide) rfl (Nat.le_of_ble_eq_true rfl) ?_
  intro p e s m below meth c A ls E hS hl
  have hx := E.1.1
  have hb := E.1.2.1
  have hml := E.1.2.2.1
  have hown := E.1.2.2.2.1
  have hts := E.1.2.2.2.2
  have hl : lv_has ls 5 [(0, .ref (ad 0)), (1, .int q_x), (2, .int q_k), (3, .int q_n)] := hl
  refine lv_aload_n hx hb dX1_through_0 rfl (lv_at hl 0 rfl) ?_
  refine lv_iload_n hx hb dX1_through_1 rfl (lv_at hl 1 rfl) ?_
  refine EnM.calli (r := fm_mayBe u q_x) (u2 := u) E hS [.int q_x] [] (kX1_mayBe l D ad ca g u q_x ) gc_X1_79 hd_X1_mayBe ⟨Nat.le_of_ble_eq_true rfl, Nat.le_of_ble_eq_true rfl⟩ rfl hl.1 (Nat.le_of_ble_eq_true rfl) ⟨Nat.le_refl 0, Nat.le_refl 0⟩ dX1_through_2 (fun H locs hS => ?_)
  refine lv_if_eq (tgt := 30) hx hb dX1_through_5 (by decide) (fun h5 => ?_) (fun h5 => ?_)
  · refine lv_bipush (v := (-2)) hx hb dX1_through_30 (by decide) ?_
    exact EnM.iret E hS (ni_i _) (by first | (simp only [fm_through, if_pos h5]; done) | (unfold fm_through; rw [if_pos h5])) dX1_through_32
  · refine lv_iload_n hx hb dX1_through_8 rfl (lv_at hl 2 rfl) ?_
    refine lv_iconst (v := 0) hx hb dX1_through_9 (by decide) ?_
    refine lv_bipush (v := 7) hx hb dX1_through_10 (by decide) ?_
    refine EnM.sti (r := fm_isIn q_k 0 7) E hS [.int q_k, .int 0, .int 7] [] (kX1_isIn l q_k 0 7 ) (fun _ _ _ _ h => h) (fun _ _ _ => trivial) gc_X1_60 hd_X1_isIn ⟨Nat.le_of_ble_eq_true rfl, Nat.le_of_ble_eq_true rfl⟩ rfl hl.1 (Nat.le_of_ble_eq_true rfl) ⟨Nat.le_refl 0, Nat.le_refl 0⟩ dX1_through_12 (fun H locs hS => ?_)
    refine lv_if_eq (tgt := 30) hx hb dX1_through_15 (by decide) (fun h15 => ?_) (fun h15 => ?_)
    · refine lv_bipush (v := (-2)) hx hb dX1_through_30 (by decide) ?_
      exact EnM.iret E hS (ni_i _) (by first | (simp only [fm_through, if_neg h5, if_pos h15]; done) | (unfold fm_through; rw [if_neg h5, if_pos h15])) dX1_through_32
    · refine lv_iload_n hx hb dX1_through_18 rfl (lv_at hl 3 rfl) ?_
      refine lv_iconst (v := 0) hx hb dX1_through_19 (by decide) ?_
      refine lv_bipush (v := 8) hx hb dX1_through_20 (by decide) ?_
      refine lv_iload_n hx hb dX1_through_22 rfl (lv_at hl 2 rfl) ?_
      refine lv_isub hx hb dX1_through_23 ?_
      refine EnM.sti (r := fm_isIn q_n 0 (8 - q_k)) E hS [.int q_n, .int 0, .int (8 - q_k)] [] (kX1_isIn l q_n 0 (8 - q_k) ) (fun _ _ _ _ h => h) (fun _ _ _ => trivial) gc_X1_60 hd_X1_isIn ⟨Nat.le_of_ble_eq_true rfl, Nat.le_of_ble_eq_true rfl⟩ rfl hl.1 (Nat.le_of_ble_eq_true rfl) ⟨Nat.le_refl 0, Nat.le_refl 0⟩ dX1_through_24 (fun H locs hS => ?_)
      refine lv_if_ne (tgt := 33) hx hb dX1_through_27 (by decide) (fun h27 => ?_) (fun h27 => ?_)
      · refine lv_aload_n hx hb dX1_through_33 rfl (lv_at hl 0 rfl) ?_
        refine lv_iconst (v := (-1)) hx hb dX1_through_34 (by decide) ?_
        refine pM_last E hS dX1_through_35 (fun H locs hS => ?_)
        have hS : SM D ad ca A s (ms_last u (-1)) H locs := hS
        refine lv_iload_n hx hb dX1_through_38 rfl (lv_at hl 2 rfl) ?_
        refine lv_istore (lv' := [(4, .int q_k), (0, .ref (ad 0)), (1, .int q_x), (2, .int q_k), (3, .int q_n)]) hx hb dX1_through_39 hl (by decide) rfl (fun ls hl => ?_)
        have hr : fm_through u q_x q_k q_n = fm_through_L 9 (ms_last u (-1)) q_x q_k q_n q_k := by unfold fm_through; rw [if_neg h5, if_neg h15, if_neg h27]
        have hk8 := md_in h15
        have b1 := isIn_iff.mp h27
        rw [xk8 hk8, ti0] at b1
        rw [vp_in_iff] at hk8
        rw [hr]
        exact loop_X1_through_L l D ad ca g u  E 9 (ms_last u (-1)) q_x q_k q_n q_k (mb_lt hI h5) (by omega) (by omega) (by omega) _ _ ls hS (lv_sub hl [1, 2, 3, 4, 0] rfl)
      · refine lv_bipush (v := (-2)) hx hb dX1_through_30 (by decide) ?_
        exact EnM.iret E hS (ni_i _) (by first | (simp only [fm_through, if_neg h5, if_neg h15, if_pos h27]; done) | (unfold fm_through; rw [if_neg h5, if_neg h15, if_pos h27])) dX1_through_32
def fm_grid_L : Nat → MS → Int32 → Int32 → Int32 → Int32 → Int32 → Int32 × MS
  | 0, w, q_base, q_n, q_m, v_4, v_5 => (0, w)
  | f_ + 1, w, q_base, q_n, q_m, v_4, v_5 => (if q_n ≤ v_5 then (v_4, w) else fm_grid_L f_ (ms_lies ((fm_make w q_base 1 q_m 0).2) (upd (m_lies ((fm_make w q_base 1 q_m 0).2)) ((8 * v_4) + v_5).toNatClampNeg ((fm_make w q_base 1 q_m 0).1))) q_base q_n q_m v_4 (v_5 + 1))
set_option maxRecDepth 100000 in
set_option maxHeartbeats 4000000 in
theorem loop_X1_grid_L {p : Program} {e : Env} {s : State} {m : MethodId} {below : List Frame} {meth : Method} {c : Code} {args : Array Value} {A : Nat → Prop} (l : Launch) (D : va_G) (ad : Nat → Nat) (ca : Nat → ClassId) (g : Nat) (u : MS) (E : EnM p s m c args cX1_grid 6 meth (some .int) D ca g A) : ∀ (f_ : Nat) (w : MS) (q_base : Int32) (q_n : Int32) (q_m : Int32) (v_4 : Int32) (v_5 : Int32), vp_in v_4 60 → (0 ≤ q_n.toInt ∧ q_n.toInt ≤ 8) → (0 ≤ v_5.toInt ∧ v_5.toInt ≤ q_n.toInt) → (0 ≤ (m_things w).toInt ∧ (m_things w).toInt + (q_n.toInt - v_5.toInt) ≤ 60) → q_n.toInt - v_5.toInt < (f_ : Int) → ∀ (H : Heap) (locs : List Loc) (ls : Array Slot), SM D ad ca A s w H locs → lv_has ls 6 [(0, .ref (ad 0)), (1, .int q_base), (2, .int q_n), (3, .int q_m), (4, .int v_4), (5, .int v_5)] → W p l e (rk 2) s m args below meth c H locs 0 0 (MQ below (va_Qi (fun r' v => (r', v) = fm_grid_L f_ w q_base q_n q_m v_4 v_5) (BkM D ad ca) A) args s 0 0 A) (F0 m 76 ls []) := by
  have hx := E.1.1
  have hb := E.1.2.1
  have hml := E.1.2.2.1
  have hown := E.1.2.2.2.1
  have hts := E.1.2.2.2.2
  intro f_
  induction f_ with
  | zero =>
    intro w q_base q_n q_m v_4 v_5 hr4 hn hi hw hf H locs ls hS hl
    exfalso
    omega
  | succ f_ ih =>
    intro w q_base q_n q_m v_4 v_5 hr4 hn hi hw hf H locs ls hS hl
    refine lv_iload hx hb dX1_grid_76 (lv_at hl 5 rfl) ?_
    refine lv_iload_n hx hb dX1_grid_78 rfl (lv_at hl 2 rfl) ?_
    refine lv_icmp_ge (tgt := 109) hx hb dX1_grid_79 (by decide) (fun h79 => ?_) (fun h79 => ?_)
    · refine lv_iload hx hb dX1_grid_109 (lv_at hl 4 rfl) ?_
      exact EnM.iret E hS (ni_i _) (by rw [fm_grid_L, if_pos h79]) dX1_grid_111
    · have g79 := h79
      rw [le_ti] at g79
      refine lv_aload_n hx hb dX1_grid_82 rfl (lv_at hl 0 rfl) ?_
      refine gM_lies E hS dX1_grid_83 ?_
      refine lv_bipush (v := 8) hx hb dX1_grid_86 (by decide) ?_
      refine lv_iload hx hb dX1_grid_88 (lv_at hl 4 rfl) ?_
      refine lv_imul hx hb dX1_grid_90 ?_
      refine lv_iload hx hb dX1_grid_91 (lv_at hl 5 rfl) ?_
      refine lv_iadd hx hb dX1_grid_93 ?_
      refine lv_aload_n hx hb dX1_grid_94 rfl (lv_at hl 0 rfl) ?_
      refine lv_iload_n hx hb dX1_grid_95 rfl (lv_at hl 1 rfl) ?_
      refine lv_iconst (v := 1) hx hb dX1_grid_96 (by decide) ?_
      refine lv_iload_n hx hb dX1_grid_97 rfl (lv_at hl 3 rfl) ?_
      refine lv_iconst (v := 0) hx hb dX1_grid_98 (by decide) ?_
      refine EnM.calli (r := (fm_make w q_base 1 q_m 0).1) (u2 := (fm_make w q_base 1 q_m 0).2) E hS [.int q_base, .int 1, .int q_m, .int 0] [.int ((8 * v_4) + v_5), .ref (ad 5)] (kX1_make l D ad ca g w q_base 1 q_m 0 (by rw [vp_in_iff]; omega)) gc_X1_68 hd_X1_make ⟨Nat.le_of_ble_eq_true rfl, Nat.le_of_ble_eq_true rfl⟩ rfl hl.1 (Nat.le_of_ble_eq_true rfl) ⟨Nat.le_refl 0, Nat.le_refl 0⟩ dX1_grid_99 (fun H locs hS => ?_)
      refine sM_lies E hS (show vp_in ((8 * v_4) + v_5) 480 from mi_in hr4 (by omega) (by omega)) dX1_grid_102 (fun H locs hS => ?_)
      have hS : SM D ad ca A s (ms_lies ((fm_make w q_base 1 q_m 0).2) (upd (m_lies ((fm_make w q_base 1 q_m 0).2)) ((8 * v_4) + v_5).toNatClampNeg ((fm_make w q_base 1 q_m 0).1))) H locs := hS
      refine lv_iinc (v := v_5 + 1) (lv' := [(5, .int (v_5 + 1)), (0, .ref (ad 0)), (1, .int q_base), (2, .int q_n), (3, .int q_m), (4, .int v_4)]) hx hb dX1_grid_103 hl (k := 5) rfl rfl (by decide) rfl (fun ls hl => ?_)
      refine lv_goto (tgt := 76) hx hb dX1_grid_106 (by decide) ?_
      have hr : fm_grid_L (f_ + 1) w q_base q_n q_m v_4 v_5 = fm_grid_L f_ (ms_lies ((fm_make w q_base 1 q_m 0).2) (upd (m_lies ((fm_make w q_base 1 q_m 0).2)) ((8 * v_4) + v_5).toNatClampNeg ((fm_make w q_base 1 q_m 0).1))) q_base q_n q_m v_4 (v_5 + 1) := by rw [fm_grid_L, if_neg h79]
      have e5 : (v_5 + 1).toInt = v_5.toInt + 1 := ti_inc (by omega) (by omega)
      have ew : m_things (ms_lies ((fm_make w q_base 1 q_m 0).2) (upd (m_lies ((fm_make w q_base 1 q_m 0).2)) ((8 * v_4) + v_5).toNatClampNeg ((fm_make w q_base 1 q_m 0).1))) = m_things w + 1 := by rw [m_things_lies, mk_t (by rw [vp_in_iff]; omega)]
      have et : (m_things w + 1).toInt = (m_things w).toInt + 1 := ti_inc (by omega) (by omega)
      rw [hr]
      exact ih (ms_lies ((fm_make w q_base 1 q_m 0).2) (upd (m_lies ((fm_make w q_base 1 q_m 0).2)) ((8 * v_4) + v_5).toNatClampNeg ((fm_make w q_base 1 q_m 0).1))) q_base q_n q_m v_4 (v_5 + 1) hr4 hn (by omega) (by rw [ew]; omega) (by omega) _ _ ls hS (lv_sub hl [1, 2, 3, 4, 5, 0] rfl)
def fm_grid (u : MS) (q_base : Int32) (q_n : Int32) (q_m : Int32) : Int32 × MS := if (fm_isIn q_base 0 6) = 0 then ((-2), u) else (if 8 < q_n then ((-2), u) else (if q_m ≤ 8 then (if 0 ≤ q_n then (if (((m_things u) + 1) + q_n) ≤ 60 then (if q_n < 0 then ((fm_fails u 5).1, (fm_fails u 5).2) else (if 0 ≤ q_m then fm_grid_L 9 ((fm_make u q_base 2 q_n 0).2) q_base q_n q_m ((fm_make u q_base 2 q_n 0).1) 0 else ((fm_fails u 5).1, (fm_fails u 5).2))) else ((-3), u)) else (if (((m_things u) + 1) + 0) ≤ 60 then (if q_n < 0 then ((fm_fails u 5).1, (fm_fails u 5).2) else (if 0 ≤ q_m then (0, u) else ((fm_fails u 5).1, (fm_fails u 5).2))) else ((-3), u))) else ((-2), u)))
theorem hd_X1_grid : yX1_grid.cls = RX1 ∧ yX1_grid.cls ≠ "java/lang/invoke/MethodHandle" ∧ yX1_grid.cls ≠ "java/lang/invoke/VarHandle" ∧ (parseMethodDescriptor yX1_grid.desc).map (fun d => d.parameters.length) = some 3 := by decide +kernel
set_option maxRecDepth 100000 in
set_option maxHeartbeats 4000000 in
theorem kX1_grid (l : Launch) (D : va_G) (ad : Nat → Nat) (ca : Nat → ClassId) (g : Nat) (u : MS) (q_base : Int32) (q_n : Int32) (q_m : Int32) (hI : MI u) : CiM l yX1_grid cX1_grid 6 .int 2 D ad ca g [.int q_base, .int q_n, .int q_m] u (fm_grid u q_base q_n q_m) := by
  refine CiM.of (by decide) rfl (Nat.le_of_ble_eq_true rfl) ?_
  intro p e s m below meth c A ls E hS hl
  have hx := E.1.1
  have hb := E.1.2.1
  have hml := E.1.2.2.1
  have hown := E.1.2.2.2.1
  have hts := E.1.2.2.2.2
  have hl : lv_has ls 6 [(0, .ref (ad 0)), (1, .int q_base), (2, .int q_n), (3, .int q_m)] := hl
  refine lv_iload_n hx hb dX1_grid_0 rfl (lv_at hl 1 rfl) ?_
  refine lv_iconst (v := 0) hx hb dX1_grid_1 (by decide) ?_
  refine lv_bipush (v := 6) hx hb dX1_grid_2 (by decide) ?_
  refine EnM.sti (r := fm_isIn q_base 0 6) E hS [.int q_base, .int 0, .int 6] [] (kX1_isIn l q_base 0 6 ) (fun _ _ _ _ h => h) (fun _ _ _ => trivial) gc_X1_60 hd_X1_isIn ⟨Nat.le_of_ble_eq_true rfl, Nat.le_of_ble_eq_true rfl⟩ rfl hl.1 (Nat.le_of_ble_eq_true rfl) ⟨Nat.le_refl 0, Nat.le_refl 0⟩ dX1_grid_4 (fun H locs hS => ?_)
  refine lv_if_eq (tgt := 22) hx hb dX1_grid_7 (by decide) (fun h7 => ?_) (fun h7 => ?_)
  · refine lv_bipush (v := (-2)) hx hb dX1_grid_22 (by decide) ?_
    exact EnM.iret E hS (ni_i _) (by first | (simp only [fm_grid, if_pos h7]; done) | (unfold fm_grid; rw [if_pos h7])) dX1_grid_24
  · refine lv_iload_n hx hb dX1_grid_10 rfl (lv_at hl 2 rfl) ?_
    refine lv_bipush (v := 8) hx hb dX1_grid_11 (by decide) ?_
    refine lv_icmp_gt (tgt := 22) hx hb dX1_grid_13 (by decide) (fun h13 => ?_) (fun h13 => ?_)
    · refine lv_bipush (v := (-2)) hx hb dX1_grid_22 (by decide) ?_
      exact EnM.iret E hS (ni_i _) (by first | (simp only [fm_grid, if_neg h7, if_pos h13]; done) | (unfold fm_grid; rw [if_neg h7, if_pos h13])) dX1_grid_24
    · refine lv_iload_n hx hb dX1_grid_16 rfl (lv_at hl 3 rfl) ?_
      refine lv_bipush (v := 8) hx hb dX1_grid_17 (by decide) ?_
      refine lv_icmp_le (tgt := 25) hx hb dX1_grid_19 (by decide) (fun h19 => ?_) (fun h19 => ?_)
      · refine lv_aload_n hx hb dX1_grid_25 rfl (lv_at hl 0 rfl) ?_
        refine gM_things (v := m_things u) E hS rfl dX1_grid_26 ?_
        refine lv_iconst (v := 1) hx hb dX1_grid_29 (by decide) ?_
        refine lv_iadd hx hb dX1_grid_30 ?_
        refine lv_iload_n hx hb dX1_grid_31 rfl (lv_at hl 2 rfl) ?_
        refine lv_if_ge (tgt := 39) hx hb dX1_grid_32 (by decide) (fun h32 => ?_) (fun h32 => ?_)
        · refine lv_iload_n hx hb dX1_grid_39 rfl (lv_at hl 2 rfl) ?_
          refine lv_iadd hx hb dX1_grid_40 ?_
          refine lv_bipush (v := 60) hx hb dX1_grid_41 (by decide) ?_
          refine lv_icmp_le (tgt := 49) hx hb dX1_grid_43 (by decide) (fun h43 => ?_) (fun h43 => ?_)
          · refine lv_iload_n hx hb dX1_grid_49 rfl (lv_at hl 2 rfl) ?_
            refine lv_if_lt (tgt := 57) hx hb dX1_grid_50 (by decide) (fun h50 => ?_) (fun h50 => ?_)
            · refine lv_aload_n hx hb dX1_grid_57 rfl (lv_at hl 0 rfl) ?_
              refine lv_iconst (v := 5) hx hb dX1_grid_58 (by decide) ?_
              refine EnM.calli (r := (fm_fails u 5).1) (u2 := (fm_fails u 5).2) E hS [.int 5] [] (kX1_fails l D ad ca g u 5 ) gc_X1_75 hd_X1_fails ⟨Nat.le_of_ble_eq_true rfl, Nat.le_of_ble_eq_true rfl⟩ rfl hl.1 (Nat.le_of_ble_eq_true rfl) ⟨Nat.le_refl 0, Nat.le_refl 0⟩ dX1_grid_59 (fun H locs hS => ?_)
              exact EnM.iret E hS (ni_i _) (by first | (simp only [fm_grid, if_neg h7, if_neg h13, if_pos h19, if_pos h32, if_pos h43, if_pos h50]; done) | (unfold fm_grid; rw [if_neg h7, if_neg h13, if_pos h19, if_pos h32, if_pos h43, if_pos h50])) dX1_grid_62
            · refine lv_iload_n hx hb dX1_grid_53 rfl (lv_at hl 3 rfl) ?_
              refine lv_if_ge (tgt := 63) hx hb dX1_grid_54 (by decide) (fun h54 => ?_) (fun h54 => ?_)
              · have hI1 := hI.1
                have g13 := h13
                rw [lt_ti, ti8] at g13
                have e1 : (m_things u + 1).toInt = (m_things u).toInt + 1 := ti_inc (by omega) (by omega)
                have g43 := h43
                have g32 := h32
                rw [le_ti, ti0] at g32
                rw [le_ti, ti_add (by omega) (by omega), ti60] at g43
                have hg : (m_things u).toInt + 1 + q_n.toInt ≤ 60 := by omega
                have hn8 : 0 ≤ q_n.toInt ∧ q_n.toInt ≤ 8 := by omega
                have htc : vp_in (m_things u) 60 := by rw [vp_in_iff]; omega
                refine lv_aload_n hx hb dX1_grid_63 rfl (lv_at hl 0 rfl) ?_
                refine lv_iload_n hx hb dX1_grid_64 rfl (lv_at hl 1 rfl) ?_
                refine lv_iconst (v := 2) hx hb dX1_grid_65 (by decide) ?_
                refine lv_iload_n hx hb dX1_grid_66 rfl (lv_at hl 2 rfl) ?_
                refine lv_iconst (v := 0) hx hb dX1_grid_67 (by decide) ?_
                refine EnM.calli (r := (fm_make u q_base 2 q_n 0).1) (u2 := (fm_make u q_base 2 q_n 0).2) E hS [.int q_base, .int 2, .int q_n, .int 0] [] (kX1_make l D ad ca g u q_base 2 q_n 0 htc) gc_X1_68 hd_X1_make ⟨Nat.le_of_ble_eq_true rfl, Nat.le_of_ble_eq_true rfl⟩ rfl hl.1 (Nat.le_of_ble_eq_true rfl) ⟨Nat.le_refl 0, Nat.le_refl 0⟩ dX1_grid_68 (fun H locs hS => ?_)
                refine lv_istore (lv' := [(4, .int ((fm_make u q_base 2 q_n 0).1)), (0, .ref (ad 0)), (1, .int q_base), (2, .int q_n), (3, .int q_m)]) hx hb dX1_grid_71 hl (by decide) rfl (fun ls hl => ?_)
                refine lv_iconst (v := 0) hx hb dX1_grid_73 (by decide) ?_
                refine lv_istore (lv' := [(5, .int 0), (4, .int ((fm_make u q_base 2 q_n 0).1)), (0, .ref (ad 0)), (1, .int q_base), (2, .int q_n), (3, .int q_m)]) hx hb dX1_grid_74 hl (by decide) rfl (fun ls hl => ?_)
                have hr : fm_grid u q_base q_n q_m = fm_grid_L 9 ((fm_make u q_base 2 q_n 0).2) q_base q_n q_m ((fm_make u q_base 2 q_n 0).1) 0 := by unfold fm_grid; rw [if_neg h7, if_neg h13, if_pos h19, if_pos h32, if_pos h43, if_neg h50, if_pos h54]
                have ha1 := mk_1 (b := q_base) (d := 2) (n := q_n) (wo := 0) htc
                have ha2 := mk_t (b := q_base) (d := 2) (n := q_n) (wo := 0) htc
                rw [hr]
                exact loop_X1_grid_L l D ad ca g u  E 9 ((fm_make u q_base 2 q_n 0).2) q_base q_n q_m ((fm_make u q_base 2 q_n 0).1) 0 (by rw [ha1]; exact htc) hn8 (by rw [ti0]; omega) (by rw [ha2, ti0]; omega) (by rw [ti0]; omega) _ _ ls hS (lv_sub hl [2, 3, 4, 5, 1, 0] rfl)
              · refine lv_aload_n hx hb dX1_grid_57 rfl (lv_at hl 0 rfl) ?_
                refine lv_iconst (v := 5) hx hb dX1_grid_58 (by decide) ?_
                refine EnM.calli (r := (fm_fails u 5).1) (u2 := (fm_fails u 5).2) E hS [.int 5] [] (kX1_fails l D ad ca g u 5 ) gc_X1_75 hd_X1_fails ⟨Nat.le_of_ble_eq_true rfl, Nat.le_of_ble_eq_true rfl⟩ rfl hl.1 (Nat.le_of_ble_eq_true rfl) ⟨Nat.le_refl 0, Nat.le_refl 0⟩ dX1_grid_59 (fun H locs hS => ?_)
                exact EnM.iret E hS (ni_i _) (by first | (simp only [fm_grid, if_neg h7, if_neg h13, if_pos h19, if_pos h32, if_pos h43, if_neg h50, if_neg h54]; done) | (unfold fm_grid; rw [if_neg h7, if_neg h13, if_pos h19, if_pos h32, if_pos h43, if_neg h50, if_neg h54])) dX1_grid_62
          · refine lv_bipush (v := (-3)) hx hb dX1_grid_46 (by decide) ?_
            exact EnM.iret E hS (ni_i _) (by first | (simp only [fm_grid, if_neg h7, if_neg h13, if_pos h19, if_pos h32, if_neg h43]; done) | (unfold fm_grid; rw [if_neg h7, if_neg h13, if_pos h19, if_pos h32, if_neg h43])) dX1_grid_48
        · refine lv_iconst (v := 0) hx hb dX1_grid_35 (by decide) ?_
          refine lv_goto (tgt := 40) hx hb dX1_grid_36 (by decide) ?_
          refine lv_iadd hx hb dX1_grid_40 ?_
          refine lv_bipush (v := 60) hx hb dX1_grid_41 (by decide) ?_
          refine lv_icmp_le (tgt := 49) hx hb dX1_grid_43 (by decide) (fun h43 => ?_) (fun h43 => ?_)
          · refine lv_iload_n hx hb dX1_grid_49 rfl (lv_at hl 2 rfl) ?_
            refine lv_if_lt (tgt := 57) hx hb dX1_grid_50 (by decide) (fun h50 => ?_) (fun h50 => ?_)
            · refine lv_aload_n hx hb dX1_grid_57 rfl (lv_at hl 0 rfl) ?_
              refine lv_iconst (v := 5) hx hb dX1_grid_58 (by decide) ?_
              refine EnM.calli (r := (fm_fails u 5).1) (u2 := (fm_fails u 5).2) E hS [.int 5] [] (kX1_fails l D ad ca g u 5 ) gc_X1_75 hd_X1_fails ⟨Nat.le_of_ble_eq_true rfl, Nat.le_of_ble_eq_true rfl⟩ rfl hl.1 (Nat.le_of_ble_eq_true rfl) ⟨Nat.le_refl 0, Nat.le_refl 0⟩ dX1_grid_59 (fun H locs hS => ?_)
              exact EnM.iret E hS (ni_i _) (by first | (simp only [fm_grid, if_neg h7, if_neg h13, if_pos h19, if_neg h32, if_pos h43, if_pos h50]; done) | (unfold fm_grid; rw [if_neg h7, if_neg h13, if_pos h19, if_neg h32, if_pos h43, if_pos h50])) dX1_grid_62
            · refine lv_iload_n hx hb dX1_grid_53 rfl (lv_at hl 3 rfl) ?_
              refine lv_if_ge (tgt := 63) hx hb dX1_grid_54 (by decide) (fun h54 => ?_) (fun h54 => ?_)
              · have hI1 := hI.1
                have g13 := h13
                rw [lt_ti, ti8] at g13
                have e1 : (m_things u + 1).toInt = (m_things u).toInt + 1 := ti_inc (by omega) (by omega)
                have g43 := h43
                have g32 := h32
                have g50 := h50
                rw [le_ti, ti0] at g32
                rw [lt_ti, ti0] at g50
                exfalso
                omega
              · refine lv_aload_n hx hb dX1_grid_57 rfl (lv_at hl 0 rfl) ?_
                refine lv_iconst (v := 5) hx hb dX1_grid_58 (by decide) ?_
                refine EnM.calli (r := (fm_fails u 5).1) (u2 := (fm_fails u 5).2) E hS [.int 5] [] (kX1_fails l D ad ca g u 5 ) gc_X1_75 hd_X1_fails ⟨Nat.le_of_ble_eq_true rfl, Nat.le_of_ble_eq_true rfl⟩ rfl hl.1 (Nat.le_of_ble_eq_true rfl) ⟨Nat.le_refl 0, Nat.le_refl 0⟩ dX1_grid_59 (fun H locs hS => ?_)
                exact EnM.iret E hS (ni_i _) (by first | (simp only [fm_grid, if_neg h7, if_neg h13, if_pos h19, if_neg h32, if_pos h43, if_neg h50, if_neg h54]; done) | (unfold fm_grid; rw [if_neg h7, if_neg h13, if_pos h19, if_neg h32, if_pos h43, if_neg h50, if_neg h54])) dX1_grid_62
          · refine lv_bipush (v := (-3)) hx hb dX1_grid_46 (by decide) ?_
            exact EnM.iret E hS (ni_i _) (by first | (simp only [fm_grid, if_neg h7, if_neg h13, if_pos h19, if_neg h32, if_neg h43]; done) | (unfold fm_grid; rw [if_neg h7, if_neg h13, if_pos h19, if_neg h32, if_neg h43])) dX1_grid_48
      · refine lv_bipush (v := (-2)) hx hb dX1_grid_22 (by decide) ?_
        exact EnM.iret E hS (ni_i _) (by first | (simp only [fm_grid, if_neg h7, if_neg h13, if_neg h19]; done) | (unfold fm_grid; rw [if_neg h7, if_neg h13, if_neg h19])) dX1_grid_24
