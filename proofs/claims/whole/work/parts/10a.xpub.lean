/-! DepotTrays: the public methods -/
theorem at_1 {u : XS} {b d n : Int32} : (fx_addThing u b d n).1 = x_thingCount u := rfl
theorem ti60 : (60 : Int32).toInt = 60 := by decide
theorem xr_n {u : XS} {k : Int32} (hI : XI u) (hk : 0 ≤ k.toInt ∧ k.toInt ≤ 100) (h : ¬ fx_hasRoomFor u k = 0) : (x_thingCount u).toInt + k.toInt ≤ 60 := by
  have h1 := hI.1
  unfold fx_hasRoomFor at h
  by_cases h2 : 60 < x_thingCount u + k
  · rw [if_pos h2] at h; exact absurd rfl h
  · rw [lt_ti, ti_add (by omega) (by omega), ti60] at h2; omega
theorem xr_in {u : XS} (hI : XI u) (h : ¬ fx_hasRoomFor u 1 = 0) : vp_in (x_thingCount u) 60 := by
  have h1 := hI.1
  have h2 := xr_n hI (by rw [ti1]; omega) h
  rw [ti1] at h2
  rw [vp_in_iff]; omega
theorem xd_in {k : Int32} (h : ¬ fx_isDoor k = 0) : vp_in k 8 := by
  unfold fx_isDoor at h
  by_cases h1 : k < 0
  · rw [if_pos h1] at h; exact absurd rfl h
  by_cases h2 : 8 ≤ k
  · rw [if_neg h1, if_pos h2] at h; exact absurd rfl h
  rw [lt_ti, ti0] at h1
  rw [le_ti, ti8] at h2
  rw [vp_in_iff]; omega
theorem xp_i {u : XS} {r i : Int32} (hI : XI u) (h : ¬ fx_hasPlace u r i = 0) : 0 ≤ i.toInt ∧ i.toInt < (x_thingSize u r.toNatClampNeg).toInt ∧ i.toInt < 8 := by
  unfold fx_hasPlace at h
  have h3 := hI.2.2 r.toNatClampNeg
  by_cases h1 : i < 0
  · rw [if_pos h1] at h; exact absurd rfl h
  by_cases h2 : x_thingSize u r.toNatClampNeg ≤ i
  · rw [if_neg h1, if_pos h2] at h; exact absurd rfl h
  rw [lt_ti, ti0] at h1
  rw [le_ti] at h2
  omega
theorem xp_in {u : XS} {r i : Int32} (hI : XI u) (hr : vp_in r 60) (h : ¬ fx_hasPlace u r i = 0) : vp_in (fx_placeIndex r i) 480 := by
  have h1 := xp_i hI h
  exact pi_in hr (by omega) (by omega)
theorem xl_0 {u : XS} {r i : Int32} (h : fx_ledgerFailure u r i = 0) : ¬ r = (-1) ∧ ¬ fx_isLedger u r = 0 ∧ ¬ fx_hasPlace u r i = 0 := by
  unfold fx_ledgerFailure at h
  by_cases h1 : r = (-1)
  · rw [if_pos h1] at h; exact absurd h (by decide)
  by_cases h2 : fx_isLedger u r = 0
  · rw [if_neg h1, if_pos h2] at h; exact absurd h (by decide)
  by_cases h3 : fx_hasPlace u r i = 0
  · rw [if_neg h1, if_neg h2, if_pos h3] at h; exact absurd h (by decide)
  exact ⟨h1, h2, h3⟩
theorem xl_in {u : XS} {r i : Int32} (hI : XI u) (h0 : ¬ fx_isThingOrNone u r = 0) (h : fx_ledgerFailure u r i = 0) : vp_in (fx_placeIndex r i) 480 := by
  obtain ⟨h1, h2, h3⟩ := xl_0 h
  exact xp_in hI (xn_in hI h0 h1) h3
theorem xps {u : XS} {r i n : Int32} (hI : XI u) (h : ¬ fx_hasPlaces u r i n = 0) : 0 ≤ i.toInt ∧ 0 ≤ n.toInt ∧ i.toInt + n.toInt ≤ (x_thingSize u r.toNatClampNeg).toInt ∧ i.toInt + n.toInt ≤ 8 := by
  unfold fx_hasPlaces at h
  have h3 := hI.2.2 r.toNatClampNeg
  by_cases h1 : i < 0
  · rw [if_pos h1] at h; exact absurd rfl h
  by_cases h2 : n < 0
  · rw [if_neg h1, if_pos h2] at h; exact absurd rfl h
  by_cases h4 : x_thingSize u r.toNatClampNeg - n < i
  · rw [if_neg h1, if_neg h2, if_pos h4] at h; exact absurd rfl h
  have hb := Int32.toInt_lt n
  rw [lt_ti, ti0] at h1 h2
  rw [lt_ti, ti_sub (by omega) (by omega)] at h4
  omega
theorem ar_eta (u : XS) : xs_places u (x_places u) = u := rfl
theorem ar_pp (u : XS) (f g : Nat → Int64) : xs_places (xs_places u f) g = xs_places u g := rfl
theorem pi_cl {r i : Int32} (hr : vp_in r 60) (h0 : 0 ≤ i.toInt) (h8 : i.toInt ≤ 8) : (fx_placeIndex r i).toNatClampNeg = 8 * r.toNatClampNeg + i.toNatClampNeg := by
  have h := pi_ti hr h0 h8
  rw [vp_in_iff] at hr
  have e1 := cl_ti (a := fx_placeIndex r i) (by omega)
  have e2 := cl_ti (a := r) (by omega)
  have e3 := cl_ti (a := i) (by omega)
  omega
def rowFill (f : Nat → Int64) (a b : Nat) (e : Int64) : Nat → Int64 := fun q => if a ≤ q ∧ q < b then e else f q
theorem arL : ∀ (f : Nat) (w : XS) (b d n r : Int32) (e : Int64) (i : Int32), vp_in r 60 → 0 ≤ n.toInt ∧ n.toInt ≤ 8 → 0 ≤ i.toInt ∧ i.toInt ≤ n.toInt → n.toInt - i.toInt < (f : Int) →
    fx_addRow_L f w b d n r e i = (r, xs_places w (rowFill (x_places w) (8 * r.toNatClampNeg + i.toNatClampNeg) (8 * r.toNatClampNeg + n.toNatClampNeg) e)) := by
  intro f
  induction f with
  | zero => intro w b d n r e i hr hn hi hf; exfalso; omega
  | succ f ih =>
    intro w b d n r e i hr hn hi hf
    rw [fx_addRow_L]
    by_cases h : n ≤ i
    · rw [if_pos h]
      rw [le_ti] at h
      have e2 := cl_ti (a := n) (by omega)
      have e3 := cl_ti (a := i) (by omega)
      have e4 : rowFill (x_places w) (8 * r.toNatClampNeg + i.toNatClampNeg) (8 * r.toNatClampNeg + n.toNatClampNeg) e = x_places w := by
        funext q
        unfold rowFill
        rw [if_neg (by omega)]
      rw [e4, ar_eta]
    · rw [if_neg h]
      rw [le_ti] at h
      have e7 : (i + 1).toInt = i.toInt + 1 := ti_inc (by omega) (by omega)
      rw [ih _ b d n r e (i + 1) hr hn (by omega) (by omega), ar_pp]
      have e1 := pi_cl hr (i := i) (by omega) (by omega)
      have e2 := cl_ti (a := n) (by omega)
      have e3 := cl_ti (a := i) (by omega)
      have e5 := cl_ti (a := i + 1) (by omega)
      have e4 : rowFill (x_places (xs_places w (vp_updL (x_places w) (fx_placeIndex r i).toNatClampNeg e))) (8 * r.toNatClampNeg + (i + 1).toNatClampNeg) (8 * r.toNatClampNeg + n.toNatClampNeg) e = rowFill (x_places w) (8 * r.toNatClampNeg + i.toNatClampNeg) (8 * r.toNatClampNeg + n.toNatClampNeg) e := by
        funext q
        rw [x_places_places]
        unfold rowFill vp_updL
        rw [e1]
        by_cases q1 : q = 8 * r.toNatClampNeg + i.toNatClampNeg
        · rw [if_neg (by omega), if_pos q1, if_pos (by omega)]
        · by_cases q2 : 8 * r.toNatClampNeg + i.toNatClampNeg ≤ q ∧ q < 8 * r.toNatClampNeg + n.toNatClampNeg
          · rw [if_pos (by omega), if_pos q2]
          · rw [if_neg (by omega), if_neg q1, if_neg q2]
      rw [e4]
/-- addRow, in one step -/
theorem ar_eq {u : XS} {b d n : Int32} (htc : vp_in (x_thingCount u) 60) (hn : 0 ≤ n.toInt ∧ n.toInt ≤ 8) : fx_addRow u b d n = (x_thingCount u, xs_places (fx_addThing u b d n).2 (rowFill (x_places u) (8 * (x_thingCount u).toNatClampNeg) (8 * (x_thingCount u).toNatClampNeg + n.toNatClampNeg) (if fx_isLedger (fx_addThing u b d n).2 (x_thingCount u) = 0 then -1 else 0))) := by
  have e1 : (fx_addThing u b d n).1 = x_thingCount u := rfl
  have e2 : x_places (fx_addThing u b d n).2 = x_places u := rfl
  have e0 : (0 : Int32).toNatClampNeg = 0 := by decide
  have k1 := arL 9 (fx_addThing u b d n).2 b d n (x_thingCount u) (-1) 0 htc hn (by rw [ti0]; omega) (by rw [ti0]; omega)
  have k2 := arL 9 (fx_addThing u b d n).2 b d n (x_thingCount u) 0 0 htc hn (by rw [ti0]; omega) (by rw [ti0]; omega)
  rw [e0, Nat.add_zero, e2] at k1 k2
  unfold fx_addRow
  rw [e1]
  by_cases h : fx_isLedger (fx_addThing u b d n).2 (x_thingCount u) = 0
  · rw [if_pos h, if_pos h, k1]
  · rw [if_neg h, if_neg h, k2]
theorem cg_b {u : XS} {r i s n : Int32} : ∀ (f : Nat) (v : Int32), 0 ≤ v.toInt ∧ v.toInt ≤ n.toInt → 0 ≤ n.toInt ∧ n.toInt ≤ 8 → 0 ≤ (fx_countGoing_L f u r i s n v).toInt ∧ (fx_countGoing_L f u r i s n v).toInt ≤ n.toInt := by
  intro f
  induction f with
  | zero => intro v hv hn; rw [fx_countGoing_L, ti0]; omega
  | succ f ih =>
    intro v hv hn
    rw [fx_countGoing_L]
    by_cases h : n ≤ v
    · rw [if_pos h]; exact hv
    rw [if_neg h]
    rw [le_ti] at h
    by_cases h2 : fx_goesInto u (fx_thingAt u r (i + v)) s = 0
    · rw [if_pos h2]; exact hv
    rw [if_neg h2]
    have e7 : (v + 1).toInt = v.toInt + 1 := ti_inc (by omega) (by omega)
    exact ih (v + 1) (by omega) hn
theorem cg_r {u : XS} {r i s n : Int32} (hn : 0 ≤ n.toInt ∧ n.toInt ≤ 8) : 0 ≤ (fx_countGoing u r i s n).toInt ∧ (fx_countGoing u r i s n).toInt ≤ n.toInt := cg_b 9 0 (by rw [ti0]; omega) hn
theorem mv_1 {r i : Int32} (hr : vp_in r 60) (h0 : 0 ≤ i.toInt) (h8 : i.toInt ≤ 8) : ¬ fx_placeIndex r i < 0 := by
  have h := pi_ti hr h0 h8
  rw [vp_in_iff] at hr
  rw [lt_ti, ti0]; omega
theorem mv_4 {r i n : Int32} (hr : vp_in r 60) (h0 : 0 ≤ i.toInt) (hn : 0 ≤ n.toInt) (h8 : i.toInt + n.toInt ≤ 8) : (fx_placeIndex r i).toNatClampNeg + n.toNatClampNeg ≤ 480 := by
  have h := pi_ti hr h0 (by omega)
  rw [vp_in_iff] at hr
  have e1 := cl_ti (a := fx_placeIndex r i) (by omega)
  have e3 := cl_ti (a := n) (by omega)
  omega
theorem mv_3 {n : Int32} (hn : 0 ≤ n.toInt) : ¬ n < 0 := by rw [lt_ti, ti0]; omega
theorem at_sz {u : XS} {b d n : Int32} (hI : XI u) (hn : 0 ≤ n.toInt ∧ n.toInt ≤ 8) (i : Nat) : 0 ≤ (x_thingSize (fx_addThing u b d n).2 i).toInt ∧ (x_thingSize (fx_addThing u b d n).2 i).toInt ≤ 8 := by
  show 0 ≤ (upd (x_thingSize u) (x_thingCount u).toNatClampNeg n i).toInt ∧ (upd (x_thingSize u) (x_thingCount u).toNatClampNeg n i).toInt ≤ 8
  unfold upd
  by_cases h : i = (x_thingCount u).toNatClampNeg
  · rw [if_pos h]; exact hn
  · rw [if_neg h]; exact hI.2.2 i
theorem xk8 {k : Int32} (h : vp_in k 8) : (8 - k : Int32).toInt = 8 - k.toInt := by
  rw [vp_in_iff] at h
  rw [ti_sub (by rw [ti8]; omega) (by rw [ti8]; omega), ti8]
def fx_piece (u : XS) (q_base : Int32) (q_worth : Int32) : Int32 × XS := if q_base < 0 then ((-2), u) else (if q_base ≤ 3 then (if (fx_hasRoomFor u 1) = 0 then ((-3), u) else ((fx_addThing u q_base 0 0).1, xs_pieceWorth ((fx_addThing u q_base 0 0).2) (upd (x_pieceWorth ((fx_addThing u q_base 0 0).2)) ((fx_addThing u q_base 0 0).1).toNatClampNeg q_worth))) else ((-2), u))
theorem hd_X0_piece : yX0_piece.cls = RX0 ∧ yX0_piece.cls ≠ "java/lang/invoke/MethodHandle" ∧ yX0_piece.cls ≠ "java/lang/invoke/VarHandle" ∧ (parseMethodDescriptor yX0_piece.desc).map (fun d => d.parameters.length) = some 2 := by decide +kernel
set_option maxRecDepth 100000 in
set_option maxHeartbeats 4000000 in
theorem kX0_piece (l : Launch) (D : va_G) (ad : Nat → Nat) (ca : Nat → ClassId) (g : Nat) (u : XS) (q_base : Int32) (q_worth : Int32) (hI : XI u) : CiX l yX0_piece cX0_piece 4 .int 2 D ad ca g [.int q_base, .int q_worth] u (fx_piece u q_base q_worth) := by
  refine CiX.of (by decide) rfl (Nat.le_of_ble_eq_true rfl) ?_
  intro p e s m below meth c A ls E hS hl
  have hx := E.1.1
  have hb := E.1.2.1
  have hml := E.1.2.2.1
  have hown := E.1.2.2.2.1
  have hts := E.1.2.2.2.2
  have hl : lv_has ls 4 [(0, .ref (ad 0)), (1, .int q_base), (2, .int q_worth)] := hl
  refine lv_iload_n hx hb dX0_piece_0 rfl (lv_at hl 1 rfl) ?_
  refine lv_if_lt (tgt := 9) hx hb dX0_piece_1 (by decide) (fun h1 => ?_) (fun h1 => ?_)
  · refine lv_bipush (v := (-2)) hx hb dX0_piece_9 (by decide) ?_
    exact EnX.iret E hS (ni_i _) (by first | (simp only [fx_piece, if_pos h1]; done) | (unfold fx_piece; rw [if_pos h1])) dX0_piece_11
  · refine lv_iload_n hx hb dX0_piece_4 rfl (lv_at hl 1 rfl) ?_
    refine lv_iconst (v := 3) hx hb dX0_piece_5 (by decide) ?_
    refine lv_icmp_le (tgt := 12) hx hb dX0_piece_6 (by decide) (fun h6 => ?_) (fun h6 => ?_)
    · refine lv_aload_n hx hb dX0_piece_12 rfl (lv_at hl 0 rfl) ?_
      refine lv_iconst (v := 1) hx hb dX0_piece_13 (by decide) ?_
      refine EnX.calli (r := fx_hasRoomFor u 1) (u2 := u) E hS [.int 1] [] (kX0_hasRoomFor l D ad ca g u 1 ) gc_X0_45 hd_X0_hasRoomFor ⟨Nat.le_of_ble_eq_true rfl, Nat.le_of_ble_eq_true rfl⟩ rfl hl.1 (Nat.le_of_ble_eq_true rfl) ⟨Nat.le_refl 0, Nat.le_refl 0⟩ dX0_piece_14 (fun H locs hS => ?_)
      refine lv_if_ne (tgt := 23) hx hb dX0_piece_17 (by decide) (fun h17 => ?_) (fun h17 => ?_)
      · refine lv_aload_n hx hb dX0_piece_23 rfl (lv_at hl 0 rfl) ?_
        refine lv_iload_n hx hb dX0_piece_24 rfl (lv_at hl 1 rfl) ?_
        refine lv_iconst (v := 0) hx hb dX0_piece_25 (by decide) ?_
        refine lv_iconst (v := 0) hx hb dX0_piece_26 (by decide) ?_
        refine EnX.calli (r := (fx_addThing u q_base 0 0).1) (u2 := (fx_addThing u q_base 0 0).2) E hS [.int q_base, .int 0, .int 0] [] (kX0_addThing l D ad ca g u q_base 0 0 (by first | with_reducible assumption | (refine xt_in hI ?_; with_reducible assumption) | (refine xn_in hI ?_ ?_ <;> with_reducible assumption) | with_reducible exact xb_in hI _ | (refine xr_in hI ?_; with_reducible assumption) | (refine xd_in ?_; with_reducible assumption))) gc_X0_49 hd_X0_addThing ⟨Nat.le_of_ble_eq_true rfl, Nat.le_of_ble_eq_true rfl⟩ rfl hl.1 (Nat.le_of_ble_eq_true rfl) ⟨Nat.le_refl 0, Nat.le_refl 0⟩ dX0_piece_27 (fun H locs hS => ?_)
        refine lv_istore_n (lv' := [(3, .int ((fx_addThing u q_base 0 0).1)), (0, .ref (ad 0)), (1, .int q_base), (2, .int q_worth)]) hx hb dX0_piece_30 rfl hl (by decide) rfl (fun ls hl => ?_)
        refine lv_aload_n hx hb dX0_piece_31 rfl (lv_at hl 1 rfl) ?_
        refine gX_pieceWorth E hS dX0_piece_32 ?_
        refine lv_iload_n hx hb dX0_piece_35 rfl (lv_at hl 0 rfl) ?_
        refine lv_iload_n hx hb dX0_piece_36 rfl (lv_at hl 3 rfl) ?_
        refine sX_pieceWorth E hS (show vp_in ((fx_addThing u q_base 0 0).1) 60 from (by rw [at_1]; exact xr_in hI h17)) dX0_piece_37 (fun H locs hS => ?_)
        have hS : SX D ad ca A s (xs_pieceWorth ((fx_addThing u q_base 0 0).2) (upd (x_pieceWorth ((fx_addThing u q_base 0 0).2)) ((fx_addThing u q_base 0 0).1).toNatClampNeg q_worth)) H locs := hS
        refine lv_iload_n hx hb dX0_piece_38 rfl (lv_at hl 0 rfl) ?_
        exact EnX.iret E hS (ni_i _) (by first | (simp only [fx_piece, if_neg h1, if_pos h6, if_neg h17]; done) | (unfold fx_piece; rw [if_neg h1, if_pos h6, if_neg h17])) dX0_piece_39
      · refine lv_bipush (v := (-3)) hx hb dX0_piece_20 (by decide) ?_
        exact EnX.iret E hS (ni_i _) (by first | (simp only [fx_piece, if_neg h1, if_pos h6, if_pos h17]; done) | (unfold fx_piece; rw [if_neg h1, if_pos h6, if_pos h17])) dX0_piece_22
    · refine lv_bipush (v := (-2)) hx hb dX0_piece_9 (by decide) ?_
      exact EnX.iret E hS (ni_i _) (by first | (simp only [fx_piece, if_neg h1, if_neg h6]; done) | (unfold fx_piece; rw [if_neg h1, if_neg h6])) dX0_piece_11
def fx_row (u : XS) (q_base : Int32) (q_depth : Int32) (q_n : Int32) : Int32 × XS := if (fx_isKind q_base q_depth) = 0 then ((-2), u) else (if q_depth < 1 then ((-2), u) else (if q_n ≤ 8 then (if (fx_hasRoomFor u 1) = 0 then ((-3), u) else (if 0 ≤ q_n then ((fx_addRow u q_base q_depth q_n).1, (fx_addRow u q_base q_depth q_n).2) else ((fx_fail u 5).1, (fx_fail u 5).2))) else ((-2), u)))
theorem hd_X0_row : yX0_row.cls = RX0 ∧ yX0_row.cls ≠ "java/lang/invoke/MethodHandle" ∧ yX0_row.cls ≠ "java/lang/invoke/VarHandle" ∧ (parseMethodDescriptor yX0_row.desc).map (fun d => d.parameters.length) = some 3 := by decide +kernel
set_option maxRecDepth 100000 in
set_option maxHeartbeats 4000000 in
theorem kX0_row (l : Launch) (D : va_G) (ad : Nat → Nat) (ca : Nat → ClassId) (g : Nat) (u : XS) (q_base : Int32) (q_depth : Int32) (q_n : Int32) (hI : XI u) : CiX l yX0_row cX0_row 4 .int 4 D ad ca g [.int q_base, .int q_depth, .int q_n] u (fx_row u q_base q_depth q_n) := by
  refine CiX.of (by decide) rfl (Nat.le_of_ble_eq_true rfl) ?_
  intro p e s m below meth c A ls E hS hl
  have hx := E.1.1
  have hb := E.1.2.1
  have hml := E.1.2.2.1
  have hown := E.1.2.2.2.1
  have hts := E.1.2.2.2.2
  have hl : lv_has ls 4 [(0, .ref (ad 0)), (1, .int q_base), (2, .int q_depth), (3, .int q_n)] := hl
  refine lv_iload_n hx hb dX0_row_0 rfl (lv_at hl 1 rfl) ?_
  refine lv_iload_n hx hb dX0_row_1 rfl (lv_at hl 2 rfl) ?_
  refine EnX.sti (r := fx_isKind q_base q_depth) E hS [.int q_base, .int q_depth] [] (kX0_isKind l q_base q_depth ) (fun _ _ _ _ h => h) (fun _ _ _ => trivial) gc_X0_53 hd_X0_isKind ⟨Nat.le_of_ble_eq_true rfl, Nat.le_of_ble_eq_true rfl⟩ rfl hl.1 (Nat.le_of_ble_eq_true rfl) ⟨Nat.le_refl 0, Nat.le_refl 0⟩ dX0_row_2 (fun H locs hS => ?_)
  refine lv_if_eq (tgt := 19) hx hb dX0_row_5 (by decide) (fun h5 => ?_) (fun h5 => ?_)
  · refine lv_bipush (v := (-2)) hx hb dX0_row_19 (by decide) ?_
    exact EnX.iret E hS (ni_i _) (by first | (simp only [fx_row, if_pos h5]; done) | (unfold fx_row; rw [if_pos h5])) dX0_row_21
  · refine lv_iload_n hx hb dX0_row_8 rfl (lv_at hl 2 rfl) ?_
    refine lv_iconst (v := 1) hx hb dX0_row_9 (by decide) ?_
    refine lv_icmp_lt (tgt := 19) hx hb dX0_row_10 (by decide) (fun h10 => ?_) (fun h10 => ?_)
    · refine lv_bipush (v := (-2)) hx hb dX0_row_19 (by decide) ?_
      exact EnX.iret E hS (ni_i _) (by first | (simp only [fx_row, if_neg h5, if_pos h10]; done) | (unfold fx_row; rw [if_neg h5, if_pos h10])) dX0_row_21
    · refine lv_iload_n hx hb dX0_row_13 rfl (lv_at hl 3 rfl) ?_
      refine lv_bipush (v := 8) hx hb dX0_row_14 (by decide) ?_
      refine lv_icmp_le (tgt := 22) hx hb dX0_row_16 (by decide) (fun h16 => ?_) (fun h16 => ?_)
      · refine lv_aload_n hx hb dX0_row_22 rfl (lv_at hl 0 rfl) ?_
        refine lv_iconst (v := 1) hx hb dX0_row_23 (by decide) ?_
        refine EnX.calli (r := fx_hasRoomFor u 1) (u2 := u) E hS [.int 1] [] (kX0_hasRoomFor l D ad ca g u 1 ) gc_X0_45 hd_X0_hasRoomFor ⟨Nat.le_of_ble_eq_true rfl, Nat.le_of_ble_eq_true rfl⟩ rfl hl.1 (Nat.le_of_ble_eq_true rfl) ⟨Nat.le_refl 0, Nat.le_refl 0⟩ dX0_row_24 (fun H locs hS => ?_)
        refine lv_if_ne (tgt := 33) hx hb dX0_row_27 (by decide) (fun h27 => ?_) (fun h27 => ?_)
        · refine lv_iload_n hx hb dX0_row_33 rfl (lv_at hl 3 rfl) ?_
          refine lv_if_ge (tgt := 43) hx hb dX0_row_34 (by decide) (fun h34 => ?_) (fun h34 => ?_)
          · refine lv_aload_n hx hb dX0_row_43 rfl (lv_at hl 0 rfl) ?_
            refine lv_iload_n hx hb dX0_row_44 rfl (lv_at hl 1 rfl) ?_
            refine lv_iload_n hx hb dX0_row_45 rfl (lv_at hl 2 rfl) ?_
            refine lv_iload_n hx hb dX0_row_46 rfl (lv_at hl 3 rfl) ?_
            refine EnX.calli (r := (fx_addRow u q_base q_depth q_n).1) (u2 := (fx_addRow u q_base q_depth q_n).2) E hS [.int q_base, .int q_depth, .int q_n] [] (kX0_addRow l D ad ca g u q_base q_depth q_n (xr_in hI h27) (by rw [le_ti] at h16; rw [le_ti, ti0] at h34; rw [ti8] at h16; omega)) gc_X0_61 hd_X0_addRow ⟨Nat.le_of_ble_eq_true rfl, Nat.le_of_ble_eq_true rfl⟩ rfl hl.1 (Nat.le_of_ble_eq_true rfl) ⟨Nat.le_refl 0, Nat.le_refl 0⟩ dX0_row_47 (fun H locs hS => ?_)
            exact EnX.iret E hS (ni_i _) (by first | (simp only [fx_row, if_neg h5, if_neg h10, if_pos h16, if_neg h27, if_pos h34]; done) | (unfold fx_row; rw [if_neg h5, if_neg h10, if_pos h16, if_neg h27, if_pos h34])) dX0_row_50
          · refine lv_aload_n hx hb dX0_row_37 rfl (lv_at hl 0 rfl) ?_
            refine lv_iconst (v := 5) hx hb dX0_row_38 (by decide) ?_
            refine EnX.calli (r := (fx_fail u 5).1) (u2 := (fx_fail u 5).2) E hS [.int 5] [] (kX0_fail l D ad ca g u 5 ) gc_X0_57 hd_X0_fail ⟨Nat.le_of_ble_eq_true rfl, Nat.le_of_ble_eq_true rfl⟩ rfl hl.1 (Nat.le_of_ble_eq_true rfl) ⟨Nat.le_refl 0, Nat.le_refl 0⟩ dX0_row_39 (fun H locs hS => ?_)
            exact EnX.iret E hS (ni_i _) (by first | (simp only [fx_row, if_neg h5, if_neg h10, if_pos h16, if_neg h27, if_neg h34]; done) | (unfold fx_row; rw [if_neg h5, if_neg h10, if_pos h16, if_neg h27, if_neg h34])) dX0_row_42
        · refine lv_bipush (v := (-3)) hx hb dX0_row_30 (by decide) ?_
          exact EnX.iret E hS (ni_i _) (by first | (simp only [fx_row, if_neg h5, if_neg h10, if_pos h16, if_pos h27]; done) | (unfold fx_row; rw [if_neg h5, if_neg h10, if_pos h16, if_pos h27])) dX0_row_32
      · refine lv_bipush (v := (-2)) hx hb dX0_row_19 (by decide) ?_
        exact EnX.iret E hS (ni_i _) (by first | (simp only [fx_row, if_neg h5, if_neg h10, if_neg h16]; done) | (unfold fx_row; rw [if_neg h5, if_neg h10, if_neg h16])) dX0_row_21
def fx_put (u : XS) (q_r : Int32) (q_i : Int32) (q_x : Int32) : Int32 × XS := if (fx_isThingOrNone u q_r) = 0 then ((-2), u) else (if (fx_isThingOrNone u q_x) = 0 then ((-2), u) else (if q_r = (-1) then (if (fx_mayPass u q_x 0 0) = 0 then ((fx_fail u 2).1, (fx_fail u 2).2) else ((fx_fail u 1).1, (fx_fail u 1).2)) else (if (fx_holdsThings u q_r) = 0 then ((fx_fail u 2).1, (fx_fail u 2).2) else (if (fx_mayPass u q_x (fx_widestBase u q_r) ((x_thingDepth u (q_r).toNatClampNeg) - 1)) = 0 then ((fx_fail u 2).1, (fx_fail u 2).2) else (if (fx_hasPlace u q_r q_i) = 0 then ((fx_fail u 3).1, (fx_fail u 3).2) else (if (fx_goesInto u q_x q_r) = 0 then ((fx_fail u 4).1, (fx_fail u 4).2) else (1, xs_places u (vp_updL (x_places u) (fx_placeIndex q_r q_i).toNatClampNeg (Int32.toInt64 q_x)))))))))
theorem hd_X0_put : yX0_put.cls = RX0 ∧ yX0_put.cls ≠ "java/lang/invoke/MethodHandle" ∧ yX0_put.cls ≠ "java/lang/invoke/VarHandle" ∧ (parseMethodDescriptor yX0_put.desc).map (fun d => d.parameters.length) = some 3 := by decide +kernel
set_option maxRecDepth 100000 in
set_option maxHeartbeats 4000000 in
theorem kX0_put (l : Launch) (D : va_G) (ad : Nat → Nat) (ca : Nat → ClassId) (g : Nat) (u : XS) (q_r : Int32) (q_i : Int32) (q_x : Int32) (hI : XI u) : CiX l yX0_put cX0_put 4 .int 5 D ad ca g [.int q_r, .int q_i, .int q_x] u (fx_put u q_r q_i q_x) := by
  refine CiX.of (by decide) rfl (Nat.le_of_ble_eq_true rfl) ?_
  intro p e s m below meth c A ls E hS hl
  have hx := E.1.1
  have hb := E.1.2.1
  have hml := E.1.2.2.1
  have hown := E.1.2.2.2.1
  have hts := E.1.2.2.2.2
  have hl : lv_has ls 4 [(0, .ref (ad 0)), (1, .int q_r), (2, .int q_i), (3, .int q_x)] := hl
  refine lv_aload_n hx hb dX0_put_0 rfl (lv_at hl 0 rfl) ?_
  refine lv_iload_n hx hb dX0_put_1 rfl (lv_at hl 1 rfl) ?_
  refine EnX.calli (r := fx_isThingOrNone u q_r) (u2 := u) E hS [.int q_r] [] (kX0_isThingOrNone l D ad ca g u q_r ) gc_X0_73 hd_X0_isThingOrNone ⟨Nat.le_of_ble_eq_true rfl, Nat.le_of_ble_eq_true rfl⟩ rfl hl.1 (Nat.le_of_ble_eq_true rfl) ⟨Nat.le_refl 0, Nat.le_refl 0⟩ dX0_put_2 (fun H locs hS => ?_)
  refine lv_if_eq (tgt := 16) hx hb dX0_put_5 (by decide) (fun h5 => ?_) (fun h5 => ?_)
  · refine lv_bipush (v := (-2)) hx hb dX0_put_16 (by decide) ?_
    exact EnX.iret E hS (ni_i _) (by first | (simp only [fx_put, if_pos h5]; done) | (unfold fx_put; rw [if_pos h5])) dX0_put_18
  · refine lv_aload_n hx hb dX0_put_8 rfl (lv_at hl 0 rfl) ?_
    refine lv_iload_n hx hb dX0_put_9 rfl (lv_at hl 3 rfl) ?_
    refine EnX.calli (r := fx_isThingOrNone u q_x) (u2 := u) E hS [.int q_x] [] (kX0_isThingOrNone l D ad ca g u q_x ) gc_X0_73 hd_X0_isThingOrNone ⟨Nat.le_of_ble_eq_true rfl, Nat.le_of_ble_eq_true rfl⟩ rfl hl.1 (Nat.le_of_ble_eq_true rfl) ⟨Nat.le_refl 0, Nat.le_refl 0⟩ dX0_put_10 (fun H locs hS => ?_)
    refine lv_if_ne (tgt := 19) hx hb dX0_put_13 (by decide) (fun h13 => ?_) (fun h13 => ?_)
    · refine lv_iload_n hx hb dX0_put_19 rfl (lv_at hl 1 rfl) ?_
      refine lv_iconst (v := (-1)) hx hb dX0_put_20 (by decide) ?_
      refine lv_icmp_ne (tgt := 44) hx hb dX0_put_21 (by decide) (fun h21 => ?_) (fun h21 => ?_)
      · refine lv_aload_n hx hb dX0_put_44 rfl (lv_at hl 0 rfl) ?_
        refine lv_iload_n hx hb dX0_put_45 rfl (lv_at hl 1 rfl) ?_
        refine EnX.calli (r := fx_holdsThings u q_r) (u2 := u) E hS [.int q_r] [] (kX0_holdsThings l D ad ca g u q_r (by first | with_reducible assumption | (refine xt_in hI ?_; with_reducible assumption) | (refine xn_in hI ?_ ?_ <;> with_reducible assumption) | with_reducible exact xb_in hI _ | (refine xr_in hI ?_; with_reducible assumption) | (refine xd_in ?_; with_reducible assumption))) gc_X0_80 hd_X0_holdsThings ⟨Nat.le_of_ble_eq_true rfl, Nat.le_of_ble_eq_true rfl⟩ rfl hl.1 (Nat.le_of_ble_eq_true rfl) ⟨Nat.le_refl 0, Nat.le_refl 0⟩ dX0_put_46 (fun H locs hS => ?_)
        refine lv_if_ne (tgt := 58) hx hb dX0_put_49 (by decide) (fun h49 => ?_) (fun h49 => ?_)
        · refine lv_aload_n hx hb dX0_put_58 rfl (lv_at hl 0 rfl) ?_
          refine lv_iload_n hx hb dX0_put_59 rfl (lv_at hl 3 rfl) ?_
          refine lv_aload_n hx hb dX0_put_60 rfl (lv_at hl 0 rfl) ?_
          refine lv_iload_n hx hb dX0_put_61 rfl (lv_at hl 1 rfl) ?_
          refine EnX.calli (r := fx_widestBase u q_r) (u2 := u) E hS [.int q_r] [.int q_x, .ref (ad 0)] (kX0_widestBase l D ad ca g u q_r (by first | with_reducible assumption | (refine xt_in hI ?_; with_reducible assumption) | (refine xn_in hI ?_ ?_ <;> with_reducible assumption) | with_reducible exact xb_in hI _ | (refine xr_in hI ?_; with_reducible assumption) | (refine xd_in ?_; with_reducible assumption)) (by first | with_reducible assumption | (refine xt_in hI ?_; with_reducible assumption) | (refine xn_in hI ?_ ?_ <;> with_reducible assumption) | with_reducible exact xb_in hI _ | (refine xr_in hI ?_; with_reducible assumption) | (refine xd_in ?_; with_reducible assumption))) gc_X0_83 hd_X0_widestBase ⟨Nat.le_of_ble_eq_true rfl, Nat.le_of_ble_eq_true rfl⟩ rfl hl.1 (Nat.le_of_ble_eq_true rfl) ⟨Nat.le_refl 0, Nat.le_refl 0⟩ dX0_put_62 (fun H locs hS => ?_)
          refine lv_aload_n hx hb dX0_put_65 rfl (lv_at hl 0 rfl) ?_
          refine gX_thingDepth E hS dX0_put_66 ?_
          refine lv_iload_n hx hb dX0_put_69 rfl (lv_at hl 1 rfl) ?_
          refine lX_thingDepth (v := x_thingDepth u (q_r).toNatClampNeg) E hS (show vp_in q_r 60 from by first | with_reducible assumption | (refine xt_in hI ?_; with_reducible assumption) | (refine xn_in hI ?_ ?_ <;> with_reducible assumption) | with_reducible exact xb_in hI _ | (refine xr_in hI ?_; with_reducible assumption) | (refine xd_in ?_; with_reducible assumption)) rfl dX0_put_70 ?_
          refine lv_iconst (v := 1) hx hb dX0_put_71 (by decide) ?_
          refine lv_isub hx hb dX0_put_72 ?_
          refine EnX.calli (r := fx_mayPass u q_x (fx_widestBase u q_r) ((x_thingDepth u (q_r).toNatClampNeg) - 1)) (u2 := u) E hS [.int q_x, .int (fx_widestBase u q_r), .int ((x_thingDepth u (q_r).toNatClampNeg) - 1)] [] (kX0_mayPass l D ad ca g u q_x (fx_widestBase u q_r) ((x_thingDepth u (q_r).toNatClampNeg) - 1) (by first | with_reducible assumption | (refine xt_in hI ?_; with_reducible assumption) | (refine xn_in hI ?_ ?_ <;> with_reducible assumption) | with_reducible exact xb_in hI _ | (refine xr_in hI ?_; with_reducible assumption) | (refine xd_in ?_; with_reducible assumption))) gc_X0_76 hd_X0_mayPass ⟨Nat.le_of_ble_eq_true rfl, Nat.le_of_ble_eq_true rfl⟩ rfl hl.1 (Nat.le_of_ble_eq_true rfl) ⟨Nat.le_refl 0, Nat.le_refl 0⟩ dX0_put_73 (fun H locs hS => ?_)
          refine lv_if_ne (tgt := 85) hx hb dX0_put_76 (by decide) (fun h76 => ?_) (fun h76 => ?_)
          · refine lv_aload_n hx hb dX0_put_85 rfl (lv_at hl 0 rfl) ?_
            refine lv_iload_n hx hb dX0_put_86 rfl (lv_at hl 1 rfl) ?_
            refine lv_iload_n hx hb dX0_put_87 rfl (lv_at hl 2 rfl) ?_
            refine EnX.calli (r := fx_hasPlace u q_r q_i) (u2 := u) E hS [.int q_r, .int q_i] [] (kX0_hasPlace l D ad ca g u q_r q_i (by first | with_reducible assumption | (refine xt_in hI ?_; with_reducible assumption) | (refine xn_in hI ?_ ?_ <;> with_reducible assumption) | with_reducible exact xb_in hI _ | (refine xr_in hI ?_; with_reducible assumption) | (refine xd_in ?_; with_reducible assumption))) gc_X0_86 hd_X0_hasPlace ⟨Nat.le_of_ble_eq_true rfl, Nat.le_of_ble_eq_true rfl⟩ rfl hl.1 (Nat.le_of_ble_eq_true rfl) ⟨Nat.le_refl 0, Nat.le_refl 0⟩ dX0_put_88 (fun H locs hS => ?_)
            refine lv_if_ne (tgt := 100) hx hb dX0_put_91 (by decide) (fun h91 => ?_) (fun h91 => ?_)
            · refine lv_aload_n hx hb dX0_put_100 rfl (lv_at hl 0 rfl) ?_
              refine lv_iload_n hx hb dX0_put_101 rfl (lv_at hl 3 rfl) ?_
              refine lv_iload_n hx hb dX0_put_102 rfl (lv_at hl 1 rfl) ?_
              refine EnX.calli (r := fx_goesInto u q_x q_r) (u2 := u) E hS [.int q_x, .int q_r] [] (kX0_goesInto l D ad ca g u q_x q_r (by first | with_reducible assumption | (refine xt_in hI ?_; with_reducible assumption) | (refine xn_in hI ?_ ?_ <;> with_reducible assumption) | with_reducible exact xb_in hI _ | (refine xr_in hI ?_; with_reducible assumption) | (refine xd_in ?_; with_reducible assumption)) (by first | with_reducible assumption | (refine xt_in hI ?_; with_reducible assumption) | (refine xn_in hI ?_ ?_ <;> with_reducible assumption) | with_reducible exact xb_in hI _ | (refine xr_in hI ?_; with_reducible assumption) | (refine xd_in ?_; with_reducible assumption))) gc_X0_89 hd_X0_goesInto ⟨Nat.le_of_ble_eq_true rfl, Nat.le_of_ble_eq_true rfl⟩ rfl hl.1 (Nat.le_of_ble_eq_true rfl) ⟨Nat.le_refl 0, Nat.le_refl 0⟩ dX0_put_103 (fun H locs hS => ?_)
              refine lv_if_ne (tgt := 115) hx hb dX0_put_106 (by decide) (fun h106 => ?_) (fun h106 => ?_)
              · refine lv_aload_n hx hb dX0_put_115 rfl (lv_at hl 0 rfl) ?_
                refine gX_places E hS dX0_put_116 ?_
                refine lv_iload_n hx hb dX0_put_119 rfl (lv_at hl 1 rfl) ?_
                refine lv_iload_n hx hb dX0_put_120 rfl (lv_at hl 2 rfl) ?_
                refine EnX.sti (r := fx_placeIndex q_r q_i) E hS [.int q_r, .int q_i] [.ref (ad 5)] (kX0_placeIndex l q_r q_i ) (fun _ _ _ _ h => h) (fun _ _ _ => trivial) gc_X0_70 hd_X0_placeIndex ⟨Nat.le_of_ble_eq_true rfl, Nat.le_of_ble_eq_true rfl⟩ rfl hl.1 (Nat.le_of_ble_eq_true rfl) ⟨Nat.le_refl 0, Nat.le_refl 0⟩ dX0_put_121 (fun H locs hS => ?_)
                refine lv_iload_n hx hb dX0_put_124 rfl (lv_at hl 3 rfl) ?_
                refine lv_i2l (v := Int32.toInt64 q_x) hx hb dX0_put_125 rfl ?_
                refine sX_places E hS (show vp_in (fx_placeIndex q_r q_i) 480 from xp_in hI (xn_in hI (by with_reducible assumption) (by with_reducible assumption)) (by with_reducible assumption)) dX0_put_126 (fun H locs hS => ?_)
                have hS : SX D ad ca A s (xs_places u (vp_updL (x_places u) (fx_placeIndex q_r q_i).toNatClampNeg (Int32.toInt64 q_x))) H locs := hS
                refine lv_iconst (v := 1) hx hb dX0_put_127 (by decide) ?_
                exact EnX.iret E hS (ni_i _) (by first | (simp only [fx_put, if_neg h5, if_neg h13, if_neg h21, if_neg h49, if_neg h76, if_neg h91, if_neg h106]; done) | (unfold fx_put; rw [if_neg h5, if_neg h13, if_neg h21, if_neg h49, if_neg h76, if_neg h91, if_neg h106])) dX0_put_128
              · refine lv_aload_n hx hb dX0_put_109 rfl (lv_at hl 0 rfl) ?_
                refine lv_iconst (v := 4) hx hb dX0_put_110 (by decide) ?_
                refine EnX.calli (r := (fx_fail u 4).1) (u2 := (fx_fail u 4).2) E hS [.int 4] [] (kX0_fail l D ad ca g u 4 ) gc_X0_57 hd_X0_fail ⟨Nat.le_of_ble_eq_true rfl, Nat.le_of_ble_eq_true rfl⟩ rfl hl.1 (Nat.le_of_ble_eq_true rfl) ⟨Nat.le_refl 0, Nat.le_refl 0⟩ dX0_put_111 (fun H locs hS => ?_)
                exact EnX.iret E hS (ni_i _) (by first | (simp only [fx_put, if_neg h5, if_neg h13, if_neg h21, if_neg h49, if_neg h76, if_neg h91, if_pos h106]; done) | (unfold fx_put; rw [if_neg h5, if_neg h13, if_neg h21, if_neg h49, if_neg h76, if_neg h91, if_pos h106])) dX0_put_114
            · refine lv_aload_n hx hb dX0_put_94 rfl (lv_at hl 0 rfl) ?_
              refine lv_iconst (v := 3) hx hb dX0_put_95 (by decide) ?_
              refine EnX.calli (r := (fx_fail u 3).1) (u2 := (fx_fail u 3).2) E hS [.int 3] [] (kX0_fail l D ad ca g u 3 ) gc_X0_57 hd_X0_fail ⟨Nat.le_of_ble_eq_true rfl, Nat.le_of_ble_eq_true rfl⟩ rfl hl.1 (Nat.le_of_ble_eq_true rfl) ⟨Nat.le_refl 0, Nat.le_refl 0⟩ dX0_put_96 (fun H locs hS => ?_)
              exact EnX.iret E hS (ni_i _) (by first | (simp only [fx_put, if_neg h5, if_neg h13, if_neg h21, if_neg h49, if_neg h76, if_pos h91]; done) | (unfold fx_put; rw [if_neg h5, if_neg h13, if_neg h21, if_neg h49, if_neg h76, if_pos h91])) dX0_put_99
          · refine lv_aload_n hx hb dX0_put_79 rfl (lv_at hl 0 rfl) ?_
            refine lv_iconst (v := 2) hx hb dX0_put_80 (by decide) ?_
            refine EnX.calli (r := (fx_fail u 2).1) (u2 := (fx_fail u 2).2) E hS [.int 2] [] (kX0_fail l D ad ca g u 2 ) gc_X0_57 hd_X0_fail ⟨Nat.le_of_ble_eq_true rfl, Nat.le_of_ble_eq_true rfl⟩ rfl hl.1 (Nat.le_of_ble_eq_true rfl) ⟨Nat.le_refl 0, Nat.le_refl 0⟩ dX0_put_81 (fun H locs hS => ?_)
            exact EnX.iret E hS (ni_i _) (by first | (simp only [fx_put, if_neg h5, if_neg h13, if_neg h21, if_neg h49, if_pos h76]; done) | (unfold fx_put; rw [if_neg h5, if_neg h13, if_neg h21, if_neg h49, if_pos h76])) dX0_put_84
        · refine lv_aload_n hx hb dX0_put_52 rfl (lv_at hl 0 rfl) ?_
          refine lv_iconst (v := 2) hx hb dX0_put_53 (by decide) ?_
          refine EnX.calli (r := (fx_fail u 2).1) (u2 := (fx_fail u 2).2) E hS [.int 2] [] (kX0_fail l D ad ca g u 2 ) gc_X0_57 hd_X0_fail ⟨Nat.le_of_ble_eq_true rfl, Nat.le_of_ble_eq_true rfl⟩ rfl hl.1 (Nat.le_of_ble_eq_true rfl) ⟨Nat.le_refl 0, Nat.le_refl 0⟩ dX0_put_54 (fun H locs hS => ?_)
          exact EnX.iret E hS (ni_i _) (by first | (simp only [fx_put, if_neg h5, if_neg h13, if_neg h21, if_pos h49]; done) | (unfold fx_put; rw [if_neg h5, if_neg h13, if_neg h21, if_pos h49])) dX0_put_57
      · refine lv_aload_n hx hb dX0_put_24 rfl (lv_at hl 0 rfl) ?_
        refine lv_aload_n hx hb dX0_put_25 rfl (lv_at hl 0 rfl) ?_
        refine lv_iload_n hx hb dX0_put_26 rfl (lv_at hl 3 rfl) ?_
        refine lv_iconst (v := 0) hx hb dX0_put_27 (by decide) ?_
        refine lv_iconst (v := 0) hx hb dX0_put_28 (by decide) ?_
        refine EnX.calli (r := fx_mayPass u q_x 0 0) (u2 := u) E hS [.int q_x, .int 0, .int 0] [.ref (ad 0)] (kX0_mayPass l D ad ca g u q_x 0 0 (by first | with_reducible assumption | (refine xt_in hI ?_; with_reducible assumption) | (refine xn_in hI ?_ ?_ <;> with_reducible assumption) | with_reducible exact xb_in hI _ | (refine xr_in hI ?_; with_reducible assumption) | (refine xd_in ?_; with_reducible assumption))) gc_X0_76 hd_X0_mayPass ⟨Nat.le_of_ble_eq_true rfl, Nat.le_of_ble_eq_true rfl⟩ rfl hl.1 (Nat.le_of_ble_eq_true rfl) ⟨Nat.le_refl 0, Nat.le_refl 0⟩ dX0_put_29 (fun H locs hS => ?_)
        refine lv_if_eq (tgt := 39) hx hb dX0_put_32 (by decide) (fun h32 => ?_) (fun h32 => ?_)
        · refine lv_iconst (v := 2) hx hb dX0_put_39 (by decide) ?_
          refine EnX.calli (r := (fx_fail u 2).1) (u2 := (fx_fail u 2).2) E hS [.int 2] [] (kX0_fail l D ad ca g u 2 ) gc_X0_57 hd_X0_fail ⟨Nat.le_of_ble_eq_true rfl, Nat.le_of_ble_eq_true rfl⟩ rfl hl.1 (Nat.le_of_ble_eq_true rfl) ⟨Nat.le_refl 0, Nat.le_refl 0⟩ dX0_put_40 (fun H locs hS => ?_)
          exact EnX.iret E hS (ni_i _) (by first | (simp only [fx_put, if_neg h5, if_neg h13, if_pos h21, if_pos h32]; done) | (unfold fx_put; rw [if_neg h5, if_neg h13, if_pos h21, if_pos h32])) dX0_put_43
        · refine lv_iconst (v := 1) hx hb dX0_put_35 (by decide) ?_
          refine lv_goto (tgt := 40) hx hb dX0_put_36 (by decide) ?_
          refine EnX.calli (r := (fx_fail u 1).1) (u2 := (fx_fail u 1).2) E hS [.int 1] [] (kX0_fail l D ad ca g u 1 ) gc_X0_57 hd_X0_fail ⟨Nat.le_of_ble_eq_true rfl, Nat.le_of_ble_eq_true rfl⟩ rfl hl.1 (Nat.le_of_ble_eq_true rfl) ⟨Nat.le_refl 0, Nat.le_refl 0⟩ dX0_put_40 (fun H locs hS => ?_)
          exact EnX.iret E hS (ni_i _) (by first | (simp only [fx_put, if_neg h5, if_neg h13, if_pos h21, if_neg h32]; done) | (unfold fx_put; rw [if_neg h5, if_neg h13, if_pos h21, if_neg h32])) dX0_put_43
    · refine lv_bipush (v := (-2)) hx hb dX0_put_16 (by decide) ?_
      exact EnX.iret E hS (ni_i _) (by first | (simp only [fx_put, if_neg h5, if_pos h13]; done) | (unfold fx_put; rw [if_neg h5, if_pos h13])) dX0_put_18
def fx_get (u : XS) (q_r : Int32) (q_i : Int32) : Int32 × XS := if (fx_isThingOrNone u q_r) = 0 then ((-2), u) else (if q_r = (-1) then ((fx_fail u 1).1, (fx_fail u 1).2) else (if (fx_holdsThings u q_r) = 0 then ((fx_fail u 2).1, (fx_fail u 2).2) else (if (fx_hasPlace u q_r q_i) = 0 then ((fx_fail u 3).1, (fx_fail u 3).2) else (fx_thingAt u q_r q_i, u))))
theorem hd_X0_get : yX0_get.cls = RX0 ∧ yX0_get.cls ≠ "java/lang/invoke/MethodHandle" ∧ yX0_get.cls ≠ "java/lang/invoke/VarHandle" ∧ (parseMethodDescriptor yX0_get.desc).map (fun d => d.parameters.length) = some 2 := by decide +kernel
set_option maxRecDepth 100000 in
set_option maxHeartbeats 4000000 in
theorem kX0_get (l : Launch) (D : va_G) (ad : Nat → Nat) (ca : Nat → ClassId) (g : Nat) (u : XS) (q_r : Int32) (q_i : Int32) (hI : XI u) : CiX l yX0_get cX0_get 3 .int 4 D ad ca g [.int q_r, .int q_i] u (fx_get u q_r q_i) := by
  refine CiX.of (by decide) rfl (Nat.le_of_ble_eq_true rfl) ?_
  intro p e s m below meth c A ls E hS hl
  have hx := E.1.1
  have hb := E.1.2.1
  have hml := E.1.2.2.1
  have hown := E.1.2.2.2.1
  have hts := E.1.2.2.2.2
  have hl : lv_has ls 3 [(0, .ref (ad 0)), (1, .int q_r), (2, .int q_i)] := hl
  refine lv_aload_n hx hb dX0_get_0 rfl (lv_at hl 0 rfl) ?_
  refine lv_iload_n hx hb dX0_get_1 rfl (lv_at hl 1 rfl) ?_
  refine EnX.calli (r := fx_isThingOrNone u q_r) (u2 := u) E hS [.int q_r] [] (kX0_isThingOrNone l D ad ca g u q_r ) gc_X0_73 hd_X0_isThingOrNone ⟨Nat.le_of_ble_eq_true rfl, Nat.le_of_ble_eq_true rfl⟩ rfl hl.1 (Nat.le_of_ble_eq_true rfl) ⟨Nat.le_refl 0, Nat.le_refl 0⟩ dX0_get_2 (fun H locs hS => ?_)
  refine lv_if_ne (tgt := 11) hx hb dX0_get_5 (by decide) (fun h5 => ?_) (fun h5 => ?_)
  · refine lv_iload_n hx hb dX0_get_11 rfl (lv_at hl 1 rfl) ?_
    refine lv_iconst (v := (-1)) hx hb dX0_get_12 (by decide) ?_
    refine lv_icmp_ne (tgt := 22) hx hb dX0_get_13 (by decide) (fun h13 => ?_) (fun h13 => ?_)
    · refine lv_aload_n hx hb dX0_get_22 rfl (lv_at hl 0 rfl) ?_
      refine lv_iload_n hx hb dX0_get_23 rfl (lv_at hl 1 rfl) ?_
      refine EnX.calli (r := fx_holdsThings u q_r) (u2 := u) E hS [.int q_r] [] (kX0_holdsThings l D ad ca g u q_r (by first | with_reducible assumption | (refine xt_in hI ?_; with_reducible assumption) | (refine xn_in hI ?_ ?_ <;> with_reducible assumption) | with_reducible exact xb_in hI _ | (refine xr_in hI ?_; with_reducible assumption) | (refine xd_in ?_; with_reducible assumption))) gc_X0_80 hd_X0_holdsThings ⟨Nat.le_of_ble_eq_true rfl, Nat.le_of_ble_eq_true rfl⟩ rfl hl.1 (Nat.le_of_ble_eq_true rfl) ⟨Nat.le_refl 0, Nat.le_refl 0⟩ dX0_get_24 (fun H locs hS => ?_)
      refine lv_if_ne (tgt := 36) hx hb dX0_get_27 (by decide) (fun h27 => ?_) (fun h27 => ?_)
      · refine lv_aload_n hx hb dX0_get_36 rfl (lv_at hl 0 rfl) ?_
        refine lv_iload_n hx hb dX0_get_37 rfl (lv_at hl 1 rfl) ?_
        refine lv_iload_n hx hb dX0_get_38 rfl (lv_at hl 2 rfl) ?_
        refine EnX.calli (r := fx_hasPlace u q_r q_i) (u2 := u) E hS [.int q_r, .int q_i] [] (kX0_hasPlace l D ad ca g u q_r q_i (by first | with_reducible assumption | (refine xt_in hI ?_; with_reducible assumption) | (refine xn_in hI ?_ ?_ <;> with_reducible assumption) | with_reducible exact xb_in hI _ | (refine xr_in hI ?_; with_reducible assumption) | (refine xd_in ?_; with_reducible assumption))) gc_X0_86 hd_X0_hasPlace ⟨Nat.le_of_ble_eq_true rfl, Nat.le_of_ble_eq_true rfl⟩ rfl hl.1 (Nat.le_of_ble_eq_true rfl) ⟨Nat.le_refl 0, Nat.le_refl 0⟩ dX0_get_39 (fun H locs hS => ?_)
        refine lv_if_ne (tgt := 51) hx hb dX0_get_42 (by decide) (fun h42 => ?_) (fun h42 => ?_)
        · refine lv_aload_n hx hb dX0_get_51 rfl (lv_at hl 0 rfl) ?_
          refine lv_iload_n hx hb dX0_get_52 rfl (lv_at hl 1 rfl) ?_
          refine lv_iload_n hx hb dX0_get_53 rfl (lv_at hl 2 rfl) ?_
          refine EnX.calli (r := fx_thingAt u q_r q_i) (u2 := u) E hS [.int q_r, .int q_i] [] (kX0_thingAt l D ad ca g u q_r q_i (xp_in hI (xn_in hI (by with_reducible assumption) (by with_reducible assumption)) (by with_reducible assumption))) gc_X0_92 hd_X0_thingAt ⟨Nat.le_of_ble_eq_true rfl, Nat.le_of_ble_eq_true rfl⟩ rfl hl.1 (Nat.le_of_ble_eq_true rfl) ⟨Nat.le_refl 0, Nat.le_refl 0⟩ dX0_get_54 (fun H locs hS => ?_)
          exact EnX.iret E hS (ni_i _) (by first | (simp only [fx_get, if_neg h5, if_neg h13, if_neg h27, if_neg h42]; done) | (unfold fx_get; rw [if_neg h5, if_neg h13, if_neg h27, if_neg h42])) dX0_get_57
        · refine lv_aload_n hx hb dX0_get_45 rfl (lv_at hl 0 rfl) ?_
          refine lv_iconst (v := 3) hx hb dX0_get_46 (by decide) ?_
          refine EnX.calli (r := (fx_fail u 3).1) (u2 := (fx_fail u 3).2) E hS [.int 3] [] (kX0_fail l D ad ca g u 3 ) gc_X0_57 hd_X0_fail ⟨Nat.le_of_ble_eq_true rfl, Nat.le_of_ble_eq_true rfl⟩ rfl hl.1 (Nat.le_of_ble_eq_true rfl) ⟨Nat.le_refl 0, Nat.le_refl 0⟩ dX0_get_47 (fun H locs hS => ?_)
          exact EnX.iret E hS (ni_i _) (by first | (simp only [fx_get, if_neg h5, if_neg h13, if_neg h27, if_pos h42]; done) | (unfold fx_get; rw [if_neg h5, if_neg h13, if_neg h27, if_pos h42])) dX0_get_50
      · refine lv_aload_n hx hb dX0_get_30 rfl (lv_at hl 0 rfl) ?_
        refine lv_iconst (v := 2) hx hb dX0_get_31 (by decide) ?_
        refine EnX.calli (r := (fx_fail u 2).1) (u2 := (fx_fail u 2).2) E hS [.int 2] [] (kX0_fail l D ad ca g u 2 ) gc_X0_57 hd_X0_fail ⟨Nat.le_of_ble_eq_true rfl, Nat.le_of_ble_eq_true rfl⟩ rfl hl.1 (Nat.le_of_ble_eq_true rfl) ⟨Nat.le_refl 0, Nat.le_refl 0⟩ dX0_get_32 (fun H locs hS => ?_)
        exact EnX.iret E hS (ni_i _) (by first | (simp only [fx_get, if_neg h5, if_neg h13, if_pos h27]; done) | (unfold fx_get; rw [if_neg h5, if_neg h13, if_pos h27])) dX0_get_35
    · refine lv_aload_n hx hb dX0_get_16 rfl (lv_at hl 0 rfl) ?_
      refine lv_iconst (v := 1) hx hb dX0_get_17 (by decide) ?_
      refine EnX.calli (r := (fx_fail u 1).1) (u2 := (fx_fail u 1).2) E hS [.int 1] [] (kX0_fail l D ad ca g u 1 ) gc_X0_57 hd_X0_fail ⟨Nat.le_of_ble_eq_true rfl, Nat.le_of_ble_eq_true rfl⟩ rfl hl.1 (Nat.le_of_ble_eq_true rfl) ⟨Nat.le_refl 0, Nat.le_refl 0⟩ dX0_get_18 (fun H locs hS => ?_)
      exact EnX.iret E hS (ni_i _) (by first | (simp only [fx_get, if_neg h5, if_pos h13]; done) | (unfold fx_get; rw [if_neg h5, if_pos h13])) dX0_get_21
  · refine lv_bipush (v := (-2)) hx hb dX0_get_8 (by decide) ?_
    exact EnX.iret E hS (ni_i _) (by first | (simp only [fx_get, if_pos h5]; done) | (unfold fx_get; rw [if_pos h5])) dX0_get_10
def fx_set (u : XS) (q_r : Int32) (q_i : Int32) (q_v : Int64) : Int32 × XS := if (fx_isThingOrNone u q_r) = 0 then ((-2), u) else (if (fx_ledgerFailure u q_r q_i) = 0 then (if (x_thingBase u (q_r).toNatClampNeg) = 5 then (1, xs_places u (vp_updL (x_places u) (fx_placeIndex q_r q_i).toNatClampNeg (Int32.toInt64 (Int64.toInt32 q_v)))) else (1, xs_places u (vp_updL (x_places u) (fx_placeIndex q_r q_i).toNatClampNeg q_v))) else ((fx_fail u (fx_ledgerFailure u q_r q_i)).1, (fx_fail u (fx_ledgerFailure u q_r q_i)).2))
theorem hd_X0_set : yX0_set.cls = RX0 ∧ yX0_set.cls ≠ "java/lang/invoke/MethodHandle" ∧ yX0_set.cls ≠ "java/lang/invoke/VarHandle" ∧ (parseMethodDescriptor yX0_set.desc).map (fun d => d.parameters.length) = some 3 := by decide +kernel
set_option maxRecDepth 100000 in
set_option maxHeartbeats 4000000 in
theorem kX0_set (l : Launch) (D : va_G) (ad : Nat → Nat) (ca : Nat → ClassId) (g : Nat) (u : XS) (q_r : Int32) (q_i : Int32) (q_v : Int64) (hI : XI u) : CiX l yX0_set cX0_set 6 .int 4 D ad ca g [.int q_r, .int q_i, .long q_v] u (fx_set u q_r q_i q_v) := by
  refine CiX.of (by decide) rfl (Nat.le_of_ble_eq_true rfl) ?_
  intro p e s m below meth c A ls E hS hl
  have hx := E.1.1
  have hb := E.1.2.1
  have hml := E.1.2.2.1
  have hown := E.1.2.2.2.1
  have hts := E.1.2.2.2.2
  have hl : lv_has ls 6 [(0, .ref (ad 0)), (1, .int q_r), (2, .int q_i), (3, .long q_v)] := hl
  refine lv_aload_n hx hb dX0_set_0 rfl (lv_at hl 0 rfl) ?_
  refine lv_iload_n hx hb dX0_set_1 rfl (lv_at hl 1 rfl) ?_
  refine EnX.calli (r := fx_isThingOrNone u q_r) (u2 := u) E hS [.int q_r] [] (kX0_isThingOrNone l D ad ca g u q_r ) gc_X0_73 hd_X0_isThingOrNone ⟨Nat.le_of_ble_eq_true rfl, Nat.le_of_ble_eq_true rfl⟩ rfl hl.1 (Nat.le_of_ble_eq_true rfl) ⟨Nat.le_refl 0, Nat.le_refl 0⟩ dX0_set_2 (fun H locs hS => ?_)
  refine lv_if_ne (tgt := 11) hx hb dX0_set_5 (by decide) (fun h5 => ?_) (fun h5 => ?_)
  · refine lv_aload_n hx hb dX0_set_11 rfl (lv_at hl 0 rfl) ?_
    refine lv_iload_n hx hb dX0_set_12 rfl (lv_at hl 1 rfl) ?_
    refine lv_iload_n hx hb dX0_set_13 rfl (lv_at hl 2 rfl) ?_
    refine EnX.calli (r := fx_ledgerFailure u q_r q_i) (u2 := u) E hS [.int q_r, .int q_i] [] (kX0_ledgerFailure l D ad ca g u q_r q_i (fun h => xn_in hI (by with_reducible assumption) h)) gc_X0_95 hd_X0_ledgerFailure ⟨Nat.le_of_ble_eq_true rfl, Nat.le_of_ble_eq_true rfl⟩ rfl hl.1 (Nat.le_of_ble_eq_true rfl) ⟨Nat.le_refl 0, Nat.le_refl 0⟩ dX0_set_14 (fun H locs hS => ?_)
    refine lv_istore (lv' := [(5, .int (fx_ledgerFailure u q_r q_i)), (0, .ref (ad 0)), (1, .int q_r), (2, .int q_i), (3, .long q_v)]) hx hb dX0_set_17 hl (by decide) rfl (fun ls hl => ?_)
    refine lv_iload hx hb dX0_set_19 (lv_at hl 0 rfl) ?_
    refine lv_if_eq (tgt := 31) hx hb dX0_set_21 (by decide) (fun h21 => ?_) (fun h21 => ?_)
    · refine lv_aload_n hx hb dX0_set_31 rfl (lv_at hl 1 rfl) ?_
      refine gX_places E hS dX0_set_32 ?_
      refine lv_iload_n hx hb dX0_set_35 rfl (lv_at hl 2 rfl) ?_
      refine lv_iload_n hx hb dX0_set_36 rfl (lv_at hl 3 rfl) ?_
      refine EnX.sti (r := fx_placeIndex q_r q_i) E hS [.int q_r, .int q_i] [.ref (ad 5)] (kX0_placeIndex l q_r q_i ) (fun _ _ _ _ h => h) (fun _ _ _ => trivial) gc_X0_70 hd_X0_placeIndex ⟨Nat.le_of_ble_eq_true rfl, Nat.le_of_ble_eq_true rfl⟩ rfl hl.1 (Nat.le_of_ble_eq_true rfl) ⟨Nat.le_refl 0, Nat.le_refl 0⟩ dX0_set_37 (fun H locs hS => ?_)
      refine lv_aload_n hx hb dX0_set_40 rfl (lv_at hl 1 rfl) ?_
      refine gX_thingBase E hS dX0_set_41 ?_
      refine lv_iload_n hx hb dX0_set_44 rfl (lv_at hl 2 rfl) ?_
      refine lX_thingBase (v := x_thingBase u (q_r).toNatClampNeg) E hS (show vp_in q_r 60 from xn_in hI (by with_reducible assumption) (xl_0 h21).1) rfl dX0_set_45 ?_
      refine lv_iconst (v := 5) hx hb dX0_set_46 (by decide) ?_
      refine lv_icmp_ne (tgt := 56) hx hb dX0_set_47 (by decide) (fun h47 => ?_) (fun h47 => ?_)
      · refine lv_lload_n hx hb dX0_set_56 rfl (lv_at hl 4 rfl) ?_
        refine sX_places E hS (show vp_in (fx_placeIndex q_r q_i) 480 from xl_in hI (by with_reducible assumption) h21) dX0_set_57 (fun H locs hS => ?_)
        have hS : SX D ad ca A s (xs_places u (vp_updL (x_places u) (fx_placeIndex q_r q_i).toNatClampNeg q_v)) H locs := hS
        refine lv_iconst (v := 1) hx hb dX0_set_58 (by decide) ?_
        exact EnX.iret E hS (ni_i _) (by first | (simp only [fx_set, if_neg h5, if_pos h21, if_neg h47]; done) | (unfold fx_set; rw [if_neg h5, if_pos h21, if_neg h47])) dX0_set_59
      · refine lv_lload_n hx hb dX0_set_50 rfl (lv_at hl 4 rfl) ?_
        refine lv_l2i (v := Int64.toInt32 q_v) hx hb dX0_set_51 rfl ?_
        refine lv_i2l (v := Int32.toInt64 (Int64.toInt32 q_v)) hx hb dX0_set_52 rfl ?_
        refine lv_goto (tgt := 57) hx hb dX0_set_53 (by decide) ?_
        refine sX_places E hS (show vp_in (fx_placeIndex q_r q_i) 480 from xl_in hI (by with_reducible assumption) h21) dX0_set_57 (fun H locs hS => ?_)
        have hS : SX D ad ca A s (xs_places u (vp_updL (x_places u) (fx_placeIndex q_r q_i).toNatClampNeg (Int32.toInt64 (Int64.toInt32 q_v)))) H locs := hS
        refine lv_iconst (v := 1) hx hb dX0_set_58 (by decide) ?_
        exact EnX.iret E hS (ni_i _) (by first | (simp only [fx_set, if_neg h5, if_pos h21, if_pos h47]; done) | (unfold fx_set; rw [if_neg h5, if_pos h21, if_pos h47])) dX0_set_59
    · refine lv_aload_n hx hb dX0_set_24 rfl (lv_at hl 1 rfl) ?_
      refine lv_iload hx hb dX0_set_25 (lv_at hl 0 rfl) ?_
      refine EnX.calli (r := (fx_fail u (fx_ledgerFailure u q_r q_i)).1) (u2 := (fx_fail u (fx_ledgerFailure u q_r q_i)).2) E hS [.int (fx_ledgerFailure u q_r q_i)] [] (kX0_fail l D ad ca g u (fx_ledgerFailure u q_r q_i) ) gc_X0_57 hd_X0_fail ⟨Nat.le_of_ble_eq_true rfl, Nat.le_of_ble_eq_true rfl⟩ rfl hl.1 (Nat.le_of_ble_eq_true rfl) ⟨Nat.le_refl 0, Nat.le_refl 0⟩ dX0_set_27 (fun H locs hS => ?_)
      exact EnX.iret E hS (ni_i _) (by first | (simp only [fx_set, if_neg h5, if_neg h21]; done) | (unfold fx_set; rw [if_neg h5, if_neg h21])) dX0_set_30
  · refine lv_bipush (v := (-2)) hx hb dX0_set_8 (by decide) ?_
    exact EnX.iret E hS (ni_i _) (by first | (simp only [fx_set, if_pos h5]; done) | (unfold fx_set; rw [if_pos h5])) dX0_set_10
def fx_number (u : XS) (q_r : Int32) (q_i : Int32) : Int64 := if (fx_isThingOrNone u q_r) = 0 then 0 else (if (fx_ledgerFailure u q_r q_i) = 0 then x_places u (fx_placeIndex q_r q_i).toNatClampNeg else 0)
theorem hd_X0_number : yX0_number.cls = RX0 ∧ yX0_number.cls ≠ "java/lang/invoke/MethodHandle" ∧ yX0_number.cls ≠ "java/lang/invoke/VarHandle" ∧ (parseMethodDescriptor yX0_number.desc).map (fun d => d.parameters.length) = some 2 := by decide +kernel
set_option maxRecDepth 100000 in
set_option maxHeartbeats 4000000 in
theorem kX0_number (l : Launch) (D : va_G) (ad : Nat → Nat) (ca : Nat → ClassId) (g : Nat) (u : XS) (q_r : Int32) (q_i : Int32) (hI : XI u) : ClX l yX0_number cX0_number 3 4 D ad ca g [.int q_r, .int q_i] u ((fx_number u q_r q_i, u)) := by
  refine ClX.of (by decide) rfl (Nat.le_of_ble_eq_true rfl) ?_
  intro p e s m below meth c A ls E hS hl
  have hx := E.1.1
  have hb := E.1.2.1
  have hml := E.1.2.2.1
  have hown := E.1.2.2.2.1
  have hts := E.1.2.2.2.2
  have hl : lv_has ls 3 [(0, .ref (ad 0)), (1, .int q_r), (2, .int q_i)] := hl
  refine lv_aload_n hx hb dX0_number_0 rfl (lv_at hl 0 rfl) ?_
  refine lv_iload_n hx hb dX0_number_1 rfl (lv_at hl 1 rfl) ?_
  refine EnX.calli (r := fx_isThingOrNone u q_r) (u2 := u) E hS [.int q_r] [] (kX0_isThingOrNone l D ad ca g u q_r ) gc_X0_73 hd_X0_isThingOrNone ⟨Nat.le_of_ble_eq_true rfl, Nat.le_of_ble_eq_true rfl⟩ rfl hl.1 (Nat.le_of_ble_eq_true rfl) ⟨Nat.le_refl 0, Nat.le_refl 0⟩ dX0_number_2 (fun H locs hS => ?_)
  refine lv_if_eq (tgt := 17) hx hb dX0_number_5 (by decide) (fun h5 => ?_) (fun h5 => ?_)
  · refine lv_lconst (v := 0) hx hb dX0_number_17 (by decide) ?_
    exact EnX.lret E hS (congrArg (fun z => (z, u)) (show (0 : Int64) = fx_number u q_r q_i by unfold fx_number; rw [if_pos h5])) dX0_number_18
  · refine lv_aload_n hx hb dX0_number_8 rfl (lv_at hl 0 rfl) ?_
    refine lv_iload_n hx hb dX0_number_9 rfl (lv_at hl 1 rfl) ?_
    refine lv_iload_n hx hb dX0_number_10 rfl (lv_at hl 2 rfl) ?_
    refine EnX.calli (r := fx_ledgerFailure u q_r q_i) (u2 := u) E hS [.int q_r, .int q_i] [] (kX0_ledgerFailure l D ad ca g u q_r q_i (fun h => xn_in hI (by with_reducible assumption) h)) gc_X0_95 hd_X0_ledgerFailure ⟨Nat.le_of_ble_eq_true rfl, Nat.le_of_ble_eq_true rfl⟩ rfl hl.1 (Nat.le_of_ble_eq_true rfl) ⟨Nat.le_refl 0, Nat.le_refl 0⟩ dX0_number_11 (fun H locs hS => ?_)
    refine lv_if_eq (tgt := 19) hx hb dX0_number_14 (by decide) (fun h14 => ?_) (fun h14 => ?_)
    · refine lv_aload_n hx hb dX0_number_19 rfl (lv_at hl 0 rfl) ?_
      refine gX_places E hS dX0_number_20 ?_
      refine lv_iload_n hx hb dX0_number_23 rfl (lv_at hl 1 rfl) ?_
      refine lv_iload_n hx hb dX0_number_24 rfl (lv_at hl 2 rfl) ?_
      refine EnX.sti (r := fx_placeIndex q_r q_i) E hS [.int q_r, .int q_i] [.ref (ad 5)] (kX0_placeIndex l q_r q_i ) (fun _ _ _ _ h => h) (fun _ _ _ => trivial) gc_X0_70 hd_X0_placeIndex ⟨Nat.le_of_ble_eq_true rfl, Nat.le_of_ble_eq_true rfl⟩ rfl hl.1 (Nat.le_of_ble_eq_true rfl) ⟨Nat.le_refl 0, Nat.le_refl 0⟩ dX0_number_25 (fun H locs hS => ?_)
      refine lX_places (v := x_places u (fx_placeIndex q_r q_i).toNatClampNeg) E hS (show vp_in (fx_placeIndex q_r q_i) 480 from xl_in hI (by with_reducible assumption) h14) rfl dX0_number_28 ?_
      exact EnX.lret E hS (congrArg (fun z => (z, u)) (show x_places u (fx_placeIndex q_r q_i).toNatClampNeg = fx_number u q_r q_i by unfold fx_number; rw [if_neg h5, if_pos h14])) dX0_number_29
    · refine lv_lconst (v := 0) hx hb dX0_number_17 (by decide) ?_
      exact EnX.lret E hS (congrArg (fun z => (z, u)) (show (0 : Int64) = fx_number u q_r q_i by unfold fx_number; rw [if_neg h5, if_neg h14])) dX0_number_18
def fx_is (u : XS) (q_x : Int32) (q_base : Int32) (q_depth : Int32) : Int32 := if (fx_isThingOrNone u q_x) = 0 then (-2) else (if (fx_isKind q_base q_depth) = 0 then (-2) else (if (fx_isOfKind u q_x q_base q_depth) = 0 then 0 else 1))
theorem hd_X0_is : yX0_is.cls = RX0 ∧ yX0_is.cls ≠ "java/lang/invoke/MethodHandle" ∧ yX0_is.cls ≠ "java/lang/invoke/VarHandle" ∧ (parseMethodDescriptor yX0_is.desc).map (fun d => d.parameters.length) = some 3 := by decide +kernel
set_option maxRecDepth 100000 in
set_option maxHeartbeats 4000000 in
theorem kX0_is (l : Launch) (D : va_G) (ad : Nat → Nat) (ca : Nat → ClassId) (g : Nat) (u : XS) (q_x : Int32) (q_base : Int32) (q_depth : Int32) (hI : XI u) : CiX l yX0_is cX0_is 4 .int 3 D ad ca g [.int q_x, .int q_base, .int q_depth] u ((fx_is u q_x q_base q_depth, u)) := by
  refine CiX.of (by decide) rfl (Nat.le_of_ble_eq_true rfl) ?_
  intro p e s m below meth c A ls E hS hl
  have hx := E.1.1
  have hb := E.1.2.1
  have hml := E.1.2.2.1
  have hown := E.1.2.2.2.1
  have hts := E.1.2.2.2.2
  have hl : lv_has ls 4 [(0, .ref (ad 0)), (1, .int q_x), (2, .int q_base), (3, .int q_depth)] := hl
  refine lv_aload_n hx hb dX0_is_0 rfl (lv_at hl 0 rfl) ?_
  refine lv_iload_n hx hb dX0_is_1 rfl (lv_at hl 1 rfl) ?_
  refine EnX.calli (r := fx_isThingOrNone u q_x) (u2 := u) E hS [.int q_x] [] (kX0_isThingOrNone l D ad ca g u q_x ) gc_X0_73 hd_X0_isThingOrNone ⟨Nat.le_of_ble_eq_true rfl, Nat.le_of_ble_eq_true rfl⟩ rfl hl.1 (Nat.le_of_ble_eq_true rfl) ⟨Nat.le_refl 0, Nat.le_refl 0⟩ dX0_is_2 (fun H locs hS => ?_)
  refine lv_if_eq (tgt := 16) hx hb dX0_is_5 (by decide) (fun h5 => ?_) (fun h5 => ?_)
  · refine lv_bipush (v := (-2)) hx hb dX0_is_16 (by decide) ?_
    exact EnX.iret E hS (ni_i _) (congrArg (fun z => (z, u)) (show ((-2) : Int32) = fx_is u q_x q_base q_depth by unfold fx_is; rw [if_pos h5])) dX0_is_18
  · refine lv_iload_n hx hb dX0_is_8 rfl (lv_at hl 2 rfl) ?_
    refine lv_iload_n hx hb dX0_is_9 rfl (lv_at hl 3 rfl) ?_
    refine EnX.sti (r := fx_isKind q_base q_depth) E hS [.int q_base, .int q_depth] [] (kX0_isKind l q_base q_depth ) (fun _ _ _ _ h => h) (fun _ _ _ => trivial) gc_X0_53 hd_X0_isKind ⟨Nat.le_of_ble_eq_true rfl, Nat.le_of_ble_eq_true rfl⟩ rfl hl.1 (Nat.le_of_ble_eq_true rfl) ⟨Nat.le_refl 0, Nat.le_refl 0⟩ dX0_is_10 (fun H locs hS => ?_)
    refine lv_if_ne (tgt := 19) hx hb dX0_is_13 (by decide) (fun h13 => ?_) (fun h13 => ?_)
    · refine lv_aload_n hx hb dX0_is_19 rfl (lv_at hl 0 rfl) ?_
      refine lv_iload_n hx hb dX0_is_20 rfl (lv_at hl 1 rfl) ?_
      refine lv_iload_n hx hb dX0_is_21 rfl (lv_at hl 2 rfl) ?_
      refine lv_iload_n hx hb dX0_is_22 rfl (lv_at hl 3 rfl) ?_
      refine EnX.calli (r := fx_isOfKind u q_x q_base q_depth) (u2 := u) E hS [.int q_x, .int q_base, .int q_depth] [] (kX0_isOfKind l D ad ca g u q_x q_base q_depth (by first | with_reducible assumption | (refine xt_in hI ?_; with_reducible assumption) | (refine xn_in hI ?_ ?_ <;> with_reducible assumption) | with_reducible exact xb_in hI _ | (refine xr_in hI ?_; with_reducible assumption) | (refine xd_in ?_; with_reducible assumption))) gc_X0_98 hd_X0_isOfKind ⟨Nat.le_of_ble_eq_true rfl, Nat.le_of_ble_eq_true rfl⟩ rfl hl.1 (Nat.le_of_ble_eq_true rfl) ⟨Nat.le_refl 0, Nat.le_refl 0⟩ dX0_is_23 (fun H locs hS => ?_)
      refine lv_if_eq (tgt := 33) hx hb dX0_is_26 (by decide) (fun h26 => ?_) (fun h26 => ?_)
      · refine lv_iconst (v := 0) hx hb dX0_is_33 (by decide) ?_
        exact EnX.iret E hS (ni_i _) (congrArg (fun z => (z, u)) (show (0 : Int32) = fx_is u q_x q_base q_depth by unfold fx_is; rw [if_neg h5, if_neg h13, if_pos h26])) dX0_is_34
      · refine lv_iconst (v := 1) hx hb dX0_is_29 (by decide) ?_
        refine lv_goto (tgt := 34) hx hb dX0_is_30 (by decide) ?_
        exact EnX.iret E hS (ni_i _) (congrArg (fun z => (z, u)) (show (1 : Int32) = fx_is u q_x q_base q_depth by unfold fx_is; rw [if_neg h5, if_neg h13, if_neg h26])) dX0_is_34
    · refine lv_bipush (v := (-2)) hx hb dX0_is_16 (by decide) ?_
      exact EnX.iret E hS (ni_i _) (congrArg (fun z => (z, u)) (show ((-2) : Int32) = fx_is u q_x q_base q_depth by unfold fx_is; rw [if_neg h5, if_pos h13])) dX0_is_18
def fx_door (u : XS) (q_k : Int32) (q_base : Int32) (q_depth : Int32) : Int32 × XS := if (fx_isDoor q_k) = 0 then ((-2), u) else (if (fx_isKind q_base q_depth) = 0 then ((-2), u) else (1, xs_doorDepth (xs_doorBase u (upd (x_doorBase u) (q_k).toNatClampNeg q_base)) (upd (x_doorDepth u) (q_k).toNatClampNeg q_depth)))
theorem hd_X0_door : yX0_door.cls = RX0 ∧ yX0_door.cls ≠ "java/lang/invoke/MethodHandle" ∧ yX0_door.cls ≠ "java/lang/invoke/VarHandle" ∧ (parseMethodDescriptor yX0_door.desc).map (fun d => d.parameters.length) = some 3 := by decide +kernel
set_option maxRecDepth 100000 in
set_option maxHeartbeats 4000000 in
theorem kX0_door (l : Launch) (D : va_G) (ad : Nat → Nat) (ca : Nat → ClassId) (g : Nat) (u : XS) (q_k : Int32) (q_base : Int32) (q_depth : Int32) (hI : XI u) : CiX l yX0_door cX0_door 4 .int 3 D ad ca g [.int q_k, .int q_base, .int q_depth] u (fx_door u q_k q_base q_depth) := by
  refine CiX.of (by decide) rfl (Nat.le_of_ble_eq_true rfl) ?_
  intro p e s m below meth c A ls E hS hl
  have hx := E.1.1
  have hb := E.1.2.1
  have hml := E.1.2.2.1
  have hown := E.1.2.2.2.1
  have hts := E.1.2.2.2.2
  have hl : lv_has ls 4 [(0, .ref (ad 0)), (1, .int q_k), (2, .int q_base), (3, .int q_depth)] := hl
  refine lv_iload_n hx hb dX0_door_0 rfl (lv_at hl 1 rfl) ?_
  refine EnX.sti (r := fx_isDoor q_k) E hS [.int q_k] [] (kX0_isDoor l q_k ) (fun _ _ _ _ h => h) (fun _ _ _ => trivial) gc_X0_101 hd_X0_isDoor ⟨Nat.le_of_ble_eq_true rfl, Nat.le_of_ble_eq_true rfl⟩ rfl hl.1 (Nat.le_of_ble_eq_true rfl) ⟨Nat.le_refl 0, Nat.le_refl 0⟩ dX0_door_1 (fun H locs hS => ?_)
  refine lv_if_eq (tgt := 15) hx hb dX0_door_4 (by decide) (fun h4 => ?_) (fun h4 => ?_)
  · refine lv_bipush (v := (-2)) hx hb dX0_door_15 (by decide) ?_
    exact EnX.iret E hS (ni_i _) (by first | (simp only [fx_door, if_pos h4]; done) | (unfold fx_door; rw [if_pos h4])) dX0_door_17
  · refine lv_iload_n hx hb dX0_door_7 rfl (lv_at hl 2 rfl) ?_
    refine lv_iload_n hx hb dX0_door_8 rfl (lv_at hl 3 rfl) ?_
    refine EnX.sti (r := fx_isKind q_base q_depth) E hS [.int q_base, .int q_depth] [] (kX0_isKind l q_base q_depth ) (fun _ _ _ _ h => h) (fun _ _ _ => trivial) gc_X0_53 hd_X0_isKind ⟨Nat.le_of_ble_eq_true rfl, Nat.le_of_ble_eq_true rfl⟩ rfl hl.1 (Nat.le_of_ble_eq_true rfl) ⟨Nat.le_refl 0, Nat.le_refl 0⟩ dX0_door_9 (fun H locs hS => ?_)
    refine lv_if_ne (tgt := 18) hx hb dX0_door_12 (by decide) (fun h12 => ?_) (fun h12 => ?_)
    · refine lv_aload_n hx hb dX0_door_18 rfl (lv_at hl 0 rfl) ?_
      refine gX_doorBase E hS dX0_door_19 ?_
      refine lv_iload_n hx hb dX0_door_22 rfl (lv_at hl 1 rfl) ?_
      refine lv_iload_n hx hb dX0_door_23 rfl (lv_at hl 2 rfl) ?_
      refine sX_doorBase E hS (show vp_in q_k 8 from by first | with_reducible assumption | (refine xt_in hI ?_; with_reducible assumption) | (refine xn_in hI ?_ ?_ <;> with_reducible assumption) | with_reducible exact xb_in hI _ | (refine xr_in hI ?_; with_reducible assumption) | (refine xd_in ?_; with_reducible assumption)) dX0_door_24 (fun H locs hS => ?_)
      have hS : SX D ad ca A s (xs_doorBase u (upd (x_doorBase u) (q_k).toNatClampNeg q_base)) H locs := hS
      refine lv_aload_n hx hb dX0_door_25 rfl (lv_at hl 0 rfl) ?_
      refine gX_doorDepth E hS dX0_door_26 ?_
      refine lv_iload_n hx hb dX0_door_29 rfl (lv_at hl 1 rfl) ?_
      refine lv_iload_n hx hb dX0_door_30 rfl (lv_at hl 3 rfl) ?_
      refine sX_doorDepth E hS (show vp_in q_k 8 from by first | with_reducible assumption | (refine xt_in hI ?_; with_reducible assumption) | (refine xn_in hI ?_ ?_ <;> with_reducible assumption) | with_reducible exact xb_in hI _ | (refine xr_in hI ?_; with_reducible assumption) | (refine xd_in ?_; with_reducible assumption)) dX0_door_31 (fun H locs hS => ?_)
      have hS : SX D ad ca A s (xs_doorDepth (xs_doorBase u (upd (x_doorBase u) (q_k).toNatClampNeg q_base)) (upd (x_doorDepth u) (q_k).toNatClampNeg q_depth)) H locs := hS
      refine lv_iconst (v := 1) hx hb dX0_door_32 (by decide) ?_
      exact EnX.iret E hS (ni_i _) (by first | (simp only [fx_door, if_neg h4, if_neg h12]; done) | (unfold fx_door; rw [if_neg h4, if_neg h12])) dX0_door_33
    · refine lv_bipush (v := (-2)) hx hb dX0_door_15 (by decide) ?_
      exact EnX.iret E hS (ni_i _) (by first | (simp only [fx_door, if_neg h4, if_pos h12]; done) | (unfold fx_door; rw [if_neg h4, if_pos h12])) dX0_door_17
def fx_through (u : XS) (q_x : Int32) (q_k : Int32) (q_n : Int32) : Int32 × XS := if (fx_isThingOrNone u q_x) = 0 then ((-2), u) else (if (fx_isDoor q_k) = 0 then ((-2), u) else (if q_n < 0 then ((-2), u) else (if q_n ≤ (8 - q_k) then (if (fx_firstClosedDoor u q_x q_k q_n) = (-1) then (1, xs_closedDoor u (fx_firstClosedDoor u q_x q_k q_n)) else ((fx_fail (xs_closedDoor u (fx_firstClosedDoor u q_x q_k q_n)) 2).1, (fx_fail (xs_closedDoor u (fx_firstClosedDoor u q_x q_k q_n)) 2).2)) else ((-2), u))))
theorem hd_X0_through : yX0_through.cls = RX0 ∧ yX0_through.cls ≠ "java/lang/invoke/MethodHandle" ∧ yX0_through.cls ≠ "java/lang/invoke/VarHandle" ∧ (parseMethodDescriptor yX0_through.desc).map (fun d => d.parameters.length) = some 3 := by decide +kernel
set_option maxRecDepth 100000 in
set_option maxHeartbeats 4000000 in
theorem kX0_through (l : Launch) (D : va_G) (ad : Nat → Nat) (ca : Nat → ClassId) (g : Nat) (u : XS) (q_x : Int32) (q_k : Int32) (q_n : Int32) (hI : XI u) : CiX l yX0_through cX0_through 4 .int 5 D ad ca g [.int q_x, .int q_k, .int q_n] u (fx_through u q_x q_k q_n) := by
  refine CiX.of (by decide) rfl (Nat.le_of_ble_eq_true rfl) ?_
  intro p e s m below meth c A ls E hS hl
  have hx := E.1.1
  have hb := E.1.2.1
  have hml := E.1.2.2.1
  have hown := E.1.2.2.2.1
  have hts := E.1.2.2.2.2
  have hl : lv_has ls 4 [(0, .ref (ad 0)), (1, .int q_x), (2, .int q_k), (3, .int q_n)] := hl
  refine lv_aload_n hx hb dX0_through_0 rfl (lv_at hl 0 rfl) ?_
  refine lv_iload_n hx hb dX0_through_1 rfl (lv_at hl 1 rfl) ?_
  refine EnX.calli (r := fx_isThingOrNone u q_x) (u2 := u) E hS [.int q_x] [] (kX0_isThingOrNone l D ad ca g u q_x ) gc_X0_73 hd_X0_isThingOrNone ⟨Nat.le_of_ble_eq_true rfl, Nat.le_of_ble_eq_true rfl⟩ rfl hl.1 (Nat.le_of_ble_eq_true rfl) ⟨Nat.le_refl 0, Nat.le_refl 0⟩ dX0_through_2 (fun H locs hS => ?_)
  refine lv_if_eq (tgt := 27) hx hb dX0_through_5 (by decide) (fun h5 => ?_) (fun h5 => ?_)
  · refine lv_bipush (v := (-2)) hx hb dX0_through_27 (by decide) ?_
    exact EnX.iret E hS (ni_i _) (by first | (simp only [fx_through, if_pos h5]; done) | (unfold fx_through; rw [if_pos h5])) dX0_through_29
  · refine lv_iload_n hx hb dX0_through_8 rfl (lv_at hl 2 rfl) ?_
    refine EnX.sti (r := fx_isDoor q_k) E hS [.int q_k] [] (kX0_isDoor l q_k ) (fun _ _ _ _ h => h) (fun _ _ _ => trivial) gc_X0_101 hd_X0_isDoor ⟨Nat.le_of_ble_eq_true rfl, Nat.le_of_ble_eq_true rfl⟩ rfl hl.1 (Nat.le_of_ble_eq_true rfl) ⟨Nat.le_refl 0, Nat.le_refl 0⟩ dX0_through_9 (fun H locs hS => ?_)
    refine lv_if_eq (tgt := 27) hx hb dX0_through_12 (by decide) (fun h12 => ?_) (fun h12 => ?_)
    · refine lv_bipush (v := (-2)) hx hb dX0_through_27 (by decide) ?_
      exact EnX.iret E hS (ni_i _) (by first | (simp only [fx_through, if_neg h5, if_pos h12]; done) | (unfold fx_through; rw [if_neg h5, if_pos h12])) dX0_through_29
    · refine lv_iload_n hx hb dX0_through_15 rfl (lv_at hl 3 rfl) ?_
      refine lv_if_lt (tgt := 27) hx hb dX0_through_16 (by decide) (fun h16 => ?_) (fun h16 => ?_)
      · refine lv_bipush (v := (-2)) hx hb dX0_through_27 (by decide) ?_
        exact EnX.iret E hS (ni_i _) (by first | (simp only [fx_through, if_neg h5, if_neg h12, if_pos h16]; done) | (unfold fx_through; rw [if_neg h5, if_neg h12, if_pos h16])) dX0_through_29
      · refine lv_iload_n hx hb dX0_through_19 rfl (lv_at hl 3 rfl) ?_
        refine lv_bipush (v := 8) hx hb dX0_through_20 (by decide) ?_
        refine lv_iload_n hx hb dX0_through_22 rfl (lv_at hl 2 rfl) ?_
        refine lv_isub hx hb dX0_through_23 ?_
        refine lv_icmp_le (tgt := 30) hx hb dX0_through_24 (by decide) (fun h24 => ?_) (fun h24 => ?_)
        · have hk8 := xd_in h12
          refine lv_aload_n hx hb dX0_through_30 rfl (lv_at hl 0 rfl) ?_
          refine lv_aload_n hx hb dX0_through_31 rfl (lv_at hl 0 rfl) ?_
          refine lv_iload_n hx hb dX0_through_32 rfl (lv_at hl 1 rfl) ?_
          refine lv_iload_n hx hb dX0_through_33 rfl (lv_at hl 2 rfl) ?_
          refine lv_iload_n hx hb dX0_through_34 rfl (lv_at hl 3 rfl) ?_
          refine EnX.calli (r := fx_firstClosedDoor u q_x q_k q_n) (u2 := u) E hS [.int q_x, .int q_k, .int q_n] [.ref (ad 0)] (kX0_firstClosedDoor l D ad ca g u q_x q_k q_n hI ⟨by rw [vp_in_iff] at hk8; omega, by rw [lt_ti, ti0] at h16; omega, by have hq := xk8 hk8; rw [le_ti, hq] at h24; omega⟩) gc_X0_104 hd_X0_firstClosedDoor ⟨Nat.le_of_ble_eq_true rfl, Nat.le_of_ble_eq_true rfl⟩ rfl hl.1 (Nat.le_of_ble_eq_true rfl) ⟨Nat.le_refl 0, Nat.le_refl 0⟩ dX0_through_35 (fun H locs hS => ?_)
          refine pX_closedDoor E hS dX0_through_38 (fun H locs hS => ?_)
          have hS : SX D ad ca A s (xs_closedDoor u (fx_firstClosedDoor u q_x q_k q_n)) H locs := hS
          refine lv_aload_n hx hb dX0_through_41 rfl (lv_at hl 0 rfl) ?_
          refine gX_closedDoor (v := fx_firstClosedDoor u q_x q_k q_n) E hS rfl dX0_through_42 ?_
          refine lv_iconst (v := (-1)) hx hb dX0_through_45 (by decide) ?_
          refine lv_icmp_ne (tgt := 53) hx hb dX0_through_46 (by decide) (fun h46 => ?_) (fun h46 => ?_)
          · refine lv_aload_n hx hb dX0_through_53 rfl (lv_at hl 0 rfl) ?_
            refine lv_iconst (v := 2) hx hb dX0_through_54 (by decide) ?_
            refine EnX.calli (r := (fx_fail (xs_closedDoor u (fx_firstClosedDoor u q_x q_k q_n)) 2).1) (u2 := (fx_fail (xs_closedDoor u (fx_firstClosedDoor u q_x q_k q_n)) 2).2) E hS [.int 2] [] (kX0_fail l D ad ca g (xs_closedDoor u (fx_firstClosedDoor u q_x q_k q_n)) 2 ) gc_X0_57 hd_X0_fail ⟨Nat.le_of_ble_eq_true rfl, Nat.le_of_ble_eq_true rfl⟩ rfl hl.1 (Nat.le_of_ble_eq_true rfl) ⟨Nat.le_refl 0, Nat.le_refl 0⟩ dX0_through_55 (fun H locs hS => ?_)
            exact EnX.iret E hS (ni_i _) (by first | (simp only [fx_through, if_neg h5, if_neg h12, if_neg h16, if_pos h24, if_neg h46]; done) | (unfold fx_through; rw [if_neg h5, if_neg h12, if_neg h16, if_pos h24, if_neg h46])) dX0_through_58
          · refine lv_iconst (v := 1) hx hb dX0_through_49 (by decide) ?_
            refine lv_goto (tgt := 58) hx hb dX0_through_50 (by decide) ?_
            exact EnX.iret E hS (ni_i _) (by first | (simp only [fx_through, if_neg h5, if_neg h12, if_neg h16, if_pos h24, if_pos h46]; done) | (unfold fx_through; rw [if_neg h5, if_neg h12, if_neg h16, if_pos h24, if_pos h46])) dX0_through_58
        · refine lv_bipush (v := (-2)) hx hb dX0_through_27 (by decide) ?_
          exact EnX.iret E hS (ni_i _) (by first | (simp only [fx_through, if_neg h5, if_neg h12, if_neg h16, if_neg h24]; done) | (unfold fx_through; rw [if_neg h5, if_neg h12, if_neg h16, if_neg h24])) dX0_through_29
def fx_lastDoor (u : XS)  : Int32 := x_closedDoor u
theorem hd_X0_lastDoor : yX0_lastDoor.cls = RX0 ∧ yX0_lastDoor.cls ≠ "java/lang/invoke/MethodHandle" ∧ yX0_lastDoor.cls ≠ "java/lang/invoke/VarHandle" ∧ (parseMethodDescriptor yX0_lastDoor.desc).map (fun d => d.parameters.length) = some 0 := by decide +kernel
set_option maxRecDepth 100000 in
set_option maxHeartbeats 4000000 in
theorem kX0_lastDoor (l : Launch) (D : va_G) (ad : Nat → Nat) (ca : Nat → ClassId) (g : Nat) (u : XS)   : CiX l yX0_lastDoor cX0_lastDoor 1 .int 1 D ad ca g [] u ((fx_lastDoor u, u)) := by
  refine CiX.of (by decide) rfl (Nat.le_of_ble_eq_true rfl) ?_
  intro p e s m below meth c A ls E hS hl
  have hx := E.1.1
  have hb := E.1.2.1
  have hml := E.1.2.2.1
  have hown := E.1.2.2.2.1
  have hts := E.1.2.2.2.2
  have hl : lv_has ls 1 [(0, .ref (ad 0))] := hl
  refine lv_aload_n hx hb dX0_lastDoor_0 rfl (lv_at hl 0 rfl) ?_
  refine gX_closedDoor (v := x_closedDoor u) E hS rfl dX0_lastDoor_1 ?_
  exact EnX.iret E hS (ni_i _) (congrArg (fun z => (z, u)) (show x_closedDoor u = fx_lastDoor u by unfold fx_lastDoor; rfl)) dX0_lastDoor_4
def fx_worth (u : XS) (q_x : Int32) : Int64 := fx_worthWithin u q_x 3
theorem hd_X0_worth : yX0_worth.cls = RX0 ∧ yX0_worth.cls ≠ "java/lang/invoke/MethodHandle" ∧ yX0_worth.cls ≠ "java/lang/invoke/VarHandle" ∧ (parseMethodDescriptor yX0_worth.desc).map (fun d => d.parameters.length) = some 1 := by decide +kernel
set_option maxRecDepth 100000 in
set_option maxHeartbeats 4000000 in
theorem kX0_worth (l : Launch) (D : va_G) (ad : Nat → Nat) (ca : Nat → ClassId) (g : Nat) (u : XS) (q_x : Int32) (hI : XI u) : ClX l yX0_worth cX0_worth 2 9 D ad ca g [.int q_x] u ((fx_worth u q_x, u)) := by
  refine ClX.of (by decide) rfl (Nat.le_of_ble_eq_true rfl) ?_
  intro p e s m below meth c A ls E hS hl
  have hx := E.1.1
  have hb := E.1.2.1
  have hml := E.1.2.2.1
  have hown := E.1.2.2.2.1
  have hts := E.1.2.2.2.2
  have hl : lv_has ls 2 [(0, .ref (ad 0)), (1, .int q_x)] := hl
  refine lv_aload_n hx hb dX0_worth_0 rfl (lv_at hl 0 rfl) ?_
  refine lv_iload_n hx hb dX0_worth_1 rfl (lv_at hl 1 rfl) ?_
  refine lv_iconst (v := 3) hx hb dX0_worth_2 (by decide) ?_
  refine EnX.calll (r := fx_worthWithin u q_x 3) (u2 := u) E hS [.int q_x, .int 3] [] (kX0_worthWithin l D ad ca g u q_x 3 hI (by decide)) gc_X0_107 hd_X0_worthWithin ⟨Nat.le_of_ble_eq_true rfl, Nat.le_of_ble_eq_true rfl⟩ rfl hl.1 (Nat.le_of_ble_eq_true rfl) ⟨Nat.le_refl 0, Nat.le_refl 0⟩ dX0_worth_3 (fun H locs hS => ?_)
  exact EnX.lret E hS (congrArg (fun z => (z, u)) (show fx_worthWithin u q_x 3 = fx_worth u q_x by unfold fx_worth; rfl)) dX0_worth_6
