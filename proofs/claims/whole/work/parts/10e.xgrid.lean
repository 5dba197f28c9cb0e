theorem gr_mx (n : Int32) (hn : n.toInt ≤ 8) : 1 ≤ (1 + (if n < 0 then 0 else n) : Int32).toInt ∧ (1 + (if n < 0 then 0 else n) : Int32).toInt ≤ 9 ∧ (0 ≤ n.toInt → (1 + (if n < 0 then 0 else n) : Int32).toInt = 1 + n.toInt) := by
  by_cases h : n < 0
  · rw [if_pos h]
    rw [lt_ti, ti0] at h
    have e : (1 + 0 : Int32).toInt = 1 := by decide
    rw [e]; omega
  · rw [if_neg h]
    rw [lt_ti, ti0] at h
    rw [ti_add (by rw [ti1]; omega) (by rw [ti1]; omega), ti1]
    omega
theorem gr_any (n : Int32) (hn : n.toInt ≤ 8) : 0 ≤ (1 + (if n < 0 then 0 else n) : Int32).toInt ∧ (1 + (if n < 0 then 0 else n) : Int32).toInt ≤ 100 := by
  have := gr_mx n hn; omega
theorem gr_le {u : XS} {n : Int32} (hI : XI u) (hn : n.toInt ≤ 8) (h : ¬ fx_hasRoomFor u (1 + (if n < 0 then 0 else n)) = 0) : (x_thingCount u).toInt + (1 + (if n < 0 then 0 else n) : Int32).toInt ≤ 60 := xr_n hI (gr_any n hn) h
theorem gr_tcx {u : XS} {n : Int32} (hI : XI u) (hn : n.toInt ≤ 8) (h : ¬ fx_hasRoomFor u (1 + (if n < 0 then 0 else n)) = 0) : vp_in (x_thingCount u) 60 := by
  have h1 := gr_le hI hn h
  have h2 := gr_mx n hn
  have h3 := hI.1
  rw [vp_in_iff]; omega
theorem gr_rm {u : XS} {n : Int32} (hI : XI u) (hn : 0 ≤ n.toInt ∧ n.toInt ≤ 8) (h : ¬ fx_hasRoomFor u (1 + (if n < 0 then 0 else n)) = 0) : (x_thingCount u).toInt + 1 + n.toInt ≤ 60 := by
  have h1 := gr_le hI hn.2 h
  have h2 := gr_mx n hn.2
  omega
def fx_grid_L : Nat → XS → Int32 → Int32 → Int32 → Int32 → Int32 → Int32 × XS
  | 0, w, q_base, q_n, q_m, v_4, v_5 => (0, w)
  | f_ + 1, w, q_base, q_n, q_m, v_4, v_5 => (if q_n ≤ v_5 then (v_4, w) else fx_grid_L f_ (xs_places ((fx_addRow w q_base 1 q_m).2) (vp_updL (x_places ((fx_addRow w q_base 1 q_m).2)) (fx_placeIndex v_4 v_5).toNatClampNeg (Int32.toInt64 ((fx_addRow w q_base 1 q_m).1)))) q_base q_n q_m v_4 (v_5 + 1))
set_option maxRecDepth 100000 in
set_option maxHeartbeats 4000000 in
theorem loop_X0_grid {p : Program} {e : Env} {s : State} {m : MethodId} {below : List Frame} {meth : Method} {c : Code} {args : Array Value} {A : Nat → Prop} (l : Launch) (D : va_G) (ad : Nat → Nat) (ca : Nat → ClassId) (g : Nat) (u : XS) (E : EnX p s m c args cX0_grid 6 meth (some .int) D ca g A) : ∀ (f_ : Nat) (w : XS) (q_base : Int32) (q_n : Int32) (q_m : Int32) (v_4 : Int32) (v_5 : Int32), vp_in v_4 60 → (0 ≤ q_n.toInt ∧ q_n.toInt ≤ 8) → (0 ≤ q_m.toInt ∧ q_m.toInt ≤ 8) → (0 ≤ v_5.toInt ∧ v_5.toInt ≤ q_n.toInt) → (0 ≤ (x_thingCount w).toInt ∧ (x_thingCount w).toInt + (q_n.toInt - v_5.toInt) ≤ 60) → q_n.toInt - v_5.toInt < (f_ : Int) → ∀ (H : Heap) (locs : List Loc) (ls : Array Slot), SX D ad ca A s w H locs → lv_has ls 6 [(0, .ref (ad 0)), (1, .int q_base), (2, .int q_n), (3, .int q_m), (4, .int v_4), (5, .int v_5)] → W p l e (rk 4) s m args below meth c H locs 0 0 (MQ below (va_Qi (fun r' v => (r', v) = fx_grid_L f_ w q_base q_n q_m v_4 v_5) (BkX D ad ca) A) args s 0 0 A) (F0 m 66 ls []) := by
  have hx := E.1.1
  have hb := E.1.2.1
  have hml := E.1.2.2.1
  have hown := E.1.2.2.2.1
  have hts := E.1.2.2.2.2
  intro f_
  induction f_ with
  | zero =>
    intro w q_base q_n q_m v_4 v_5 hr4 hn hm8 hi hw hf H locs ls hS hl
    exfalso
    omega
  | succ f_ ih =>
    intro w q_base q_n q_m v_4 v_5 hr4 hn hm8 hi hw hf H locs ls hS hl
    refine lv_iload hx hb dX0_grid_66 (lv_at hl 5 rfl) ?_
    refine lv_iload_n hx hb dX0_grid_68 rfl (lv_at hl 2 rfl) ?_
    refine lv_icmp_ge (tgt := 98) hx hb dX0_grid_69 (by decide) (fun h69 => ?_) (fun h69 => ?_)
    · refine lv_iload hx hb dX0_grid_98 (lv_at hl 4 rfl) ?_
      exact EnX.iret E hS (ni_i _) (by rw [fx_grid_L, if_pos h69]) dX0_grid_100
    · have g69 := h69
      rw [le_ti] at g69
      refine lv_aload_n hx hb dX0_grid_72 rfl (lv_at hl 0 rfl) ?_
      refine gX_places E hS dX0_grid_73 ?_
      refine lv_iload hx hb dX0_grid_76 (lv_at hl 4 rfl) ?_
      refine lv_iload hx hb dX0_grid_78 (lv_at hl 5 rfl) ?_
      refine EnX.sti (r := fx_placeIndex v_4 v_5) E hS [.int v_4, .int v_5] [.ref (ad 5)] (kX0_placeIndex l v_4 v_5 ) (fun _ _ _ _ h => h) (fun _ _ _ => trivial) gc_X0_70 hd_X0_placeIndex ⟨Nat.le_of_ble_eq_true rfl, Nat.le_of_ble_eq_true rfl⟩ rfl hl.1 (Nat.le_of_ble_eq_true rfl) ⟨Nat.le_refl 0, Nat.le_refl 0⟩ dX0_grid_80 (fun H locs hS => ?_)
      refine lv_aload_n hx hb dX0_grid_83 rfl (lv_at hl 0 rfl) ?_
      refine lv_iload_n hx hb dX0_grid_84 rfl (lv_at hl 1 rfl) ?_
      refine lv_iconst (v := 1) hx hb dX0_grid_85 (by decide) ?_
      refine lv_iload_n hx hb dX0_grid_86 rfl (lv_at hl 3 rfl) ?_
      refine EnX.calli (r := (fx_addRow w q_base 1 q_m).1) (u2 := (fx_addRow w q_base 1 q_m).2) E hS [.int q_base, .int 1, .int q_m] [.int (fx_placeIndex v_4 v_5), .ref (ad 5)] (kX0_addRow l D ad ca g w q_base 1 q_m (by rw [vp_in_iff]; omega) hm8) gc_X0_61 hd_X0_addRow ⟨Nat.le_of_ble_eq_true rfl, Nat.le_of_ble_eq_true rfl⟩ rfl hl.1 (Nat.le_of_ble_eq_true rfl) ⟨Nat.le_refl 0, Nat.le_refl 0⟩ dX0_grid_87 (fun H locs hS => ?_)
      refine lv_i2l (v := Int32.toInt64 ((fx_addRow w q_base 1 q_m).1)) hx hb dX0_grid_90 rfl ?_
      refine sX_places E hS (show vp_in (fx_placeIndex v_4 v_5) 480 from pi_in hr4 (by omega) (by omega)) dX0_grid_91 (fun H locs hS => ?_)
      have hS : SX D ad ca A s (xs_places ((fx_addRow w q_base 1 q_m).2) (vp_updL (x_places ((fx_addRow w q_base 1 q_m).2)) (fx_placeIndex v_4 v_5).toNatClampNeg (Int32.toInt64 ((fx_addRow w q_base 1 q_m).1)))) H locs := hS
      refine lv_iinc (v := v_5 + 1) (lv' := [(5, .int (v_5 + 1)), (0, .ref (ad 0)), (1, .int q_base), (2, .int q_n), (3, .int q_m), (4, .int v_4)]) hx hb dX0_grid_92 hl (k := 5) rfl rfl (by decide) rfl (fun ls hl => ?_)
      refine lv_goto (tgt := 66) hx hb dX0_grid_95 (by decide) ?_
      have hr : fx_grid_L (f_ + 1) w q_base q_n q_m v_4 v_5 = fx_grid_L f_ (xs_places ((fx_addRow w q_base 1 q_m).2) (vp_updL (x_places ((fx_addRow w q_base 1 q_m).2)) (fx_placeIndex v_4 v_5).toNatClampNeg (Int32.toInt64 ((fx_addRow w q_base 1 q_m).1)))) q_base q_n q_m v_4 (v_5 + 1) := by rw [fx_grid_L, if_neg h69]
      have e5 : (v_5 + 1).toInt = v_5.toInt + 1 := ti_inc (by omega) (by omega)
      have ew : x_thingCount (xs_places ((fx_addRow w q_base 1 q_m).2) (vp_updL (x_places ((fx_addRow w q_base 1 q_m).2)) (fx_placeIndex v_4 v_5).toNatClampNeg (Int32.toInt64 ((fx_addRow w q_base 1 q_m).1)))) = x_thingCount w + 1 := by rw [x_thingCount_places, ar_eq (by rw [vp_in_iff]; omega) hm8]; rfl
      have et : (x_thingCount w + 1).toInt = (x_thingCount w).toInt + 1 := ti_inc (by omega) (by omega)
      rw [hr]
      exact ih (xs_places ((fx_addRow w q_base 1 q_m).2) (vp_updL (x_places ((fx_addRow w q_base 1 q_m).2)) (fx_placeIndex v_4 v_5).toNatClampNeg (Int32.toInt64 ((fx_addRow w q_base 1 q_m).1)))) q_base q_n q_m v_4 (v_5 + 1) hr4 hn hm8 (by omega) (by rw [ew]; omega) (by omega) _ _ ls hS (lv_sub hl [1, 2, 3, 4, 5, 0] rfl)
def fx_grid (u : XS) (q_base : Int32) (q_n : Int32) (q_m : Int32) : Int32 × XS := if (fx_isKind q_base 2) = 0 then ((-2), u) else (if 8 < q_n then ((-2), u) else (if q_m ≤ 8 then (if (fx_hasRoomFor u (1 + (if q_n < 0 then 0 else q_n))) = 0 then ((-3), u) else (if q_n < 0 then ((fx_fail u 5).1, (fx_fail u 5).2) else (if 0 ≤ q_m then fx_grid_L 9 ((fx_addRow u q_base 2 q_n).2) q_base q_n q_m ((fx_addRow u q_base 2 q_n).1) 0 else ((fx_fail u 5).1, (fx_fail u 5).2)))) else ((-2), u)))
theorem hd_X0_grid : yX0_grid.cls = RX0 ∧ yX0_grid.cls ≠ "java/lang/invoke/MethodHandle" ∧ yX0_grid.cls ≠ "java/lang/invoke/VarHandle" ∧ (parseMethodDescriptor yX0_grid.desc).map (fun d => d.parameters.length) = some 3 := by decide +kernel
set_option maxRecDepth 100000 in
set_option maxHeartbeats 4000000 in
theorem kX0_grid (l : Launch) (D : va_G) (ad : Nat → Nat) (ca : Nat → ClassId) (g : Nat) (u : XS) (q_base : Int32) (q_n : Int32) (q_m : Int32) (hI : XI u) : CiX l yX0_grid cX0_grid 6 .int 4 D ad ca g [.int q_base, .int q_n, .int q_m] u (fx_grid u q_base q_n q_m) := by
  refine CiX.of (by decide) rfl (Nat.le_of_ble_eq_true rfl) ?_
  intro p e s m below meth c A ls E hS hl
  have hx := E.1.1
  have hb := E.1.2.1
  have hml := E.1.2.2.1
  have hown := E.1.2.2.2.1
  have hts := E.1.2.2.2.2
  have hl : lv_has ls 6 [(0, .ref (ad 0)), (1, .int q_base), (2, .int q_n), (3, .int q_m)] := hl
  refine lv_iload_n hx hb dX0_grid_0 rfl (lv_at hl 1 rfl) ?_
  refine lv_iconst (v := 2) hx hb dX0_grid_1 (by decide) ?_
  refine EnX.sti (r := fx_isKind q_base 2) E hS [.int q_base, .int 2] [] (kX0_isKind l q_base 2 ) (fun _ _ _ _ h => h) (fun _ _ _ => trivial) gc_X0_53 hd_X0_isKind ⟨Nat.le_of_ble_eq_true rfl, Nat.le_of_ble_eq_true rfl⟩ rfl hl.1 (Nat.le_of_ble_eq_true rfl) ⟨Nat.le_refl 0, Nat.le_refl 0⟩ dX0_grid_2 (fun H locs hS => ?_)
  refine lv_if_eq (tgt := 20) hx hb dX0_grid_5 (by decide) (fun h5 => ?_) (fun h5 => ?_)
  · refine lv_bipush (v := (-2)) hx hb dX0_grid_20 (by decide) ?_
    exact EnX.iret E hS (ni_i _) (by first | (simp only [fx_grid, if_pos h5]; done) | (unfold fx_grid; rw [if_pos h5])) dX0_grid_22
  · refine lv_iload_n hx hb dX0_grid_8 rfl (lv_at hl 2 rfl) ?_
    refine lv_bipush (v := 8) hx hb dX0_grid_9 (by decide) ?_
    refine lv_icmp_gt (tgt := 20) hx hb dX0_grid_11 (by decide) (fun h11 => ?_) (fun h11 => ?_)
    · refine lv_bipush (v := (-2)) hx hb dX0_grid_20 (by decide) ?_
      exact EnX.iret E hS (ni_i _) (by first | (simp only [fx_grid, if_neg h5, if_pos h11]; done) | (unfold fx_grid; rw [if_neg h5, if_pos h11])) dX0_grid_22
    · refine lv_iload_n hx hb dX0_grid_14 rfl (lv_at hl 3 rfl) ?_
      refine lv_bipush (v := 8) hx hb dX0_grid_15 (by decide) ?_
      refine lv_icmp_le (tgt := 23) hx hb dX0_grid_17 (by decide) (fun h17 => ?_) (fun h17 => ?_)
      · refine lv_aload_n hx hb dX0_grid_23 rfl (lv_at hl 0 rfl) ?_
        refine lv_iconst (v := 1) hx hb dX0_grid_24 (by decide) ?_
        refine lv_iload_n hx hb dX0_grid_25 rfl (lv_at hl 2 rfl) ?_
        refine lv_iconst (v := 0) hx hb dX0_grid_26 (by decide) ?_
        refine va_mmax (x := q_n) (y := 0) hx hb (hml.trans hl.1.symm) hown (hts _ wl_X0_64) (hts _ wt_max) (hts _ wn_math) (hts _ wc_max) (Nat.le_of_ble_eq_true rfl) (Nat.le_of_ble_eq_true rfl) (Nat.le_refl 0) (Nat.le_refl 0) dX0_grid_27 ?_
        refine lv_iadd hx hb dX0_grid_30 ?_
        refine EnX.calli (r := fx_hasRoomFor u (1 + (if q_n < 0 then 0 else q_n))) (u2 := u) E hS [.int (1 + (if q_n < 0 then 0 else q_n))] [] (kX0_hasRoomFor l D ad ca g u (1 + (if q_n < 0 then 0 else q_n)) ) gc_X0_45 hd_X0_hasRoomFor ⟨Nat.le_of_ble_eq_true rfl, Nat.le_of_ble_eq_true rfl⟩ rfl hl.1 (Nat.le_of_ble_eq_true rfl) ⟨Nat.le_refl 0, Nat.le_refl 0⟩ dX0_grid_31 (fun H locs hS => ?_)
        refine lv_if_ne (tgt := 40) hx hb dX0_grid_34 (by decide) (fun h34 => ?_) (fun h34 => ?_)
        · refine lv_iload_n hx hb dX0_grid_40 rfl (lv_at hl 2 rfl) ?_
          refine lv_if_lt (tgt := 48) hx hb dX0_grid_41 (by decide) (fun h41 => ?_) (fun h41 => ?_)
          · refine lv_aload_n hx hb dX0_grid_48 rfl (lv_at hl 0 rfl) ?_
            refine lv_iconst (v := 5) hx hb dX0_grid_49 (by decide) ?_
            refine EnX.calli (r := (fx_fail u 5).1) (u2 := (fx_fail u 5).2) E hS [.int 5] [] (kX0_fail l D ad ca g u 5 ) gc_X0_57 hd_X0_fail ⟨Nat.le_of_ble_eq_true rfl, Nat.le_of_ble_eq_true rfl⟩ rfl hl.1 (Nat.le_of_ble_eq_true rfl) ⟨Nat.le_refl 0, Nat.le_refl 0⟩ dX0_grid_50 (fun H locs hS => ?_)
            exact EnX.iret E hS (ni_i _) (by first | (simp only [fx_grid, if_neg h5, if_neg h11, if_pos h17, if_neg h34, if_pos h41]; done) | (unfold fx_grid; rw [if_neg h5, if_neg h11, if_pos h17, if_neg h34, if_pos h41])) dX0_grid_53
          · refine lv_iload_n hx hb dX0_grid_44 rfl (lv_at hl 3 rfl) ?_
            refine lv_if_ge (tgt := 54) hx hb dX0_grid_45 (by decide) (fun h45 => ?_) (fun h45 => ?_)
            · refine lv_aload_n hx hb dX0_grid_54 rfl (lv_at hl 0 rfl) ?_
              refine lv_iload_n hx hb dX0_grid_55 rfl (lv_at hl 1 rfl) ?_
              refine lv_iconst (v := 2) hx hb dX0_grid_56 (by decide) ?_
              refine lv_iload_n hx hb dX0_grid_57 rfl (lv_at hl 2 rfl) ?_
              refine EnX.calli (r := (fx_addRow u q_base 2 q_n).1) (u2 := (fx_addRow u q_base 2 q_n).2) E hS [.int q_base, .int 2, .int q_n] [] (kX0_addRow l D ad ca g u q_base 2 q_n (gr_tcx hI (by rw [lt_ti, ti8] at h11; omega) h34) (by rw [lt_ti, ti8] at h11; rw [lt_ti, ti0] at h41; omega)) gc_X0_61 hd_X0_addRow ⟨Nat.le_of_ble_eq_true rfl, Nat.le_of_ble_eq_true rfl⟩ rfl hl.1 (Nat.le_of_ble_eq_true rfl) ⟨Nat.le_refl 0, Nat.le_refl 0⟩ dX0_grid_58 (fun H locs hS => ?_)
              refine lv_istore (lv' := [(4, .int ((fx_addRow u q_base 2 q_n).1)), (0, .ref (ad 0)), (1, .int q_base), (2, .int q_n), (3, .int q_m)]) hx hb dX0_grid_61 hl (by decide) rfl (fun ls hl => ?_)
              refine lv_iconst (v := 0) hx hb dX0_grid_63 (by decide) ?_
              refine lv_istore (lv' := [(5, .int 0), (4, .int ((fx_addRow u q_base 2 q_n).1)), (0, .ref (ad 0)), (1, .int q_base), (2, .int q_n), (3, .int q_m)]) hx hb dX0_grid_64 hl (by decide) rfl (fun ls hl => ?_)
              have hr : fx_grid u q_base q_n q_m = fx_grid_L 9 ((fx_addRow u q_base 2 q_n).2) q_base q_n q_m ((fx_addRow u q_base 2 q_n).1) 0 := by unfold fx_grid; rw [if_neg h5, if_neg h11, if_pos h17, if_neg h34, if_neg h41, if_pos h45]
              have htc := gr_tcx hI (by rw [lt_ti, ti8] at h11; omega) h34
              have hn8 : 0 ≤ q_n.toInt ∧ q_n.toInt ≤ 8 := by rw [lt_ti, ti8] at h11; rw [lt_ti, ti0] at h41; omega
              have hm8 : 0 ≤ q_m.toInt ∧ q_m.toInt ≤ 8 := by rw [le_ti, ti8] at h17; rw [le_ti, ti0] at h45; omega
              have hrm := gr_rm hI hn8 h34
              have e1 : (x_thingCount u + 1).toInt = (x_thingCount u).toInt + 1 := ti_inc (by have := hI.1; omega) (by have := hI.1; omega)
              have h1 := hI.1
              have ha := ar_eq (b := q_base) (d := 2) htc hn8
              have ha1 : (fx_addRow u q_base 2 q_n).1 = x_thingCount u := by rw [ha]
              have ha2 : x_thingCount (fx_addRow u q_base 2 q_n).2 = x_thingCount u + 1 := by rw [ha]; rfl
              rw [hr]
              exact loop_X0_grid l D ad ca g u  E 9 ((fx_addRow u q_base 2 q_n).2) q_base q_n q_m ((fx_addRow u q_base 2 q_n).1) 0 (by rw [ha1]; exact htc) hn8 hm8 (by rw [ti0]; omega) (by rw [ha2, ti0]; omega) (by rw [ti0]; omega) _ _ ls hS (lv_sub hl [2, 3, 4, 5, 1, 0] rfl)
            · refine lv_aload_n hx hb dX0_grid_48 rfl (lv_at hl 0 rfl) ?_
              refine lv_iconst (v := 5) hx hb dX0_grid_49 (by decide) ?_
              refine EnX.calli (r := (fx_fail u 5).1) (u2 := (fx_fail u 5).2) E hS [.int 5] [] (kX0_fail l D ad ca g u 5 ) gc_X0_57 hd_X0_fail ⟨Nat.le_of_ble_eq_true rfl, Nat.le_of_ble_eq_true rfl⟩ rfl hl.1 (Nat.le_of_ble_eq_true rfl) ⟨Nat.le_refl 0, Nat.le_refl 0⟩ dX0_grid_50 (fun H locs hS => ?_)
              exact EnX.iret E hS (ni_i _) (by first | (simp only [fx_grid, if_neg h5, if_neg h11, if_pos h17, if_neg h34, if_neg h41, if_neg h45]; done) | (unfold fx_grid; rw [if_neg h5, if_neg h11, if_pos h17, if_neg h34, if_neg h41, if_neg h45])) dX0_grid_53
        · refine lv_bipush (v := (-3)) hx hb dX0_grid_37 (by decide) ?_
          exact EnX.iret E hS (ni_i _) (by first | (simp only [fx_grid, if_neg h5, if_neg h11, if_pos h17, if_pos h34]; done) | (unfold fx_grid; rw [if_neg h5, if_neg h11, if_pos h17, if_pos h34])) dX0_grid_39
      · refine lv_bipush (v := (-2)) hx hb dX0_grid_20 (by decide) ?_
        exact EnX.iret E hS (ni_i _) (by first | (simp only [fx_grid, if_neg h5, if_neg h11, if_neg h17]; done) | (unfold fx_grid; rw [if_neg h5, if_neg h11, if_neg h17])) dX0_grid_22
