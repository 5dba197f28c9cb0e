def fx_copy (u : XS) (q_x : Int32) : Int32 × XS := if (fx_isThingOrNone u q_x) = 0 then ((-2), u) else (if (fx_hasRoomFor u 1) = 0 then ((-3), u) else (if q_x = (-1) then ((fx_fail u 1).1, (fx_fail u 1).2) else (if (fx_isPiece u q_x) = 0 then ((fx_addThing u (x_thingBase u (q_x).toNatClampNeg) (x_thingDepth u (q_x).toNatClampNeg) (x_thingSize u (q_x).toNatClampNeg)).1, fx_movePlaces ((fx_addThing u (x_thingBase u (q_x).toNatClampNeg) (x_thingDepth u (q_x).toNatClampNeg) (x_thingSize u (q_x).toNatClampNeg)).2) q_x 0 ((fx_addThing u (x_thingBase u (q_x).toNatClampNeg) (x_thingDepth u (q_x).toNatClampNeg) (x_thingSize u (q_x).toNatClampNeg)).1) 0 (x_thingSize ((fx_addThing u (x_thingBase u (q_x).toNatClampNeg) (x_thingDepth u (q_x).toNatClampNeg) (x_thingSize u (q_x).toNatClampNeg)).2) (q_x).toNatClampNeg)) else ((fx_fail u 2).1, (fx_fail u 2).2))))
theorem hd_X0_copy : yX0_copy.cls = RX0 ∧ yX0_copy.cls ≠ "java/lang/invoke/MethodHandle" ∧ yX0_copy.cls ≠ "java/lang/invoke/VarHandle" ∧ (parseMethodDescriptor yX0_copy.desc).map (fun d => d.parameters.length) = some 1 := by decide +kernel
set_option maxRecDepth 100000 in
set_option maxHeartbeats 4000000 in
theorem kX0_copy (l : Launch) (D : va_G) (ad : Nat → Nat) (ca : Nat → ClassId) (g : Nat) (u : XS) (q_x : Int32) (hI : XI u) : CiX l yX0_copy cX0_copy 3 .int 3 D ad ca g [.int q_x] u (fx_copy u q_x) := by
  refine CiX.of (by decide) rfl (Nat.le_of_ble_eq_true rfl) ?_
  intro p e s m below meth c A ls E hS hl
  have hx := E.1.1
  have hb := E.1.2.1
  have hml := E.1.2.2.1
  have hown := E.1.2.2.2.1
  have hts := E.1.2.2.2.2
  have hl : lv_has ls 3 [(0, .ref (ad 0)), (1, .int q_x)] := hl
  refine lv_aload_n hx hb dX0_copy_0 rfl (lv_at hl 0 rfl) ?_
  refine lv_iload_n hx hb dX0_copy_1 rfl (lv_at hl 1 rfl) ?_
  refine EnX.calli (r := fx_isThingOrNone u q_x) (u2 := u) E hS [.int q_x] [] (kX0_isThingOrNone l D ad ca g u q_x ) gc_X0_73 hd_X0_isThingOrNone ⟨Nat.le_of_ble_eq_true rfl, Nat.le_of_ble_eq_true rfl⟩ rfl hl.1 (Nat.le_of_ble_eq_true rfl) ⟨Nat.le_refl 0, Nat.le_refl 0⟩ dX0_copy_2 (fun H locs hS => ?_)
  refine lv_if_ne (tgt := 11) hx hb dX0_copy_5 (by decide) (fun h5 => ?_) (fun h5 => ?_)
  · refine lv_aload_n hx hb dX0_copy_11 rfl (lv_at hl 0 rfl) ?_
    refine lv_iconst (v := 1) hx hb dX0_copy_12 (by decide) ?_
    refine EnX.calli (r := fx_hasRoomFor u 1) (u2 := u) E hS [.int 1] [] (kX0_hasRoomFor l D ad ca g u 1 ) gc_X0_45 hd_X0_hasRoomFor ⟨Nat.le_of_ble_eq_true rfl, Nat.le_of_ble_eq_true rfl⟩ rfl hl.1 (Nat.le_of_ble_eq_true rfl) ⟨Nat.le_refl 0, Nat.le_refl 0⟩ dX0_copy_13 (fun H locs hS => ?_)
    refine lv_if_ne (tgt := 22) hx hb dX0_copy_16 (by decide) (fun h16 => ?_) (fun h16 => ?_)
    · refine lv_iload_n hx hb dX0_copy_22 rfl (lv_at hl 1 rfl) ?_
      refine lv_iconst (v := (-1)) hx hb dX0_copy_23 (by decide) ?_
      refine lv_icmp_ne (tgt := 33) hx hb dX0_copy_24 (by decide) (fun h24 => ?_) (fun h24 => ?_)
      · refine lv_aload_n hx hb dX0_copy_33 rfl (lv_at hl 0 rfl) ?_
        refine lv_iload_n hx hb dX0_copy_34 rfl (lv_at hl 1 rfl) ?_
        refine EnX.calli (r := fx_isPiece u q_x) (u2 := u) E hS [.int q_x] [] (kX0_isPiece l D ad ca g u q_x (by first | with_reducible assumption | (refine xt_in hI ?_; with_reducible assumption) | (refine xn_in hI ?_ ?_ <;> with_reducible assumption) | with_reducible exact xb_in hI _ | (refine xr_in hI ?_; with_reducible assumption) | (refine xd_in ?_; with_reducible assumption))) gc_X0_111 hd_X0_isPiece ⟨Nat.le_of_ble_eq_true rfl, Nat.le_of_ble_eq_true rfl⟩ rfl hl.1 (Nat.le_of_ble_eq_true rfl) ⟨Nat.le_refl 0, Nat.le_refl 0⟩ dX0_copy_35 (fun H locs hS => ?_)
        refine lv_if_eq (tgt := 47) hx hb dX0_copy_38 (by decide) (fun h38 => ?_) (fun h38 => ?_)
        · refine lv_aload_n hx hb dX0_copy_47 rfl (lv_at hl 0 rfl) ?_
          refine lv_aload_n hx hb dX0_copy_48 rfl (lv_at hl 0 rfl) ?_
          refine gX_thingBase E hS dX0_copy_49 ?_
          refine lv_iload_n hx hb dX0_copy_52 rfl (lv_at hl 1 rfl) ?_
          refine lX_thingBase (v := x_thingBase u (q_x).toNatClampNeg) E hS (show vp_in q_x 60 from by first | with_reducible assumption | (refine xt_in hI ?_; with_reducible assumption) | (refine xn_in hI ?_ ?_ <;> with_reducible assumption) | with_reducible exact xb_in hI _ | (refine xr_in hI ?_; with_reducible assumption) | (refine xd_in ?_; with_reducible assumption)) rfl dX0_copy_53 ?_
          refine lv_aload_n hx hb dX0_copy_54 rfl (lv_at hl 0 rfl) ?_
          refine gX_thingDepth E hS dX0_copy_55 ?_
          refine lv_iload_n hx hb dX0_copy_58 rfl (lv_at hl 1 rfl) ?_
          refine lX_thingDepth (v := x_thingDepth u (q_x).toNatClampNeg) E hS (show vp_in q_x 60 from by first | with_reducible assumption | (refine xt_in hI ?_; with_reducible assumption) | (refine xn_in hI ?_ ?_ <;> with_reducible assumption) | with_reducible exact xb_in hI _ | (refine xr_in hI ?_; with_reducible assumption) | (refine xd_in ?_; with_reducible assumption)) rfl dX0_copy_59 ?_
          refine lv_aload_n hx hb dX0_copy_60 rfl (lv_at hl 0 rfl) ?_
          refine gX_thingSize E hS dX0_copy_61 ?_
          refine lv_iload_n hx hb dX0_copy_64 rfl (lv_at hl 1 rfl) ?_
          refine lX_thingSize (v := x_thingSize u (q_x).toNatClampNeg) E hS (show vp_in q_x 60 from by first | with_reducible assumption | (refine xt_in hI ?_; with_reducible assumption) | (refine xn_in hI ?_ ?_ <;> with_reducible assumption) | with_reducible exact xb_in hI _ | (refine xr_in hI ?_; with_reducible assumption) | (refine xd_in ?_; with_reducible assumption)) rfl dX0_copy_65 ?_
          refine EnX.calli (r := (fx_addThing u (x_thingBase u (q_x).toNatClampNeg) (x_thingDepth u (q_x).toNatClampNeg) (x_thingSize u (q_x).toNatClampNeg)).1) (u2 := (fx_addThing u (x_thingBase u (q_x).toNatClampNeg) (x_thingDepth u (q_x).toNatClampNeg) (x_thingSize u (q_x).toNatClampNeg)).2) E hS [.int (x_thingBase u (q_x).toNatClampNeg), .int (x_thingDepth u (q_x).toNatClampNeg), .int (x_thingSize u (q_x).toNatClampNeg)] [] (kX0_addThing l D ad ca g u (x_thingBase u (q_x).toNatClampNeg) (x_thingDepth u (q_x).toNatClampNeg) (x_thingSize u (q_x).toNatClampNeg) (by first | with_reducible assumption | (refine xt_in hI ?_; with_reducible assumption) | (refine xn_in hI ?_ ?_ <;> with_reducible assumption) | with_reducible exact xb_in hI _ | (refine xr_in hI ?_; with_reducible assumption) | (refine xd_in ?_; with_reducible assumption))) gc_X0_49 hd_X0_addThing ⟨Nat.le_of_ble_eq_true rfl, Nat.le_of_ble_eq_true rfl⟩ rfl hl.1 (Nat.le_of_ble_eq_true rfl) ⟨Nat.le_refl 0, Nat.le_refl 0⟩ dX0_copy_66 (fun H locs hS => ?_)
          have hz := at_sz (b := x_thingBase u (q_x).toNatClampNeg) (d := x_thingDepth u (q_x).toNatClampNeg) (n := x_thingSize u (q_x).toNatClampNeg) hI (hI.2.2 (q_x).toNatClampNeg) (q_x).toNatClampNeg
          refine lv_istore_n (lv' := [(2, .int ((fx_addThing u (x_thingBase u (q_x).toNatClampNeg) (x_thingDepth u (q_x).toNatClampNeg) (x_thingSize u (q_x).toNatClampNeg)).1)), (0, .ref (ad 0)), (1, .int q_x)]) hx hb dX0_copy_69 rfl hl (by decide) rfl (fun ls hl => ?_)
          refine lv_aload_n hx hb dX0_copy_70 rfl (lv_at hl 1 rfl) ?_
          refine lv_iload_n hx hb dX0_copy_71 rfl (lv_at hl 2 rfl) ?_
          refine lv_iconst (v := 0) hx hb dX0_copy_72 (by decide) ?_
          refine lv_iload_n hx hb dX0_copy_73 rfl (lv_at hl 0 rfl) ?_
          refine lv_iconst (v := 0) hx hb dX0_copy_74 (by decide) ?_
          refine lv_aload_n hx hb dX0_copy_75 rfl (lv_at hl 1 rfl) ?_
          refine gX_thingSize E hS dX0_copy_76 ?_
          refine lv_iload_n hx hb dX0_copy_79 rfl (lv_at hl 2 rfl) ?_
          refine lX_thingSize (v := x_thingSize ((fx_addThing u (x_thingBase u (q_x).toNatClampNeg) (x_thingDepth u (q_x).toNatClampNeg) (x_thingSize u (q_x).toNatClampNeg)).2) (q_x).toNatClampNeg) E hS (show vp_in q_x 60 from by first | with_reducible assumption | (refine xt_in hI ?_; with_reducible assumption) | (refine xn_in hI ?_ ?_ <;> with_reducible assumption) | with_reducible exact xb_in hI _ | (refine xr_in hI ?_; with_reducible assumption) | (refine xd_in ?_; with_reducible assumption)) rfl dX0_copy_80 ?_
          refine EnX.callv (u2 := fx_movePlaces ((fx_addThing u (x_thingBase u (q_x).toNatClampNeg) (x_thingDepth u (q_x).toNatClampNeg) (x_thingSize u (q_x).toNatClampNeg)).2) q_x 0 ((fx_addThing u (x_thingBase u (q_x).toNatClampNeg) (x_thingDepth u (q_x).toNatClampNeg) (x_thingSize u (q_x).toNatClampNeg)).1) 0 (x_thingSize ((fx_addThing u (x_thingBase u (q_x).toNatClampNeg) (x_thingDepth u (q_x).toNatClampNeg) (x_thingSize u (q_x).toNatClampNeg)).2) (q_x).toNatClampNeg)) E hS [.int q_x, .int 0, .int ((fx_addThing u (x_thingBase u (q_x).toNatClampNeg) (x_thingDepth u (q_x).toNatClampNeg) (x_thingSize u (q_x).toNatClampNeg)).1), .int 0, .int (x_thingSize ((fx_addThing u (x_thingBase u (q_x).toNatClampNeg) (x_thingDepth u (q_x).toNatClampNeg) (x_thingSize u (q_x).toNatClampNeg)).2) (q_x).toNatClampNeg)] [] (kX0_movePlaces l D ad ca g ((fx_addThing u (x_thingBase u (q_x).toNatClampNeg) (x_thingDepth u (q_x).toNatClampNeg) (x_thingSize u (q_x).toNatClampNeg)).2) q_x 0 ((fx_addThing u (x_thingBase u (q_x).toNatClampNeg) (x_thingDepth u (q_x).toNatClampNeg) (x_thingSize u (q_x).toNatClampNeg)).1) 0 (x_thingSize ((fx_addThing u (x_thingBase u (q_x).toNatClampNeg) (x_thingDepth u (q_x).toNatClampNeg) (x_thingSize u (q_x).toNatClampNeg)).2) (q_x).toNatClampNeg) (mv_1 (xn_in hI (by with_reducible assumption) (by with_reducible assumption)) (by decide) (by decide)) (mv_1 (by rw [at_1]; exact xr_in hI h16) (by decide) (by decide)) (mv_3 hz.1) (mv_4 (xn_in hI (by with_reducible assumption) (by with_reducible assumption)) (by decide) hz.1 (by rw [ti0]; omega)) (mv_4 (by rw [at_1]; exact xr_in hI h16) (by decide) hz.1 (by rw [ti0]; omega))) gc_X0_114 hd_X0_movePlaces ⟨Nat.le_of_ble_eq_true rfl, Nat.le_of_ble_eq_true rfl⟩ rfl hl.1 (Nat.le_of_ble_eq_true rfl) ⟨Nat.le_refl 0, Nat.le_refl 0⟩ dX0_copy_81 (fun H locs hS => ?_)
          refine lv_iload_n hx hb dX0_copy_84 rfl (lv_at hl 0 rfl) ?_
          exact EnX.iret E hS (ni_i _) (by first | (simp only [fx_copy, if_neg h5, if_neg h16, if_neg h24, if_pos h38]; done) | (unfold fx_copy; rw [if_neg h5, if_neg h16, if_neg h24, if_pos h38])) dX0_copy_85
        · refine lv_aload_n hx hb dX0_copy_41 rfl (lv_at hl 0 rfl) ?_
          refine lv_iconst (v := 2) hx hb dX0_copy_42 (by decide) ?_
          refine EnX.calli (r := (fx_fail u 2).1) (u2 := (fx_fail u 2).2) E hS [.int 2] [] (kX0_fail l D ad ca g u 2 ) gc_X0_57 hd_X0_fail ⟨Nat.le_of_ble_eq_true rfl, Nat.le_of_ble_eq_true rfl⟩ rfl hl.1 (Nat.le_of_ble_eq_true rfl) ⟨Nat.le_refl 0, Nat.le_refl 0⟩ dX0_copy_43 (fun H locs hS => ?_)
          exact EnX.iret E hS (ni_i _) (by first | (simp only [fx_copy, if_neg h5, if_neg h16, if_neg h24, if_neg h38]; done) | (unfold fx_copy; rw [if_neg h5, if_neg h16, if_neg h24, if_neg h38])) dX0_copy_46
      · refine lv_aload_n hx hb dX0_copy_27 rfl (lv_at hl 0 rfl) ?_
        refine lv_iconst (v := 1) hx hb dX0_copy_28 (by decide) ?_
        refine EnX.calli (r := (fx_fail u 1).1) (u2 := (fx_fail u 1).2) E hS [.int 1] [] (kX0_fail l D ad ca g u 1 ) gc_X0_57 hd_X0_fail ⟨Nat.le_of_ble_eq_true rfl, Nat.le_of_ble_eq_true rfl⟩ rfl hl.1 (Nat.le_of_ble_eq_true rfl) ⟨Nat.le_refl 0, Nat.le_refl 0⟩ dX0_copy_29 (fun H locs hS => ?_)
        exact EnX.iret E hS (ni_i _) (by first | (simp only [fx_copy, if_neg h5, if_neg h16, if_pos h24]; done) | (unfold fx_copy; rw [if_neg h5, if_neg h16, if_pos h24])) dX0_copy_32
    · refine lv_bipush (v := (-3)) hx hb dX0_copy_19 (by decide) ?_
      exact EnX.iret E hS (ni_i _) (by first | (simp only [fx_copy, if_neg h5, if_pos h16]; done) | (unfold fx_copy; rw [if_neg h5, if_pos h16])) dX0_copy_21
  · refine lv_bipush (v := (-2)) hx hb dX0_copy_8 (by decide) ?_
    exact EnX.iret E hS (ni_i _) (by first | (simp only [fx_copy, if_pos h5]; done) | (unfold fx_copy; rw [if_pos h5])) dX0_copy_10
