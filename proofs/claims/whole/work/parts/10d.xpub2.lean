def fx_frail (u : XS) (q_x : Int32) : Int32 × XS := if (fx_isThingOrNone u q_x) = 0 then ((-2), u) else (if q_x = (-1) then ((fx_fail u 1).1, (fx_fail u 1).2) else (if (fx_isNumberBase (x_thingBase u (q_x).toNatClampNeg)) = 0 then (fx_frailWithin u q_x 3, u) else ((fx_fail u 2).1, (fx_fail u 2).2)))
theorem hd_X0_frail : yX0_frail.cls = RX0 ∧ yX0_frail.cls ≠ "java/lang/invoke/MethodHandle" ∧ yX0_frail.cls ≠ "java/lang/invoke/VarHandle" ∧ (parseMethodDescriptor yX0_frail.desc).map (fun d => d.parameters.length) = some 1 := by decide +kernel
set_option maxRecDepth 100000 in
set_option maxHeartbeats 4000000 in
theorem kX0_frail (l : Launch) (D : va_G) (ad : Nat → Nat) (ca : Nat → ClassId) (g : Nat) (u : XS) (q_x : Int32) (hI : XI u) : CiX l yX0_frail cX0_frail 2 .int 9 D ad ca g [.int q_x] u (fx_frail u q_x) := by
  refine CiX.of (by decide) rfl (Nat.le_of_ble_eq_true rfl) ?_
  intro p e s m below meth c A ls E hS hl
  have hx := E.1.1
  have hb := E.1.2.1
  have hml := E.1.2.2.1
  have hown := E.1.2.2.2.1
  have hts := E.1.2.2.2.2
  have hl : lv_has ls 2 [(0, .ref (ad 0)), (1, .int q_x)] := hl
  refine lv_aload_n hx hb dX0_frail_0 rfl (lv_at hl 0 rfl) ?_
  refine lv_iload_n hx hb dX0_frail_1 rfl (lv_at hl 1 rfl) ?_
  refine EnX.calli (r := fx_isThingOrNone u q_x) (u2 := u) E hS [.int q_x] [] (kX0_isThingOrNone l D ad ca g u q_x ) gc_X0_73 hd_X0_isThingOrNone ⟨Nat.le_of_ble_eq_true rfl, Nat.le_of_ble_eq_true rfl⟩ rfl hl.1 (Nat.le_of_ble_eq_true rfl) ⟨Nat.le_refl 0, Nat.le_refl 0⟩ dX0_frail_2 (fun H locs hS => ?_)
  refine lv_if_ne (tgt := 11) hx hb dX0_frail_5 (by decide) (fun h5 => ?_) (fun h5 => ?_)
  · refine lv_iload_n hx hb dX0_frail_11 rfl (lv_at hl 1 rfl) ?_
    refine lv_iconst (v := (-1)) hx hb dX0_frail_12 (by decide) ?_
    refine lv_icmp_ne (tgt := 22) hx hb dX0_frail_13 (by decide) (fun h13 => ?_) (fun h13 => ?_)
    · refine lv_aload_n hx hb dX0_frail_22 rfl (lv_at hl 0 rfl) ?_
      refine gX_thingBase E hS dX0_frail_23 ?_
      refine lv_iload_n hx hb dX0_frail_26 rfl (lv_at hl 1 rfl) ?_
      refine lX_thingBase (v := x_thingBase u (q_x).toNatClampNeg) E hS (show vp_in q_x 60 from by first | with_reducible assumption | (refine xt_in hI ?_; with_reducible assumption) | (refine xn_in hI ?_ ?_ <;> with_reducible assumption) | with_reducible exact xb_in hI _ | (refine xr_in hI ?_; with_reducible assumption) | (refine xd_in ?_; with_reducible assumption)) rfl dX0_frail_27 ?_
      refine EnX.sti (r := fx_isNumberBase (x_thingBase u (q_x).toNatClampNeg)) E hS [.int (x_thingBase u (q_x).toNatClampNeg)] [] (kX0_isNumberBase l (x_thingBase u (q_x).toNatClampNeg) ) (fun _ _ _ _ h => h) (fun _ _ _ => trivial) gc_X0_131 hd_X0_isNumberBase ⟨Nat.le_of_ble_eq_true rfl, Nat.le_of_ble_eq_true rfl⟩ rfl hl.1 (Nat.le_of_ble_eq_true rfl) ⟨Nat.le_refl 0, Nat.le_refl 0⟩ dX0_frail_28 (fun H locs hS => ?_)
      refine lv_if_eq (tgt := 40) hx hb dX0_frail_31 (by decide) (fun h31 => ?_) (fun h31 => ?_)
      · refine lv_aload_n hx hb dX0_frail_40 rfl (lv_at hl 0 rfl) ?_
        refine lv_iload_n hx hb dX0_frail_41 rfl (lv_at hl 1 rfl) ?_
        refine lv_iconst (v := 3) hx hb dX0_frail_42 (by decide) ?_
        refine EnX.calli (r := fx_frailWithin u q_x 3) (u2 := u) E hS [.int q_x, .int 3] [] (kX0_frailWithin l D ad ca g u q_x 3 hI (by decide)) gc_X0_134 hd_X0_frailWithin ⟨Nat.le_of_ble_eq_true rfl, Nat.le_of_ble_eq_true rfl⟩ rfl hl.1 (Nat.le_of_ble_eq_true rfl) ⟨Nat.le_refl 0, Nat.le_refl 0⟩ dX0_frail_43 (fun H locs hS => ?_)
        exact EnX.iret E hS (ni_i _) (by first | (simp only [fx_frail, if_neg h5, if_neg h13, if_pos h31]; done) | (unfold fx_frail; rw [if_neg h5, if_neg h13, if_pos h31])) dX0_frail_46
      · refine lv_aload_n hx hb dX0_frail_34 rfl (lv_at hl 0 rfl) ?_
        refine lv_iconst (v := 2) hx hb dX0_frail_35 (by decide) ?_
        refine EnX.calli (r := (fx_fail u 2).1) (u2 := (fx_fail u 2).2) E hS [.int 2] [] (kX0_fail l D ad ca g u 2 ) gc_X0_57 hd_X0_fail ⟨Nat.le_of_ble_eq_true rfl, Nat.le_of_ble_eq_true rfl⟩ rfl hl.1 (Nat.le_of_ble_eq_true rfl) ⟨Nat.le_refl 0, Nat.le_refl 0⟩ dX0_frail_36 (fun H locs hS => ?_)
        exact EnX.iret E hS (ni_i _) (by first | (simp only [fx_frail, if_neg h5, if_neg h13, if_neg h31]; done) | (unfold fx_frail; rw [if_neg h5, if_neg h13, if_neg h31])) dX0_frail_39
    · refine lv_aload_n hx hb dX0_frail_16 rfl (lv_at hl 0 rfl) ?_
      refine lv_iconst (v := 1) hx hb dX0_frail_17 (by decide) ?_
      refine EnX.calli (r := (fx_fail u 1).1) (u2 := (fx_fail u 1).2) E hS [.int 1] [] (kX0_fail l D ad ca g u 1 ) gc_X0_57 hd_X0_fail ⟨Nat.le_of_ble_eq_true rfl, Nat.le_of_ble_eq_true rfl⟩ rfl hl.1 (Nat.le_of_ble_eq_true rfl) ⟨Nat.le_refl 0, Nat.le_refl 0⟩ dX0_frail_18 (fun H locs hS => ?_)
      exact EnX.iret E hS (ni_i _) (by first | (simp only [fx_frail, if_neg h5, if_pos h13]; done) | (unfold fx_frail; rw [if_neg h5, if_pos h13])) dX0_frail_21
  · refine lv_bipush (v := (-2)) hx hb dX0_frail_8 (by decide) ?_
    exact EnX.iret E hS (ni_i _) (by first | (simp only [fx_frail, if_pos h5]; done) | (unfold fx_frail; rw [if_pos h5])) dX0_frail_10
def fx_about (u : XS) (q_x : Int32) (q_what : Int32) : Int32 := if (fx_isThing u q_x) = 0 then (-2) else (if q_what = 0 then x_thingBase u (q_x).toNatClampNeg else (if q_what = 1 then x_thingDepth u (q_x).toNatClampNeg else (if q_what = 2 then (if (fx_isPiece u q_x) = 0 then x_thingSize u (q_x).toNatClampNeg else (-1)) else (-2))))
theorem hd_X0_about : yX0_about.cls = RX0 ∧ yX0_about.cls ≠ "java/lang/invoke/MethodHandle" ∧ yX0_about.cls ≠ "java/lang/invoke/VarHandle" ∧ (parseMethodDescriptor yX0_about.desc).map (fun d => d.parameters.length) = some 2 := by decide +kernel
set_option maxRecDepth 100000 in
set_option maxHeartbeats 4000000 in
theorem kX0_about (l : Launch) (D : va_G) (ad : Nat → Nat) (ca : Nat → ClassId) (g : Nat) (u : XS) (q_x : Int32) (q_what : Int32) (hI : XI u) : CiX l yX0_about cX0_about 3 .int 2 D ad ca g [.int q_x, .int q_what] u ((fx_about u q_x q_what, u)) := by
  refine CiX.of (by decide) rfl (Nat.le_of_ble_eq_true rfl) ?_
  intro p e s m below meth c A ls E hS hl
  have hx := E.1.1
  have hb := E.1.2.1
  have hml := E.1.2.2.1
  have hown := E.1.2.2.2.1
  have hts := E.1.2.2.2.2
  have hl : lv_has ls 3 [(0, .ref (ad 0)), (1, .int q_x), (2, .int q_what)] := hl
  refine lv_aload_n hx hb dX0_about_0 rfl (lv_at hl 0 rfl) ?_
  refine lv_iload_n hx hb dX0_about_1 rfl (lv_at hl 1 rfl) ?_
  refine EnX.calli (r := fx_isThing u q_x) (u2 := u) E hS [.int q_x] [] (kX0_isThing l D ad ca g u q_x ) gc_X0_137 hd_X0_isThing ⟨Nat.le_of_ble_eq_true rfl, Nat.le_of_ble_eq_true rfl⟩ rfl hl.1 (Nat.le_of_ble_eq_true rfl) ⟨Nat.le_refl 0, Nat.le_refl 0⟩ dX0_about_2 (fun H locs hS => ?_)
  refine lv_if_ne (tgt := 11) hx hb dX0_about_5 (by decide) (fun h5 => ?_) (fun h5 => ?_)
  · refine lv_iload_n hx hb dX0_about_11 rfl (lv_at hl 2 rfl) ?_
    by_cases h12_0 : q_what = 0
    · refine lv_tableIn (off := 28) (tgt := 40) hx hb dX0_about_12 (by rw [h12_0]; decide) (by rw [h12_0]; decide) (by rw [h12_0]; rfl) (by decide) ?_
      refine lv_aload_n hx hb dX0_about_40 rfl (lv_at hl 0 rfl) ?_
      refine gX_thingBase E hS dX0_about_41 ?_
      refine lv_iload_n hx hb dX0_about_44 rfl (lv_at hl 1 rfl) ?_
      refine lX_thingBase (v := x_thingBase u (q_x).toNatClampNeg) E hS (show vp_in q_x 60 from by first | with_reducible assumption | (refine xt_in hI ?_; with_reducible assumption) | (refine xn_in hI ?_ ?_ <;> with_reducible assumption) | with_reducible exact xb_in hI _ | (refine xr_in hI ?_; with_reducible assumption) | (refine xd_in ?_; with_reducible assumption)) rfl dX0_about_45 ?_
      exact EnX.iret E hS (ni_i _) (congrArg (fun z => (z, u)) (show x_thingBase u (q_x).toNatClampNeg = fx_about u q_x q_what by unfold fx_about; rw [if_neg h5, if_pos h12_0])) dX0_about_46
    · by_cases h12_1 : q_what = 1
      · refine lv_tableIn (off := 35) (tgt := 47) hx hb dX0_about_12 (by rw [h12_1]; decide) (by rw [h12_1]; decide) (by rw [h12_1]; rfl) (by decide) ?_
        refine lv_aload_n hx hb dX0_about_47 rfl (lv_at hl 0 rfl) ?_
        refine gX_thingDepth E hS dX0_about_48 ?_
        refine lv_iload_n hx hb dX0_about_51 rfl (lv_at hl 1 rfl) ?_
        refine lX_thingDepth (v := x_thingDepth u (q_x).toNatClampNeg) E hS (show vp_in q_x 60 from by first | with_reducible assumption | (refine xt_in hI ?_; with_reducible assumption) | (refine xn_in hI ?_ ?_ <;> with_reducible assumption) | with_reducible exact xb_in hI _ | (refine xr_in hI ?_; with_reducible assumption) | (refine xd_in ?_; with_reducible assumption)) rfl dX0_about_52 ?_
        exact EnX.iret E hS (ni_i _) (congrArg (fun z => (z, u)) (show x_thingDepth u (q_x).toNatClampNeg = fx_about u q_x q_what by unfold fx_about; rw [if_neg h5, if_neg h12_0, if_pos h12_1])) dX0_about_53
      · by_cases h12_2 : q_what = 2
        · refine lv_tableIn (off := 42) (tgt := 54) hx hb dX0_about_12 (by rw [h12_2]; decide) (by rw [h12_2]; decide) (by rw [h12_2]; rfl) (by decide) ?_
          refine lv_aload_n hx hb dX0_about_54 rfl (lv_at hl 0 rfl) ?_
          refine lv_iload_n hx hb dX0_about_55 rfl (lv_at hl 1 rfl) ?_
          refine EnX.calli (r := fx_isPiece u q_x) (u2 := u) E hS [.int q_x] [] (kX0_isPiece l D ad ca g u q_x (by first | with_reducible assumption | (refine xt_in hI ?_; with_reducible assumption) | (refine xn_in hI ?_ ?_ <;> with_reducible assumption) | with_reducible exact xb_in hI _ | (refine xr_in hI ?_; with_reducible assumption) | (refine xd_in ?_; with_reducible assumption))) gc_X0_111 hd_X0_isPiece ⟨Nat.le_of_ble_eq_true rfl, Nat.le_of_ble_eq_true rfl⟩ rfl hl.1 (Nat.le_of_ble_eq_true rfl) ⟨Nat.le_refl 0, Nat.le_refl 0⟩ dX0_about_56 (fun H locs hS => ?_)
          refine lv_if_eq (tgt := 66) hx hb dX0_about_59 (by decide) (fun h59 => ?_) (fun h59 => ?_)
          · refine lv_aload_n hx hb dX0_about_66 rfl (lv_at hl 0 rfl) ?_
            refine gX_thingSize E hS dX0_about_67 ?_
            refine lv_iload_n hx hb dX0_about_70 rfl (lv_at hl 1 rfl) ?_
            refine lX_thingSize (v := x_thingSize u (q_x).toNatClampNeg) E hS (show vp_in q_x 60 from by first | with_reducible assumption | (refine xt_in hI ?_; with_reducible assumption) | (refine xn_in hI ?_ ?_ <;> with_reducible assumption) | with_reducible exact xb_in hI _ | (refine xr_in hI ?_; with_reducible assumption) | (refine xd_in ?_; with_reducible assumption)) rfl dX0_about_71 ?_
            exact EnX.iret E hS (ni_i _) (congrArg (fun z => (z, u)) (show x_thingSize u (q_x).toNatClampNeg = fx_about u q_x q_what by unfold fx_about; rw [if_neg h5, if_neg h12_0, if_neg h12_1, if_pos h12_2, if_pos h59])) dX0_about_72
          · refine lv_iconst (v := (-1)) hx hb dX0_about_62 (by decide) ?_
            refine lv_goto (tgt := 72) hx hb dX0_about_63 (by decide) ?_
            exact EnX.iret E hS (ni_i _) (congrArg (fun z => (z, u)) (show ((-1) : Int32) = fx_about u q_x q_what by unfold fx_about; rw [if_neg h5, if_neg h12_0, if_neg h12_1, if_pos h12_2, if_neg h59])) dX0_about_72
        · have n12_0 := lv_neT h12_0 (a := 0) (by decide)
          have n12_1 := lv_neT h12_1 (a := 1) (by decide)
          have n12_2 := lv_neT h12_2 (a := 2) (by decide)
          refine lv_tableOut (tgt := 73) hx hb dX0_about_12 (by omega) (by decide) ?_
          refine lv_bipush (v := (-2)) hx hb dX0_about_73 (by decide) ?_
          exact EnX.iret E hS (ni_i _) (congrArg (fun z => (z, u)) (show ((-2) : Int32) = fx_about u q_x q_what by unfold fx_about; rw [if_neg h5, if_neg h12_0, if_neg h12_1, if_neg h12_2])) dX0_about_75
  · refine lv_bipush (v := (-2)) hx hb dX0_about_8 (by decide) ?_
    exact EnX.iret E hS (ni_i _) (congrArg (fun z => (z, u)) (show ((-2) : Int32) = fx_about u q_x q_what by unfold fx_about; rw [if_pos h5])) dX0_about_10
def fx_bases (u : XS) (q_x : Int32) : Int32 := if (fx_isThing u q_x) = 0 then (-2) else gfT (x_thingBase u (q_x).toNatClampNeg).toNatClampNeg
theorem hd_X0_bases : yX0_bases.cls = RX0 ∧ yX0_bases.cls ≠ "java/lang/invoke/MethodHandle" ∧ yX0_bases.cls ≠ "java/lang/invoke/VarHandle" ∧ (parseMethodDescriptor yX0_bases.desc).map (fun d => d.parameters.length) = some 1 := by decide +kernel
set_option maxRecDepth 100000 in
set_option maxHeartbeats 4000000 in
theorem kX0_bases (l : Launch) (D : va_G) (ad : Nat → Nat) (ca : Nat → ClassId) (g : Nat) (u : XS) (q_x : Int32) (hI : XI u) : CiX l yX0_bases cX0_bases 2 .int 2 D ad ca g [.int q_x] u ((fx_bases u q_x, u)) := by
  refine CiX.of (by decide) rfl (Nat.le_of_ble_eq_true rfl) ?_
  intro p e s m below meth c A ls E hS hl
  have hx := E.1.1
  have hb := E.1.2.1
  have hml := E.1.2.2.1
  have hown := E.1.2.2.2.1
  have hts := E.1.2.2.2.2
  have hl : lv_has ls 2 [(0, .ref (ad 0)), (1, .int q_x)] := hl
  refine lv_aload_n hx hb dX0_bases_0 rfl (lv_at hl 0 rfl) ?_
  refine lv_iload_n hx hb dX0_bases_1 rfl (lv_at hl 1 rfl) ?_
  refine EnX.calli (r := fx_isThing u q_x) (u2 := u) E hS [.int q_x] [] (kX0_isThing l D ad ca g u q_x ) gc_X0_137 hd_X0_isThing ⟨Nat.le_of_ble_eq_true rfl, Nat.le_of_ble_eq_true rfl⟩ rfl hl.1 (Nat.le_of_ble_eq_true rfl) ⟨Nat.le_refl 0, Nat.le_refl 0⟩ dX0_bases_2 (fun H locs hS => ?_)
  refine lv_if_eq (tgt := 21) hx hb dX0_bases_5 (by decide) (fun h5 => ?_) (fun h5 => ?_)
  · refine lv_bipush (v := (-2)) hx hb dX0_bases_21 (by decide) ?_
    exact EnX.iret E hS (ni_i _) (congrArg (fun z => (z, u)) (show ((-2) : Int32) = fx_bases u q_x by unfold fx_bases; rw [if_pos h5])) dX0_bases_23
  · refine va_gets hx hb E.2.2.2.2.1.1 hS.2.2 hown (hts _ wf_X0_140) (fun _ h => h) dX0_bases_8 ?_
    refine lv_aload_n hx hb dX0_bases_11 rfl (lv_at hl 0 rfl) ?_
    refine gX_thingBase E hS dX0_bases_12 ?_
    refine lv_iload_n hx hb dX0_bases_15 rfl (lv_at hl 1 rfl) ?_
    refine lX_thingBase (v := x_thingBase u (q_x).toNatClampNeg) E hS (show vp_in q_x 60 from by first | with_reducible assumption | (refine xt_in hI ?_; with_reducible assumption) | (refine xn_in hI ?_ ?_ <;> with_reducible assumption) | with_reducible exact xb_in hI _ | (refine xr_in hI ?_; with_reducible assumption) | (refine xd_in ?_; with_reducible assumption)) rfl dX0_bases_16 ?_
    refine va_ti (v := .int (gfT (x_thingBase u (q_x).toNatClampNeg).toNatClampNeg)) hx hb E.2.2.2.2.1.2 hS.2.2 (show vp_in (x_thingBase u (q_x).toNatClampNeg) 7 from by first | with_reducible assumption | (refine xt_in hI ?_; with_reducible assumption) | (refine xn_in hI ?_ ?_ <;> with_reducible assumption) | with_reducible exact xb_in hI _ | (refine xr_in hI ?_; with_reducible assumption) | (refine xd_in ?_; with_reducible assumption)) rfl dX0_bases_17 ?_
    refine lv_goto (tgt := 23) hx hb dX0_bases_18 (by decide) ?_
    exact EnX.iret E hS (ni_i _) (congrArg (fun z => (z, u)) (show gfT (x_thingBase u (q_x).toNatClampNeg).toNatClampNeg = fx_bases u q_x by unfold fx_bases; rw [if_neg h5])) dX0_bases_23
def fx_count (u : XS) (q_what : Int32) : Int32 := if q_what = 0 then x_thingCount u else (if q_what = 1 then x_failureCount u else (if q_what = 2 then x_latestFailure u else (-2)))
theorem hd_X0_count : yX0_count.cls = RX0 ∧ yX0_count.cls ≠ "java/lang/invoke/MethodHandle" ∧ yX0_count.cls ≠ "java/lang/invoke/VarHandle" ∧ (parseMethodDescriptor yX0_count.desc).map (fun d => d.parameters.length) = some 1 := by decide +kernel
set_option maxRecDepth 100000 in
set_option maxHeartbeats 4000000 in
theorem kX0_count (l : Launch) (D : va_G) (ad : Nat → Nat) (ca : Nat → ClassId) (g : Nat) (u : XS) (q_what : Int32)  : CiX l yX0_count cX0_count 2 .int 1 D ad ca g [.int q_what] u ((fx_count u q_what, u)) := by
  refine CiX.of (by decide) rfl (Nat.le_of_ble_eq_true rfl) ?_
  intro p e s m below meth c A ls E hS hl
  have hx := E.1.1
  have hb := E.1.2.1
  have hml := E.1.2.2.1
  have hown := E.1.2.2.2.1
  have hts := E.1.2.2.2.2
  have hl : lv_has ls 2 [(0, .ref (ad 0)), (1, .int q_what)] := hl
  refine lv_iload_n hx hb dX0_count_0 rfl (lv_at hl 1 rfl) ?_
  by_cases h1_0 : q_what = 0
  · refine lv_tableIn (off := 27) (tgt := 28) hx hb dX0_count_1 (by rw [h1_0]; decide) (by rw [h1_0]; decide) (by rw [h1_0]; rfl) (by decide) ?_
    refine lv_aload_n hx hb dX0_count_28 rfl (lv_at hl 0 rfl) ?_
    refine gX_thingCount (v := x_thingCount u) E hS rfl dX0_count_29 ?_
    exact EnX.iret E hS (ni_i _) (congrArg (fun z => (z, u)) (show x_thingCount u = fx_count u q_what by unfold fx_count; rw [if_pos h1_0])) dX0_count_32
  · by_cases h1_1 : q_what = 1
    · refine lv_tableIn (off := 32) (tgt := 33) hx hb dX0_count_1 (by rw [h1_1]; decide) (by rw [h1_1]; decide) (by rw [h1_1]; rfl) (by decide) ?_
      refine lv_aload_n hx hb dX0_count_33 rfl (lv_at hl 0 rfl) ?_
      refine gX_failureCount (v := x_failureCount u) E hS rfl dX0_count_34 ?_
      exact EnX.iret E hS (ni_i _) (congrArg (fun z => (z, u)) (show x_failureCount u = fx_count u q_what by unfold fx_count; rw [if_neg h1_0, if_pos h1_1])) dX0_count_37
    · by_cases h1_2 : q_what = 2
      · refine lv_tableIn (off := 37) (tgt := 38) hx hb dX0_count_1 (by rw [h1_2]; decide) (by rw [h1_2]; decide) (by rw [h1_2]; rfl) (by decide) ?_
        refine lv_aload_n hx hb dX0_count_38 rfl (lv_at hl 0 rfl) ?_
        refine gX_latestFailure (v := x_latestFailure u) E hS rfl dX0_count_39 ?_
        exact EnX.iret E hS (ni_i _) (congrArg (fun z => (z, u)) (show x_latestFailure u = fx_count u q_what by unfold fx_count; rw [if_neg h1_0, if_neg h1_1, if_pos h1_2])) dX0_count_42
      · have n1_0 := lv_neT h1_0 (a := 0) (by decide)
        have n1_1 := lv_neT h1_1 (a := 1) (by decide)
        have n1_2 := lv_neT h1_2 (a := 2) (by decide)
        refine lv_tableOut (tgt := 43) hx hb dX0_count_1 (by omega) (by decide) ?_
        refine lv_bipush (v := (-2)) hx hb dX0_count_43 (by decide) ?_
        exact EnX.iret E hS (ni_i _) (congrArg (fun z => (z, u)) (show ((-2) : Int32) = fx_count u q_what by unfold fx_count; rw [if_neg h1_0, if_neg h1_1, if_neg h1_2])) dX0_count_45
