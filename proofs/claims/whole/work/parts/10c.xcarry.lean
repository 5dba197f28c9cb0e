def fx_carry (u : XS) (q_r : Int32) (q_i : Int32) (q_s : Int32) (q_j : Int32) (q_n : Int32) : Int32 × XS := if (fx_isThingOrNone u q_r) = 0 then ((-2), u) else (if (fx_isThingOrNone u q_s) = 0 then ((-2), u) else (if q_r = (-1) then ((fx_fail u 1).1, (fx_fail u 1).2) else (if q_s = (-1) then ((fx_fail u 1).1, (fx_fail u 1).2) else (if (fx_areAlike u q_r q_s) = 0 then ((fx_fail u 4).1, (fx_fail u 4).2) else (if (fx_hasPlaces u q_r q_i q_n) = 0 then ((fx_fail u 3).1, (fx_fail u 3).2) else (if (fx_hasPlaces u q_s q_j q_n) = 0 then ((fx_fail u 3).1, (fx_fail u 3).2) else (if (fx_isLedger u q_s) = 0 then (if (fx_countGoing u q_r q_i q_s q_n) = q_n then (1, fx_movePlaces u q_r q_i q_s q_j (fx_countGoing u q_r q_i q_s q_n)) else ((fx_fail (fx_movePlaces u q_r q_i q_s q_j (fx_countGoing u q_r q_i q_s q_n)) 4).1, (fx_fail (fx_movePlaces u q_r q_i q_s q_j (fx_countGoing u q_r q_i q_s q_n)) 4).2)) else (if q_n = q_n then (1, fx_movePlaces u q_r q_i q_s q_j q_n) else ((fx_fail (fx_movePlaces u q_r q_i q_s q_j q_n) 4).1, (fx_fail (fx_movePlaces u q_r q_i q_s q_j q_n) 4).2)))))))))
theorem hd_X0_carry : yX0_carry.cls = RX0 ∧ yX0_carry.cls ≠ "java/lang/invoke/MethodHandle" ∧ yX0_carry.cls ≠ "java/lang/invoke/VarHandle" ∧ (parseMethodDescriptor yX0_carry.desc).map (fun d => d.parameters.length) = some 5 := by decide +kernel
set_option maxRecDepth 100000 in
set_option maxHeartbeats 4000000 in
theorem kX0_carry (l : Launch) (D : va_G) (ad : Nat → Nat) (ca : Nat → ClassId) (g : Nat) (u : XS) (q_r : Int32) (q_i : Int32) (q_s : Int32) (q_j : Int32) (q_n : Int32) (hI : XI u) : CiX l yX0_carry cX0_carry 7 .int 6 D ad ca g [.int q_r, .int q_i, .int q_s, .int q_j, .int q_n] u (fx_carry u q_r q_i q_s q_j q_n) := by
  refine CiX.of (by decide) rfl (Nat.le_of_ble_eq_true rfl) ?_
  intro p e s m below meth c A ls E hS hl
  have hx := E.1.1
  have hb := E.1.2.1
  have hml := E.1.2.2.1
  have hown := E.1.2.2.2.1
  have hts := E.1.2.2.2.2
  have hl : lv_has ls 7 [(0, .ref (ad 0)), (1, .int q_r), (2, .int q_i), (3, .int q_s), (4, .int q_j), (5, .int q_n)] := hl
  refine lv_aload_n hx hb dX0_carry_0 rfl (lv_at hl 0 rfl) ?_
  refine lv_iload_n hx hb dX0_carry_1 rfl (lv_at hl 1 rfl) ?_
  refine EnX.calli (r := fx_isThingOrNone u q_r) (u2 := u) E hS [.int q_r] [] (kX0_isThingOrNone l D ad ca g u q_r ) gc_X0_73 hd_X0_isThingOrNone ⟨Nat.le_of_ble_eq_true rfl, Nat.le_of_ble_eq_true rfl⟩ rfl hl.1 (Nat.le_of_ble_eq_true rfl) ⟨Nat.le_refl 0, Nat.le_refl 0⟩ dX0_carry_2 (fun H locs hS => ?_)
  refine lv_if_eq (tgt := 16) hx hb dX0_carry_5 (by decide) (fun h5 => ?_) (fun h5 => ?_)
  · refine lv_bipush (v := (-2)) hx hb dX0_carry_16 (by decide) ?_
    exact EnX.iret E hS (ni_i _) (by first | (simp only [fx_carry, if_pos h5]; done) | (unfold fx_carry; rw [if_pos h5])) dX0_carry_18
  · refine lv_aload_n hx hb dX0_carry_8 rfl (lv_at hl 0 rfl) ?_
    refine lv_iload_n hx hb dX0_carry_9 rfl (lv_at hl 3 rfl) ?_
    refine EnX.calli (r := fx_isThingOrNone u q_s) (u2 := u) E hS [.int q_s] [] (kX0_isThingOrNone l D ad ca g u q_s ) gc_X0_73 hd_X0_isThingOrNone ⟨Nat.le_of_ble_eq_true rfl, Nat.le_of_ble_eq_true rfl⟩ rfl hl.1 (Nat.le_of_ble_eq_true rfl) ⟨Nat.le_refl 0, Nat.le_refl 0⟩ dX0_carry_10 (fun H locs hS => ?_)
    refine lv_if_ne (tgt := 19) hx hb dX0_carry_13 (by decide) (fun h13 => ?_) (fun h13 => ?_)
    · refine lv_iload_n hx hb dX0_carry_19 rfl (lv_at hl 1 rfl) ?_
      refine lv_iconst (v := (-1)) hx hb dX0_carry_20 (by decide) ?_
      refine lv_icmp_eq (tgt := 29) hx hb dX0_carry_21 (by decide) (fun h21 => ?_) (fun h21 => ?_)
      · refine lv_aload_n hx hb dX0_carry_29 rfl (lv_at hl 0 rfl) ?_
        refine lv_iconst (v := 1) hx hb dX0_carry_30 (by decide) ?_
        refine EnX.calli (r := (fx_fail u 1).1) (u2 := (fx_fail u 1).2) E hS [.int 1] [] (kX0_fail l D ad ca g u 1 ) gc_X0_57 hd_X0_fail ⟨Nat.le_of_ble_eq_true rfl, Nat.le_of_ble_eq_true rfl⟩ rfl hl.1 (Nat.le_of_ble_eq_true rfl) ⟨Nat.le_refl 0, Nat.le_refl 0⟩ dX0_carry_31 (fun H locs hS => ?_)
        exact EnX.iret E hS (ni_i _) (by first | (simp only [fx_carry, if_neg h5, if_neg h13, if_pos h21]; done) | (unfold fx_carry; rw [if_neg h5, if_neg h13, if_pos h21])) dX0_carry_34
      · refine lv_iload_n hx hb dX0_carry_24 rfl (lv_at hl 3 rfl) ?_
        refine lv_iconst (v := (-1)) hx hb dX0_carry_25 (by decide) ?_
        refine lv_icmp_ne (tgt := 35) hx hb dX0_carry_26 (by decide) (fun h26 => ?_) (fun h26 => ?_)
        · refine lv_aload_n hx hb dX0_carry_35 rfl (lv_at hl 0 rfl) ?_
          refine lv_iload_n hx hb dX0_carry_36 rfl (lv_at hl 1 rfl) ?_
          refine lv_iload_n hx hb dX0_carry_37 rfl (lv_at hl 3 rfl) ?_
          refine EnX.calli (r := fx_areAlike u q_r q_s) (u2 := u) E hS [.int q_r, .int q_s] [] (kX0_areAlike l D ad ca g u q_r q_s (by first | with_reducible assumption | (refine xt_in hI ?_; with_reducible assumption) | (refine xn_in hI ?_ ?_ <;> with_reducible assumption) | with_reducible exact xb_in hI _ | (refine xr_in hI ?_; with_reducible assumption) | (refine xd_in ?_; with_reducible assumption)) (by first | with_reducible assumption | (refine xt_in hI ?_; with_reducible assumption) | (refine xn_in hI ?_ ?_ <;> with_reducible assumption) | with_reducible exact xb_in hI _ | (refine xr_in hI ?_; with_reducible assumption) | (refine xd_in ?_; with_reducible assumption))) gc_X0_118 hd_X0_areAlike ⟨Nat.le_of_ble_eq_true rfl, Nat.le_of_ble_eq_true rfl⟩ rfl hl.1 (Nat.le_of_ble_eq_true rfl) ⟨Nat.le_refl 0, Nat.le_refl 0⟩ dX0_carry_38 (fun H locs hS => ?_)
          refine lv_if_ne (tgt := 50) hx hb dX0_carry_41 (by decide) (fun h41 => ?_) (fun h41 => ?_)
          · refine lv_aload_n hx hb dX0_carry_50 rfl (lv_at hl 0 rfl) ?_
            refine lv_iload_n hx hb dX0_carry_51 rfl (lv_at hl 1 rfl) ?_
            refine lv_iload_n hx hb dX0_carry_52 rfl (lv_at hl 2 rfl) ?_
            refine lv_iload hx hb dX0_carry_53 (lv_at hl 5 rfl) ?_
            refine EnX.calli (r := fx_hasPlaces u q_r q_i q_n) (u2 := u) E hS [.int q_r, .int q_i, .int q_n] [] (kX0_hasPlaces l D ad ca g u q_r q_i q_n (by first | with_reducible assumption | (refine xt_in hI ?_; with_reducible assumption) | (refine xn_in hI ?_ ?_ <;> with_reducible assumption) | with_reducible exact xb_in hI _ | (refine xr_in hI ?_; with_reducible assumption) | (refine xd_in ?_; with_reducible assumption))) gc_X0_121 hd_X0_hasPlaces ⟨Nat.le_of_ble_eq_true rfl, Nat.le_of_ble_eq_true rfl⟩ rfl hl.1 (Nat.le_of_ble_eq_true rfl) ⟨Nat.le_refl 0, Nat.le_refl 0⟩ dX0_carry_55 (fun H locs hS => ?_)
            refine lv_if_eq (tgt := 73) hx hb dX0_carry_58 (by decide) (fun h58 => ?_) (fun h58 => ?_)
            · refine lv_aload_n hx hb dX0_carry_73 rfl (lv_at hl 0 rfl) ?_
              refine lv_iconst (v := 3) hx hb dX0_carry_74 (by decide) ?_
              refine EnX.calli (r := (fx_fail u 3).1) (u2 := (fx_fail u 3).2) E hS [.int 3] [] (kX0_fail l D ad ca g u 3 ) gc_X0_57 hd_X0_fail ⟨Nat.le_of_ble_eq_true rfl, Nat.le_of_ble_eq_true rfl⟩ rfl hl.1 (Nat.le_of_ble_eq_true rfl) ⟨Nat.le_refl 0, Nat.le_refl 0⟩ dX0_carry_75 (fun H locs hS => ?_)
              exact EnX.iret E hS (ni_i _) (by first | (simp only [fx_carry, if_neg h5, if_neg h13, if_neg h21, if_neg h26, if_neg h41, if_pos h58]; done) | (unfold fx_carry; rw [if_neg h5, if_neg h13, if_neg h21, if_neg h26, if_neg h41, if_pos h58])) dX0_carry_78
            · refine lv_aload_n hx hb dX0_carry_61 rfl (lv_at hl 0 rfl) ?_
              refine lv_iload_n hx hb dX0_carry_62 rfl (lv_at hl 3 rfl) ?_
              refine lv_iload hx hb dX0_carry_63 (lv_at hl 4 rfl) ?_
              refine lv_iload hx hb dX0_carry_65 (lv_at hl 5 rfl) ?_
              refine EnX.calli (r := fx_hasPlaces u q_s q_j q_n) (u2 := u) E hS [.int q_s, .int q_j, .int q_n] [] (kX0_hasPlaces l D ad ca g u q_s q_j q_n (by first | with_reducible assumption | (refine xt_in hI ?_; with_reducible assumption) | (refine xn_in hI ?_ ?_ <;> with_reducible assumption) | with_reducible exact xb_in hI _ | (refine xr_in hI ?_; with_reducible assumption) | (refine xd_in ?_; with_reducible assumption))) gc_X0_121 hd_X0_hasPlaces ⟨Nat.le_of_ble_eq_true rfl, Nat.le_of_ble_eq_true rfl⟩ rfl hl.1 (Nat.le_of_ble_eq_true rfl) ⟨Nat.le_refl 0, Nat.le_refl 0⟩ dX0_carry_67 (fun H locs hS => ?_)
              refine lv_if_ne (tgt := 79) hx hb dX0_carry_70 (by decide) (fun h70 => ?_) (fun h70 => ?_)
              · have hqr := xn_in hI h5 h21
                have hqs := xn_in hI h13 h26
                have b1 := xps hI h58
                have b2 := xps hI h70
                have b3 := cg_r (u := u) (r := q_r) (i := q_i) (s := q_s) (n := q_n) (by omega)
                refine lv_aload_n hx hb dX0_carry_79 rfl (lv_at hl 0 rfl) ?_
                refine lv_iload_n hx hb dX0_carry_80 rfl (lv_at hl 3 rfl) ?_
                refine EnX.calli (r := fx_isLedger u q_s) (u2 := u) E hS [.int q_s] [] (kX0_isLedger l D ad ca g u q_s (by first | with_reducible assumption | (refine xt_in hI ?_; with_reducible assumption) | (refine xn_in hI ?_ ?_ <;> with_reducible assumption) | with_reducible exact xb_in hI _ | (refine xr_in hI ?_; with_reducible assumption) | (refine xd_in ?_; with_reducible assumption))) gc_X0_124 hd_X0_isLedger ⟨Nat.le_of_ble_eq_true rfl, Nat.le_of_ble_eq_true rfl⟩ rfl hl.1 (Nat.le_of_ble_eq_true rfl) ⟨Nat.le_refl 0, Nat.le_refl 0⟩ dX0_carry_81 (fun H locs hS => ?_)
                refine lv_if_eq (tgt := 92) hx hb dX0_carry_84 (by decide) (fun h84 => ?_) (fun h84 => ?_)
                · refine lv_aload_n hx hb dX0_carry_92 rfl (lv_at hl 0 rfl) ?_
                  refine lv_iload_n hx hb dX0_carry_93 rfl (lv_at hl 1 rfl) ?_
                  refine lv_iload_n hx hb dX0_carry_94 rfl (lv_at hl 2 rfl) ?_
                  refine lv_iload_n hx hb dX0_carry_95 rfl (lv_at hl 3 rfl) ?_
                  refine lv_iload hx hb dX0_carry_96 (lv_at hl 5 rfl) ?_
                  refine EnX.calli (r := fx_countGoing u q_r q_i q_s q_n) (u2 := u) E hS [.int q_r, .int q_i, .int q_s, .int q_n] [] (kX0_countGoing l D ad ca g u q_r q_i q_s q_n hI hqr hqs (by omega)) gc_X0_127 hd_X0_countGoing ⟨Nat.le_of_ble_eq_true rfl, Nat.le_of_ble_eq_true rfl⟩ rfl hl.1 (Nat.le_of_ble_eq_true rfl) ⟨Nat.le_refl 0, Nat.le_refl 0⟩ dX0_carry_98 (fun H locs hS => ?_)
                  refine lv_istore (lv' := [(6, .int (fx_countGoing u q_r q_i q_s q_n)), (0, .ref (ad 0)), (1, .int q_r), (2, .int q_i), (3, .int q_s), (4, .int q_j), (5, .int q_n)]) hx hb dX0_carry_101 hl (by decide) rfl (fun ls hl => ?_)
                  refine lv_aload_n hx hb dX0_carry_103 rfl (lv_at hl 1 rfl) ?_
                  refine lv_iload_n hx hb dX0_carry_104 rfl (lv_at hl 2 rfl) ?_
                  refine lv_iload_n hx hb dX0_carry_105 rfl (lv_at hl 3 rfl) ?_
                  refine lv_iload_n hx hb dX0_carry_106 rfl (lv_at hl 4 rfl) ?_
                  refine lv_iload hx hb dX0_carry_107 (lv_at hl 5 rfl) ?_
                  refine lv_iload hx hb dX0_carry_109 (lv_at hl 0 rfl) ?_
                  refine EnX.callv (u2 := fx_movePlaces u q_r q_i q_s q_j (fx_countGoing u q_r q_i q_s q_n)) E hS [.int q_r, .int q_i, .int q_s, .int q_j, .int (fx_countGoing u q_r q_i q_s q_n)] [] (kX0_movePlaces l D ad ca g u q_r q_i q_s q_j (fx_countGoing u q_r q_i q_s q_n) (mv_1 hqr (by omega) (by omega)) (mv_1 hqs (by omega) (by omega)) (mv_3 (by omega)) (mv_4 hqr (by omega) (by omega) (by omega)) (mv_4 hqs (by omega) (by omega) (by omega))) gc_X0_114 hd_X0_movePlaces ⟨Nat.le_of_ble_eq_true rfl, Nat.le_of_ble_eq_true rfl⟩ rfl hl.1 (Nat.le_of_ble_eq_true rfl) ⟨Nat.le_refl 0, Nat.le_refl 0⟩ dX0_carry_111 (fun H locs hS => ?_)
                  refine lv_iload hx hb dX0_carry_114 (lv_at hl 0 rfl) ?_
                  refine lv_iload hx hb dX0_carry_116 (lv_at hl 6 rfl) ?_
                  refine lv_icmp_ne (tgt := 125) hx hb dX0_carry_118 (by decide) (fun h118 => ?_) (fun h118 => ?_)
                  · refine lv_aload_n hx hb dX0_carry_125 rfl (lv_at hl 1 rfl) ?_
                    refine lv_iconst (v := 4) hx hb dX0_carry_126 (by decide) ?_
                    refine EnX.calli (r := (fx_fail (fx_movePlaces u q_r q_i q_s q_j (fx_countGoing u q_r q_i q_s q_n)) 4).1) (u2 := (fx_fail (fx_movePlaces u q_r q_i q_s q_j (fx_countGoing u q_r q_i q_s q_n)) 4).2) E hS [.int 4] [] (kX0_fail l D ad ca g (fx_movePlaces u q_r q_i q_s q_j (fx_countGoing u q_r q_i q_s q_n)) 4 ) gc_X0_57 hd_X0_fail ⟨Nat.le_of_ble_eq_true rfl, Nat.le_of_ble_eq_true rfl⟩ rfl hl.1 (Nat.le_of_ble_eq_true rfl) ⟨Nat.le_refl 0, Nat.le_refl 0⟩ dX0_carry_127 (fun H locs hS => ?_)
                    exact EnX.iret E hS (ni_i _) (by first | (simp only [fx_carry, if_neg h5, if_neg h13, if_neg h21, if_neg h26, if_neg h41, if_neg h58, if_neg h70, if_pos h84, if_neg h118]; done) | (unfold fx_carry; rw [if_neg h5, if_neg h13, if_neg h21, if_neg h26, if_neg h41, if_neg h58, if_neg h70, if_pos h84, if_neg h118])) dX0_carry_130
                  · refine lv_iconst (v := 1) hx hb dX0_carry_121 (by decide) ?_
                    refine lv_goto (tgt := 130) hx hb dX0_carry_122 (by decide) ?_
                    exact EnX.iret E hS (ni_i _) (by first | (simp only [fx_carry, if_neg h5, if_neg h13, if_neg h21, if_neg h26, if_neg h41, if_neg h58, if_neg h70, if_pos h84, if_pos h118]; done) | (unfold fx_carry; rw [if_neg h5, if_neg h13, if_neg h21, if_neg h26, if_neg h41, if_neg h58, if_neg h70, if_pos h84, if_pos h118])) dX0_carry_130
                · refine lv_iload hx hb dX0_carry_87 (lv_at hl 5 rfl) ?_
                  refine lv_goto (tgt := 101) hx hb dX0_carry_89 (by decide) ?_
                  refine lv_istore (lv' := [(6, .int q_n), (0, .ref (ad 0)), (1, .int q_r), (2, .int q_i), (3, .int q_s), (4, .int q_j), (5, .int q_n)]) hx hb dX0_carry_101 hl (by decide) rfl (fun ls hl => ?_)
                  refine lv_aload_n hx hb dX0_carry_103 rfl (lv_at hl 1 rfl) ?_
                  refine lv_iload_n hx hb dX0_carry_104 rfl (lv_at hl 2 rfl) ?_
                  refine lv_iload_n hx hb dX0_carry_105 rfl (lv_at hl 3 rfl) ?_
                  refine lv_iload_n hx hb dX0_carry_106 rfl (lv_at hl 4 rfl) ?_
                  refine lv_iload hx hb dX0_carry_107 (lv_at hl 5 rfl) ?_
                  refine lv_iload hx hb dX0_carry_109 (lv_at hl 0 rfl) ?_
                  refine EnX.callv (u2 := fx_movePlaces u q_r q_i q_s q_j q_n) E hS [.int q_r, .int q_i, .int q_s, .int q_j, .int q_n] [] (kX0_movePlaces l D ad ca g u q_r q_i q_s q_j q_n (mv_1 hqr (by omega) (by omega)) (mv_1 hqs (by omega) (by omega)) (mv_3 (by omega)) (mv_4 hqr (by omega) (by omega) (by omega)) (mv_4 hqs (by omega) (by omega) (by omega))) gc_X0_114 hd_X0_movePlaces ⟨Nat.le_of_ble_eq_true rfl, Nat.le_of_ble_eq_true rfl⟩ rfl hl.1 (Nat.le_of_ble_eq_true rfl) ⟨Nat.le_refl 0, Nat.le_refl 0⟩ dX0_carry_111 (fun H locs hS => ?_)
                  refine lv_iload hx hb dX0_carry_114 (lv_at hl 0 rfl) ?_
                  refine lv_iload hx hb dX0_carry_116 (lv_at hl 6 rfl) ?_
                  refine lv_icmp_ne (tgt := 125) hx hb dX0_carry_118 (by decide) (fun h118 => ?_) (fun h118 => ?_)
                  · refine lv_aload_n hx hb dX0_carry_125 rfl (lv_at hl 1 rfl) ?_
                    refine lv_iconst (v := 4) hx hb dX0_carry_126 (by decide) ?_
                    refine EnX.calli (r := (fx_fail (fx_movePlaces u q_r q_i q_s q_j q_n) 4).1) (u2 := (fx_fail (fx_movePlaces u q_r q_i q_s q_j q_n) 4).2) E hS [.int 4] [] (kX0_fail l D ad ca g (fx_movePlaces u q_r q_i q_s q_j q_n) 4 ) gc_X0_57 hd_X0_fail ⟨Nat.le_of_ble_eq_true rfl, Nat.le_of_ble_eq_true rfl⟩ rfl hl.1 (Nat.le_of_ble_eq_true rfl) ⟨Nat.le_refl 0, Nat.le_refl 0⟩ dX0_carry_127 (fun H locs hS => ?_)
                    exact EnX.iret E hS (ni_i _) (by first | (simp only [fx_carry, if_neg h5, if_neg h13, if_neg h21, if_neg h26, if_neg h41, if_neg h58, if_neg h70, if_neg h84, if_neg h118]; done) | (unfold fx_carry; rw [if_neg h5, if_neg h13, if_neg h21, if_neg h26, if_neg h41, if_neg h58, if_neg h70, if_neg h84, if_neg h118])) dX0_carry_130
                  · refine lv_iconst (v := 1) hx hb dX0_carry_121 (by decide) ?_
                    refine lv_goto (tgt := 130) hx hb dX0_carry_122 (by decide) ?_
                    exact EnX.iret E hS (ni_i _) (by first | (simp only [fx_carry, if_neg h5, if_neg h13, if_neg h21, if_neg h26, if_neg h41, if_neg h58, if_neg h70, if_neg h84, if_pos h118]; done) | (unfold fx_carry; rw [if_neg h5, if_neg h13, if_neg h21, if_neg h26, if_neg h41, if_neg h58, if_neg h70, if_neg h84, if_pos h118])) dX0_carry_130
              · refine lv_aload_n hx hb dX0_carry_73 rfl (lv_at hl 0 rfl) ?_
                refine lv_iconst (v := 3) hx hb dX0_carry_74 (by decide) ?_
                refine EnX.calli (r := (fx_fail u 3).1) (u2 := (fx_fail u 3).2) E hS [.int 3] [] (kX0_fail l D ad ca g u 3 ) gc_X0_57 hd_X0_fail ⟨Nat.le_of_ble_eq_true rfl, Nat.le_of_ble_eq_true rfl⟩ rfl hl.1 (Nat.le_of_ble_eq_true rfl) ⟨Nat.le_refl 0, Nat.le_refl 0⟩ dX0_carry_75 (fun H locs hS => ?_)
                exact EnX.iret E hS (ni_i _) (by first | (simp only [fx_carry, if_neg h5, if_neg h13, if_neg h21, if_neg h26, if_neg h41, if_neg h58, if_pos h70]; done) | (unfold fx_carry; rw [if_neg h5, if_neg h13, if_neg h21, if_neg h26, if_neg h41, if_neg h58, if_pos h70])) dX0_carry_78
          · refine lv_aload_n hx hb dX0_carry_44 rfl (lv_at hl 0 rfl) ?_
            refine lv_iconst (v := 4) hx hb dX0_carry_45 (by decide) ?_
            refine EnX.calli (r := (fx_fail u 4).1) (u2 := (fx_fail u 4).2) E hS [.int 4] [] (kX0_fail l D ad ca g u 4 ) gc_X0_57 hd_X0_fail ⟨Nat.le_of_ble_eq_true rfl, Nat.le_of_ble_eq_true rfl⟩ rfl hl.1 (Nat.le_of_ble_eq_true rfl) ⟨Nat.le_refl 0, Nat.le_refl 0⟩ dX0_carry_46 (fun H locs hS => ?_)
            exact EnX.iret E hS (ni_i _) (by first | (simp only [fx_carry, if_neg h5, if_neg h13, if_neg h21, if_neg h26, if_pos h41]; done) | (unfold fx_carry; rw [if_neg h5, if_neg h13, if_neg h21, if_neg h26, if_pos h41])) dX0_carry_49
        · refine lv_aload_n hx hb dX0_carry_29 rfl (lv_at hl 0 rfl) ?_
          refine lv_iconst (v := 1) hx hb dX0_carry_30 (by decide) ?_
          refine EnX.calli (r := (fx_fail u 1).1) (u2 := (fx_fail u 1).2) E hS [.int 1] [] (kX0_fail l D ad ca g u 1 ) gc_X0_57 hd_X0_fail ⟨Nat.le_of_ble_eq_true rfl, Nat.le_of_ble_eq_true rfl⟩ rfl hl.1 (Nat.le_of_ble_eq_true rfl) ⟨Nat.le_refl 0, Nat.le_refl 0⟩ dX0_carry_31 (fun H locs hS => ?_)
          exact EnX.iret E hS (ni_i _) (by first | (simp only [fx_carry, if_neg h5, if_neg h13, if_neg h21, if_pos h26]; done) | (unfold fx_carry; rw [if_neg h5, if_neg h13, if_neg h21, if_pos h26])) dX0_carry_34
    · refine lv_bipush (v := (-2)) hx hb dX0_carry_16 (by decide) ?_
      exact EnX.iret E hS (ni_i _) (by first | (simp only [fx_carry, if_neg h5, if_pos h13]; done) | (unfold fx_carry; rw [if_neg h5, if_pos h13])) dX0_carry_18
