/-! DepotTrays: worth and frail, by depth -/
theorem hd_X0_worthWithin : yX0_worthWithin.cls = RX0 ∧ yX0_worthWithin.cls ≠ "java/lang/invoke/MethodHandle" ∧ yX0_worthWithin.cls ≠ "java/lang/invoke/VarHandle" ∧ (parseMethodDescriptor yX0_worthWithin.desc).map (fun d => d.parameters.length) = some 2 := by decide +kernel
def fx_worthStep_L (rec : Int32 → Int64) : Nat → XS → Int32 → Int64 → Int32 → Int64
  | 0, u, q_x, v_3, v_5 => 0
  | f_ + 1, u, q_x, v_3, v_5 => (if (x_thingSize u (q_x).toNatClampNeg) ≤ v_5 then v_3 else (if (fx_isLedger u q_x) = 0 then fx_worthStep_L rec f_ u q_x (v_3 + (rec (fx_thingAt u q_x v_5))) (v_5 + 1) else fx_worthStep_L rec f_ u q_x (v_3 + (x_places u (fx_placeIndex q_x v_5).toNatClampNeg)) (v_5 + 1)))
set_option maxRecDepth 100000 in
set_option maxHeartbeats 4000000 in
theorem loop_X0_worthWithin {p : Program} {e : Env} {s : State} {m : MethodId} {below : List Frame} {meth : Method} {c : Code} {args : Array Value} {A : Nat → Prop} (l : Launch) (D : va_G) (ad : Nat → Nat) (ca : Nat → ClassId) (g : Nat) (u : XS) (hI : XI u) (rec : Int32 → Int64) (k : Nat) (hk : 3 ≤ k) (q_levels : Int32) (hl0 : 0 ≤ q_levels) (hrec : 0 ≤ q_levels → ∀ y : Int32, ClX l yX0_worthWithin cX0_worthWithin 6 k D ad ca g [.int y, .int (q_levels - 1)] u (rec y, u)) (E : EnX p s m c args cX0_worthWithin 6 meth (some .long) D ca g A) : ∀ (f_ : Nat) (q_x : Int32) (v_3 : Int64) (v_5 : Int32), vp_in q_x 60 → (0 ≤ v_5.toInt ∧ v_5.toInt ≤ 8) → 8 - v_5.toInt < (f_ : Int) → ∀ (H : Heap) (locs : List Loc) (ls : Array Slot), SX D ad ca A s u H locs → lv_has ls 6 [(0, .ref (ad 0)), (2, .int q_levels), (1, .int q_x), (3, .long v_3), (5, .int v_5)] → W p l e (rk (k + 1)) s m args below meth c H locs 0 0 (MQ below (va_Ql (fun r' v => (r', v) = (fx_worthStep_L rec f_ u q_x v_3 v_5, u)) (BkX D ad ca) A) args s 0 0 A) (F0 m 33 ls []) := by
  have hx := E.1.1
  have hb := E.1.2.1
  have hml := E.1.2.2.1
  have hown := E.1.2.2.2.1
  have hts := E.1.2.2.2.2
  intro f_
  induction f_ with
  | zero =>
    intro q_x v_3 v_5 hqx hi hf H locs ls hS hl
    exfalso
    omega
  | succ f_ ih =>
    intro q_x v_3 v_5 hqx hi hf H locs ls hS hl
    refine lv_iload hx hb dX0_worthWithin_33 (lv_at hl 4 rfl) ?_
    refine lv_aload_n hx hb dX0_worthWithin_35 rfl (lv_at hl 0 rfl) ?_
    refine gX_thingSize E hS dX0_worthWithin_36 ?_
    refine lv_iload_n hx hb dX0_worthWithin_39 rfl (lv_at hl 2 rfl) ?_
    refine lX_thingSize (v := x_thingSize u (q_x).toNatClampNeg) E hS (show vp_in q_x 60 from hqx) rfl dX0_worthWithin_40 ?_
    refine lv_icmp_ge (tgt := 89) hx hb dX0_worthWithin_41 (by decide) (fun h41 => ?_) (fun h41 => ?_)
    · refine lv_lload_n hx hb dX0_worthWithin_89 rfl (lv_at hl 3 rfl) ?_
      exact EnX.lret E hS (congrArg (fun z => (z, u)) (by rw [fx_worthStep_L, if_pos h41])) dX0_worthWithin_90
    · have gs := hI.2.2 (q_x).toNatClampNeg
      have gc := h41
      rw [le_ti] at gc
      refine lv_lload_n hx hb dX0_worthWithin_44 rfl (lv_at hl 3 rfl) ?_
      refine lv_aload_n hx hb dX0_worthWithin_45 rfl (lv_at hl 0 rfl) ?_
      refine lv_iload_n hx hb dX0_worthWithin_46 rfl (lv_at hl 2 rfl) ?_
      refine EnX.calli (r := fx_isLedger u q_x) (u2 := u) E hS [.int q_x] [.long v_3] (kX0_isLedger l D ad ca g u q_x (by first | with_reducible assumption | (refine hqr ?_; with_reducible assumption) | (refine xt_in hI ?_; with_reducible assumption) | (refine xn_in hI ?_ ?_ <;> with_reducible assumption) | with_reducible exact xb_in hI _)) gc_X0_124 hd_X0_isLedger ⟨show 2 + 1 ≤ k + 1 by omega, show 8 + (2 + 11) + 64 * 2 ≤ 64 * (k + 1) by omega⟩ rfl hl.1 (Nat.le_of_ble_eq_true rfl) ⟨Nat.le_refl 0, Nat.le_refl 0⟩ dX0_worthWithin_47 (fun H locs hS => ?_)
      refine lv_if_eq (tgt := 67) hx hb dX0_worthWithin_50 (by decide) (fun h50 => ?_) (fun h50 => ?_)
      · refine lv_aload_n hx hb dX0_worthWithin_67 rfl (lv_at hl 0 rfl) ?_
        refine lv_aload_n hx hb dX0_worthWithin_68 rfl (lv_at hl 0 rfl) ?_
        refine lv_iload_n hx hb dX0_worthWithin_69 rfl (lv_at hl 2 rfl) ?_
        refine lv_iload hx hb dX0_worthWithin_70 (lv_at hl 4 rfl) ?_
        refine EnX.calli (r := fx_thingAt u q_x v_5) (u2 := u) E hS [.int q_x, .int v_5] [.ref (ad 0), .long v_3] (kX0_thingAt l D ad ca g u q_x v_5 (pi_in hqx (by omega) (by omega))) gc_X0_92 hd_X0_thingAt ⟨show 2 + 1 ≤ k + 1 by omega, show 8 + (3 + 11) + 64 * 2 ≤ 64 * (k + 1) by omega⟩ rfl hl.1 (Nat.le_of_ble_eq_true rfl) ⟨Nat.le_refl 0, Nat.le_refl 0⟩ dX0_worthWithin_72 (fun H locs hS => ?_)
        refine lv_iload_n hx hb dX0_worthWithin_75 rfl (lv_at hl 1 rfl) ?_
        refine lv_iconst (v := 1) hx hb dX0_worthWithin_76 (by decide) ?_
        refine lv_isub hx hb dX0_worthWithin_77 ?_
        refine EnX.calll (r := rec (fx_thingAt u q_x v_5)) (u2 := u) E hS [.int (fx_thingAt u q_x v_5), .int (q_levels - 1)] [.long v_3] (hrec hl0 (fx_thingAt u q_x v_5)) gc_X0_107 hd_X0_worthWithin ⟨show k + 1 ≤ k + 1 by omega, show 8 + (6 + 11) + 64 * k ≤ 64 * (k + 1) by omega⟩ rfl hl.1 (Nat.le_of_ble_eq_true rfl) ⟨Nat.le_refl 0, Nat.le_refl 0⟩ dX0_worthWithin_78 (fun H locs hS => ?_)
        refine lv_ladd hx hb dX0_worthWithin_81 ?_
        refine lv_lstore_n (lv' := [(3, .long (v_3 + (rec (fx_thingAt u q_x v_5)))), (0, .ref (ad 0)), (2, .int q_levels), (1, .int q_x), (5, .int v_5)]) hx hb dX0_worthWithin_82 rfl hl (by decide) rfl (fun ls hl => ?_)
        refine lv_iinc (v := v_5 + 1) (lv' := [(5, .int (v_5 + 1)), (3, .long (v_3 + (rec (fx_thingAt u q_x v_5)))), (0, .ref (ad 0)), (2, .int q_levels), (1, .int q_x)]) hx hb dX0_worthWithin_83 hl (k := 4) rfl rfl (by decide) rfl (fun ls hl => ?_)
        refine lv_goto (tgt := 33) hx hb dX0_worthWithin_86 (by decide) ?_
        have hr : fx_worthStep_L rec (f_ + 1) u q_x v_3 v_5 = fx_worthStep_L rec f_ u q_x (v_3 + (rec (fx_thingAt u q_x v_5))) (v_5 + 1) := by rw [fx_worthStep_L, if_neg h41, if_pos h50]
        have e5 : (v_5 + 1).toInt = v_5.toInt + 1 := ti_inc (by omega) (by omega)
        rw [hr]
        exact ih q_x (v_3 + (rec (fx_thingAt u q_x v_5))) (v_5 + 1) hqx (by omega) (by omega) _ _ ls hS (lv_sub hl [2, 3, 4, 1, 0] rfl)
      · refine lv_aload_n hx hb dX0_worthWithin_53 rfl (lv_at hl 0 rfl) ?_
        refine gX_places E hS dX0_worthWithin_54 ?_
        refine lv_iload_n hx hb dX0_worthWithin_57 rfl (lv_at hl 2 rfl) ?_
        refine lv_iload hx hb dX0_worthWithin_58 (lv_at hl 4 rfl) ?_
        refine EnX.sti (r := fx_placeIndex q_x v_5) E hS [.int q_x, .int v_5] [.ref (ad 5), .long v_3] (kX0_placeIndex l q_x v_5 ) (fun _ _ _ _ h => h) (fun _ _ _ => trivial) gc_X0_70 hd_X0_placeIndex ⟨show 1 + 1 ≤ k + 1 by omega, show 8 + (2 + 11) + 64 * 1 ≤ 64 * (k + 1) by omega⟩ rfl hl.1 (Nat.le_of_ble_eq_true rfl) ⟨Nat.le_refl 0, Nat.le_refl 0⟩ dX0_worthWithin_60 (fun H locs hS => ?_)
        refine lX_places (v := x_places u (fx_placeIndex q_x v_5).toNatClampNeg) E hS (show vp_in (fx_placeIndex q_x v_5) 480 from pi_in hqx (by omega) (by omega)) rfl dX0_worthWithin_63 ?_
        refine lv_goto (tgt := 81) hx hb dX0_worthWithin_64 (by decide) ?_
        refine lv_ladd hx hb dX0_worthWithin_81 ?_
        refine lv_lstore_n (lv' := [(3, .long (v_3 + (x_places u (fx_placeIndex q_x v_5).toNatClampNeg))), (0, .ref (ad 0)), (2, .int q_levels), (1, .int q_x), (5, .int v_5)]) hx hb dX0_worthWithin_82 rfl hl (by decide) rfl (fun ls hl => ?_)
        refine lv_iinc (v := v_5 + 1) (lv' := [(5, .int (v_5 + 1)), (3, .long (v_3 + (x_places u (fx_placeIndex q_x v_5).toNatClampNeg))), (0, .ref (ad 0)), (2, .int q_levels), (1, .int q_x)]) hx hb dX0_worthWithin_83 hl (k := 4) rfl rfl (by decide) rfl (fun ls hl => ?_)
        refine lv_goto (tgt := 33) hx hb dX0_worthWithin_86 (by decide) ?_
        have hr : fx_worthStep_L rec (f_ + 1) u q_x v_3 v_5 = fx_worthStep_L rec f_ u q_x (v_3 + (x_places u (fx_placeIndex q_x v_5).toNatClampNeg)) (v_5 + 1) := by rw [fx_worthStep_L, if_neg h41, if_neg h50]
        have e5 : (v_5 + 1).toInt = v_5.toInt + 1 := ti_inc (by omega) (by omega)
        rw [hr]
        exact ih q_x (v_3 + (x_places u (fx_placeIndex q_x v_5).toNatClampNeg)) (v_5 + 1) hqx (by omega) (by omega) _ _ ls hS (lv_sub hl [2, 3, 4, 1, 0] rfl)
def fx_worthStep (rec : Int32 → Int64) (u : XS) (q_x q_levels : Int32) : Int64 := if (fx_isThing u q_x) = 0 then 0 else (if 0 ≤ q_levels then (if (fx_isPiece u q_x) = 0 then fx_worthStep_L rec 9 u q_x 0 0 else fx_worthOfPiece u q_x) else 0)
set_option maxRecDepth 100000 in
set_option maxHeartbeats 4000000 in
theorem kX0_worthStep (l : Launch) (D : va_G) (ad : Nat → Nat) (ca : Nat → ClassId) (g : Nat) (u : XS) (q_x q_levels : Int32) (hI : XI u) (rec : Int32 → Int64) (k : Nat) (hk : 3 ≤ k) (hrec : 0 ≤ q_levels → ∀ y : Int32, ClX l yX0_worthWithin cX0_worthWithin 6 k D ad ca g [.int y, .int (q_levels - 1)] u (rec y, u)) : ClX l yX0_worthWithin cX0_worthWithin 6 (k + 1) D ad ca g [.int q_x, .int q_levels] u (fx_worthStep rec u q_x q_levels, u) := by
  refine ClX.of (by decide) rfl (Nat.le_of_ble_eq_true rfl) ?_
  intro p e s m below meth c A ls E hS hl
  have hx := E.1.1
  have hb := E.1.2.1
  have hml := E.1.2.2.1
  have hown := E.1.2.2.2.1
  have hts := E.1.2.2.2.2
  have hl : lv_has ls 6 [(0, .ref (ad 0)), (1, .int q_x), (2, .int q_levels)] := hl
  refine lv_aload_n hx hb dX0_worthWithin_0 rfl (lv_at hl 0 rfl) ?_
  refine lv_iload_n hx hb dX0_worthWithin_1 rfl (lv_at hl 1 rfl) ?_
  refine EnX.calli (r := fx_isThing u q_x) (u2 := u) E hS [.int q_x] [] (kX0_isThing l D ad ca g u q_x ) gc_X0_137 hd_X0_isThing ⟨show 1 + 1 ≤ k + 1 by omega, show 8 + (2 + 11) + 64 * 1 ≤ 64 * (k + 1) by omega⟩ rfl hl.1 (Nat.le_of_ble_eq_true rfl) ⟨Nat.le_refl 0, Nat.le_refl 0⟩ dX0_worthWithin_2 (fun H locs hS => ?_)
  refine lv_if_eq (tgt := 12) hx hb dX0_worthWithin_5 (by decide) (fun h5 => ?_) (fun h5 => ?_)
  · refine lv_lconst (v := 0) hx hb dX0_worthWithin_12 (by decide) ?_
    exact EnX.lret E hS (congrArg (fun z => (z, u)) (show (0 : Int64) = fx_worthStep rec u q_x q_levels by unfold fx_worthStep; rw [if_pos h5])) dX0_worthWithin_13
  · refine lv_iload_n hx hb dX0_worthWithin_8 rfl (lv_at hl 2 rfl) ?_
    refine lv_if_ge (tgt := 14) hx hb dX0_worthWithin_9 (by decide) (fun h9 => ?_) (fun h9 => ?_)
    · refine lv_aload_n hx hb dX0_worthWithin_14 rfl (lv_at hl 0 rfl) ?_
      refine lv_iload_n hx hb dX0_worthWithin_15 rfl (lv_at hl 1 rfl) ?_
      refine EnX.calli (r := fx_isPiece u q_x) (u2 := u) E hS [.int q_x] [] (kX0_isPiece l D ad ca g u q_x (by first | with_reducible assumption | (refine hqr ?_; with_reducible assumption) | (refine xt_in hI ?_; with_reducible assumption) | (refine xn_in hI ?_ ?_ <;> with_reducible assumption) | with_reducible exact xb_in hI _)) gc_X0_111 hd_X0_isPiece ⟨show 1 + 1 ≤ k + 1 by omega, show 8 + (2 + 11) + 64 * 1 ≤ 64 * (k + 1) by omega⟩ rfl hl.1 (Nat.le_of_ble_eq_true rfl) ⟨Nat.le_refl 0, Nat.le_refl 0⟩ dX0_worthWithin_16 (fun H locs hS => ?_)
      refine lv_if_eq (tgt := 28) hx hb dX0_worthWithin_19 (by decide) (fun h19 => ?_) (fun h19 => ?_)
      · refine lv_lconst (v := 0) hx hb dX0_worthWithin_28 (by decide) ?_
        refine lv_lstore_n (lv' := [(3, .long 0), (0, .ref (ad 0)), (1, .int q_x), (2, .int q_levels)]) hx hb dX0_worthWithin_29 rfl hl (by decide) rfl (fun ls hl => ?_)
        refine lv_iconst (v := 0) hx hb dX0_worthWithin_30 (by decide) ?_
        refine lv_istore (lv' := [(5, .int 0), (3, .long 0), (0, .ref (ad 0)), (1, .int q_x), (2, .int q_levels)]) hx hb dX0_worthWithin_31 hl (by decide) rfl (fun ls hl => ?_)
        have hr : fx_worthStep rec u q_x q_levels = fx_worthStep_L rec 9 u q_x 0 0 := by unfold fx_worthStep; rw [if_neg h5, if_pos h9, if_pos h19]
        have hl0 := h9
        rw [hr]
        exact loop_X0_worthWithin l D ad ca g u hI rec k hk q_levels hl0 hrec E 9 q_x 0 0 (xt_in hI h5) (by rw [ti0]; omega) (by rw [ti0]; omega) _ _ ls hS (lv_sub hl [2, 4, 3, 1, 0] rfl)
      · refine lv_aload_n hx hb dX0_worthWithin_22 rfl (lv_at hl 0 rfl) ?_
        refine lv_iload_n hx hb dX0_worthWithin_23 rfl (lv_at hl 1 rfl) ?_
        refine EnX.calll (r := fx_worthOfPiece u q_x) (u2 := u) E hS [.int q_x] [] (kX0_worthOfPiece l D ad ca g u q_x (by first | with_reducible assumption | (refine hqr ?_; with_reducible assumption) | (refine xt_in hI ?_; with_reducible assumption) | (refine xn_in hI ?_ ?_ <;> with_reducible assumption) | with_reducible exact xb_in hI _)) gc_X0_154 hd_X0_worthOfPiece ⟨show 1 + 1 ≤ k + 1 by omega, show 8 + (4 + 11) + 64 * 1 ≤ 64 * (k + 1) by omega⟩ rfl hl.1 (Nat.le_of_ble_eq_true rfl) ⟨Nat.le_refl 0, Nat.le_refl 0⟩ dX0_worthWithin_24 (fun H locs hS => ?_)
        exact EnX.lret E hS (congrArg (fun z => (z, u)) (show fx_worthOfPiece u q_x = fx_worthStep rec u q_x q_levels by unfold fx_worthStep; rw [if_neg h5, if_pos h9, if_neg h19])) dX0_worthWithin_27
    · refine lv_lconst (v := 0) hx hb dX0_worthWithin_12 (by decide) ?_
      exact EnX.lret E hS (congrArg (fun z => (z, u)) (show (0 : Int64) = fx_worthStep rec u q_x q_levels by unfold fx_worthStep; rw [if_neg h5, if_neg h9])) dX0_worthWithin_13
def fx_worthRec : Nat → XS → Int32 → Int32 → Int64
  | 0, _, _, _ => 0
  | n + 1, u, q_x, q_levels => fx_worthStep (fun y => fx_worthRec n u y (q_levels - 1)) u q_x q_levels
theorem kX0_worthRec (l : Launch) (D : va_G) (ad : Nat → Nat) (ca : Nat → ClassId) (g : Nat) (u : XS) (hI : XI u) : ∀ (n : Nat) (q_x q_levels : Int32), q_levels.toInt < (n : Int) → ClX l yX0_worthWithin cX0_worthWithin 6 (4 + n) D ad ca g [.int q_x, .int q_levels] u (fx_worthRec (n + 1) u q_x q_levels, u) := by
  intro n
  induction n with
  | zero =>
    intro q_x q_levels h
    rw [fx_worthRec]
    refine kX0_worthStep l D ad ca g u q_x q_levels hI _ 3 (by omega) (fun h0 => ?_)
    rw [le_ti, ti0] at h0
    omega
  | succ n ih =>
    intro q_x q_levels h
    rw [fx_worthRec]
    have e : 4 + (n + 1) = (4 + n) + 1 := by omega
    rw [e]
    refine kX0_worthStep l D ad ca g u q_x q_levels hI _ (4 + n) (by omega) (fun h0 y => ih y (q_levels - 1) ?_)
    rw [le_ti, ti0] at h0
    have hq := Int32.toInt_lt q_levels
    rw [ti_sub (by rw [ti1]; omega) (by rw [ti1]; omega), ti1]
    omega
def fx_worthWithin (u : XS) (q_x q_levels : Int32) : Int64 := fx_worthRec 5 u q_x q_levels
theorem kX0_worthWithin (l : Launch) (D : va_G) (ad : Nat → Nat) (ca : Nat → ClassId) (g : Nat) (u : XS) (q_x q_levels : Int32) (hI : XI u) (hlev : q_levels.toInt < 4) : ClX l yX0_worthWithin cX0_worthWithin 6 8 D ad ca g [.int q_x, .int q_levels] u (fx_worthWithin u q_x q_levels, u) := kX0_worthRec l D ad ca g u hI 4 q_x q_levels hlev
theorem hd_X0_frailWithin : yX0_frailWithin.cls = RX0 ∧ yX0_frailWithin.cls ≠ "java/lang/invoke/MethodHandle" ∧ yX0_frailWithin.cls ≠ "java/lang/invoke/VarHandle" ∧ (parseMethodDescriptor yX0_frailWithin.desc).map (fun d => d.parameters.length) = some 2 := by decide +kernel
def fx_frailStep_L (rec : Int32 → Int32) : Nat → XS → Int32 → Int32 → Int32 → Int32
  | 0, u, q_x, v_3, v_4 => 0
  | f_ + 1, u, q_x, v_3, v_4 => (if (x_thingSize u (q_x).toNatClampNeg) ≤ v_4 then v_3 else fx_frailStep_L rec f_ u q_x (v_3 + (rec (fx_thingAt u q_x v_4))) (v_4 + 1))
set_option maxRecDepth 100000 in
set_option maxHeartbeats 4000000 in
theorem loop_X0_frailWithin {p : Program} {e : Env} {s : State} {m : MethodId} {below : List Frame} {meth : Method} {c : Code} {args : Array Value} {A : Nat → Prop} (l : Launch) (D : va_G) (ad : Nat → Nat) (ca : Nat → ClassId) (g : Nat) (u : XS) (hI : XI u) (rec : Int32 → Int32) (k : Nat) (hk : 3 ≤ k) (q_levels : Int32) (hl0 : 0 ≤ q_levels) (hrec : 0 ≤ q_levels → ∀ y : Int32, CiX l yX0_frailWithin cX0_frailWithin 5 .int k D ad ca g [.int y, .int (q_levels - 1)] u (rec y, u)) (E : EnX p s m c args cX0_frailWithin 5 meth (some .int) D ca g A) : ∀ (f_ : Nat) (q_x : Int32) (v_3 : Int32) (v_4 : Int32), vp_in q_x 60 → (0 ≤ v_4.toInt ∧ v_4.toInt ≤ 8) → 8 - v_4.toInt < (f_ : Int) → ∀ (H : Heap) (locs : List Loc) (ls : Array Slot), SX D ad ca A s u H locs → lv_has ls 5 [(0, .ref (ad 0)), (2, .int q_levels), (1, .int q_x), (3, .int v_3), (4, .int v_4)] → W p l e (rk (k + 1)) s m args below meth c H locs 0 0 (MQ below (va_Qi (fun r' v => (r', v) = (fx_frailStep_L rec f_ u q_x v_3 v_4, u)) (BkX D ad ca) A) args s 0 0 A) (F0 m 46 ls []) := by
  have hx := E.1.1
  have hb := E.1.2.1
  have hml := E.1.2.2.1
  have hown := E.1.2.2.2.1
  have hts := E.1.2.2.2.2
  intro f_
  induction f_ with
  | zero =>
    intro q_x v_3 v_4 hqx hi hf H locs ls hS hl
    exfalso
    omega
  | succ f_ ih =>
    intro q_x v_3 v_4 hqx hi hf H locs ls hS hl
    refine lv_iload hx hb dX0_frailWithin_46 (lv_at hl 4 rfl) ?_
    refine lv_aload_n hx hb dX0_frailWithin_48 rfl (lv_at hl 0 rfl) ?_
    refine gX_thingSize E hS dX0_frailWithin_49 ?_
    refine lv_iload_n hx hb dX0_frailWithin_52 rfl (lv_at hl 2 rfl) ?_
    refine lX_thingSize (v := x_thingSize u (q_x).toNatClampNeg) E hS (show vp_in q_x 60 from hqx) rfl dX0_frailWithin_53 ?_
    refine lv_icmp_ge (tgt := 80) hx hb dX0_frailWithin_54 (by decide) (fun h54 => ?_) (fun h54 => ?_)
    · refine lv_iload_n hx hb dX0_frailWithin_80 rfl (lv_at hl 3 rfl) ?_
      exact EnX.iret E hS (ni_i _) (congrArg (fun z => (z, u)) (by rw [fx_frailStep_L, if_pos h54])) dX0_frailWithin_81
    · have gs := hI.2.2 (q_x).toNatClampNeg
      have gc := h54
      rw [le_ti] at gc
      refine lv_iload_n hx hb dX0_frailWithin_57 rfl (lv_at hl 3 rfl) ?_
      refine lv_aload_n hx hb dX0_frailWithin_58 rfl (lv_at hl 0 rfl) ?_
      refine lv_aload_n hx hb dX0_frailWithin_59 rfl (lv_at hl 0 rfl) ?_
      refine lv_iload_n hx hb dX0_frailWithin_60 rfl (lv_at hl 2 rfl) ?_
      refine lv_iload hx hb dX0_frailWithin_61 (lv_at hl 4 rfl) ?_
      refine EnX.calli (r := fx_thingAt u q_x v_4) (u2 := u) E hS [.int q_x, .int v_4] [.ref (ad 0), .int v_3] (kX0_thingAt l D ad ca g u q_x v_4 (pi_in hqx (by omega) (by omega))) gc_X0_92 hd_X0_thingAt ⟨show 2 + 1 ≤ k + 1 by omega, show 8 + (3 + 11) + 64 * 2 ≤ 64 * (k + 1) by omega⟩ rfl hl.1 (Nat.le_of_ble_eq_true rfl) ⟨Nat.le_refl 0, Nat.le_refl 0⟩ dX0_frailWithin_63 (fun H locs hS => ?_)
      refine lv_iload_n hx hb dX0_frailWithin_66 rfl (lv_at hl 1 rfl) ?_
      refine lv_iconst (v := 1) hx hb dX0_frailWithin_67 (by decide) ?_
      refine lv_isub hx hb dX0_frailWithin_68 ?_
      refine EnX.calli (r := rec (fx_thingAt u q_x v_4)) (u2 := u) E hS [.int (fx_thingAt u q_x v_4), .int (q_levels - 1)] [.int v_3] (hrec hl0 (fx_thingAt u q_x v_4)) gc_X0_134 hd_X0_frailWithin ⟨show k + 1 ≤ k + 1 by omega, show 8 + (5 + 11) + 64 * k ≤ 64 * (k + 1) by omega⟩ rfl hl.1 (Nat.le_of_ble_eq_true rfl) ⟨Nat.le_refl 0, Nat.le_refl 0⟩ dX0_frailWithin_69 (fun H locs hS => ?_)
      refine lv_iadd hx hb dX0_frailWithin_72 ?_
      refine lv_istore_n (lv' := [(3, .int (v_3 + (rec (fx_thingAt u q_x v_4)))), (0, .ref (ad 0)), (2, .int q_levels), (1, .int q_x), (4, .int v_4)]) hx hb dX0_frailWithin_73 rfl hl (by decide) rfl (fun ls hl => ?_)
      refine lv_iinc (v := v_4 + 1) (lv' := [(4, .int (v_4 + 1)), (3, .int (v_3 + (rec (fx_thingAt u q_x v_4)))), (0, .ref (ad 0)), (2, .int q_levels), (1, .int q_x)]) hx hb dX0_frailWithin_74 hl (k := 4) rfl rfl (by decide) rfl (fun ls hl => ?_)
      refine lv_goto (tgt := 46) hx hb dX0_frailWithin_77 (by decide) ?_
      have hr : fx_frailStep_L rec (f_ + 1) u q_x v_3 v_4 = fx_frailStep_L rec f_ u q_x (v_3 + (rec (fx_thingAt u q_x v_4))) (v_4 + 1) := by rw [fx_frailStep_L, if_neg h54]
      have e5 : (v_4 + 1).toInt = v_4.toInt + 1 := ti_inc (by omega) (by omega)
      rw [hr]
      exact ih q_x (v_3 + (rec (fx_thingAt u q_x v_4))) (v_4 + 1) hqx (by omega) (by omega) _ _ ls hS (lv_sub hl [2, 3, 4, 1, 0] rfl)
def fx_frailStep (rec : Int32 → Int32) (u : XS) (q_x q_levels : Int32) : Int32 := if (fx_isThing u q_x) = 0 then 0 else (if 0 ≤ q_levels then (if (fx_isPiece u q_x) = 0 then fx_frailStep_L rec 9 u q_x 0 0 else (if (fx_goesFor (x_thingBase u (q_x).toNatClampNeg) 4) = 0 then 0 else 1)) else 0)
set_option maxRecDepth 100000 in
set_option maxHeartbeats 4000000 in
theorem kX0_frailStep (l : Launch) (D : va_G) (ad : Nat → Nat) (ca : Nat → ClassId) (g : Nat) (u : XS) (q_x q_levels : Int32) (hI : XI u) (rec : Int32 → Int32) (k : Nat) (hk : 3 ≤ k) (hrec : 0 ≤ q_levels → ∀ y : Int32, CiX l yX0_frailWithin cX0_frailWithin 5 .int k D ad ca g [.int y, .int (q_levels - 1)] u (rec y, u)) : CiX l yX0_frailWithin cX0_frailWithin 5 .int (k + 1) D ad ca g [.int q_x, .int q_levels] u (fx_frailStep rec u q_x q_levels, u) := by
  refine CiX.of (by decide) rfl (Nat.le_of_ble_eq_true rfl) ?_
  intro p e s m below meth c A ls E hS hl
  have hx := E.1.1
  have hb := E.1.2.1
  have hml := E.1.2.2.1
  have hown := E.1.2.2.2.1
  have hts := E.1.2.2.2.2
  have hl : lv_has ls 5 [(0, .ref (ad 0)), (1, .int q_x), (2, .int q_levels)] := hl
  refine lv_aload_n hx hb dX0_frailWithin_0 rfl (lv_at hl 0 rfl) ?_
  refine lv_iload_n hx hb dX0_frailWithin_1 rfl (lv_at hl 1 rfl) ?_
  refine EnX.calli (r := fx_isThing u q_x) (u2 := u) E hS [.int q_x] [] (kX0_isThing l D ad ca g u q_x ) gc_X0_137 hd_X0_isThing ⟨show 1 + 1 ≤ k + 1 by omega, show 8 + (2 + 11) + 64 * 1 ≤ 64 * (k + 1) by omega⟩ rfl hl.1 (Nat.le_of_ble_eq_true rfl) ⟨Nat.le_refl 0, Nat.le_refl 0⟩ dX0_frailWithin_2 (fun H locs hS => ?_)
  refine lv_if_eq (tgt := 12) hx hb dX0_frailWithin_5 (by decide) (fun h5 => ?_) (fun h5 => ?_)
  · refine lv_iconst (v := 0) hx hb dX0_frailWithin_12 (by decide) ?_
    exact EnX.iret E hS (ni_i _) (congrArg (fun z => (z, u)) (show (0 : Int32) = fx_frailStep rec u q_x q_levels by unfold fx_frailStep; rw [if_pos h5])) dX0_frailWithin_13
  · refine lv_iload_n hx hb dX0_frailWithin_8 rfl (lv_at hl 2 rfl) ?_
    refine lv_if_ge (tgt := 14) hx hb dX0_frailWithin_9 (by decide) (fun h9 => ?_) (fun h9 => ?_)
    · refine lv_aload_n hx hb dX0_frailWithin_14 rfl (lv_at hl 0 rfl) ?_
      refine lv_iload_n hx hb dX0_frailWithin_15 rfl (lv_at hl 1 rfl) ?_
      refine EnX.calli (r := fx_isPiece u q_x) (u2 := u) E hS [.int q_x] [] (kX0_isPiece l D ad ca g u q_x (by first | with_reducible assumption | (refine hqr ?_; with_reducible assumption) | (refine xt_in hI ?_; with_reducible assumption) | (refine xn_in hI ?_ ?_ <;> with_reducible assumption) | with_reducible exact xb_in hI _)) gc_X0_111 hd_X0_isPiece ⟨show 1 + 1 ≤ k + 1 by omega, show 8 + (2 + 11) + 64 * 1 ≤ 64 * (k + 1) by omega⟩ rfl hl.1 (Nat.le_of_ble_eq_true rfl) ⟨Nat.le_refl 0, Nat.le_refl 0⟩ dX0_frailWithin_16 (fun H locs hS => ?_)
      refine lv_if_eq (tgt := 41) hx hb dX0_frailWithin_19 (by decide) (fun h19 => ?_) (fun h19 => ?_)
      · refine lv_iconst (v := 0) hx hb dX0_frailWithin_41 (by decide) ?_
        refine lv_istore_n (lv' := [(3, .int 0), (0, .ref (ad 0)), (1, .int q_x), (2, .int q_levels)]) hx hb dX0_frailWithin_42 rfl hl (by decide) rfl (fun ls hl => ?_)
        refine lv_iconst (v := 0) hx hb dX0_frailWithin_43 (by decide) ?_
        refine lv_istore (lv' := [(4, .int 0), (3, .int 0), (0, .ref (ad 0)), (1, .int q_x), (2, .int q_levels)]) hx hb dX0_frailWithin_44 hl (by decide) rfl (fun ls hl => ?_)
        have hr : fx_frailStep rec u q_x q_levels = fx_frailStep_L rec 9 u q_x 0 0 := by unfold fx_frailStep; rw [if_neg h5, if_pos h9, if_pos h19]
        have hl0 := h9
        rw [hr]
        exact loop_X0_frailWithin l D ad ca g u hI rec k hk q_levels hl0 hrec E 9 q_x 0 0 (xt_in hI h5) (by rw [ti0]; omega) (by rw [ti0]; omega) _ _ ls hS (lv_sub hl [2, 4, 3, 1, 0] rfl)
      · refine lv_aload_n hx hb dX0_frailWithin_22 rfl (lv_at hl 0 rfl) ?_
        refine gX_thingBase E hS dX0_frailWithin_23 ?_
        refine lv_iload_n hx hb dX0_frailWithin_26 rfl (lv_at hl 1 rfl) ?_
        refine lX_thingBase (v := x_thingBase u (q_x).toNatClampNeg) E hS (show vp_in q_x 60 from by first | with_reducible assumption | (refine hqr ?_; with_reducible assumption) | (refine xt_in hI ?_; with_reducible assumption) | (refine xn_in hI ?_ ?_ <;> with_reducible assumption) | with_reducible exact xb_in hI _) rfl dX0_frailWithin_27 ?_
        refine lv_iconst (v := 4) hx hb dX0_frailWithin_28 (by decide) ?_
        refine EnX.sti (r := fx_goesFor (x_thingBase u (q_x).toNatClampNeg) 4) E hS [.int (x_thingBase u (q_x).toNatClampNeg), .int 4] [] (kX0_goesFor l g (x_thingBase u (q_x).toNatClampNeg) 4 (by first | with_reducible assumption | (refine hqr ?_; with_reducible assumption) | (refine xt_in hI ?_; with_reducible assumption) | (refine xn_in hI ?_ ?_ <;> with_reducible assumption) | with_reducible exact xb_in hI _)) (fun _ U _ _ h => zX.moved (Vm.Alike.refl U.vm) h) (fun _ hU hvm => zX_at E hS (fun _ h => h.elim) hU hvm) gc_X0_143 hd_X0_goesFor ⟨show 1 + 1 ≤ k + 1 by omega, show 8 + (2 + 11) + 64 * 1 ≤ 64 * (k + 1) by omega⟩ rfl hl.1 (Nat.le_of_ble_eq_true rfl) ⟨Nat.le_refl 0, Nat.le_refl 0⟩ dX0_frailWithin_29 (fun H locs hS => ?_)
        refine lv_if_eq (tgt := 39) hx hb dX0_frailWithin_32 (by decide) (fun h32 => ?_) (fun h32 => ?_)
        · refine lv_iconst (v := 0) hx hb dX0_frailWithin_39 (by decide) ?_
          exact EnX.iret E hS (ni_i _) (congrArg (fun z => (z, u)) (show (0 : Int32) = fx_frailStep rec u q_x q_levels by unfold fx_frailStep; rw [if_neg h5, if_pos h9, if_neg h19, if_pos h32])) dX0_frailWithin_40
        · refine lv_iconst (v := 1) hx hb dX0_frailWithin_35 (by decide) ?_
          refine lv_goto (tgt := 40) hx hb dX0_frailWithin_36 (by decide) ?_
          exact EnX.iret E hS (ni_i _) (congrArg (fun z => (z, u)) (show (1 : Int32) = fx_frailStep rec u q_x q_levels by unfold fx_frailStep; rw [if_neg h5, if_pos h9, if_neg h19, if_neg h32])) dX0_frailWithin_40
    · refine lv_iconst (v := 0) hx hb dX0_frailWithin_12 (by decide) ?_
      exact EnX.iret E hS (ni_i _) (congrArg (fun z => (z, u)) (show (0 : Int32) = fx_frailStep rec u q_x q_levels by unfold fx_frailStep; rw [if_neg h5, if_neg h9])) dX0_frailWithin_13
def fx_frailRec : Nat → XS → Int32 → Int32 → Int32
  | 0, _, _, _ => 0
  | n + 1, u, q_x, q_levels => fx_frailStep (fun y => fx_frailRec n u y (q_levels - 1)) u q_x q_levels
theorem kX0_frailRec (l : Launch) (D : va_G) (ad : Nat → Nat) (ca : Nat → ClassId) (g : Nat) (u : XS) (hI : XI u) : ∀ (n : Nat) (q_x q_levels : Int32), q_levels.toInt < (n : Int) → CiX l yX0_frailWithin cX0_frailWithin 5 .int (4 + n) D ad ca g [.int q_x, .int q_levels] u (fx_frailRec (n + 1) u q_x q_levels, u) := by
  intro n
  induction n with
  | zero =>
    intro q_x q_levels h
    rw [fx_frailRec]
    refine kX0_frailStep l D ad ca g u q_x q_levels hI _ 3 (by omega) (fun h0 => ?_)
    rw [le_ti, ti0] at h0
    omega
  | succ n ih =>
    intro q_x q_levels h
    rw [fx_frailRec]
    have e : 4 + (n + 1) = (4 + n) + 1 := by omega
    rw [e]
    refine kX0_frailStep l D ad ca g u q_x q_levels hI _ (4 + n) (by omega) (fun h0 y => ih y (q_levels - 1) ?_)
    rw [le_ti, ti0] at h0
    have hq := Int32.toInt_lt q_levels
    rw [ti_sub (by rw [ti1]; omega) (by rw [ti1]; omega), ti1]
    omega
def fx_frailWithin (u : XS) (q_x q_levels : Int32) : Int32 := fx_frailRec 5 u q_x q_levels
theorem kX0_frailWithin (l : Launch) (D : va_G) (ad : Nat → Nat) (ca : Nat → ClassId) (g : Nat) (u : XS) (q_x q_levels : Int32) (hI : XI u) (hlev : q_levels.toInt < 4) : CiX l yX0_frailWithin cX0_frailWithin 5 .int 8 D ad ca g [.int q_x, .int q_levels] u (fx_frailWithin u q_x q_levels, u) := kX0_frailRec l D ad ca g u hI 4 q_x q_levels hlev
