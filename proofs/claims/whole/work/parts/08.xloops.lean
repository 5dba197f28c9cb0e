/-! DepotTrays: methods with loops -/
theorem ti0 : (0 : Int32).toInt = 0 := by decide
theorem ti1 : (1 : Int32).toInt = 1 := by decide
theorem ti8 : (8 : Int32).toInt = 8 := by decide
theorem tim1 : (-1 : Int32).toInt = -1 := by decide
theorem ti_add {a b : Int32} (h1 : -2147483648 ≤ a.toInt + b.toInt) (h2 : a.toInt + b.toInt < 2147483648) : (a + b).toInt = a.toInt + b.toInt := by
  rw [Int32.toInt_add]
  exact Int.bmod_eq_of_le (by omega) (by omega)
theorem ti_sub {a b : Int32} (h1 : -2147483648 ≤ a.toInt - b.toInt) (h2 : a.toInt - b.toInt < 2147483648) : (a - b).toInt = a.toInt - b.toInt := by
  rw [Int32.toInt_sub]
  exact Int.bmod_eq_of_le (by omega) (by omega)
theorem ti_mul {a b : Int32} (h1 : -2147483648 ≤ a.toInt * b.toInt) (h2 : a.toInt * b.toInt < 2147483648) : (a * b).toInt = a.toInt * b.toInt := by
  rw [Int32.toInt_mul]
  exact Int.bmod_eq_of_le (by omega) (by omega)
theorem ti_inc {a : Int32} (h1 : -2147483648 ≤ a.toInt) (h2 : a.toInt < 2147483647) : (a + 1).toInt = a.toInt + 1 := by
  have h := ti_add (a := a) (b := 1) (by rw [ti1]; omega) (by rw [ti1]; omega)
  rw [h, ti1]
theorem cl_ti {a : Int32} (h : 0 ≤ a.toInt) : (a.toNatClampNeg : Int) = a.toInt := by
  have := Int32.toNat_toInt a
  omega
theorem pi_ti {r i : Int32} (hr : vp_in r 60) (h0 : 0 ≤ i.toInt) (h8 : i.toInt ≤ 8) : (fx_placeIndex r i).toInt = r.toInt * 8 + i.toInt := by
  rw [vp_in_iff] at hr
  unfold fx_placeIndex
  have e1 : (r * 8).toInt = r.toInt * 8 := by
    have h := ti_mul (a := r) (b := 8) (by rw [ti8]; omega) (by rw [ti8]; omega)
    rw [h, ti8]
  rw [ti_add (by omega) (by omega), e1]
theorem pi_in {r i : Int32} (hr : vp_in r 60) (h0 : 0 ≤ i.toInt) (h8 : i.toInt < 8) : vp_in (fx_placeIndex r i) 480 := by
  have h := pi_ti hr h0 (by omega)
  rw [vp_in_iff] at hr ⊢
  omega
def fx_addRow_L : Nat → XS → Int32 → Int32 → Int32 → Int32 → Int64 → Int32 → Int32 × XS
  | 0, w, q_base, q_depth, q_n, v_4, v_5, v_7 => (0, w)
  | f_ + 1, w, q_base, q_depth, q_n, v_4, v_5, v_7 => (if q_n ≤ v_7 then (v_4, w) else fx_addRow_L f_ (xs_places w (vp_updL (x_places w) (fx_placeIndex v_4 v_7).toNatClampNeg v_5)) q_base q_depth q_n v_4 v_5 (v_7 + 1))
set_option maxRecDepth 100000 in
set_option maxHeartbeats 4000000 in
theorem loop_X0_addRow {p : Program} {e : Env} {s : State} {m : MethodId} {below : List Frame} {meth : Method} {c : Code} {args : Array Value} {A : Nat → Prop} (l : Launch) (D : va_G) (ad : Nat → Nat) (ca : Nat → ClassId) (g : Nat) (u : XS) (E : EnX p s m c args cX0_addRow 8 meth (some .int) D ca g A) : ∀ (f_ : Nat) (w : XS) (q_base : Int32) (q_depth : Int32) (q_n : Int32) (v_4 : Int32) (v_5 : Int64) (v_7 : Int32), vp_in v_4 60 → (0 ≤ q_n.toInt ∧ q_n.toInt ≤ 8) → (0 ≤ v_7.toInt ∧ v_7.toInt ≤ q_n.toInt) → q_n.toInt - v_7.toInt < (f_ : Int) → ∀ (H : Heap) (locs : List Loc) (ls : Array Slot), SX D ad ca A s w H locs → lv_has ls 8 [(0, .ref (ad 0)), (1, .int q_base), (2, .int q_depth), (3, .int q_n), (4, .int v_4), (5, .long v_5), (7, .int v_7)] → W p l e (rk 3) s m args below meth c H locs 0 0 (MQ below (va_Qi (fun r' v => (r', v) = fx_addRow_L f_ w q_base q_depth q_n v_4 v_5 v_7) (BkX D ad ca) A) args s 0 0 A) (F0 m 30 ls []) := by
  have hx := E.1.1
  have hb := E.1.2.1
  have hml := E.1.2.2.1
  have hown := E.1.2.2.2.1
  have hts := E.1.2.2.2.2
  intro f_
  induction f_ with
  | zero =>
    intro w q_base q_depth q_n v_4 v_5 v_7 hr4 hn hi hf H locs ls hS hl
    exfalso
    omega
  | succ f_ ih =>
    intro w q_base q_depth q_n v_4 v_5 v_7 hr4 hn hi hf H locs ls hS hl
    refine lv_iload hx hb dX0_addRow_30 (lv_at hl 6 rfl) ?_
    refine lv_iload_n hx hb dX0_addRow_32 rfl (lv_at hl 3 rfl) ?_
    refine lv_icmp_ge (tgt := 56) hx hb dX0_addRow_33 (by decide) (fun h33 => ?_) (fun h33 => ?_)
    · refine lv_iload hx hb dX0_addRow_56 (lv_at hl 4 rfl) ?_
      exact EnX.iret E hS (ni_i _) (by rw [fx_addRow_L, if_pos h33]) dX0_addRow_58
    · have g33 := h33
      rw [le_ti] at g33
      refine lv_aload_n hx hb dX0_addRow_36 rfl (lv_at hl 0 rfl) ?_
      refine gX_places E hS dX0_addRow_37 ?_
      refine lv_iload hx hb dX0_addRow_40 (lv_at hl 4 rfl) ?_
      refine lv_iload hx hb dX0_addRow_42 (lv_at hl 6 rfl) ?_
      refine EnX.sti (r := fx_placeIndex v_4 v_7) E hS [.int v_4, .int v_7] [.ref (ad 5)] (kX0_placeIndex l v_4 v_7 ) (fun _ _ _ _ h => h) (fun _ _ _ => trivial) gc_X0_70 hd_X0_placeIndex ⟨Nat.le_of_ble_eq_true rfl, Nat.le_of_ble_eq_true rfl⟩ rfl hl.1 (Nat.le_of_ble_eq_true rfl) ⟨Nat.le_refl 0, Nat.le_refl 0⟩ dX0_addRow_44 (fun H locs hS => ?_)
      refine lv_lload hx hb dX0_addRow_47 (lv_at hl 5 rfl) ?_
      refine sX_places E hS (show vp_in (fx_placeIndex v_4 v_7) 480 from pi_in hr4 (by omega) (by omega)) dX0_addRow_49 (fun H locs hS => ?_)
      have hS : SX D ad ca A s (xs_places w (vp_updL (x_places w) (fx_placeIndex v_4 v_7).toNatClampNeg v_5)) H locs := hS
      refine lv_iinc (v := v_7 + 1) (lv' := [(7, .int (v_7 + 1)), (0, .ref (ad 0)), (1, .int q_base), (2, .int q_depth), (3, .int q_n), (4, .int v_4), (5, .long v_5)]) hx hb dX0_addRow_50 hl (k := 6) rfl rfl (by decide) rfl (fun ls hl => ?_)
      refine lv_goto (tgt := 30) hx hb dX0_addRow_53 (by decide) ?_
      have hr : fx_addRow_L (f_ + 1) w q_base q_depth q_n v_4 v_5 v_7 = fx_addRow_L f_ (xs_places w (vp_updL (x_places w) (fx_placeIndex v_4 v_7).toNatClampNeg v_5)) q_base q_depth q_n v_4 v_5 (v_7 + 1) := by rw [fx_addRow_L, if_neg h33]
      have e7 : (v_7 + 1).toInt = v_7.toInt + 1 := ti_inc (by omega) (by omega)
      rw [hr]
      exact ih (xs_places w (vp_updL (x_places w) (fx_placeIndex v_4 v_7).toNatClampNeg v_5)) q_base q_depth q_n v_4 v_5 (v_7 + 1) hr4 hn (by omega) (by omega) _ _ ls hS (lv_sub hl [1, 2, 3, 4, 5, 6, 0] rfl)
def fx_addRow (u : XS) (q_base : Int32) (q_depth : Int32) (q_n : Int32) : Int32 × XS := if (fx_isLedger ((fx_addThing u q_base q_depth q_n).2) ((fx_addThing u q_base q_depth q_n).1)) = 0 then fx_addRow_L 9 ((fx_addThing u q_base q_depth q_n).2) q_base q_depth q_n ((fx_addThing u q_base q_depth q_n).1) (-1) 0 else fx_addRow_L 9 ((fx_addThing u q_base q_depth q_n).2) q_base q_depth q_n ((fx_addThing u q_base q_depth q_n).1) 0 0
theorem hd_X0_addRow : yX0_addRow.cls = RX0 ∧ yX0_addRow.cls ≠ "java/lang/invoke/MethodHandle" ∧ yX0_addRow.cls ≠ "java/lang/invoke/VarHandle" ∧ (parseMethodDescriptor yX0_addRow.desc).map (fun d => d.parameters.length) = some 3 := by decide +kernel
set_option maxRecDepth 100000 in
set_option maxHeartbeats 4000000 in
theorem kX0_addRow (l : Launch) (D : va_G) (ad : Nat → Nat) (ca : Nat → ClassId) (g : Nat) (u : XS) (q_base : Int32) (q_depth : Int32) (q_n : Int32) (htc : vp_in (x_thingCount u) 60) (hn : 0 ≤ q_n.toInt ∧ q_n.toInt ≤ 8) : CiX l yX0_addRow cX0_addRow 8 .int 3 D ad ca g [.int q_base, .int q_depth, .int q_n] u (fx_addRow u q_base q_depth q_n) := by
  refine CiX.of (by decide) rfl (Nat.le_of_ble_eq_true rfl) ?_
  intro p e s m below meth c A ls E hS hl
  have hx := E.1.1
  have hb := E.1.2.1
  have hml := E.1.2.2.1
  have hown := E.1.2.2.2.1
  have hts := E.1.2.2.2.2
  have hl : lv_has ls 8 [(0, .ref (ad 0)), (1, .int q_base), (2, .int q_depth), (3, .int q_n)] := hl
  refine lv_aload_n hx hb dX0_addRow_0 rfl (lv_at hl 0 rfl) ?_
  refine lv_iload_n hx hb dX0_addRow_1 rfl (lv_at hl 1 rfl) ?_
  refine lv_iload_n hx hb dX0_addRow_2 rfl (lv_at hl 2 rfl) ?_
  refine lv_iload_n hx hb dX0_addRow_3 rfl (lv_at hl 3 rfl) ?_
  refine EnX.calli (r := (fx_addThing u q_base q_depth q_n).1) (u2 := (fx_addThing u q_base q_depth q_n).2) E hS [.int q_base, .int q_depth, .int q_n] [] (kX0_addThing l D ad ca g u q_base q_depth q_n (by first | with_reducible assumption | (refine hqr ?_; with_reducible assumption) | (refine xt_in hI ?_; with_reducible assumption) | (refine xn_in hI ?_ ?_ <;> with_reducible assumption) | with_reducible exact xb_in hI _)) gc_X0_49 hd_X0_addThing ⟨Nat.le_of_ble_eq_true rfl, Nat.le_of_ble_eq_true rfl⟩ rfl hl.1 (Nat.le_of_ble_eq_true rfl) ⟨Nat.le_refl 0, Nat.le_refl 0⟩ dX0_addRow_4 (fun H locs hS => ?_)
  have hq4 : vp_in (fx_addThing u q_base q_depth q_n).1 60 := htc
  refine lv_istore (lv' := [(4, .int ((fx_addThing u q_base q_depth q_n).1)), (0, .ref (ad 0)), (1, .int q_base), (2, .int q_depth), (3, .int q_n)]) hx hb dX0_addRow_7 hl (by decide) rfl (fun ls hl => ?_)
  refine lv_aload_n hx hb dX0_addRow_9 rfl (lv_at hl 1 rfl) ?_
  refine lv_iload hx hb dX0_addRow_10 (lv_at hl 0 rfl) ?_
  refine EnX.calli (r := fx_isLedger ((fx_addThing u q_base q_depth q_n).2) ((fx_addThing u q_base q_depth q_n).1)) (u2 := (fx_addThing u q_base q_depth q_n).2) E hS [.int ((fx_addThing u q_base q_depth q_n).1)] [] (kX0_isLedger l D ad ca g ((fx_addThing u q_base q_depth q_n).2) ((fx_addThing u q_base q_depth q_n).1) (by first | with_reducible assumption | (refine hqr ?_; with_reducible assumption) | (refine xt_in hI ?_; with_reducible assumption) | (refine xn_in hI ?_ ?_ <;> with_reducible assumption) | with_reducible exact xb_in hI _)) gc_X0_124 hd_X0_isLedger ⟨Nat.le_of_ble_eq_true rfl, Nat.le_of_ble_eq_true rfl⟩ rfl hl.1 (Nat.le_of_ble_eq_true rfl) ⟨Nat.le_refl 0, Nat.le_refl 0⟩ dX0_addRow_12 (fun H locs hS => ?_)
  refine lv_if_eq (tgt := 22) hx hb dX0_addRow_15 (by decide) (fun h15 => ?_) (fun h15 => ?_)
  · refine lv_ldc2 (v := (-1)) hx hb hown (hts _ wk_X0_146) dX0_addRow_22 ?_
    refine lv_lstore (lv' := [(5, .long (-1)), (4, .int ((fx_addThing u q_base q_depth q_n).1)), (0, .ref (ad 0)), (1, .int q_base), (2, .int q_depth), (3, .int q_n)]) hx hb dX0_addRow_25 hl (by decide) rfl (fun ls hl => ?_)
    refine lv_iconst (v := 0) hx hb dX0_addRow_27 (by decide) ?_
    refine lv_istore (lv' := [(7, .int 0), (5, .long (-1)), (4, .int ((fx_addThing u q_base q_depth q_n).1)), (0, .ref (ad 0)), (1, .int q_base), (2, .int q_depth), (3, .int q_n)]) hx hb dX0_addRow_28 hl (by decide) rfl (fun ls hl => ?_)
    have hr : fx_addRow u q_base q_depth q_n = fx_addRow_L 9 ((fx_addThing u q_base q_depth q_n).2) q_base q_depth q_n ((fx_addThing u q_base q_depth q_n).1) (-1) 0 := by unfold fx_addRow; rw [if_pos h15]
    rw [hr]
    exact loop_X0_addRow l D ad ca g u  E 9 ((fx_addThing u q_base q_depth q_n).2) q_base q_depth q_n ((fx_addThing u q_base q_depth q_n).1) (-1) 0 hq4 hn (by rw [ti0]; omega) (by rw [ti0]; omega) _ _ ls hS (lv_sub hl [3, 4, 5, 6, 2, 1, 0] rfl)
  · refine lv_lconst (v := 0) hx hb dX0_addRow_18 (by decide) ?_
    refine lv_goto (tgt := 25) hx hb dX0_addRow_19 (by decide) ?_
    refine lv_lstore (lv' := [(5, .long 0), (4, .int ((fx_addThing u q_base q_depth q_n).1)), (0, .ref (ad 0)), (1, .int q_base), (2, .int q_depth), (3, .int q_n)]) hx hb dX0_addRow_25 hl (by decide) rfl (fun ls hl => ?_)
    refine lv_iconst (v := 0) hx hb dX0_addRow_27 (by decide) ?_
    refine lv_istore (lv' := [(7, .int 0), (5, .long 0), (4, .int ((fx_addThing u q_base q_depth q_n).1)), (0, .ref (ad 0)), (1, .int q_base), (2, .int q_depth), (3, .int q_n)]) hx hb dX0_addRow_28 hl (by decide) rfl (fun ls hl => ?_)
    have hr : fx_addRow u q_base q_depth q_n = fx_addRow_L 9 ((fx_addThing u q_base q_depth q_n).2) q_base q_depth q_n ((fx_addThing u q_base q_depth q_n).1) 0 0 := by unfold fx_addRow; rw [if_neg h15]
    rw [hr]
    exact loop_X0_addRow l D ad ca g u  E 9 ((fx_addThing u q_base q_depth q_n).2) q_base q_depth q_n ((fx_addThing u q_base q_depth q_n).1) 0 0 hq4 hn (by rw [ti0]; omega) (by rw [ti0]; omega) _ _ ls hS (lv_sub hl [3, 4, 5, 6, 2, 1, 0] rfl)
def fx_firstClosedDoor_L : Nat → XS → Int32 → Int32 → Int32 → Int32 → Int32
  | 0, u, q_x, q_k, q_n, v_4 => 0
  | f_ + 1, u, q_x, q_k, q_n, v_4 => (if (q_k + q_n) ≤ v_4 then (-1) else (if (fx_mayPass u q_x (x_doorBase u (v_4).toNatClampNeg) (x_doorDepth u (v_4).toNatClampNeg)) = 0 then v_4 else fx_firstClosedDoor_L f_ u q_x q_k q_n (v_4 + 1)))
set_option maxRecDepth 100000 in
set_option maxHeartbeats 4000000 in
theorem loop_X0_firstClosedDoor {p : Program} {e : Env} {s : State} {m : MethodId} {below : List Frame} {meth : Method} {c : Code} {args : Array Value} {A : Nat → Prop} (l : Launch) (D : va_G) (ad : Nat → Nat) (ca : Nat → ClassId) (g : Nat) (u : XS) (hI : XI u) (E : EnX p s m c args cX0_firstClosedDoor 5 meth (some .int) D ca g A) : ∀ (f_ : Nat) (q_x : Int32) (q_k : Int32) (q_n : Int32) (v_4 : Int32), (0 ≤ q_k.toInt ∧ 0 ≤ q_n.toInt ∧ q_k.toInt + q_n.toInt ≤ 8) → (q_k.toInt ≤ v_4.toInt ∧ v_4.toInt ≤ q_k.toInt + q_n.toInt) → q_k.toInt + q_n.toInt - v_4.toInt < (f_ : Int) → ∀ (H : Heap) (locs : List Loc) (ls : Array Slot), SX D ad ca A s u H locs → lv_has ls 5 [(0, .ref (ad 0)), (1, .int q_x), (2, .int q_k), (3, .int q_n), (4, .int v_4)] → W p l e (rk 4) s m args below meth c H locs 0 0 (MQ below (va_Qi (fun r' v => (r', v) = (fx_firstClosedDoor_L f_ u q_x q_k q_n v_4, u)) (BkX D ad ca) A) args s 0 0 A) (F0 m 3 ls []) := by
  have hx := E.1.1
  have hb := E.1.2.1
  have hml := E.1.2.2.1
  have hown := E.1.2.2.2.1
  have hts := E.1.2.2.2.2
  intro f_
  induction f_ with
  | zero =>
    intro q_x q_k q_n v_4 hkn hd hf H locs ls hS hl
    exfalso
    omega
  | succ f_ ih =>
    intro q_x q_k q_n v_4 hkn hd hf H locs ls hS hl
    refine lv_iload hx hb dX0_firstClosedDoor_3 (lv_at hl 4 rfl) ?_
    refine lv_iload_n hx hb dX0_firstClosedDoor_5 rfl (lv_at hl 2 rfl) ?_
    refine lv_iload_n hx hb dX0_firstClosedDoor_6 rfl (lv_at hl 3 rfl) ?_
    refine lv_iadd hx hb dX0_firstClosedDoor_7 ?_
    refine lv_icmp_ge (tgt := 42) hx hb dX0_firstClosedDoor_8 (by decide) (fun h8 => ?_) (fun h8 => ?_)
    · refine lv_iconst (v := (-1)) hx hb dX0_firstClosedDoor_42 (by decide) ?_
      exact EnX.iret E hS (ni_i _) (congrArg (fun z => (z, u)) (by rw [fx_firstClosedDoor_L, if_pos h8])) dX0_firstClosedDoor_43
    · have g8 := h8
      rw [le_ti, ti_add (by omega) (by omega)] at g8
      refine lv_aload_n hx hb dX0_firstClosedDoor_11 rfl (lv_at hl 0 rfl) ?_
      refine lv_iload_n hx hb dX0_firstClosedDoor_12 rfl (lv_at hl 1 rfl) ?_
      refine lv_aload_n hx hb dX0_firstClosedDoor_13 rfl (lv_at hl 0 rfl) ?_
      refine gX_doorBase E hS dX0_firstClosedDoor_14 ?_
      refine lv_iload hx hb dX0_firstClosedDoor_17 (lv_at hl 4 rfl) ?_
      refine lX_doorBase (v := x_doorBase u (v_4).toNatClampNeg) E hS (show vp_in v_4 8 from (by rw [vp_in_iff]; omega)) rfl dX0_firstClosedDoor_19 ?_
      refine lv_aload_n hx hb dX0_firstClosedDoor_20 rfl (lv_at hl 0 rfl) ?_
      refine gX_doorDepth E hS dX0_firstClosedDoor_21 ?_
      refine lv_iload hx hb dX0_firstClosedDoor_24 (lv_at hl 4 rfl) ?_
      refine lX_doorDepth (v := x_doorDepth u (v_4).toNatClampNeg) E hS (show vp_in v_4 8 from (by rw [vp_in_iff]; omega)) rfl dX0_firstClosedDoor_26 ?_
      refine EnX.calli (r := fx_mayPass u q_x (x_doorBase u (v_4).toNatClampNeg) (x_doorDepth u (v_4).toNatClampNeg)) (u2 := u) E hS [.int q_x, .int (x_doorBase u (v_4).toNatClampNeg), .int (x_doorDepth u (v_4).toNatClampNeg)] [] (kX0_mayPass l D ad ca g u q_x (x_doorBase u (v_4).toNatClampNeg) (x_doorDepth u (v_4).toNatClampNeg) (by first | with_reducible assumption | (refine hqr ?_; with_reducible assumption) | (refine xt_in hI ?_; with_reducible assumption) | (refine xn_in hI ?_ ?_ <;> with_reducible assumption) | with_reducible exact xb_in hI _)) gc_X0_76 hd_X0_mayPass ⟨Nat.le_of_ble_eq_true rfl, Nat.le_of_ble_eq_true rfl⟩ rfl hl.1 (Nat.le_of_ble_eq_true rfl) ⟨Nat.le_refl 0, Nat.le_refl 0⟩ dX0_firstClosedDoor_27 (fun H locs hS => ?_)
      refine lv_if_ne (tgt := 36) hx hb dX0_firstClosedDoor_30 (by decide) (fun h30 => ?_) (fun h30 => ?_)
      · refine lv_iinc (v := v_4 + 1) (lv' := [(4, .int (v_4 + 1)), (0, .ref (ad 0)), (1, .int q_x), (2, .int q_k), (3, .int q_n)]) hx hb dX0_firstClosedDoor_36 hl (k := 4) rfl rfl (by decide) rfl (fun ls hl => ?_)
        refine lv_goto (tgt := 3) hx hb dX0_firstClosedDoor_39 (by decide) ?_
        have hr : fx_firstClosedDoor_L (f_ + 1) u q_x q_k q_n v_4 = fx_firstClosedDoor_L f_ u q_x q_k q_n (v_4 + 1) := by rw [fx_firstClosedDoor_L, if_neg h8, if_neg h30]
        have e4 : (v_4 + 1).toInt = v_4.toInt + 1 := ti_inc (by omega) (by omega)
        rw [hr]
        exact ih q_x q_k q_n (v_4 + 1) hkn (by omega) (by omega) _ _ ls hS (lv_sub hl [1, 2, 3, 4, 0] rfl)
      · refine lv_iload hx hb dX0_firstClosedDoor_33 (lv_at hl 4 rfl) ?_
        exact EnX.iret E hS (ni_i _) (congrArg (fun z => (z, u)) (by rw [fx_firstClosedDoor_L, if_neg h8, if_pos h30])) dX0_firstClosedDoor_35
def fx_firstClosedDoor (u : XS) (q_x : Int32) (q_k : Int32) (q_n : Int32) : Int32 := fx_firstClosedDoor_L 9 u q_x q_k q_n q_k
theorem hd_X0_firstClosedDoor : yX0_firstClosedDoor.cls = RX0 ∧ yX0_firstClosedDoor.cls ≠ "java/lang/invoke/MethodHandle" ∧ yX0_firstClosedDoor.cls ≠ "java/lang/invoke/VarHandle" ∧ (parseMethodDescriptor yX0_firstClosedDoor.desc).map (fun d => d.parameters.length) = some 3 := by decide +kernel
set_option maxRecDepth 100000 in
set_option maxHeartbeats 4000000 in
theorem kX0_firstClosedDoor (l : Launch) (D : va_G) (ad : Nat → Nat) (ca : Nat → ClassId) (g : Nat) (u : XS) (q_x : Int32) (q_k : Int32) (q_n : Int32) (hI : XI u) (hkn : 0 ≤ q_k.toInt ∧ 0 ≤ q_n.toInt ∧ q_k.toInt + q_n.toInt ≤ 8) : CiX l yX0_firstClosedDoor cX0_firstClosedDoor 5 .int 4 D ad ca g [.int q_x, .int q_k, .int q_n] u ((fx_firstClosedDoor u q_x q_k q_n, u)) := by
  refine CiX.of (by decide) rfl (Nat.le_of_ble_eq_true rfl) ?_
  intro p e s m below meth c A ls E hS hl
  have hx := E.1.1
  have hb := E.1.2.1
  have hml := E.1.2.2.1
  have hown := E.1.2.2.2.1
  have hts := E.1.2.2.2.2
  have hl : lv_has ls 5 [(0, .ref (ad 0)), (1, .int q_x), (2, .int q_k), (3, .int q_n)] := hl
  refine lv_iload_n hx hb dX0_firstClosedDoor_0 rfl (lv_at hl 2 rfl) ?_
  refine lv_istore (lv' := [(4, .int q_k), (0, .ref (ad 0)), (1, .int q_x), (2, .int q_k), (3, .int q_n)]) hx hb dX0_firstClosedDoor_1 hl (by decide) rfl (fun ls hl => ?_)
  have hr : fx_firstClosedDoor u q_x q_k q_n = fx_firstClosedDoor_L 9 u q_x q_k q_n q_k := by unfold fx_firstClosedDoor; rfl
  rw [hr]
  exact loop_X0_firstClosedDoor l D ad ca g u hI E 9 q_x q_k q_n q_k hkn (by omega) (by omega) _ _ ls hS (lv_sub hl [1, 2, 3, 4, 0] rfl)
def fx_countGoing_L : Nat → XS → Int32 → Int32 → Int32 → Int32 → Int32 → Int32
  | 0, u, q_r, q_i, q_s, q_n, v_5 => 0
  | f_ + 1, u, q_r, q_i, q_s, q_n, v_5 => (if q_n ≤ v_5 then v_5 else (if (fx_goesInto u (fx_thingAt u q_r (q_i + v_5)) q_s) = 0 then v_5 else fx_countGoing_L f_ u q_r q_i q_s q_n (v_5 + 1)))
set_option maxRecDepth 100000 in
set_option maxHeartbeats 4000000 in
theorem loop_X0_countGoing {p : Program} {e : Env} {s : State} {m : MethodId} {below : List Frame} {meth : Method} {c : Code} {args : Array Value} {A : Nat → Prop} (l : Launch) (D : va_G) (ad : Nat → Nat) (ca : Nat → ClassId) (g : Nat) (u : XS) (hI : XI u) (E : EnX p s m c args cX0_countGoing 6 meth (some .int) D ca g A) : ∀ (f_ : Nat) (q_r : Int32) (q_i : Int32) (q_s : Int32) (q_n : Int32) (v_5 : Int32), (0 ≤ v_5.toInt ∧ v_5.toInt ≤ q_n.toInt) → q_n.toInt - v_5.toInt < (f_ : Int) → (0 ≤ q_i.toInt ∧ 0 ≤ q_n.toInt ∧ q_i.toInt + q_n.toInt ≤ 8) → vp_in q_r 60 → vp_in q_s 60 → ∀ (H : Heap) (locs : List Loc) (ls : Array Slot), SX D ad ca A s u H locs → lv_has ls 6 [(0, .ref (ad 0)), (1, .int q_r), (2, .int q_i), (3, .int q_s), (4, .int q_n), (5, .int v_5)] → W p l e (rk 5) s m args below meth c H locs 0 0 (MQ below (va_Qi (fun r' v => (r', v) = (fx_countGoing_L f_ u q_r q_i q_s q_n v_5, u)) (BkX D ad ca) A) args s 0 0 A) (F0 m 3 ls []) := by
  have hx := E.1.1
  have hb := E.1.2.1
  have hml := E.1.2.2.1
  have hown := E.1.2.2.2.1
  have hts := E.1.2.2.2.2
  intro f_
  induction f_ with
  | zero =>
    intro q_r q_i q_s q_n v_5 hi5 hf hin hqr hqs H locs ls hS hl
    exfalso
    omega
  | succ f_ ih =>
    intro q_r q_i q_s q_n v_5 hi5 hf hin hqr hqs H locs ls hS hl
    refine lv_iload hx hb dX0_countGoing_3 (lv_at hl 5 rfl) ?_
    refine lv_iload hx hb dX0_countGoing_5 (lv_at hl 4 rfl) ?_
    refine lv_icmp_ge (tgt := 33) hx hb dX0_countGoing_7 (by decide) (fun h7 => ?_) (fun h7 => ?_)
    · refine lv_iload hx hb dX0_countGoing_33 (lv_at hl 5 rfl) ?_
      exact EnX.iret E hS (ni_i _) (congrArg (fun z => (z, u)) (by rw [fx_countGoing_L, if_pos h7])) dX0_countGoing_35
    · have g7 := h7
      rw [le_ti] at g7
      have ei : (q_i + v_5).toInt = q_i.toInt + v_5.toInt := ti_add (by omega) (by omega)
      refine lv_aload_n hx hb dX0_countGoing_10 rfl (lv_at hl 0 rfl) ?_
      refine lv_aload_n hx hb dX0_countGoing_11 rfl (lv_at hl 0 rfl) ?_
      refine lv_iload_n hx hb dX0_countGoing_12 rfl (lv_at hl 1 rfl) ?_
      refine lv_iload_n hx hb dX0_countGoing_13 rfl (lv_at hl 2 rfl) ?_
      refine lv_iload hx hb dX0_countGoing_14 (lv_at hl 5 rfl) ?_
      refine lv_iadd hx hb dX0_countGoing_16 ?_
      refine EnX.calli (r := fx_thingAt u q_r (q_i + v_5)) (u2 := u) E hS [.int q_r, .int (q_i + v_5)] [.ref (ad 0)] (kX0_thingAt l D ad ca g u q_r (q_i + v_5) (pi_in hqr (by omega) (by omega))) gc_X0_92 hd_X0_thingAt ⟨Nat.le_of_ble_eq_true rfl, Nat.le_of_ble_eq_true rfl⟩ rfl hl.1 (Nat.le_of_ble_eq_true rfl) ⟨Nat.le_refl 0, Nat.le_refl 0⟩ dX0_countGoing_17 (fun H locs hS => ?_)
      refine lv_iload_n hx hb dX0_countGoing_20 rfl (lv_at hl 3 rfl) ?_
      refine EnX.calli (r := fx_goesInto u (fx_thingAt u q_r (q_i + v_5)) q_s) (u2 := u) E hS [.int (fx_thingAt u q_r (q_i + v_5)), .int q_s] [] (kX0_goesInto l D ad ca g u (fx_thingAt u q_r (q_i + v_5)) q_s (by first | with_reducible assumption | (refine hqr ?_; with_reducible assumption) | (refine xt_in hI ?_; with_reducible assumption) | (refine xn_in hI ?_ ?_ <;> with_reducible assumption) | with_reducible exact xb_in hI _) (by first | with_reducible assumption | (refine hqr ?_; with_reducible assumption) | (refine xt_in hI ?_; with_reducible assumption) | (refine xn_in hI ?_ ?_ <;> with_reducible assumption) | with_reducible exact xb_in hI _)) gc_X0_89 hd_X0_goesInto ⟨Nat.le_of_ble_eq_true rfl, Nat.le_of_ble_eq_true rfl⟩ rfl hl.1 (Nat.le_of_ble_eq_true rfl) ⟨Nat.le_refl 0, Nat.le_refl 0⟩ dX0_countGoing_21 (fun H locs hS => ?_)
      refine lv_if_eq (tgt := 33) hx hb dX0_countGoing_24 (by decide) (fun h24 => ?_) (fun h24 => ?_)
      · refine lv_iload hx hb dX0_countGoing_33 (lv_at hl 5 rfl) ?_
        exact EnX.iret E hS (ni_i _) (congrArg (fun z => (z, u)) (by rw [fx_countGoing_L, if_neg h7, if_pos h24])) dX0_countGoing_35
      · refine lv_iinc (v := v_5 + 1) (lv' := [(5, .int (v_5 + 1)), (0, .ref (ad 0)), (1, .int q_r), (2, .int q_i), (3, .int q_s), (4, .int q_n)]) hx hb dX0_countGoing_27 hl (k := 5) rfl rfl (by decide) rfl (fun ls hl => ?_)
        refine lv_goto (tgt := 3) hx hb dX0_countGoing_30 (by decide) ?_
        have hr : fx_countGoing_L (f_ + 1) u q_r q_i q_s q_n v_5 = fx_countGoing_L f_ u q_r q_i q_s q_n (v_5 + 1) := by rw [fx_countGoing_L, if_neg h7, if_neg h24]
        have e5 : (v_5 + 1).toInt = v_5.toInt + 1 := ti_inc (by omega) (by omega)
        rw [hr]
        exact ih q_r q_i q_s q_n (v_5 + 1) (by omega) (by omega) hin hqr hqs _ _ ls hS (lv_sub hl [1, 2, 3, 4, 5, 0] rfl)
def fx_countGoing (u : XS) (q_r : Int32) (q_i : Int32) (q_s : Int32) (q_n : Int32) : Int32 := fx_countGoing_L 9 u q_r q_i q_s q_n 0
theorem hd_X0_countGoing : yX0_countGoing.cls = RX0 ∧ yX0_countGoing.cls ≠ "java/lang/invoke/MethodHandle" ∧ yX0_countGoing.cls ≠ "java/lang/invoke/VarHandle" ∧ (parseMethodDescriptor yX0_countGoing.desc).map (fun d => d.parameters.length) = some 4 := by decide +kernel
set_option maxRecDepth 100000 in
set_option maxHeartbeats 4000000 in
theorem kX0_countGoing (l : Launch) (D : va_G) (ad : Nat → Nat) (ca : Nat → ClassId) (g : Nat) (u : XS) (q_r : Int32) (q_i : Int32) (q_s : Int32) (q_n : Int32) (hI : XI u) (hqr : vp_in q_r 60) (hqs : vp_in q_s 60) (hin : 0 ≤ q_i.toInt ∧ 0 ≤ q_n.toInt ∧ q_i.toInt + q_n.toInt ≤ 8) : CiX l yX0_countGoing cX0_countGoing 6 .int 5 D ad ca g [.int q_r, .int q_i, .int q_s, .int q_n] u ((fx_countGoing u q_r q_i q_s q_n, u)) := by
  refine CiX.of (by decide) rfl (Nat.le_of_ble_eq_true rfl) ?_
  intro p e s m below meth c A ls E hS hl
  have hx := E.1.1
  have hb := E.1.2.1
  have hml := E.1.2.2.1
  have hown := E.1.2.2.2.1
  have hts := E.1.2.2.2.2
  have hl : lv_has ls 6 [(0, .ref (ad 0)), (1, .int q_r), (2, .int q_i), (3, .int q_s), (4, .int q_n)] := hl
  refine lv_iconst (v := 0) hx hb dX0_countGoing_0 (by decide) ?_
  refine lv_istore (lv' := [(5, .int 0), (0, .ref (ad 0)), (1, .int q_r), (2, .int q_i), (3, .int q_s), (4, .int q_n)]) hx hb dX0_countGoing_1 hl (by decide) rfl (fun ls hl => ?_)
  have hr : fx_countGoing u q_r q_i q_s q_n = fx_countGoing_L 9 u q_r q_i q_s q_n 0 := by unfold fx_countGoing; rfl
  rw [hr]
  exact loop_X0_countGoing l D ad ca g u hI E 9 q_r q_i q_s q_n 0 (by rw [ti0]; omega) (by rw [ti0]; omega) hin hqr hqs _ _ ls hS (lv_sub hl [1, 2, 3, 4, 5, 0] rfl)
def fx_clear_L : Nat → XS → Int32 → Int32 → Int32 × XS
  | 0, w, v_1, v_2 => (0, w)
  | f_ + 1, w, v_1, v_2 => (if 8 ≤ v_2 then (v_1, w) else fx_clear_L f_ (xs_doorDepth (xs_doorBase w (upd (x_doorBase w) (v_2).toNatClampNeg 0)) (upd (x_doorDepth w) (v_2).toNatClampNeg 0)) v_1 (v_2 + 1))
set_option maxRecDepth 100000 in
set_option maxHeartbeats 4000000 in
theorem loop_X0_clear {p : Program} {e : Env} {s : State} {m : MethodId} {below : List Frame} {meth : Method} {c : Code} {args : Array Value} {A : Nat → Prop} (l : Launch) (D : va_G) (ad : Nat → Nat) (ca : Nat → ClassId) (g : Nat) (u : XS) (E : EnX p s m c args cX0_clear 3 meth (some .int) D ca g A) : ∀ (f_ : Nat) (w : XS) (v_1 : Int32) (v_2 : Int32), (0 ≤ v_2.toInt ∧ v_2.toInt ≤ 8) → 8 - v_2.toInt < (f_ : Int) → ∀ (H : Heap) (locs : List Loc) (ls : Array Slot), SX D ad ca A s w H locs → lv_has ls 3 [(0, .ref (ad 0)), (1, .int v_1), (2, .int v_2)] → W p l e (rk 1) s m args below meth c H locs 0 0 (MQ below (va_Qi (fun r' v => (r', v) = fx_clear_L f_ w v_1 v_2) (BkX D ad ca) A) args s 0 0 A) (F0 m 12 ls []) := by
  have hx := E.1.1
  have hb := E.1.2.1
  have hml := E.1.2.2.1
  have hown := E.1.2.2.2.1
  have hts := E.1.2.2.2.2
  intro f_
  induction f_ with
  | zero =>
    intro w v_1 v_2 hi hf H locs ls hS hl
    exfalso
    omega
  | succ f_ ih =>
    intro w v_1 v_2 hi hf H locs ls hS hl
    refine lv_iload_n hx hb dX0_clear_12 rfl (lv_at hl 2 rfl) ?_
    refine lv_bipush (v := 8) hx hb dX0_clear_13 (by decide) ?_
    refine lv_icmp_ge (tgt := 38) hx hb dX0_clear_15 (by decide) (fun h15 => ?_) (fun h15 => ?_)
    · refine lv_iload_n hx hb dX0_clear_38 rfl (lv_at hl 1 rfl) ?_
      exact EnX.iret E hS (ni_i _) (by rw [fx_clear_L, if_pos h15]) dX0_clear_39
    · have g15 := h15
      rw [le_ti, ti8] at g15
      refine lv_aload_n hx hb dX0_clear_18 rfl (lv_at hl 0 rfl) ?_
      refine gX_doorBase E hS dX0_clear_19 ?_
      refine lv_iload_n hx hb dX0_clear_22 rfl (lv_at hl 2 rfl) ?_
      refine lv_iconst (v := 0) hx hb dX0_clear_23 (by decide) ?_
      refine sX_doorBase E hS (show vp_in v_2 8 from (by rw [vp_in_iff]; omega)) dX0_clear_24 (fun H locs hS => ?_)
      have hS : SX D ad ca A s (xs_doorBase w (upd (x_doorBase w) (v_2).toNatClampNeg 0)) H locs := hS
      refine lv_aload_n hx hb dX0_clear_25 rfl (lv_at hl 0 rfl) ?_
      refine gX_doorDepth E hS dX0_clear_26 ?_
      refine lv_iload_n hx hb dX0_clear_29 rfl (lv_at hl 2 rfl) ?_
      refine lv_iconst (v := 0) hx hb dX0_clear_30 (by decide) ?_
      refine sX_doorDepth E hS (show vp_in v_2 8 from (by rw [vp_in_iff]; omega)) dX0_clear_31 (fun H locs hS => ?_)
      have hS : SX D ad ca A s (xs_doorDepth (xs_doorBase w (upd (x_doorBase w) (v_2).toNatClampNeg 0)) (upd (x_doorDepth w) (v_2).toNatClampNeg 0)) H locs := hS
      refine lv_iinc (v := v_2 + 1) (lv' := [(2, .int (v_2 + 1)), (0, .ref (ad 0)), (1, .int v_1)]) hx hb dX0_clear_32 hl (k := 2) rfl rfl (by decide) rfl (fun ls hl => ?_)
      refine lv_goto (tgt := 12) hx hb dX0_clear_35 (by decide) ?_
      have hr : fx_clear_L (f_ + 1) w v_1 v_2 = fx_clear_L f_ (xs_doorDepth (xs_doorBase w (upd (x_doorBase w) (v_2).toNatClampNeg 0)) (upd (x_doorDepth w) (v_2).toNatClampNeg 0)) v_1 (v_2 + 1) := by rw [fx_clear_L, if_neg h15]
      have e2 : (v_2 + 1).toInt = v_2.toInt + 1 := ti_inc (by omega) (by omega)
      rw [hr]
      exact ih (xs_doorDepth (xs_doorBase w (upd (x_doorBase w) (v_2).toNatClampNeg 0)) (upd (x_doorDepth w) (v_2).toNatClampNeg 0)) v_1 (v_2 + 1) (by omega) (by omega) _ _ ls hS (lv_sub hl [1, 2, 0] rfl)
def fx_clear (u : XS)  : Int32 × XS := fx_clear_L 9 (xs_thingCount u 0) (x_thingCount u) 0
theorem hd_X0_clear : yX0_clear.cls = RX0 ∧ yX0_clear.cls ≠ "java/lang/invoke/MethodHandle" ∧ yX0_clear.cls ≠ "java/lang/invoke/VarHandle" ∧ (parseMethodDescriptor yX0_clear.desc).map (fun d => d.parameters.length) = some 0 := by decide +kernel
set_option maxRecDepth 100000 in
set_option maxHeartbeats 4000000 in
theorem kX0_clear (l : Launch) (D : va_G) (ad : Nat → Nat) (ca : Nat → ClassId) (g : Nat) (u : XS)   : CiX l yX0_clear cX0_clear 3 .int 1 D ad ca g [] u (fx_clear u) := by
  refine CiX.of (by decide) rfl (Nat.le_of_ble_eq_true rfl) ?_
  intro p e s m below meth c A ls E hS hl
  have hx := E.1.1
  have hb := E.1.2.1
  have hml := E.1.2.2.1
  have hown := E.1.2.2.2.1
  have hts := E.1.2.2.2.2
  have hl : lv_has ls 3 [(0, .ref (ad 0))] := hl
  refine lv_aload_n hx hb dX0_clear_0 rfl (lv_at hl 0 rfl) ?_
  refine gX_thingCount (v := x_thingCount u) E hS rfl dX0_clear_1 ?_
  refine lv_istore_n (lv' := [(1, .int (x_thingCount u)), (0, .ref (ad 0))]) hx hb dX0_clear_4 rfl hl (by decide) rfl (fun ls hl => ?_)
  refine lv_aload_n hx hb dX0_clear_5 rfl (lv_at hl 1 rfl) ?_
  refine lv_iconst (v := 0) hx hb dX0_clear_6 (by decide) ?_
  refine pX_thingCount E hS dX0_clear_7 (fun H locs hS => ?_)
  have hS : SX D ad ca A s (xs_thingCount u 0) H locs := hS
  refine lv_iconst (v := 0) hx hb dX0_clear_10 (by decide) ?_
  refine lv_istore_n (lv' := [(2, .int 0), (1, .int (x_thingCount u)), (0, .ref (ad 0))]) hx hb dX0_clear_11 rfl hl (by decide) rfl (fun ls hl => ?_)
  have hr : fx_clear u = fx_clear_L 9 (xs_thingCount u 0) (x_thingCount u) 0 := by unfold fx_clear; rfl
  rw [hr]
  exact loop_X0_clear l D ad ca g u  E 9 (xs_thingCount u 0) (x_thingCount u) 0 (by rw [ti0]; omega) (by rw [ti0]; omega) _ _ ls hS (lv_sub hl [2, 1, 0] rfl)
def fx_movePlaces (u : XS) (q_r : Int32) (q_i : Int32) (q_s : Int32) (q_j : Int32) (q_n : Int32) : XS := xs_places u (va_cpy (x_places u) (x_places u) (fx_placeIndex q_r q_i).toNatClampNeg (fx_placeIndex q_s q_j).toNatClampNeg (q_n).toNatClampNeg)
theorem hd_X0_movePlaces : yX0_movePlaces.cls = RX0 ∧ yX0_movePlaces.cls ≠ "java/lang/invoke/MethodHandle" ∧ yX0_movePlaces.cls ≠ "java/lang/invoke/VarHandle" ∧ (parseMethodDescriptor yX0_movePlaces.desc).map (fun d => d.parameters.length) = some 5 := by decide +kernel
set_option maxRecDepth 100000 in
set_option maxHeartbeats 4000000 in
theorem kX0_movePlaces (l : Launch) (D : va_G) (ad : Nat → Nat) (ca : Nat → ClassId) (g : Nat) (u : XS) (q_r : Int32) (q_i : Int32) (q_s : Int32) (q_j : Int32) (q_n : Int32) (hm1 : ¬ fx_placeIndex q_r q_i < 0) (hm2 : ¬ fx_placeIndex q_s q_j < 0) (hm3 : ¬ q_n < 0) (hm4 : (fx_placeIndex q_r q_i).toNatClampNeg + q_n.toNatClampNeg ≤ 480) (hm5 : (fx_placeIndex q_s q_j).toNatClampNeg + q_n.toNatClampNeg ≤ 480) : CvX l yX0_movePlaces cX0_movePlaces 6 2 D ad ca g [.int q_r, .int q_i, .int q_s, .int q_j, .int q_n] u (fx_movePlaces u q_r q_i q_s q_j q_n) := by
  refine CvX.of (by decide) rfl (Nat.le_of_ble_eq_true rfl) ?_
  intro p e s m below meth c A ls E hS hl
  have hx := E.1.1
  have hb := E.1.2.1
  have hml := E.1.2.2.1
  have hown := E.1.2.2.2.1
  have hts := E.1.2.2.2.2
  have hl : lv_has ls 6 [(0, .ref (ad 0)), (1, .int q_r), (2, .int q_i), (3, .int q_s), (4, .int q_j), (5, .int q_n)] := hl
  refine lv_aload_n hx hb dX0_movePlaces_0 rfl (lv_at hl 0 rfl) ?_
  refine gX_places E hS dX0_movePlaces_1 ?_
  refine lv_iload_n hx hb dX0_movePlaces_4 rfl (lv_at hl 1 rfl) ?_
  refine lv_iload_n hx hb dX0_movePlaces_5 rfl (lv_at hl 2 rfl) ?_
  refine EnX.sti (r := fx_placeIndex q_r q_i) E hS [.int q_r, .int q_i] [.ref (ad 5)] (kX0_placeIndex l q_r q_i ) (fun _ _ _ _ h => h) (fun _ _ _ => trivial) gc_X0_70 hd_X0_placeIndex ⟨Nat.le_of_ble_eq_true rfl, Nat.le_of_ble_eq_true rfl⟩ rfl hl.1 (Nat.le_of_ble_eq_true rfl) ⟨Nat.le_refl 0, Nat.le_refl 0⟩ dX0_movePlaces_6 (fun H locs hS => ?_)
  refine lv_aload_n hx hb dX0_movePlaces_9 rfl (lv_at hl 0 rfl) ?_
  refine gX_places E hS dX0_movePlaces_10 ?_
  refine lv_iload_n hx hb dX0_movePlaces_13 rfl (lv_at hl 3 rfl) ?_
  refine lv_iload hx hb dX0_movePlaces_14 (lv_at hl 4 rfl) ?_
  refine EnX.sti (r := fx_placeIndex q_s q_j) E hS [.int q_s, .int q_j] [.ref (ad 5), .int (fx_placeIndex q_r q_i), .ref (ad 5)] (kX0_placeIndex l q_s q_j ) (fun _ _ _ _ h => h) (fun _ _ _ => trivial) gc_X0_70 hd_X0_placeIndex ⟨Nat.le_of_ble_eq_true rfl, Nat.le_of_ble_eq_true rfl⟩ rfl hl.1 (Nat.le_of_ble_eq_true rfl) ⟨Nat.le_refl 0, Nat.le_refl 0⟩ dX0_movePlaces_16 (fun H locs hS => ?_)
  refine lv_iload hx hb dX0_movePlaces_19 (lv_at hl 5 rfl) ?_
  refine va_copyl hx hb (hml.trans hl.1.symm) hown (hts _ wl_X0_148) (hts _ wv_copy) (hts _ wt_copy) (hts _ wn_sys) E.2.2.2.1 hS.1 hS.2.1 hS.2.2 5 5 4 4 rfl rfl rfl rfl rfl hm1 hm2 hm3 hm4 hm5 (fun _ _ => rfl) (Nat.le_of_ble_eq_true rfl) (Nat.le_of_ble_eq_true rfl) dX0_movePlaces_21 (fun H locs hP hD hS9 => ?_)
  have hS : SX D ad ca A s (xs_places u (va_cpy (x_places u) (x_places u) (fx_placeIndex q_r q_i).toNatClampNeg (fx_placeIndex q_s q_j).toNatClampNeg (q_n).toNatClampNeg)) H locs := ⟨hP, hD, hS9⟩
  exact EnX.vret E hS (by unfold fx_movePlaces; rfl) dX0_movePlaces_24
