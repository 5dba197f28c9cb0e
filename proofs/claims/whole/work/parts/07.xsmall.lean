/-! DepotTrays: what holds of its state between calls; small methods -/
def XI (u : XS) : Prop := (0 ≤ (x_thingCount u).toInt ∧ (x_thingCount u).toInt ≤ 60) ∧ (∀ i : Nat, vp_in (x_thingBase u i) 7) ∧ (∀ i : Nat, 0 ≤ (x_thingSize u i).toInt ∧ (x_thingSize u i).toInt ≤ 8)
theorem lt_ti {x y : Int32} : x < y ↔ x.toInt < y.toInt := Int32.lt_iff_toInt_lt
theorem le_ti {x y : Int32} : x ≤ y ↔ x.toInt ≤ y.toInt := Int32.le_iff_toInt_le
def fx_fail (u : XS) (q_failure : Int32) : Int32 × XS := ((-10) - q_failure, xs_latestFailure (xs_failureCount u ((x_failureCount u) + 1)) q_failure)
theorem hd_X0_fail : yX0_fail.cls = RX0 ∧ yX0_fail.cls ≠ "java/lang/invoke/MethodHandle" ∧ yX0_fail.cls ≠ "java/lang/invoke/VarHandle" ∧ (parseMethodDescriptor yX0_fail.desc).map (fun d => d.parameters.length) = some 1 := by decide +kernel
set_option maxRecDepth 100000 in
set_option maxHeartbeats 4000000 in
theorem kX0_fail (l : Launch) (D : va_G) (ad : Nat → Nat) (ca : Nat → ClassId) (g : Nat) (u : XS) (q_failure : Int32)  : CiX l yX0_fail cX0_fail 2 .int 1 D ad ca g [.int q_failure] u (fx_fail u q_failure) := by
  refine CiX.of (by decide) rfl (Nat.le_of_ble_eq_true rfl) ?_
  intro p e s m below meth c A ls E hS hl
  have hx := E.1.1
  have hb := E.1.2.1
  have hml := E.1.2.2.1
  have hown := E.1.2.2.2.1
  have hts := E.1.2.2.2.2
  have hl : lv_has ls 2 [(0, .ref (ad 0)), (1, .int q_failure)] := hl
  refine lv_aload_n hx hb dX0_fail_0 rfl (lv_at hl 0 rfl) ?_
  refine lv_dup hx hb dX0_fail_1 rfl ?_
  refine gX_failureCount (v := x_failureCount u) E hS rfl dX0_fail_2 ?_
  refine lv_iconst (v := 1) hx hb dX0_fail_5 (by decide) ?_
  refine lv_iadd hx hb dX0_fail_6 ?_
  refine pX_failureCount E hS dX0_fail_7 (fun H locs hS => ?_)
  have hS : SX D ad ca A s (xs_failureCount u ((x_failureCount u) + 1)) H locs := hS
  refine lv_aload_n hx hb dX0_fail_10 rfl (lv_at hl 0 rfl) ?_
  refine lv_iload_n hx hb dX0_fail_11 rfl (lv_at hl 1 rfl) ?_
  refine pX_latestFailure E hS dX0_fail_12 (fun H locs hS => ?_)
  have hS : SX D ad ca A s (xs_latestFailure (xs_failureCount u ((x_failureCount u) + 1)) q_failure) H locs := hS
  refine lv_bipush (v := (-10)) hx hb dX0_fail_15 (by decide) ?_
  refine lv_iload_n hx hb dX0_fail_17 rfl (lv_at hl 1 rfl) ?_
  refine lv_isub hx hb dX0_fail_18 ?_
  exact EnX.iret E hS (ni_i _) (by unfold fx_fail; rfl) dX0_fail_19
def fx_isThing (u : XS) (q_x : Int32) : Int32 := if q_x < 0 then 0 else (if (x_thingCount u) ≤ q_x then 0 else 1)
theorem fx_isThing_01 (u : XS) (q_x : Int32) : fx_isThing u q_x = 0 ∨ fx_isThing u q_x = 1 := by
  unfold fx_isThing
  (repeat' split) <;> first | exact Or.inl rfl | exact Or.inr rfl
theorem hd_X0_isThing : yX0_isThing.cls = RX0 ∧ yX0_isThing.cls ≠ "java/lang/invoke/MethodHandle" ∧ yX0_isThing.cls ≠ "java/lang/invoke/VarHandle" ∧ (parseMethodDescriptor yX0_isThing.desc).map (fun d => d.parameters.length) = some 1 := by decide +kernel
set_option maxRecDepth 100000 in
set_option maxHeartbeats 4000000 in
theorem kX0_isThing (l : Launch) (D : va_G) (ad : Nat → Nat) (ca : Nat → ClassId) (g : Nat) (u : XS) (q_x : Int32)  : CiX l yX0_isThing cX0_isThing 2 .boolean 1 D ad ca g [.int q_x] u ((fx_isThing u q_x, u)) := by
  refine CiX.of (by decide) rfl (Nat.le_of_ble_eq_true rfl) ?_
  intro p e s m below meth c A ls E hS hl
  have hx := E.1.1
  have hb := E.1.2.1
  have hml := E.1.2.2.1
  have hown := E.1.2.2.2.1
  have hts := E.1.2.2.2.2
  have hl : lv_has ls 2 [(0, .ref (ad 0)), (1, .int q_x)] := hl
  refine lv_iload_n hx hb dX0_isThing_0 rfl (lv_at hl 1 rfl) ?_
  refine lv_if_lt (tgt := 16) hx hb dX0_isThing_1 (by decide) (fun h1 => ?_) (fun h1 => ?_)
  · refine lv_iconst (v := 0) hx hb dX0_isThing_16 (by decide) ?_
    exact EnX.iret E hS ni_0 (congrArg (fun z => (z, u)) (show (0 : Int32) = fx_isThing u q_x by unfold fx_isThing; rw [if_pos h1])) dX0_isThing_17
  · refine lv_iload_n hx hb dX0_isThing_4 rfl (lv_at hl 1 rfl) ?_
    refine lv_aload_n hx hb dX0_isThing_5 rfl (lv_at hl 0 rfl) ?_
    refine gX_thingCount (v := x_thingCount u) E hS rfl dX0_isThing_6 ?_
    refine lv_icmp_ge (tgt := 16) hx hb dX0_isThing_9 (by decide) (fun h9 => ?_) (fun h9 => ?_)
    · refine lv_iconst (v := 0) hx hb dX0_isThing_16 (by decide) ?_
      exact EnX.iret E hS ni_0 (congrArg (fun z => (z, u)) (show (0 : Int32) = fx_isThing u q_x by unfold fx_isThing; rw [if_neg h1, if_pos h9])) dX0_isThing_17
    · refine lv_iconst (v := 1) hx hb dX0_isThing_12 (by decide) ?_
      refine lv_goto (tgt := 17) hx hb dX0_isThing_13 (by decide) ?_
      exact EnX.iret E hS ni_1 (congrArg (fun z => (z, u)) (show (1 : Int32) = fx_isThing u q_x by unfold fx_isThing; rw [if_neg h1, if_neg h9])) dX0_isThing_17
def fx_isThingOrNone (u : XS) (q_x : Int32) : Int32 := if q_x = (-1) then 1 else (if (fx_isThing u q_x) = 0 then 0 else 1)
theorem fx_isThingOrNone_01 (u : XS) (q_x : Int32) : fx_isThingOrNone u q_x = 0 ∨ fx_isThingOrNone u q_x = 1 := by
  unfold fx_isThingOrNone
  (repeat' split) <;> first | exact Or.inl rfl | exact Or.inr rfl | apply fx_isThing_01
theorem hd_X0_isThingOrNone : yX0_isThingOrNone.cls = RX0 ∧ yX0_isThingOrNone.cls ≠ "java/lang/invoke/MethodHandle" ∧ yX0_isThingOrNone.cls ≠ "java/lang/invoke/VarHandle" ∧ (parseMethodDescriptor yX0_isThingOrNone.desc).map (fun d => d.parameters.length) = some 1 := by decide +kernel
set_option maxRecDepth 100000 in
set_option maxHeartbeats 4000000 in
theorem kX0_isThingOrNone (l : Launch) (D : va_G) (ad : Nat → Nat) (ca : Nat → ClassId) (g : Nat) (u : XS) (q_x : Int32)  : CiX l yX0_isThingOrNone cX0_isThingOrNone 2 .boolean 2 D ad ca g [.int q_x] u ((fx_isThingOrNone u q_x, u)) := by
  refine CiX.of (by decide) rfl (Nat.le_of_ble_eq_true rfl) ?_
  intro p e s m below meth c A ls E hS hl
  have hx := E.1.1
  have hb := E.1.2.1
  have hml := E.1.2.2.1
  have hown := E.1.2.2.2.1
  have hts := E.1.2.2.2.2
  have hl : lv_has ls 2 [(0, .ref (ad 0)), (1, .int q_x)] := hl
  refine lv_iload_n hx hb dX0_isThingOrNone_0 rfl (lv_at hl 1 rfl) ?_
  refine lv_iconst (v := (-1)) hx hb dX0_isThingOrNone_1 (by decide) ?_
  refine lv_icmp_eq (tgt := 13) hx hb dX0_isThingOrNone_2 (by decide) (fun h2 => ?_) (fun h2 => ?_)
  · refine lv_iconst (v := 1) hx hb dX0_isThingOrNone_13 (by decide) ?_
    refine lv_goto (tgt := 18) hx hb dX0_isThingOrNone_14 (by decide) ?_
    exact EnX.iret E hS ni_1 (congrArg (fun z => (z, u)) (show (1 : Int32) = fx_isThingOrNone u q_x by unfold fx_isThingOrNone; rw [if_pos h2])) dX0_isThingOrNone_18
  · refine lv_aload_n hx hb dX0_isThingOrNone_5 rfl (lv_at hl 0 rfl) ?_
    refine lv_iload_n hx hb dX0_isThingOrNone_6 rfl (lv_at hl 1 rfl) ?_
    refine EnX.calli (r := fx_isThing u q_x) (u2 := u) E hS [.int q_x] [] (kX0_isThing l D ad ca g u q_x ) gc_X0_137 hd_X0_isThing ⟨Nat.le_of_ble_eq_true rfl, Nat.le_of_ble_eq_true rfl⟩ rfl hl.1 (Nat.le_of_ble_eq_true rfl) ⟨Nat.le_refl 0, Nat.le_refl 0⟩ dX0_isThingOrNone_7 (fun H locs hS => ?_)
    refine lv_if_eq (tgt := 17) hx hb dX0_isThingOrNone_10 (by decide) (fun h10 => ?_) (fun h10 => ?_)
    · refine lv_iconst (v := 0) hx hb dX0_isThingOrNone_17 (by decide) ?_
      exact EnX.iret E hS ni_0 (congrArg (fun z => (z, u)) (show (0 : Int32) = fx_isThingOrNone u q_x by unfold fx_isThingOrNone; rw [if_neg h2, if_pos h10])) dX0_isThingOrNone_18
    · refine lv_iconst (v := 1) hx hb dX0_isThingOrNone_13 (by decide) ?_
      refine lv_goto (tgt := 18) hx hb dX0_isThingOrNone_14 (by decide) ?_
      exact EnX.iret E hS ni_1 (congrArg (fun z => (z, u)) (show (1 : Int32) = fx_isThingOrNone u q_x by unfold fx_isThingOrNone; rw [if_neg h2, if_neg h10])) dX0_isThingOrNone_18
def fx_isDoor (q_k : Int32) : Int32 := if q_k < 0 then 0 else (if 8 ≤ q_k then 0 else 1)
theorem fx_isDoor_01 (q_k : Int32) : fx_isDoor q_k = 0 ∨ fx_isDoor q_k = 1 := by
  unfold fx_isDoor
  (repeat' split) <;> first | exact Or.inl rfl | exact Or.inr rfl
theorem hd_X0_isDoor : yX0_isDoor.cls ≠ "java/lang/invoke/MethodHandle" ∧ yX0_isDoor.cls ≠ "java/lang/invoke/VarHandle" ∧ (parseMethodDescriptor yX0_isDoor.desc).map (fun d => d.parameters.length) = some 1 := by decide +kernel
set_option maxRecDepth 100000 in
set_option maxHeartbeats 4000000 in
theorem kX0_isDoor (l : Launch) (q_k : Int32)  : Cs l yX0_isDoor cX0_isDoor 1 .boolean 1 (fun _ => True) [.int q_k] (fx_isDoor q_k) := by
  refine Cs.of (by decide) (Nat.le_of_ble_eq_true rfl) ?_
  intro p e s m below meth c ls E hZ hS hl
  have hx := E.1.1
  have hb := E.1.2.1
  have hml := E.1.2.2.1
  have hown := E.1.2.2.2.1
  have hts := E.1.2.2.2.2
  have hl : lv_has ls 1 [(0, .int q_k)] := hl
  refine lv_iload_n hx hb dX0_isDoor_0 rfl (lv_at hl 0 rfl) ?_
  refine lv_if_lt (tgt := 14) hx hb dX0_isDoor_1 (by decide) (fun h1 => ?_) (fun h1 => ?_)
  · refine lv_iconst (v := 0) hx hb dX0_isDoor_14 (by decide) ?_
    exact EnS.iret E hS ni_0 (by first | (simp only [fx_isDoor, if_pos h1]; done) | (unfold fx_isDoor; rw [if_pos h1])) dX0_isDoor_15
  · refine lv_iload_n hx hb dX0_isDoor_4 rfl (lv_at hl 0 rfl) ?_
    refine lv_bipush (v := 8) hx hb dX0_isDoor_5 (by decide) ?_
    refine lv_icmp_ge (tgt := 14) hx hb dX0_isDoor_7 (by decide) (fun h7 => ?_) (fun h7 => ?_)
    · refine lv_iconst (v := 0) hx hb dX0_isDoor_14 (by decide) ?_
      exact EnS.iret E hS ni_0 (by first | (simp only [fx_isDoor, if_neg h1, if_pos h7]; done) | (unfold fx_isDoor; rw [if_neg h1, if_pos h7])) dX0_isDoor_15
    · refine lv_iconst (v := 1) hx hb dX0_isDoor_10 (by decide) ?_
      refine lv_goto (tgt := 15) hx hb dX0_isDoor_11 (by decide) ?_
      exact EnS.iret E hS ni_1 (by first | (simp only [fx_isDoor, if_neg h1, if_neg h7]; done) | (unfold fx_isDoor; rw [if_neg h1, if_neg h7])) dX0_isDoor_15
def fx_isNumberBase (q_base : Int32) : Int32 := if q_base = 5 then 1 else (if q_base = 6 then 1 else 0)
theorem fx_isNumberBase_01 (q_base : Int32) : fx_isNumberBase q_base = 0 ∨ fx_isNumberBase q_base = 1 := by
  unfold fx_isNumberBase
  (repeat' split) <;> first | exact Or.inl rfl | exact Or.inr rfl
theorem hd_X0_isNumberBase : yX0_isNumberBase.cls ≠ "java/lang/invoke/MethodHandle" ∧ yX0_isNumberBase.cls ≠ "java/lang/invoke/VarHandle" ∧ (parseMethodDescriptor yX0_isNumberBase.desc).map (fun d => d.parameters.length) = some 1 := by decide +kernel
set_option maxRecDepth 100000 in
set_option maxHeartbeats 4000000 in
theorem kX0_isNumberBase (l : Launch) (q_base : Int32)  : Cs l yX0_isNumberBase cX0_isNumberBase 1 .boolean 1 (fun _ => True) [.int q_base] (fx_isNumberBase q_base) := by
  refine Cs.of (by decide) (Nat.le_of_ble_eq_true rfl) ?_
  intro p e s m below meth c ls E hZ hS hl
  have hx := E.1.1
  have hb := E.1.2.1
  have hml := E.1.2.2.1
  have hown := E.1.2.2.2.1
  have hts := E.1.2.2.2.2
  have hl : lv_has ls 1 [(0, .int q_base)] := hl
  refine lv_iload_n hx hb dX0_isNumberBase_0 rfl (lv_at hl 0 rfl) ?_
  refine lv_iconst (v := 5) hx hb dX0_isNumberBase_1 (by decide) ?_
  refine lv_icmp_eq (tgt := 11) hx hb dX0_isNumberBase_2 (by decide) (fun h2 => ?_) (fun h2 => ?_)
  · refine lv_iconst (v := 1) hx hb dX0_isNumberBase_11 (by decide) ?_
    refine lv_goto (tgt := 16) hx hb dX0_isNumberBase_12 (by decide) ?_
    exact EnS.iret E hS ni_1 (by first | (simp only [fx_isNumberBase, if_pos h2]; done) | (unfold fx_isNumberBase; rw [if_pos h2])) dX0_isNumberBase_16
  · refine lv_iload_n hx hb dX0_isNumberBase_5 rfl (lv_at hl 0 rfl) ?_
    refine lv_bipush (v := 6) hx hb dX0_isNumberBase_6 (by decide) ?_
    refine lv_icmp_ne (tgt := 15) hx hb dX0_isNumberBase_8 (by decide) (fun h8 => ?_) (fun h8 => ?_)
    · refine lv_iconst (v := 0) hx hb dX0_isNumberBase_15 (by decide) ?_
      exact EnS.iret E hS ni_0 (by first | (simp only [fx_isNumberBase, if_neg h2, if_neg h8]; done) | (unfold fx_isNumberBase; rw [if_neg h2, if_neg h8])) dX0_isNumberBase_16
    · refine lv_iconst (v := 1) hx hb dX0_isNumberBase_11 (by decide) ?_
      refine lv_goto (tgt := 16) hx hb dX0_isNumberBase_12 (by decide) ?_
      exact EnS.iret E hS ni_1 (by first | (simp only [fx_isNumberBase, if_neg h2, if_pos h8]; done) | (unfold fx_isNumberBase; rw [if_neg h2, if_pos h8])) dX0_isNumberBase_16
def fx_isKind (q_base : Int32) (q_depth : Int32) : Int32 := if q_base < 0 then 0 else (if q_base ≤ 6 then (if (fx_isNumberBase q_base) = 0 then (if q_depth < 0 then 0 else (if 3 < q_depth then 0 else 1)) else (if q_depth = 1 then 1 else (if q_depth = 2 then 1 else 0))) else 0)
theorem fx_isKind_01 (q_base : Int32) (q_depth : Int32) : fx_isKind q_base q_depth = 0 ∨ fx_isKind q_base q_depth = 1 := by
  unfold fx_isKind
  (repeat' split) <;> first | exact Or.inl rfl | exact Or.inr rfl | apply fx_isNumberBase_01
theorem hd_X0_isKind : yX0_isKind.cls ≠ "java/lang/invoke/MethodHandle" ∧ yX0_isKind.cls ≠ "java/lang/invoke/VarHandle" ∧ (parseMethodDescriptor yX0_isKind.desc).map (fun d => d.parameters.length) = some 2 := by decide +kernel
set_option maxRecDepth 100000 in
set_option maxHeartbeats 4000000 in
theorem kX0_isKind (l : Launch) (q_base : Int32) (q_depth : Int32)  : Cs l yX0_isKind cX0_isKind 2 .boolean 2 (fun _ => True) [.int q_base, .int q_depth] (fx_isKind q_base q_depth) := by
  refine Cs.of (by decide) (Nat.le_of_ble_eq_true rfl) ?_
  intro p e s m below meth c ls E hZ hS hl
  have hx := E.1.1
  have hb := E.1.2.1
  have hml := E.1.2.2.1
  have hown := E.1.2.2.2.1
  have hts := E.1.2.2.2.2
  have hl : lv_has ls 2 [(0, .int q_base), (1, .int q_depth)] := hl
  refine lv_iload_n hx hb dX0_isKind_0 rfl (lv_at hl 0 rfl) ?_
  refine lv_if_lt (tgt := 10) hx hb dX0_isKind_1 (by decide) (fun h1 => ?_) (fun h1 => ?_)
  · refine lv_iconst (v := 0) hx hb dX0_isKind_10 (by decide) ?_
    exact EnS.iret E hS ni_0 (by first | (simp only [fx_isKind, if_pos h1]; done) | (unfold fx_isKind; rw [if_pos h1])) dX0_isKind_11
  · refine lv_iload_n hx hb dX0_isKind_4 rfl (lv_at hl 0 rfl) ?_
    refine lv_bipush (v := 6) hx hb dX0_isKind_5 (by decide) ?_
    refine lv_icmp_le (tgt := 12) hx hb dX0_isKind_7 (by decide) (fun h7 => ?_) (fun h7 => ?_)
    · refine lv_iload_n hx hb dX0_isKind_12 rfl (lv_at hl 0 rfl) ?_
      refine EnS.sti (r := fx_isNumberBase q_base) E hS [.int q_base] [] (kX0_isNumberBase l q_base ) (fun _ _ _ _ h => h) (fun _ _ _ => trivial) gc_X0_131 hd_X0_isNumberBase ⟨Nat.le_of_ble_eq_true rfl, Nat.le_of_ble_eq_true rfl⟩ rfl hl.1 (Nat.le_of_ble_eq_true rfl) ⟨Nat.le_refl 0, Nat.le_refl 0⟩ dX0_isKind_13 (fun H locs hS => ?_)
      refine lv_if_eq (tgt := 35) hx hb dX0_isKind_16 (by decide) (fun h16 => ?_) (fun h16 => ?_)
      · refine lv_iload_n hx hb dX0_isKind_35 rfl (lv_at hl 1 rfl) ?_
        refine lv_if_lt (tgt := 48) hx hb dX0_isKind_36 (by decide) (fun h36 => ?_) (fun h36 => ?_)
        · refine lv_iconst (v := 0) hx hb dX0_isKind_48 (by decide) ?_
          exact EnS.iret E hS ni_0 (by first | (simp only [fx_isKind, if_neg h1, if_pos h7, if_pos h16, if_pos h36]; done) | (unfold fx_isKind; rw [if_neg h1, if_pos h7, if_pos h16, if_pos h36])) dX0_isKind_49
        · refine lv_iload_n hx hb dX0_isKind_39 rfl (lv_at hl 1 rfl) ?_
          refine lv_iconst (v := 3) hx hb dX0_isKind_40 (by decide) ?_
          refine lv_icmp_gt (tgt := 48) hx hb dX0_isKind_41 (by decide) (fun h41 => ?_) (fun h41 => ?_)
          · refine lv_iconst (v := 0) hx hb dX0_isKind_48 (by decide) ?_
            exact EnS.iret E hS ni_0 (by first | (simp only [fx_isKind, if_neg h1, if_pos h7, if_pos h16, if_neg h36, if_pos h41]; done) | (unfold fx_isKind; rw [if_neg h1, if_pos h7, if_pos h16, if_neg h36, if_pos h41])) dX0_isKind_49
          · refine lv_iconst (v := 1) hx hb dX0_isKind_44 (by decide) ?_
            refine lv_goto (tgt := 49) hx hb dX0_isKind_45 (by decide) ?_
            exact EnS.iret E hS ni_1 (by first | (simp only [fx_isKind, if_neg h1, if_pos h7, if_pos h16, if_neg h36, if_neg h41]; done) | (unfold fx_isKind; rw [if_neg h1, if_pos h7, if_pos h16, if_neg h36, if_neg h41])) dX0_isKind_49
      · refine lv_iload_n hx hb dX0_isKind_19 rfl (lv_at hl 1 rfl) ?_
        refine lv_iconst (v := 1) hx hb dX0_isKind_20 (by decide) ?_
        refine lv_icmp_eq (tgt := 29) hx hb dX0_isKind_21 (by decide) (fun h21 => ?_) (fun h21 => ?_)
        · refine lv_iconst (v := 1) hx hb dX0_isKind_29 (by decide) ?_
          refine lv_goto (tgt := 34) hx hb dX0_isKind_30 (by decide) ?_
          exact EnS.iret E hS ni_1 (by first | (simp only [fx_isKind, if_neg h1, if_pos h7, if_neg h16, if_pos h21]; done) | (unfold fx_isKind; rw [if_neg h1, if_pos h7, if_neg h16, if_pos h21])) dX0_isKind_34
        · refine lv_iload_n hx hb dX0_isKind_24 rfl (lv_at hl 1 rfl) ?_
          refine lv_iconst (v := 2) hx hb dX0_isKind_25 (by decide) ?_
          refine lv_icmp_ne (tgt := 33) hx hb dX0_isKind_26 (by decide) (fun h26 => ?_) (fun h26 => ?_)
          · refine lv_iconst (v := 0) hx hb dX0_isKind_33 (by decide) ?_
            exact EnS.iret E hS ni_0 (by first | (simp only [fx_isKind, if_neg h1, if_pos h7, if_neg h16, if_neg h21, if_neg h26]; done) | (unfold fx_isKind; rw [if_neg h1, if_pos h7, if_neg h16, if_neg h21, if_neg h26])) dX0_isKind_34
          · refine lv_iconst (v := 1) hx hb dX0_isKind_29 (by decide) ?_
            refine lv_goto (tgt := 34) hx hb dX0_isKind_30 (by decide) ?_
            exact EnS.iret E hS ni_1 (by first | (simp only [fx_isKind, if_neg h1, if_pos h7, if_neg h16, if_neg h21, if_pos h26]; done) | (unfold fx_isKind; rw [if_neg h1, if_pos h7, if_neg h16, if_neg h21, if_pos h26])) dX0_isKind_34
    · refine lv_iconst (v := 0) hx hb dX0_isKind_10 (by decide) ?_
      exact EnS.iret E hS ni_0 (by first | (simp only [fx_isKind, if_neg h1, if_neg h7]; done) | (unfold fx_isKind; rw [if_neg h1, if_neg h7])) dX0_isKind_11
def fx_placeIndex (q_r : Int32) (q_i : Int32) : Int32 := (q_r * 8) + q_i
theorem hd_X0_placeIndex : yX0_placeIndex.cls ≠ "java/lang/invoke/MethodHandle" ∧ yX0_placeIndex.cls ≠ "java/lang/invoke/VarHandle" ∧ (parseMethodDescriptor yX0_placeIndex.desc).map (fun d => d.parameters.length) = some 2 := by decide +kernel
set_option maxRecDepth 100000 in
set_option maxHeartbeats 4000000 in
theorem kX0_placeIndex (l : Launch) (q_r : Int32) (q_i : Int32)  : Cs l yX0_placeIndex cX0_placeIndex 2 .int 1 (fun _ => True) [.int q_r, .int q_i] (fx_placeIndex q_r q_i) := by
  refine Cs.of (by decide) (Nat.le_of_ble_eq_true rfl) ?_
  intro p e s m below meth c ls E hZ hS hl
  have hx := E.1.1
  have hb := E.1.2.1
  have hml := E.1.2.2.1
  have hown := E.1.2.2.2.1
  have hts := E.1.2.2.2.2
  have hl : lv_has ls 2 [(0, .int q_r), (1, .int q_i)] := hl
  refine lv_iload_n hx hb dX0_placeIndex_0 rfl (lv_at hl 0 rfl) ?_
  refine lv_bipush (v := 8) hx hb dX0_placeIndex_1 (by decide) ?_
  refine lv_imul hx hb dX0_placeIndex_3 ?_
  refine lv_iload_n hx hb dX0_placeIndex_4 rfl (lv_at hl 1 rfl) ?_
  refine lv_iadd hx hb dX0_placeIndex_5 ?_
  exact EnS.iret E hS (ni_i _) (by unfold fx_placeIndex; rfl) dX0_placeIndex_6
def fx_goesFor (q_base : Int32) (q_other : Int32) : Int32 := if (((gfT (q_base).toNatClampNeg) >>> (q_other &&& 31)) &&& 1) = 1 then 1 else 0
theorem fx_goesFor_01 (q_base : Int32) (q_other : Int32) : fx_goesFor q_base q_other = 0 ∨ fx_goesFor q_base q_other = 1 := by
  unfold fx_goesFor
  (repeat' split) <;> first | exact Or.inl rfl | exact Or.inr rfl
theorem hd_X0_goesFor : yX0_goesFor.cls ≠ "java/lang/invoke/MethodHandle" ∧ yX0_goesFor.cls ≠ "java/lang/invoke/VarHandle" ∧ (parseMethodDescriptor yX0_goesFor.desc).map (fun d => d.parameters.length) = some 2 := by decide +kernel
set_option maxRecDepth 100000 in
set_option maxHeartbeats 4000000 in
theorem kX0_goesFor (l : Launch) (g : Nat) (q_base : Int32) (q_other : Int32) (hb7 : vp_in q_base 7) : Cs l yX0_goesFor cX0_goesFor 2 .boolean 1 (fun U => zX g (fun _ => False) U U.heap) [.int q_base, .int q_other] (fx_goesFor q_base q_other) := by
  refine Cs.of (by decide) (Nat.le_of_ble_eq_true rfl) ?_
  intro p e s m below meth c ls E hZ hS hl
  have hx := E.1.1
  have hb := E.1.2.1
  have hml := E.1.2.2.1
  have hown := E.1.2.2.2.1
  have hts := E.1.2.2.2.2
  have hl : lv_has ls 2 [(0, .int q_base), (1, .int q_other)] := hl
  refine va_gets hx hb hZ.1 hS hown (hts _ wf_X0_140) (fun _ h => h) dX0_goesFor_0 ?_
  refine lv_iload_n hx hb dX0_goesFor_3 rfl (lv_at hl 0 rfl) ?_
  refine va_ti (v := .int (gfT (q_base).toNatClampNeg)) hx hb hZ.2 hS (show vp_in q_base 7 from by with_reducible assumption) rfl dX0_goesFor_4 ?_
  refine lv_iload_n hx hb dX0_goesFor_5 rfl (lv_at hl 1 rfl) ?_
  refine lv_ishr hx hb dX0_goesFor_6 ?_
  refine lv_iconst (v := 1) hx hb dX0_goesFor_7 (by decide) ?_
  refine lv_iand hx hb dX0_goesFor_8 ?_
  refine lv_iconst (v := 1) hx hb dX0_goesFor_9 (by decide) ?_
  refine lv_icmp_ne (tgt := 17) hx hb dX0_goesFor_10 (by decide) (fun h10 => ?_) (fun h10 => ?_)
  · refine lv_iconst (v := 0) hx hb dX0_goesFor_17 (by decide) ?_
    exact EnS.iret E hS ni_0 (by first | (simp only [fx_goesFor, if_neg h10]; done) | (unfold fx_goesFor; rw [if_neg h10])) dX0_goesFor_18
  · refine lv_iconst (v := 1) hx hb dX0_goesFor_13 (by decide) ?_
    refine lv_goto (tgt := 18) hx hb dX0_goesFor_14 (by decide) ?_
    exact EnS.iret E hS ni_1 (by first | (simp only [fx_goesFor, if_pos h10]; done) | (unfold fx_goesFor; rw [if_pos h10])) dX0_goesFor_18
def fx_isPiece (u : XS) (q_x : Int32) : Int32 := if (x_thingDepth u (q_x).toNatClampNeg) = 0 then 1 else 0
theorem fx_isPiece_01 (u : XS) (q_x : Int32) : fx_isPiece u q_x = 0 ∨ fx_isPiece u q_x = 1 := by
  unfold fx_isPiece
  (repeat' split) <;> first | exact Or.inl rfl | exact Or.inr rfl
theorem hd_X0_isPiece : yX0_isPiece.cls = RX0 ∧ yX0_isPiece.cls ≠ "java/lang/invoke/MethodHandle" ∧ yX0_isPiece.cls ≠ "java/lang/invoke/VarHandle" ∧ (parseMethodDescriptor yX0_isPiece.desc).map (fun d => d.parameters.length) = some 1 := by decide +kernel
set_option maxRecDepth 100000 in
set_option maxHeartbeats 4000000 in
theorem kX0_isPiece (l : Launch) (D : va_G) (ad : Nat → Nat) (ca : Nat → ClassId) (g : Nat) (u : XS) (q_x : Int32) (hqx : vp_in q_x 60) : CiX l yX0_isPiece cX0_isPiece 2 .boolean 1 D ad ca g [.int q_x] u ((fx_isPiece u q_x, u)) := by
  refine CiX.of (by decide) rfl (Nat.le_of_ble_eq_true rfl) ?_
  intro p e s m below meth c A ls E hS hl
  have hx := E.1.1
  have hb := E.1.2.1
  have hml := E.1.2.2.1
  have hown := E.1.2.2.2.1
  have hts := E.1.2.2.2.2
  have hl : lv_has ls 2 [(0, .ref (ad 0)), (1, .int q_x)] := hl
  refine lv_aload_n hx hb dX0_isPiece_0 rfl (lv_at hl 0 rfl) ?_
  refine gX_thingDepth E hS dX0_isPiece_1 ?_
  refine lv_iload_n hx hb dX0_isPiece_4 rfl (lv_at hl 1 rfl) ?_
  refine lX_thingDepth (v := x_thingDepth u (q_x).toNatClampNeg) E hS (show vp_in q_x 60 from by with_reducible assumption) rfl dX0_isPiece_5 ?_
  refine lv_if_ne (tgt := 13) hx hb dX0_isPiece_6 (by decide) (fun h6 => ?_) (fun h6 => ?_)
  · refine lv_iconst (v := 0) hx hb dX0_isPiece_13 (by decide) ?_
    exact EnX.iret E hS ni_0 (congrArg (fun z => (z, u)) (show (0 : Int32) = fx_isPiece u q_x by unfold fx_isPiece; rw [if_neg h6])) dX0_isPiece_14
  · refine lv_iconst (v := 1) hx hb dX0_isPiece_9 (by decide) ?_
    refine lv_goto (tgt := 14) hx hb dX0_isPiece_10 (by decide) ?_
    exact EnX.iret E hS ni_1 (congrArg (fun z => (z, u)) (show (1 : Int32) = fx_isPiece u q_x by unfold fx_isPiece; rw [if_pos h6])) dX0_isPiece_14
def fx_isLedger (u : XS) (q_x : Int32) : Int32 := if (x_thingDepth u (q_x).toNatClampNeg) = 1 then (if (fx_isNumberBase (x_thingBase u (q_x).toNatClampNeg)) = 0 then 0 else 1) else 0
theorem fx_isLedger_01 (u : XS) (q_x : Int32) : fx_isLedger u q_x = 0 ∨ fx_isLedger u q_x = 1 := by
  unfold fx_isLedger
  (repeat' split) <;> first | exact Or.inl rfl | exact Or.inr rfl | apply fx_isNumberBase_01
theorem hd_X0_isLedger : yX0_isLedger.cls = RX0 ∧ yX0_isLedger.cls ≠ "java/lang/invoke/MethodHandle" ∧ yX0_isLedger.cls ≠ "java/lang/invoke/VarHandle" ∧ (parseMethodDescriptor yX0_isLedger.desc).map (fun d => d.parameters.length) = some 1 := by decide +kernel
set_option maxRecDepth 100000 in
set_option maxHeartbeats 4000000 in
theorem kX0_isLedger (l : Launch) (D : va_G) (ad : Nat → Nat) (ca : Nat → ClassId) (g : Nat) (u : XS) (q_x : Int32) (hqx : vp_in q_x 60) : CiX l yX0_isLedger cX0_isLedger 2 .boolean 2 D ad ca g [.int q_x] u ((fx_isLedger u q_x, u)) := by
  refine CiX.of (by decide) rfl (Nat.le_of_ble_eq_true rfl) ?_
  intro p e s m below meth c A ls E hS hl
  have hx := E.1.1
  have hb := E.1.2.1
  have hml := E.1.2.2.1
  have hown := E.1.2.2.2.1
  have hts := E.1.2.2.2.2
  have hl : lv_has ls 2 [(0, .ref (ad 0)), (1, .int q_x)] := hl
  refine lv_aload_n hx hb dX0_isLedger_0 rfl (lv_at hl 0 rfl) ?_
  refine gX_thingDepth E hS dX0_isLedger_1 ?_
  refine lv_iload_n hx hb dX0_isLedger_4 rfl (lv_at hl 1 rfl) ?_
  refine lX_thingDepth (v := x_thingDepth u (q_x).toNatClampNeg) E hS (show vp_in q_x 60 from by with_reducible assumption) rfl dX0_isLedger_5 ?_
  refine lv_iconst (v := 1) hx hb dX0_isLedger_6 (by decide) ?_
  refine lv_icmp_ne (tgt := 26) hx hb dX0_isLedger_7 (by decide) (fun h7 => ?_) (fun h7 => ?_)
  · refine lv_iconst (v := 0) hx hb dX0_isLedger_26 (by decide) ?_
    exact EnX.iret E hS ni_0 (congrArg (fun z => (z, u)) (show (0 : Int32) = fx_isLedger u q_x by unfold fx_isLedger; rw [if_neg h7])) dX0_isLedger_27
  · refine lv_aload_n hx hb dX0_isLedger_10 rfl (lv_at hl 0 rfl) ?_
    refine gX_thingBase E hS dX0_isLedger_11 ?_
    refine lv_iload_n hx hb dX0_isLedger_14 rfl (lv_at hl 1 rfl) ?_
    refine lX_thingBase (v := x_thingBase u (q_x).toNatClampNeg) E hS (show vp_in q_x 60 from by with_reducible assumption) rfl dX0_isLedger_15 ?_
    refine EnX.sti (r := fx_isNumberBase (x_thingBase u (q_x).toNatClampNeg)) E hS [.int (x_thingBase u (q_x).toNatClampNeg)] [] (kX0_isNumberBase l (x_thingBase u (q_x).toNatClampNeg) ) (fun _ _ _ _ h => h) (fun _ _ _ => trivial) gc_X0_131 hd_X0_isNumberBase ⟨Nat.le_of_ble_eq_true rfl, Nat.le_of_ble_eq_true rfl⟩ rfl hl.1 (Nat.le_of_ble_eq_true rfl) ⟨Nat.le_refl 0, Nat.le_refl 0⟩ dX0_isLedger_16 (fun H locs hS => ?_)
    refine lv_if_eq (tgt := 26) hx hb dX0_isLedger_19 (by decide) (fun h19 => ?_) (fun h19 => ?_)
    · refine lv_iconst (v := 0) hx hb dX0_isLedger_26 (by decide) ?_
      exact EnX.iret E hS ni_0 (congrArg (fun z => (z, u)) (show (0 : Int32) = fx_isLedger u q_x by unfold fx_isLedger; rw [if_pos h7, if_pos h19])) dX0_isLedger_27
    · refine lv_iconst (v := 1) hx hb dX0_isLedger_22 (by decide) ?_
      refine lv_goto (tgt := 27) hx hb dX0_isLedger_23 (by decide) ?_
      exact EnX.iret E hS ni_1 (congrArg (fun z => (z, u)) (show (1 : Int32) = fx_isLedger u q_x by unfold fx_isLedger; rw [if_pos h7, if_neg h19])) dX0_isLedger_27
def fx_holdsThings (u : XS) (q_x : Int32) : Int32 := if (fx_isPiece u q_x) = 0 then (if (fx_isLedger u q_x) = 0 then 1 else 0) else 0
theorem fx_holdsThings_01 (u : XS) (q_x : Int32) : fx_holdsThings u q_x = 0 ∨ fx_holdsThings u q_x = 1 := by
  unfold fx_holdsThings
  (repeat' split) <;> first | exact Or.inl rfl | exact Or.inr rfl | apply fx_isLedger_01 | apply fx_isPiece_01
theorem hd_X0_holdsThings : yX0_holdsThings.cls = RX0 ∧ yX0_holdsThings.cls ≠ "java/lang/invoke/MethodHandle" ∧ yX0_holdsThings.cls ≠ "java/lang/invoke/VarHandle" ∧ (parseMethodDescriptor yX0_holdsThings.desc).map (fun d => d.parameters.length) = some 1 := by decide +kernel
set_option maxRecDepth 100000 in
set_option maxHeartbeats 4000000 in
theorem kX0_holdsThings (l : Launch) (D : va_G) (ad : Nat → Nat) (ca : Nat → ClassId) (g : Nat) (u : XS) (q_x : Int32) (hqx : vp_in q_x 60) : CiX l yX0_holdsThings cX0_holdsThings 2 .boolean 3 D ad ca g [.int q_x] u ((fx_holdsThings u q_x, u)) := by
  refine CiX.of (by decide) rfl (Nat.le_of_ble_eq_true rfl) ?_
  intro p e s m below meth c A ls E hS hl
  have hx := E.1.1
  have hb := E.1.2.1
  have hml := E.1.2.2.1
  have hown := E.1.2.2.2.1
  have hts := E.1.2.2.2.2
  have hl : lv_has ls 2 [(0, .ref (ad 0)), (1, .int q_x)] := hl
  refine lv_aload_n hx hb dX0_holdsThings_0 rfl (lv_at hl 0 rfl) ?_
  refine lv_iload_n hx hb dX0_holdsThings_1 rfl (lv_at hl 1 rfl) ?_
  refine EnX.calli (r := fx_isPiece u q_x) (u2 := u) E hS [.int q_x] [] (kX0_isPiece l D ad ca g u q_x (by with_reducible assumption)) gc_X0_111 hd_X0_isPiece ⟨Nat.le_of_ble_eq_true rfl, Nat.le_of_ble_eq_true rfl⟩ rfl hl.1 (Nat.le_of_ble_eq_true rfl) ⟨Nat.le_refl 0, Nat.le_refl 0⟩ dX0_holdsThings_2 (fun H locs hS => ?_)
  refine lv_if_ne (tgt := 20) hx hb dX0_holdsThings_5 (by decide) (fun h5 => ?_) (fun h5 => ?_)
  · refine lv_iconst (v := 0) hx hb dX0_holdsThings_20 (by decide) ?_
    exact EnX.iret E hS ni_0 (congrArg (fun z => (z, u)) (show (0 : Int32) = fx_holdsThings u q_x by unfold fx_holdsThings; rw [if_neg h5])) dX0_holdsThings_21
  · refine lv_aload_n hx hb dX0_holdsThings_8 rfl (lv_at hl 0 rfl) ?_
    refine lv_iload_n hx hb dX0_holdsThings_9 rfl (lv_at hl 1 rfl) ?_
    refine EnX.calli (r := fx_isLedger u q_x) (u2 := u) E hS [.int q_x] [] (kX0_isLedger l D ad ca g u q_x (by with_reducible assumption)) gc_X0_124 hd_X0_isLedger ⟨Nat.le_of_ble_eq_true rfl, Nat.le_of_ble_eq_true rfl⟩ rfl hl.1 (Nat.le_of_ble_eq_true rfl) ⟨Nat.le_refl 0, Nat.le_refl 0⟩ dX0_holdsThings_10 (fun H locs hS => ?_)
    refine lv_if_ne (tgt := 20) hx hb dX0_holdsThings_13 (by decide) (fun h13 => ?_) (fun h13 => ?_)
    · refine lv_iconst (v := 0) hx hb dX0_holdsThings_20 (by decide) ?_
      exact EnX.iret E hS ni_0 (congrArg (fun z => (z, u)) (show (0 : Int32) = fx_holdsThings u q_x by unfold fx_holdsThings; rw [if_pos h5, if_neg h13])) dX0_holdsThings_21
    · refine lv_iconst (v := 1) hx hb dX0_holdsThings_16 (by decide) ?_
      refine lv_goto (tgt := 21) hx hb dX0_holdsThings_17 (by decide) ?_
      exact EnX.iret E hS ni_1 (congrArg (fun z => (z, u)) (show (1 : Int32) = fx_holdsThings u q_x by unfold fx_holdsThings; rw [if_pos h5, if_pos h13])) dX0_holdsThings_21
theorem xt_in {u : XS} (hI : XI u) {x : Int32} (h : ¬ fx_isThing u x = 0) : vp_in x 60 := by
  have h2 := hI.1
  rw [vp_in_iff]
  unfold fx_isThing at h
  split at h
  · exact absurd rfl h
  · split at h
    · exact absurd rfl h
    · rename_i h3 h4
      rw [lt_ti] at h3
      rw [le_ti] at h4
      have e0 : (0 : Int32).toInt = 0 := by decide
      omega
theorem xb_in {u : XS} (hI : XI u) (i : Nat) : vp_in (x_thingBase u i) 7 := hI.2.1 i
theorem xn_in {u : XS} (hI : XI u) {x : Int32} (h : ¬ fx_isThingOrNone u x = 0) (h2 : ¬ x = (-1)) : vp_in x 60 := by
  unfold fx_isThingOrNone at h
  rw [if_neg h2] at h
  split at h
  · exact absurd rfl h
  · rename_i h3
    exact xt_in hI h3
def fx_isOfKind (u : XS) (q_x : Int32) (q_base : Int32) (q_depth : Int32) : Int32 := if (fx_isThing u q_x) = 0 then 0 else (if (x_thingDepth u (q_x).toNatClampNeg) = q_depth then (if (fx_goesFor (x_thingBase u (q_x).toNatClampNeg) q_base) = 0 then 0 else 1) else 0)
theorem fx_isOfKind_01 (u : XS) (q_x : Int32) (q_base : Int32) (q_depth : Int32) : fx_isOfKind u q_x q_base q_depth = 0 ∨ fx_isOfKind u q_x q_base q_depth = 1 := by
  unfold fx_isOfKind
  (repeat' split) <;> first | exact Or.inl rfl | exact Or.inr rfl | apply fx_goesFor_01 | apply fx_isThing_01
theorem hd_X0_isOfKind : yX0_isOfKind.cls = RX0 ∧ yX0_isOfKind.cls ≠ "java/lang/invoke/MethodHandle" ∧ yX0_isOfKind.cls ≠ "java/lang/invoke/VarHandle" ∧ (parseMethodDescriptor yX0_isOfKind.desc).map (fun d => d.parameters.length) = some 3 := by decide +kernel
set_option maxRecDepth 100000 in
set_option maxHeartbeats 4000000 in
theorem kX0_isOfKind (l : Launch) (D : va_G) (ad : Nat → Nat) (ca : Nat → ClassId) (g : Nat) (u : XS) (q_x : Int32) (q_base : Int32) (q_depth : Int32) (hI : XI u) : CiX l yX0_isOfKind cX0_isOfKind 4 .boolean 2 D ad ca g [.int q_x, .int q_base, .int q_depth] u ((fx_isOfKind u q_x q_base q_depth, u)) := by
  refine CiX.of (by decide) rfl (Nat.le_of_ble_eq_true rfl) ?_
  intro p e s m below meth c A ls E hS hl
  have hx := E.1.1
  have hb := E.1.2.1
  have hml := E.1.2.2.1
  have hown := E.1.2.2.2.1
  have hts := E.1.2.2.2.2
  have hl : lv_has ls 4 [(0, .ref (ad 0)), (1, .int q_x), (2, .int q_base), (3, .int q_depth)] := hl
  refine lv_aload_n hx hb dX0_isOfKind_0 rfl (lv_at hl 0 rfl) ?_
  refine lv_iload_n hx hb dX0_isOfKind_1 rfl (lv_at hl 1 rfl) ?_
  refine EnX.calli (r := fx_isThing u q_x) (u2 := u) E hS [.int q_x] [] (kX0_isThing l D ad ca g u q_x ) gc_X0_137 hd_X0_isThing ⟨Nat.le_of_ble_eq_true rfl, Nat.le_of_ble_eq_true rfl⟩ rfl hl.1 (Nat.le_of_ble_eq_true rfl) ⟨Nat.le_refl 0, Nat.le_refl 0⟩ dX0_isOfKind_2 (fun H locs hS => ?_)
  refine lv_if_eq (tgt := 35) hx hb dX0_isOfKind_5 (by decide) (fun h5 => ?_) (fun h5 => ?_)
  · refine lv_iconst (v := 0) hx hb dX0_isOfKind_35 (by decide) ?_
    exact EnX.iret E hS ni_0 (congrArg (fun z => (z, u)) (show (0 : Int32) = fx_isOfKind u q_x q_base q_depth by unfold fx_isOfKind; rw [if_pos h5])) dX0_isOfKind_36
  · refine lv_aload_n hx hb dX0_isOfKind_8 rfl (lv_at hl 0 rfl) ?_
    refine gX_thingDepth E hS dX0_isOfKind_9 ?_
    refine lv_iload_n hx hb dX0_isOfKind_12 rfl (lv_at hl 1 rfl) ?_
    refine lX_thingDepth (v := x_thingDepth u (q_x).toNatClampNeg) E hS (show vp_in q_x 60 from by first | with_reducible assumption | (refine hqr ?_; with_reducible assumption) | (refine xt_in hI ?_; with_reducible assumption) | (refine xn_in hI ?_ ?_ <;> with_reducible assumption) | with_reducible exact xb_in hI _) rfl dX0_isOfKind_13 ?_
    refine lv_iload_n hx hb dX0_isOfKind_14 rfl (lv_at hl 3 rfl) ?_
    refine lv_icmp_ne (tgt := 35) hx hb dX0_isOfKind_15 (by decide) (fun h15 => ?_) (fun h15 => ?_)
    · refine lv_iconst (v := 0) hx hb dX0_isOfKind_35 (by decide) ?_
      exact EnX.iret E hS ni_0 (congrArg (fun z => (z, u)) (show (0 : Int32) = fx_isOfKind u q_x q_base q_depth by unfold fx_isOfKind; rw [if_neg h5, if_neg h15])) dX0_isOfKind_36
    · refine lv_aload_n hx hb dX0_isOfKind_18 rfl (lv_at hl 0 rfl) ?_
      refine gX_thingBase E hS dX0_isOfKind_19 ?_
      refine lv_iload_n hx hb dX0_isOfKind_22 rfl (lv_at hl 1 rfl) ?_
      refine lX_thingBase (v := x_thingBase u (q_x).toNatClampNeg) E hS (show vp_in q_x 60 from by first | with_reducible assumption | (refine hqr ?_; with_reducible assumption) | (refine xt_in hI ?_; with_reducible assumption) | (refine xn_in hI ?_ ?_ <;> with_reducible assumption) | with_reducible exact xb_in hI _) rfl dX0_isOfKind_23 ?_
      refine lv_iload_n hx hb dX0_isOfKind_24 rfl (lv_at hl 2 rfl) ?_
      refine EnX.sti (r := fx_goesFor (x_thingBase u (q_x).toNatClampNeg) q_base) E hS [.int (x_thingBase u (q_x).toNatClampNeg), .int q_base] [] (kX0_goesFor l g (x_thingBase u (q_x).toNatClampNeg) q_base (by first | with_reducible assumption | (refine hqr ?_; with_reducible assumption) | (refine xt_in hI ?_; with_reducible assumption) | (refine xn_in hI ?_ ?_ <;> with_reducible assumption) | with_reducible exact xb_in hI _)) (fun _ U _ _ h => zX.moved (Vm.Alike.refl U.vm) h) (fun _ hU hvm => zX_at E hS (fun _ h => h.elim) hU hvm) gc_X0_143 hd_X0_goesFor ⟨Nat.le_of_ble_eq_true rfl, Nat.le_of_ble_eq_true rfl⟩ rfl hl.1 (Nat.le_of_ble_eq_true rfl) ⟨Nat.le_refl 0, Nat.le_refl 0⟩ dX0_isOfKind_25 (fun H locs hS => ?_)
      refine lv_if_eq (tgt := 35) hx hb dX0_isOfKind_28 (by decide) (fun h28 => ?_) (fun h28 => ?_)
      · refine lv_iconst (v := 0) hx hb dX0_isOfKind_35 (by decide) ?_
        exact EnX.iret E hS ni_0 (congrArg (fun z => (z, u)) (show (0 : Int32) = fx_isOfKind u q_x q_base q_depth by unfold fx_isOfKind; rw [if_neg h5, if_pos h15, if_pos h28])) dX0_isOfKind_36
      · refine lv_iconst (v := 1) hx hb dX0_isOfKind_31 (by decide) ?_
        refine lv_goto (tgt := 36) hx hb dX0_isOfKind_32 (by decide) ?_
        exact EnX.iret E hS ni_1 (congrArg (fun z => (z, u)) (show (1 : Int32) = fx_isOfKind u q_x q_base q_depth by unfold fx_isOfKind; rw [if_neg h5, if_pos h15, if_neg h28])) dX0_isOfKind_36
def fx_mayPass (u : XS) (q_x : Int32) (q_base : Int32) (q_depth : Int32) : Int32 := if q_x = (-1) then 1 else (if (fx_isOfKind u q_x q_base q_depth) = 0 then 0 else 1)
theorem fx_mayPass_01 (u : XS) (q_x : Int32) (q_base : Int32) (q_depth : Int32) : fx_mayPass u q_x q_base q_depth = 0 ∨ fx_mayPass u q_x q_base q_depth = 1 := by
  unfold fx_mayPass
  (repeat' split) <;> first | exact Or.inl rfl | exact Or.inr rfl | apply fx_isOfKind_01
theorem hd_X0_mayPass : yX0_mayPass.cls = RX0 ∧ yX0_mayPass.cls ≠ "java/lang/invoke/MethodHandle" ∧ yX0_mayPass.cls ≠ "java/lang/invoke/VarHandle" ∧ (parseMethodDescriptor yX0_mayPass.desc).map (fun d => d.parameters.length) = some 3 := by decide +kernel
set_option maxRecDepth 100000 in
set_option maxHeartbeats 4000000 in
theorem kX0_mayPass (l : Launch) (D : va_G) (ad : Nat → Nat) (ca : Nat → ClassId) (g : Nat) (u : XS) (q_x : Int32) (q_base : Int32) (q_depth : Int32) (hI : XI u) : CiX l yX0_mayPass cX0_mayPass 4 .boolean 3 D ad ca g [.int q_x, .int q_base, .int q_depth] u ((fx_mayPass u q_x q_base q_depth, u)) := by
  refine CiX.of (by decide) rfl (Nat.le_of_ble_eq_true rfl) ?_
  intro p e s m below meth c A ls E hS hl
  have hx := E.1.1
  have hb := E.1.2.1
  have hml := E.1.2.2.1
  have hown := E.1.2.2.2.1
  have hts := E.1.2.2.2.2
  have hl : lv_has ls 4 [(0, .ref (ad 0)), (1, .int q_x), (2, .int q_base), (3, .int q_depth)] := hl
  refine lv_iload_n hx hb dX0_mayPass_0 rfl (lv_at hl 1 rfl) ?_
  refine lv_iconst (v := (-1)) hx hb dX0_mayPass_1 (by decide) ?_
  refine lv_icmp_eq (tgt := 15) hx hb dX0_mayPass_2 (by decide) (fun h2 => ?_) (fun h2 => ?_)
  · refine lv_iconst (v := 1) hx hb dX0_mayPass_15 (by decide) ?_
    refine lv_goto (tgt := 20) hx hb dX0_mayPass_16 (by decide) ?_
    exact EnX.iret E hS ni_1 (congrArg (fun z => (z, u)) (show (1 : Int32) = fx_mayPass u q_x q_base q_depth by unfold fx_mayPass; rw [if_pos h2])) dX0_mayPass_20
  · refine lv_aload_n hx hb dX0_mayPass_5 rfl (lv_at hl 0 rfl) ?_
    refine lv_iload_n hx hb dX0_mayPass_6 rfl (lv_at hl 1 rfl) ?_
    refine lv_iload_n hx hb dX0_mayPass_7 rfl (lv_at hl 2 rfl) ?_
    refine lv_iload_n hx hb dX0_mayPass_8 rfl (lv_at hl 3 rfl) ?_
    refine EnX.calli (r := fx_isOfKind u q_x q_base q_depth) (u2 := u) E hS [.int q_x, .int q_base, .int q_depth] [] (kX0_isOfKind l D ad ca g u q_x q_base q_depth (by first | with_reducible assumption | (refine hqr ?_; with_reducible assumption) | (refine xt_in hI ?_; with_reducible assumption) | (refine xn_in hI ?_ ?_ <;> with_reducible assumption) | with_reducible exact xb_in hI _)) gc_X0_98 hd_X0_isOfKind ⟨Nat.le_of_ble_eq_true rfl, Nat.le_of_ble_eq_true rfl⟩ rfl hl.1 (Nat.le_of_ble_eq_true rfl) ⟨Nat.le_refl 0, Nat.le_refl 0⟩ dX0_mayPass_9 (fun H locs hS => ?_)
    refine lv_if_eq (tgt := 19) hx hb dX0_mayPass_12 (by decide) (fun h12 => ?_) (fun h12 => ?_)
    · refine lv_iconst (v := 0) hx hb dX0_mayPass_19 (by decide) ?_
      exact EnX.iret E hS ni_0 (congrArg (fun z => (z, u)) (show (0 : Int32) = fx_mayPass u q_x q_base q_depth by unfold fx_mayPass; rw [if_neg h2, if_pos h12])) dX0_mayPass_20
    · refine lv_iconst (v := 1) hx hb dX0_mayPass_15 (by decide) ?_
      refine lv_goto (tgt := 20) hx hb dX0_mayPass_16 (by decide) ?_
      exact EnX.iret E hS ni_1 (congrArg (fun z => (z, u)) (show (1 : Int32) = fx_mayPass u q_x q_base q_depth by unfold fx_mayPass; rw [if_neg h2, if_neg h12])) dX0_mayPass_20
def fx_goesInto (u : XS) (q_x : Int32) (q_r : Int32) : Int32 := fx_mayPass u q_x (x_thingBase u (q_r).toNatClampNeg) ((x_thingDepth u (q_r).toNatClampNeg) - 1)
theorem fx_goesInto_01 (u : XS) (q_x : Int32) (q_r : Int32) : fx_goesInto u q_x q_r = 0 ∨ fx_goesInto u q_x q_r = 1 := by
  unfold fx_goesInto
  (repeat' split) <;> first | exact Or.inl rfl | exact Or.inr rfl | apply fx_mayPass_01
theorem hd_X0_goesInto : yX0_goesInto.cls = RX0 ∧ yX0_goesInto.cls ≠ "java/lang/invoke/MethodHandle" ∧ yX0_goesInto.cls ≠ "java/lang/invoke/VarHandle" ∧ (parseMethodDescriptor yX0_goesInto.desc).map (fun d => d.parameters.length) = some 2 := by decide +kernel
set_option maxRecDepth 100000 in
set_option maxHeartbeats 4000000 in
theorem kX0_goesInto (l : Launch) (D : va_G) (ad : Nat → Nat) (ca : Nat → ClassId) (g : Nat) (u : XS) (q_x : Int32) (q_r : Int32) (hI : XI u) (hqr : vp_in q_r 60) : CiX l yX0_goesInto cX0_goesInto 3 .boolean 4 D ad ca g [.int q_x, .int q_r] u ((fx_goesInto u q_x q_r, u)) := by
  refine CiX.of (by decide) rfl (Nat.le_of_ble_eq_true rfl) ?_
  intro p e s m below meth c A ls E hS hl
  have hx := E.1.1
  have hb := E.1.2.1
  have hml := E.1.2.2.1
  have hown := E.1.2.2.2.1
  have hts := E.1.2.2.2.2
  have hl : lv_has ls 3 [(0, .ref (ad 0)), (1, .int q_x), (2, .int q_r)] := hl
  refine lv_aload_n hx hb dX0_goesInto_0 rfl (lv_at hl 0 rfl) ?_
  refine lv_iload_n hx hb dX0_goesInto_1 rfl (lv_at hl 1 rfl) ?_
  refine lv_aload_n hx hb dX0_goesInto_2 rfl (lv_at hl 0 rfl) ?_
  refine gX_thingBase E hS dX0_goesInto_3 ?_
  refine lv_iload_n hx hb dX0_goesInto_6 rfl (lv_at hl 2 rfl) ?_
  refine lX_thingBase (v := x_thingBase u (q_r).toNatClampNeg) E hS (show vp_in q_r 60 from by first | with_reducible assumption | (refine hqr ?_; with_reducible assumption) | (refine xt_in hI ?_; with_reducible assumption) | (refine xn_in hI ?_ ?_ <;> with_reducible assumption) | with_reducible exact xb_in hI _) rfl dX0_goesInto_7 ?_
  refine lv_aload_n hx hb dX0_goesInto_8 rfl (lv_at hl 0 rfl) ?_
  refine gX_thingDepth E hS dX0_goesInto_9 ?_
  refine lv_iload_n hx hb dX0_goesInto_12 rfl (lv_at hl 2 rfl) ?_
  refine lX_thingDepth (v := x_thingDepth u (q_r).toNatClampNeg) E hS (show vp_in q_r 60 from by first | with_reducible assumption | (refine hqr ?_; with_reducible assumption) | (refine xt_in hI ?_; with_reducible assumption) | (refine xn_in hI ?_ ?_ <;> with_reducible assumption) | with_reducible exact xb_in hI _) rfl dX0_goesInto_13 ?_
  refine lv_iconst (v := 1) hx hb dX0_goesInto_14 (by decide) ?_
  refine lv_isub hx hb dX0_goesInto_15 ?_
  refine EnX.calli (r := fx_mayPass u q_x (x_thingBase u (q_r).toNatClampNeg) ((x_thingDepth u (q_r).toNatClampNeg) - 1)) (u2 := u) E hS [.int q_x, .int (x_thingBase u (q_r).toNatClampNeg), .int ((x_thingDepth u (q_r).toNatClampNeg) - 1)] [] (kX0_mayPass l D ad ca g u q_x (x_thingBase u (q_r).toNatClampNeg) ((x_thingDepth u (q_r).toNatClampNeg) - 1) (by first | with_reducible assumption | (refine hqr ?_; with_reducible assumption) | (refine xt_in hI ?_; with_reducible assumption) | (refine xn_in hI ?_ ?_ <;> with_reducible assumption) | with_reducible exact xb_in hI _)) gc_X0_76 hd_X0_mayPass ⟨Nat.le_of_ble_eq_true rfl, Nat.le_of_ble_eq_true rfl⟩ rfl hl.1 (Nat.le_of_ble_eq_true rfl) ⟨Nat.le_refl 0, Nat.le_refl 0⟩ dX0_goesInto_16 (fun H locs hS => ?_)
  exact EnX.iret E hS (ni_b (fx_mayPass_01 u q_x (x_thingBase u (q_r).toNatClampNeg) ((x_thingDepth u (q_r).toNatClampNeg) - 1))) (congrArg (fun z => (z, u)) (show fx_mayPass u q_x (x_thingBase u (q_r).toNatClampNeg) ((x_thingDepth u (q_r).toNatClampNeg) - 1) = fx_goesInto u q_x q_r by unfold fx_goesInto; rfl)) dX0_goesInto_19
def fx_widestBase (u : XS) (q_r : Int32) : Int32 := if (fx_goesFor (x_thingBase u (q_r).toNatClampNeg) 0) = 0 then x_thingBase u (q_r).toNatClampNeg else 0
theorem hd_X0_widestBase : yX0_widestBase.cls = RX0 ∧ yX0_widestBase.cls ≠ "java/lang/invoke/MethodHandle" ∧ yX0_widestBase.cls ≠ "java/lang/invoke/VarHandle" ∧ (parseMethodDescriptor yX0_widestBase.desc).map (fun d => d.parameters.length) = some 1 := by decide +kernel
set_option maxRecDepth 100000 in
set_option maxHeartbeats 4000000 in
theorem kX0_widestBase (l : Launch) (D : va_G) (ad : Nat → Nat) (ca : Nat → ClassId) (g : Nat) (u : XS) (q_r : Int32) (hI : XI u) (hqr : vp_in q_r 60) : CiX l yX0_widestBase cX0_widestBase 2 .int 2 D ad ca g [.int q_r] u ((fx_widestBase u q_r, u)) := by
  refine CiX.of (by decide) rfl (Nat.le_of_ble_eq_true rfl) ?_
  intro p e s m below meth c A ls E hS hl
  have hx := E.1.1
  have hb := E.1.2.1
  have hml := E.1.2.2.1
  have hown := E.1.2.2.2.1
  have hts := E.1.2.2.2.2
  have hl : lv_has ls 2 [(0, .ref (ad 0)), (1, .int q_r)] := hl
  refine lv_aload_n hx hb dX0_widestBase_0 rfl (lv_at hl 0 rfl) ?_
  refine gX_thingBase E hS dX0_widestBase_1 ?_
  refine lv_iload_n hx hb dX0_widestBase_4 rfl (lv_at hl 1 rfl) ?_
  refine lX_thingBase (v := x_thingBase u (q_r).toNatClampNeg) E hS (show vp_in q_r 60 from by first | with_reducible assumption | (refine hqr ?_; with_reducible assumption) | (refine xt_in hI ?_; with_reducible assumption) | (refine xn_in hI ?_ ?_ <;> with_reducible assumption) | with_reducible exact xb_in hI _) rfl dX0_widestBase_5 ?_
  refine lv_iconst (v := 0) hx hb dX0_widestBase_6 (by decide) ?_
  refine EnX.sti (r := fx_goesFor (x_thingBase u (q_r).toNatClampNeg) 0) E hS [.int (x_thingBase u (q_r).toNatClampNeg), .int 0] [] (kX0_goesFor l g (x_thingBase u (q_r).toNatClampNeg) 0 (by first | with_reducible assumption | (refine hqr ?_; with_reducible assumption) | (refine xt_in hI ?_; with_reducible assumption) | (refine xn_in hI ?_ ?_ <;> with_reducible assumption) | with_reducible exact xb_in hI _)) (fun _ U _ _ h => zX.moved (Vm.Alike.refl U.vm) h) (fun _ hU hvm => zX_at E hS (fun _ h => h.elim) hU hvm) gc_X0_143 hd_X0_goesFor ⟨Nat.le_of_ble_eq_true rfl, Nat.le_of_ble_eq_true rfl⟩ rfl hl.1 (Nat.le_of_ble_eq_true rfl) ⟨Nat.le_refl 0, Nat.le_refl 0⟩ dX0_widestBase_7 (fun H locs hS => ?_)
  refine lv_if_eq (tgt := 17) hx hb dX0_widestBase_10 (by decide) (fun h10 => ?_) (fun h10 => ?_)
  · refine lv_aload_n hx hb dX0_widestBase_17 rfl (lv_at hl 0 rfl) ?_
    refine gX_thingBase E hS dX0_widestBase_18 ?_
    refine lv_iload_n hx hb dX0_widestBase_21 rfl (lv_at hl 1 rfl) ?_
    refine lX_thingBase (v := x_thingBase u (q_r).toNatClampNeg) E hS (show vp_in q_r 60 from by first | with_reducible assumption | (refine hqr ?_; with_reducible assumption) | (refine xt_in hI ?_; with_reducible assumption) | (refine xn_in hI ?_ ?_ <;> with_reducible assumption) | with_reducible exact xb_in hI _) rfl dX0_widestBase_22 ?_
    exact EnX.iret E hS (ni_i _) (congrArg (fun z => (z, u)) (show x_thingBase u (q_r).toNatClampNeg = fx_widestBase u q_r by unfold fx_widestBase; rw [if_pos h10])) dX0_widestBase_23
  · refine lv_iconst (v := 0) hx hb dX0_widestBase_13 (by decide) ?_
    refine lv_goto (tgt := 23) hx hb dX0_widestBase_14 (by decide) ?_
    exact EnX.iret E hS (ni_i _) (congrArg (fun z => (z, u)) (show (0 : Int32) = fx_widestBase u q_r by unfold fx_widestBase; rw [if_neg h10])) dX0_widestBase_23
def fx_hasPlace (u : XS) (q_r : Int32) (q_i : Int32) : Int32 := if q_i < 0 then 0 else (if (x_thingSize u (q_r).toNatClampNeg) ≤ q_i then 0 else 1)
theorem fx_hasPlace_01 (u : XS) (q_r : Int32) (q_i : Int32) : fx_hasPlace u q_r q_i = 0 ∨ fx_hasPlace u q_r q_i = 1 := by
  unfold fx_hasPlace
  (repeat' split) <;> first | exact Or.inl rfl | exact Or.inr rfl
theorem hd_X0_hasPlace : yX0_hasPlace.cls = RX0 ∧ yX0_hasPlace.cls ≠ "java/lang/invoke/MethodHandle" ∧ yX0_hasPlace.cls ≠ "java/lang/invoke/VarHandle" ∧ (parseMethodDescriptor yX0_hasPlace.desc).map (fun d => d.parameters.length) = some 2 := by decide +kernel
set_option maxRecDepth 100000 in
set_option maxHeartbeats 4000000 in
theorem kX0_hasPlace (l : Launch) (D : va_G) (ad : Nat → Nat) (ca : Nat → ClassId) (g : Nat) (u : XS) (q_r : Int32) (q_i : Int32) (hqr : vp_in q_r 60) : CiX l yX0_hasPlace cX0_hasPlace 3 .boolean 1 D ad ca g [.int q_r, .int q_i] u ((fx_hasPlace u q_r q_i, u)) := by
  refine CiX.of (by decide) rfl (Nat.le_of_ble_eq_true rfl) ?_
  intro p e s m below meth c A ls E hS hl
  have hx := E.1.1
  have hb := E.1.2.1
  have hml := E.1.2.2.1
  have hown := E.1.2.2.2.1
  have hts := E.1.2.2.2.2
  have hl : lv_has ls 3 [(0, .ref (ad 0)), (1, .int q_r), (2, .int q_i)] := hl
  refine lv_iload_n hx hb dX0_hasPlace_0 rfl (lv_at hl 2 rfl) ?_
  refine lv_if_lt (tgt := 18) hx hb dX0_hasPlace_1 (by decide) (fun h1 => ?_) (fun h1 => ?_)
  · refine lv_iconst (v := 0) hx hb dX0_hasPlace_18 (by decide) ?_
    exact EnX.iret E hS ni_0 (congrArg (fun z => (z, u)) (show (0 : Int32) = fx_hasPlace u q_r q_i by unfold fx_hasPlace; rw [if_pos h1])) dX0_hasPlace_19
  · refine lv_iload_n hx hb dX0_hasPlace_4 rfl (lv_at hl 2 rfl) ?_
    refine lv_aload_n hx hb dX0_hasPlace_5 rfl (lv_at hl 0 rfl) ?_
    refine gX_thingSize E hS dX0_hasPlace_6 ?_
    refine lv_iload_n hx hb dX0_hasPlace_9 rfl (lv_at hl 1 rfl) ?_
    refine lX_thingSize (v := x_thingSize u (q_r).toNatClampNeg) E hS (show vp_in q_r 60 from by first | with_reducible assumption | (refine hqr ?_; with_reducible assumption) | (refine xt_in hI ?_; with_reducible assumption) | (refine xn_in hI ?_ ?_ <;> with_reducible assumption) | with_reducible exact xb_in hI _) rfl dX0_hasPlace_10 ?_
    refine lv_icmp_ge (tgt := 18) hx hb dX0_hasPlace_11 (by decide) (fun h11 => ?_) (fun h11 => ?_)
    · refine lv_iconst (v := 0) hx hb dX0_hasPlace_18 (by decide) ?_
      exact EnX.iret E hS ni_0 (congrArg (fun z => (z, u)) (show (0 : Int32) = fx_hasPlace u q_r q_i by unfold fx_hasPlace; rw [if_neg h1, if_pos h11])) dX0_hasPlace_19
    · refine lv_iconst (v := 1) hx hb dX0_hasPlace_14 (by decide) ?_
      refine lv_goto (tgt := 19) hx hb dX0_hasPlace_15 (by decide) ?_
      exact EnX.iret E hS ni_1 (congrArg (fun z => (z, u)) (show (1 : Int32) = fx_hasPlace u q_r q_i by unfold fx_hasPlace; rw [if_neg h1, if_neg h11])) dX0_hasPlace_19
def fx_hasPlaces (u : XS) (q_r : Int32) (q_i : Int32) (q_n : Int32) : Int32 := if q_i < 0 then 0 else (if q_n < 0 then 0 else (if ((x_thingSize u (q_r).toNatClampNeg) - q_n) < q_i then 0 else 1))
theorem fx_hasPlaces_01 (u : XS) (q_r : Int32) (q_i : Int32) (q_n : Int32) : fx_hasPlaces u q_r q_i q_n = 0 ∨ fx_hasPlaces u q_r q_i q_n = 1 := by
  unfold fx_hasPlaces
  (repeat' split) <;> first | exact Or.inl rfl | exact Or.inr rfl
theorem hd_X0_hasPlaces : yX0_hasPlaces.cls = RX0 ∧ yX0_hasPlaces.cls ≠ "java/lang/invoke/MethodHandle" ∧ yX0_hasPlaces.cls ≠ "java/lang/invoke/VarHandle" ∧ (parseMethodDescriptor yX0_hasPlaces.desc).map (fun d => d.parameters.length) = some 3 := by decide +kernel
set_option maxRecDepth 100000 in
set_option maxHeartbeats 4000000 in
theorem kX0_hasPlaces (l : Launch) (D : va_G) (ad : Nat → Nat) (ca : Nat → ClassId) (g : Nat) (u : XS) (q_r : Int32) (q_i : Int32) (q_n : Int32) (hqr : vp_in q_r 60) : CiX l yX0_hasPlaces cX0_hasPlaces 4 .boolean 1 D ad ca g [.int q_r, .int q_i, .int q_n] u ((fx_hasPlaces u q_r q_i q_n, u)) := by
  refine CiX.of (by decide) rfl (Nat.le_of_ble_eq_true rfl) ?_
  intro p e s m below meth c A ls E hS hl
  have hx := E.1.1
  have hb := E.1.2.1
  have hml := E.1.2.2.1
  have hown := E.1.2.2.2.1
  have hts := E.1.2.2.2.2
  have hl : lv_has ls 4 [(0, .ref (ad 0)), (1, .int q_r), (2, .int q_i), (3, .int q_n)] := hl
  refine lv_iload_n hx hb dX0_hasPlaces_0 rfl (lv_at hl 2 rfl) ?_
  refine lv_if_lt (tgt := 24) hx hb dX0_hasPlaces_1 (by decide) (fun h1 => ?_) (fun h1 => ?_)
  · refine lv_iconst (v := 0) hx hb dX0_hasPlaces_24 (by decide) ?_
    exact EnX.iret E hS ni_0 (congrArg (fun z => (z, u)) (show (0 : Int32) = fx_hasPlaces u q_r q_i q_n by unfold fx_hasPlaces; rw [if_pos h1])) dX0_hasPlaces_25
  · refine lv_iload_n hx hb dX0_hasPlaces_4 rfl (lv_at hl 3 rfl) ?_
    refine lv_if_lt (tgt := 24) hx hb dX0_hasPlaces_5 (by decide) (fun h5 => ?_) (fun h5 => ?_)
    · refine lv_iconst (v := 0) hx hb dX0_hasPlaces_24 (by decide) ?_
      exact EnX.iret E hS ni_0 (congrArg (fun z => (z, u)) (show (0 : Int32) = fx_hasPlaces u q_r q_i q_n by unfold fx_hasPlaces; rw [if_neg h1, if_pos h5])) dX0_hasPlaces_25
    · refine lv_iload_n hx hb dX0_hasPlaces_8 rfl (lv_at hl 2 rfl) ?_
      refine lv_aload_n hx hb dX0_hasPlaces_9 rfl (lv_at hl 0 rfl) ?_
      refine gX_thingSize E hS dX0_hasPlaces_10 ?_
      refine lv_iload_n hx hb dX0_hasPlaces_13 rfl (lv_at hl 1 rfl) ?_
      refine lX_thingSize (v := x_thingSize u (q_r).toNatClampNeg) E hS (show vp_in q_r 60 from by first | with_reducible assumption | (refine hqr ?_; with_reducible assumption) | (refine xt_in hI ?_; with_reducible assumption) | (refine xn_in hI ?_ ?_ <;> with_reducible assumption) | with_reducible exact xb_in hI _) rfl dX0_hasPlaces_14 ?_
      refine lv_iload_n hx hb dX0_hasPlaces_15 rfl (lv_at hl 3 rfl) ?_
      refine lv_isub hx hb dX0_hasPlaces_16 ?_
      refine lv_icmp_gt (tgt := 24) hx hb dX0_hasPlaces_17 (by decide) (fun h17 => ?_) (fun h17 => ?_)
      · refine lv_iconst (v := 0) hx hb dX0_hasPlaces_24 (by decide) ?_
        exact EnX.iret E hS ni_0 (congrArg (fun z => (z, u)) (show (0 : Int32) = fx_hasPlaces u q_r q_i q_n by unfold fx_hasPlaces; rw [if_neg h1, if_neg h5, if_pos h17])) dX0_hasPlaces_25
      · refine lv_iconst (v := 1) hx hb dX0_hasPlaces_20 (by decide) ?_
        refine lv_goto (tgt := 25) hx hb dX0_hasPlaces_21 (by decide) ?_
        exact EnX.iret E hS ni_1 (congrArg (fun z => (z, u)) (show (1 : Int32) = fx_hasPlaces u q_r q_i q_n by unfold fx_hasPlaces; rw [if_neg h1, if_neg h5, if_neg h17])) dX0_hasPlaces_25
def fx_thingAt (u : XS) (q_r : Int32) (q_i : Int32) : Int32 := Int64.toInt32 (x_places u (fx_placeIndex q_r q_i).toNatClampNeg)
theorem hd_X0_thingAt : yX0_thingAt.cls = RX0 ∧ yX0_thingAt.cls ≠ "java/lang/invoke/MethodHandle" ∧ yX0_thingAt.cls ≠ "java/lang/invoke/VarHandle" ∧ (parseMethodDescriptor yX0_thingAt.desc).map (fun d => d.parameters.length) = some 2 := by decide +kernel
set_option maxRecDepth 100000 in
set_option maxHeartbeats 4000000 in
theorem kX0_thingAt (l : Launch) (D : va_G) (ad : Nat → Nat) (ca : Nat → ClassId) (g : Nat) (u : XS) (q_r : Int32) (q_i : Int32) (hpi : vp_in (fx_placeIndex q_r q_i) 480) : CiX l yX0_thingAt cX0_thingAt 3 .int 2 D ad ca g [.int q_r, .int q_i] u ((fx_thingAt u q_r q_i, u)) := by
  refine CiX.of (by decide) rfl (Nat.le_of_ble_eq_true rfl) ?_
  intro p e s m below meth c A ls E hS hl
  have hx := E.1.1
  have hb := E.1.2.1
  have hml := E.1.2.2.1
  have hown := E.1.2.2.2.1
  have hts := E.1.2.2.2.2
  have hl : lv_has ls 3 [(0, .ref (ad 0)), (1, .int q_r), (2, .int q_i)] := hl
  refine lv_aload_n hx hb dX0_thingAt_0 rfl (lv_at hl 0 rfl) ?_
  refine gX_places E hS dX0_thingAt_1 ?_
  refine lv_iload_n hx hb dX0_thingAt_4 rfl (lv_at hl 1 rfl) ?_
  refine lv_iload_n hx hb dX0_thingAt_5 rfl (lv_at hl 2 rfl) ?_
  refine EnX.sti (r := fx_placeIndex q_r q_i) E hS [.int q_r, .int q_i] [.ref (ad 5)] (kX0_placeIndex l q_r q_i ) (fun _ _ _ _ h => h) (fun _ _ _ => trivial) gc_X0_70 hd_X0_placeIndex ⟨Nat.le_of_ble_eq_true rfl, Nat.le_of_ble_eq_true rfl⟩ rfl hl.1 (Nat.le_of_ble_eq_true rfl) ⟨Nat.le_refl 0, Nat.le_refl 0⟩ dX0_thingAt_6 (fun H locs hS => ?_)
  refine lX_places (v := x_places u (fx_placeIndex q_r q_i).toNatClampNeg) E hS (show vp_in (fx_placeIndex q_r q_i) 480 from by first | with_reducible assumption | (refine hqr ?_; with_reducible assumption) | (refine xt_in hI ?_; with_reducible assumption) | (refine xn_in hI ?_ ?_ <;> with_reducible assumption) | with_reducible exact xb_in hI _) rfl dX0_thingAt_9 ?_
  refine lv_l2i (v := Int64.toInt32 (x_places u (fx_placeIndex q_r q_i).toNatClampNeg)) hx hb dX0_thingAt_10 rfl ?_
  exact EnX.iret E hS (ni_i _) (congrArg (fun z => (z, u)) (show Int64.toInt32 (x_places u (fx_placeIndex q_r q_i).toNatClampNeg) = fx_thingAt u q_r q_i by unfold fx_thingAt; rfl)) dX0_thingAt_11
def fx_ledgerFailure (u : XS) (q_r : Int32) (q_i : Int32) : Int32 := if q_r = (-1) then 1 else (if (fx_isLedger u q_r) = 0 then 2 else (if (fx_hasPlace u q_r q_i) = 0 then 3 else 0))
theorem hd_X0_ledgerFailure : yX0_ledgerFailure.cls = RX0 ∧ yX0_ledgerFailure.cls ≠ "java/lang/invoke/MethodHandle" ∧ yX0_ledgerFailure.cls ≠ "java/lang/invoke/VarHandle" ∧ (parseMethodDescriptor yX0_ledgerFailure.desc).map (fun d => d.parameters.length) = some 2 := by decide +kernel
set_option maxRecDepth 100000 in
set_option maxHeartbeats 4000000 in
theorem kX0_ledgerFailure (l : Launch) (D : va_G) (ad : Nat → Nat) (ca : Nat → ClassId) (g : Nat) (u : XS) (q_r : Int32) (q_i : Int32) (hqr : ¬ q_r = (-1) → vp_in q_r 60) : CiX l yX0_ledgerFailure cX0_ledgerFailure 3 .int 3 D ad ca g [.int q_r, .int q_i] u ((fx_ledgerFailure u q_r q_i, u)) := by
  refine CiX.of (by decide) rfl (Nat.le_of_ble_eq_true rfl) ?_
  intro p e s m below meth c A ls E hS hl
  have hx := E.1.1
  have hb := E.1.2.1
  have hml := E.1.2.2.1
  have hown := E.1.2.2.2.1
  have hts := E.1.2.2.2.2
  have hl : lv_has ls 3 [(0, .ref (ad 0)), (1, .int q_r), (2, .int q_i)] := hl
  refine lv_iload_n hx hb dX0_ledgerFailure_0 rfl (lv_at hl 1 rfl) ?_
  refine lv_iconst (v := (-1)) hx hb dX0_ledgerFailure_1 (by decide) ?_
  refine lv_icmp_ne (tgt := 7) hx hb dX0_ledgerFailure_2 (by decide) (fun h2 => ?_) (fun h2 => ?_)
  · refine lv_aload_n hx hb dX0_ledgerFailure_7 rfl (lv_at hl 0 rfl) ?_
    refine lv_iload_n hx hb dX0_ledgerFailure_8 rfl (lv_at hl 1 rfl) ?_
    refine EnX.calli (r := fx_isLedger u q_r) (u2 := u) E hS [.int q_r] [] (kX0_isLedger l D ad ca g u q_r (by first | with_reducible assumption | (refine hqr ?_; with_reducible assumption) | (refine xt_in hI ?_; with_reducible assumption) | (refine xn_in hI ?_ ?_ <;> with_reducible assumption) | with_reducible exact xb_in hI _)) gc_X0_124 hd_X0_isLedger ⟨Nat.le_of_ble_eq_true rfl, Nat.le_of_ble_eq_true rfl⟩ rfl hl.1 (Nat.le_of_ble_eq_true rfl) ⟨Nat.le_refl 0, Nat.le_refl 0⟩ dX0_ledgerFailure_9 (fun H locs hS => ?_)
    refine lv_if_ne (tgt := 17) hx hb dX0_ledgerFailure_12 (by decide) (fun h12 => ?_) (fun h12 => ?_)
    · refine lv_aload_n hx hb dX0_ledgerFailure_17 rfl (lv_at hl 0 rfl) ?_
      refine lv_iload_n hx hb dX0_ledgerFailure_18 rfl (lv_at hl 1 rfl) ?_
      refine lv_iload_n hx hb dX0_ledgerFailure_19 rfl (lv_at hl 2 rfl) ?_
      refine EnX.calli (r := fx_hasPlace u q_r q_i) (u2 := u) E hS [.int q_r, .int q_i] [] (kX0_hasPlace l D ad ca g u q_r q_i (by first | with_reducible assumption | (refine hqr ?_; with_reducible assumption) | (refine xt_in hI ?_; with_reducible assumption) | (refine xn_in hI ?_ ?_ <;> with_reducible assumption) | with_reducible exact xb_in hI _)) gc_X0_86 hd_X0_hasPlace ⟨Nat.le_of_ble_eq_true rfl, Nat.le_of_ble_eq_true rfl⟩ rfl hl.1 (Nat.le_of_ble_eq_true rfl) ⟨Nat.le_refl 0, Nat.le_refl 0⟩ dX0_ledgerFailure_20 (fun H locs hS => ?_)
      refine lv_if_eq (tgt := 30) hx hb dX0_ledgerFailure_23 (by decide) (fun h23 => ?_) (fun h23 => ?_)
      · refine lv_iconst (v := 3) hx hb dX0_ledgerFailure_30 (by decide) ?_
        exact EnX.iret E hS (ni_i _) (congrArg (fun z => (z, u)) (show (3 : Int32) = fx_ledgerFailure u q_r q_i by unfold fx_ledgerFailure; rw [if_neg h2, if_neg h12, if_pos h23])) dX0_ledgerFailure_31
      · refine lv_iconst (v := 0) hx hb dX0_ledgerFailure_26 (by decide) ?_
        refine lv_goto (tgt := 31) hx hb dX0_ledgerFailure_27 (by decide) ?_
        exact EnX.iret E hS (ni_i _) (congrArg (fun z => (z, u)) (show (0 : Int32) = fx_ledgerFailure u q_r q_i by unfold fx_ledgerFailure; rw [if_neg h2, if_neg h12, if_neg h23])) dX0_ledgerFailure_31
    · refine lv_iconst (v := 2) hx hb dX0_ledgerFailure_15 (by decide) ?_
      exact EnX.iret E hS (ni_i _) (congrArg (fun z => (z, u)) (show (2 : Int32) = fx_ledgerFailure u q_r q_i by unfold fx_ledgerFailure; rw [if_neg h2, if_pos h12])) dX0_ledgerFailure_16
  · refine lv_iconst (v := 1) hx hb dX0_ledgerFailure_5 (by decide) ?_
    exact EnX.iret E hS (ni_i _) (congrArg (fun z => (z, u)) (show (1 : Int32) = fx_ledgerFailure u q_r q_i by unfold fx_ledgerFailure; rw [if_pos h2])) dX0_ledgerFailure_6
def fx_hasRoomFor (u : XS) (q_more : Int32) : Int32 := if 60 < ((x_thingCount u) + q_more) then 0 else 1
theorem fx_hasRoomFor_01 (u : XS) (q_more : Int32) : fx_hasRoomFor u q_more = 0 ∨ fx_hasRoomFor u q_more = 1 := by
  unfold fx_hasRoomFor
  (repeat' split) <;> first | exact Or.inl rfl | exact Or.inr rfl
theorem hd_X0_hasRoomFor : yX0_hasRoomFor.cls = RX0 ∧ yX0_hasRoomFor.cls ≠ "java/lang/invoke/MethodHandle" ∧ yX0_hasRoomFor.cls ≠ "java/lang/invoke/VarHandle" ∧ (parseMethodDescriptor yX0_hasRoomFor.desc).map (fun d => d.parameters.length) = some 1 := by decide +kernel
set_option maxRecDepth 100000 in
set_option maxHeartbeats 4000000 in
theorem kX0_hasRoomFor (l : Launch) (D : va_G) (ad : Nat → Nat) (ca : Nat → ClassId) (g : Nat) (u : XS) (q_more : Int32)  : CiX l yX0_hasRoomFor cX0_hasRoomFor 2 .boolean 1 D ad ca g [.int q_more] u ((fx_hasRoomFor u q_more, u)) := by
  refine CiX.of (by decide) rfl (Nat.le_of_ble_eq_true rfl) ?_
  intro p e s m below meth c A ls E hS hl
  have hx := E.1.1
  have hb := E.1.2.1
  have hml := E.1.2.2.1
  have hown := E.1.2.2.2.1
  have hts := E.1.2.2.2.2
  have hl : lv_has ls 2 [(0, .ref (ad 0)), (1, .int q_more)] := hl
  refine lv_aload_n hx hb dX0_hasRoomFor_0 rfl (lv_at hl 0 rfl) ?_
  refine gX_thingCount (v := x_thingCount u) E hS rfl dX0_hasRoomFor_1 ?_
  refine lv_iload_n hx hb dX0_hasRoomFor_4 rfl (lv_at hl 1 rfl) ?_
  refine lv_iadd hx hb dX0_hasRoomFor_5 ?_
  refine lv_bipush (v := 60) hx hb dX0_hasRoomFor_6 (by decide) ?_
  refine lv_icmp_gt (tgt := 15) hx hb dX0_hasRoomFor_8 (by decide) (fun h8 => ?_) (fun h8 => ?_)
  · refine lv_iconst (v := 0) hx hb dX0_hasRoomFor_15 (by decide) ?_
    exact EnX.iret E hS ni_0 (congrArg (fun z => (z, u)) (show (0 : Int32) = fx_hasRoomFor u q_more by unfold fx_hasRoomFor; rw [if_pos h8])) dX0_hasRoomFor_16
  · refine lv_iconst (v := 1) hx hb dX0_hasRoomFor_11 (by decide) ?_
    refine lv_goto (tgt := 16) hx hb dX0_hasRoomFor_12 (by decide) ?_
    exact EnX.iret E hS ni_1 (congrArg (fun z => (z, u)) (show (1 : Int32) = fx_hasRoomFor u q_more by unfold fx_hasRoomFor; rw [if_neg h8])) dX0_hasRoomFor_16
def fx_addThing (u : XS) (q_base : Int32) (q_depth : Int32) (q_size : Int32) : Int32 × XS := (x_thingCount u, xs_thingCount (xs_thingSize (xs_thingDepth (xs_thingBase u (upd (x_thingBase u) (x_thingCount u).toNatClampNeg q_base)) (upd (x_thingDepth u) (x_thingCount u).toNatClampNeg q_depth)) (upd (x_thingSize u) (x_thingCount u).toNatClampNeg q_size)) ((x_thingCount u) + 1))
theorem hd_X0_addThing : yX0_addThing.cls = RX0 ∧ yX0_addThing.cls ≠ "java/lang/invoke/MethodHandle" ∧ yX0_addThing.cls ≠ "java/lang/invoke/VarHandle" ∧ (parseMethodDescriptor yX0_addThing.desc).map (fun d => d.parameters.length) = some 3 := by decide +kernel
set_option maxRecDepth 100000 in
set_option maxHeartbeats 4000000 in
theorem kX0_addThing (l : Launch) (D : va_G) (ad : Nat → Nat) (ca : Nat → ClassId) (g : Nat) (u : XS) (q_base : Int32) (q_depth : Int32) (q_size : Int32) (htc : vp_in (x_thingCount u) 60) : CiX l yX0_addThing cX0_addThing 5 .int 1 D ad ca g [.int q_base, .int q_depth, .int q_size] u (fx_addThing u q_base q_depth q_size) := by
  refine CiX.of (by decide) rfl (Nat.le_of_ble_eq_true rfl) ?_
  intro p e s m below meth c A ls E hS hl
  have hx := E.1.1
  have hb := E.1.2.1
  have hml := E.1.2.2.1
  have hown := E.1.2.2.2.1
  have hts := E.1.2.2.2.2
  have hl : lv_has ls 5 [(0, .ref (ad 0)), (1, .int q_base), (2, .int q_depth), (3, .int q_size)] := hl
  refine lv_aload_n hx hb dX0_addThing_0 rfl (lv_at hl 0 rfl) ?_
  refine gX_thingCount (v := x_thingCount u) E hS rfl dX0_addThing_1 ?_
  refine lv_istore (lv' := [(4, .int (x_thingCount u)), (0, .ref (ad 0)), (1, .int q_base), (2, .int q_depth), (3, .int q_size)]) hx hb dX0_addThing_4 hl (by decide) rfl (fun ls hl => ?_)
  refine lv_aload_n hx hb dX0_addThing_6 rfl (lv_at hl 1 rfl) ?_
  refine gX_thingBase E hS dX0_addThing_7 ?_
  refine lv_iload hx hb dX0_addThing_10 (lv_at hl 0 rfl) ?_
  refine lv_iload_n hx hb dX0_addThing_12 rfl (lv_at hl 2 rfl) ?_
  refine sX_thingBase E hS (show vp_in (x_thingCount u) 60 from by first | with_reducible assumption | (refine hqr ?_; with_reducible assumption) | (refine xt_in hI ?_; with_reducible assumption) | (refine xn_in hI ?_ ?_ <;> with_reducible assumption) | with_reducible exact xb_in hI _) dX0_addThing_13 (fun H locs hS => ?_)
  have hS : SX D ad ca A s (xs_thingBase u (upd (x_thingBase u) (x_thingCount u).toNatClampNeg q_base)) H locs := hS
  refine lv_aload_n hx hb dX0_addThing_14 rfl (lv_at hl 1 rfl) ?_
  refine gX_thingDepth E hS dX0_addThing_15 ?_
  refine lv_iload hx hb dX0_addThing_18 (lv_at hl 0 rfl) ?_
  refine lv_iload_n hx hb dX0_addThing_20 rfl (lv_at hl 3 rfl) ?_
  refine sX_thingDepth E hS (show vp_in (x_thingCount u) 60 from by first | with_reducible assumption | (refine hqr ?_; with_reducible assumption) | (refine xt_in hI ?_; with_reducible assumption) | (refine xn_in hI ?_ ?_ <;> with_reducible assumption) | with_reducible exact xb_in hI _) dX0_addThing_21 (fun H locs hS => ?_)
  have hS : SX D ad ca A s (xs_thingDepth (xs_thingBase u (upd (x_thingBase u) (x_thingCount u).toNatClampNeg q_base)) (upd (x_thingDepth u) (x_thingCount u).toNatClampNeg q_depth)) H locs := hS
  refine lv_aload_n hx hb dX0_addThing_22 rfl (lv_at hl 1 rfl) ?_
  refine gX_thingSize E hS dX0_addThing_23 ?_
  refine lv_iload hx hb dX0_addThing_26 (lv_at hl 0 rfl) ?_
  refine lv_iload_n hx hb dX0_addThing_28 rfl (lv_at hl 4 rfl) ?_
  refine sX_thingSize E hS (show vp_in (x_thingCount u) 60 from by first | with_reducible assumption | (refine hqr ?_; with_reducible assumption) | (refine xt_in hI ?_; with_reducible assumption) | (refine xn_in hI ?_ ?_ <;> with_reducible assumption) | with_reducible exact xb_in hI _) dX0_addThing_29 (fun H locs hS => ?_)
  have hS : SX D ad ca A s (xs_thingSize (xs_thingDepth (xs_thingBase u (upd (x_thingBase u) (x_thingCount u).toNatClampNeg q_base)) (upd (x_thingDepth u) (x_thingCount u).toNatClampNeg q_depth)) (upd (x_thingSize u) (x_thingCount u).toNatClampNeg q_size)) H locs := hS
  refine lv_aload_n hx hb dX0_addThing_30 rfl (lv_at hl 1 rfl) ?_
  refine lv_dup hx hb dX0_addThing_31 rfl ?_
  refine gX_thingCount (v := x_thingCount u) E hS rfl dX0_addThing_32 ?_
  refine lv_iconst (v := 1) hx hb dX0_addThing_35 (by decide) ?_
  refine lv_iadd hx hb dX0_addThing_36 ?_
  refine pX_thingCount E hS dX0_addThing_37 (fun H locs hS => ?_)
  have hS : SX D ad ca A s (xs_thingCount (xs_thingSize (xs_thingDepth (xs_thingBase u (upd (x_thingBase u) (x_thingCount u).toNatClampNeg q_base)) (upd (x_thingDepth u) (x_thingCount u).toNatClampNeg q_depth)) (upd (x_thingSize u) (x_thingCount u).toNatClampNeg q_size)) ((x_thingCount u) + 1)) H locs := hS
  refine lv_iload hx hb dX0_addThing_40 (lv_at hl 0 rfl) ?_
  exact EnX.iret E hS (ni_i _) (by unfold fx_addThing; rfl) dX0_addThing_42
def fx_worthOfPiece (u : XS) (q_x : Int32) : Int64 := if (x_thingBase u (q_x).toNatClampNeg) = 1 then 2 * (Int32.toInt64 (x_pieceWorth u (q_x).toNatClampNeg)) else (if (x_thingBase u (q_x).toNatClampNeg) = 3 then (Int32.toInt64 (x_pieceWorth u (q_x).toNatClampNeg)) + 100 else Int32.toInt64 (x_pieceWorth u (q_x).toNatClampNeg))
theorem hd_X0_worthOfPiece : yX0_worthOfPiece.cls = RX0 ∧ yX0_worthOfPiece.cls ≠ "java/lang/invoke/MethodHandle" ∧ yX0_worthOfPiece.cls ≠ "java/lang/invoke/VarHandle" ∧ (parseMethodDescriptor yX0_worthOfPiece.desc).map (fun d => d.parameters.length) = some 1 := by decide +kernel
set_option maxRecDepth 100000 in
set_option maxHeartbeats 4000000 in
theorem kX0_worthOfPiece (l : Launch) (D : va_G) (ad : Nat → Nat) (ca : Nat → ClassId) (g : Nat) (u : XS) (q_x : Int32) (hqx : vp_in q_x 60) : ClX l yX0_worthOfPiece cX0_worthOfPiece 4 1 D ad ca g [.int q_x] u ((fx_worthOfPiece u q_x, u)) := by
  refine ClX.of (by decide) rfl (Nat.le_of_ble_eq_true rfl) ?_
  intro p e s m below meth c A ls E hS hl
  have hx := E.1.1
  have hb := E.1.2.1
  have hml := E.1.2.2.1
  have hown := E.1.2.2.2.1
  have hts := E.1.2.2.2.2
  have hl : lv_has ls 4 [(0, .ref (ad 0)), (1, .int q_x)] := hl
  refine lv_aload_n hx hb dX0_worthOfPiece_0 rfl (lv_at hl 0 rfl) ?_
  refine gX_pieceWorth E hS dX0_worthOfPiece_1 ?_
  refine lv_iload_n hx hb dX0_worthOfPiece_4 rfl (lv_at hl 1 rfl) ?_
  refine lX_pieceWorth (v := x_pieceWorth u (q_x).toNatClampNeg) E hS (show vp_in q_x 60 from by first | with_reducible assumption | (refine hqr ?_; with_reducible assumption) | (refine xt_in hI ?_; with_reducible assumption) | (refine xn_in hI ?_ ?_ <;> with_reducible assumption) | with_reducible exact xb_in hI _) rfl dX0_worthOfPiece_5 ?_
  refine lv_i2l (v := Int32.toInt64 (x_pieceWorth u (q_x).toNatClampNeg)) hx hb dX0_worthOfPiece_6 rfl ?_
  refine lv_lstore_n (lv' := [(2, .long (Int32.toInt64 (x_pieceWorth u (q_x).toNatClampNeg))), (0, .ref (ad 0)), (1, .int q_x)]) hx hb dX0_worthOfPiece_7 rfl hl (by decide) rfl (fun ls hl => ?_)
  refine lv_aload_n hx hb dX0_worthOfPiece_8 rfl (lv_at hl 1 rfl) ?_
  refine gX_thingBase E hS dX0_worthOfPiece_9 ?_
  refine lv_iload_n hx hb dX0_worthOfPiece_12 rfl (lv_at hl 2 rfl) ?_
  refine lX_thingBase (v := x_thingBase u (q_x).toNatClampNeg) E hS (show vp_in q_x 60 from by first | with_reducible assumption | (refine hqr ?_; with_reducible assumption) | (refine xt_in hI ?_; with_reducible assumption) | (refine xn_in hI ?_ ?_ <;> with_reducible assumption) | with_reducible exact xb_in hI _) rfl dX0_worthOfPiece_13 ?_
  by_cases h14_1 : (x_thingBase u (q_x).toNatClampNeg) = 1
  · refine lv_lookup (off := 26) (tgt := 40) hx hb dX0_worthOfPiece_14 (by decide) (by rw [h14_1]; rfl) (by decide) ?_
    refine lv_ldc2 (v := 2) hx hb hown (hts _ wk_X0_158) dX0_worthOfPiece_40 ?_
    refine lv_lload_n hx hb dX0_worthOfPiece_43 rfl (lv_at hl 0 rfl) ?_
    refine lv_lmul hx hb dX0_worthOfPiece_44 ?_
    exact EnX.lret E hS (congrArg (fun z => (z, u)) (show 2 * (Int32.toInt64 (x_pieceWorth u (q_x).toNatClampNeg)) = fx_worthOfPiece u q_x by unfold fx_worthOfPiece; rw [if_pos h14_1])) dX0_worthOfPiece_45
  · by_cases h14_3 : (x_thingBase u (q_x).toNatClampNeg) = 3
    · refine lv_lookup (off := 32) (tgt := 46) hx hb dX0_worthOfPiece_14 (by decide) (by rw [h14_3]; rfl) (by decide) ?_
      refine lv_lload_n hx hb dX0_worthOfPiece_46 rfl (lv_at hl 0 rfl) ?_
      refine lv_ldc2 (v := 100) hx hb hown (hts _ wk_X0_160) dX0_worthOfPiece_47 ?_
      refine lv_ladd hx hb dX0_worthOfPiece_50 ?_
      exact EnX.lret E hS (congrArg (fun z => (z, u)) (show (Int32.toInt64 (x_pieceWorth u (q_x).toNatClampNeg)) + 100 = fx_worthOfPiece u q_x by unfold fx_worthOfPiece; rw [if_neg h14_1, if_pos h14_3])) dX0_worthOfPiece_51
    · have n14_1 := lv_neT h14_1 (a := 1) (by decide)
      have n14_3 := lv_neT h14_3 (a := 3) (by decide)
      refine lv_lookup (off := 38) (tgt := 52) hx hb dX0_worthOfPiece_14 (by decide) (by show Op.lookupswitch.offset [(1, 26), (3, 32)] 38 _ = 38; rw [lv_osw h14_1 (by decide)]; rw [lv_osw h14_3 (by decide)]; rfl) (by decide) ?_
      refine lv_lload_n hx hb dX0_worthOfPiece_52 rfl (lv_at hl 0 rfl) ?_
      exact EnX.lret E hS (congrArg (fun z => (z, u)) (show Int32.toInt64 (x_pieceWorth u (q_x).toNatClampNeg) = fx_worthOfPiece u q_x by unfold fx_worthOfPiece; rw [if_neg h14_1, if_neg h14_3])) dX0_worthOfPiece_53
def fx_areAlike (u : XS) (q_r : Int32) (q_s : Int32) : Int32 := if (fx_isPiece u q_r) = 0 then (if (fx_isPiece u q_s) = 0 then (if (fx_isLedger u q_r) = (fx_isLedger u q_s) then (if (fx_isLedger u q_r) = 0 then 1 else (if (x_thingBase u (q_r).toNatClampNeg) = (x_thingBase u (q_s).toNatClampNeg) then 1 else 0)) else 0) else 0) else 0
theorem fx_areAlike_01 (u : XS) (q_r : Int32) (q_s : Int32) : fx_areAlike u q_r q_s = 0 ∨ fx_areAlike u q_r q_s = 1 := by
  unfold fx_areAlike
  (repeat' split) <;> first | exact Or.inl rfl | exact Or.inr rfl | apply fx_isLedger_01 | apply fx_isPiece_01
theorem hd_X0_areAlike : yX0_areAlike.cls = RX0 ∧ yX0_areAlike.cls ≠ "java/lang/invoke/MethodHandle" ∧ yX0_areAlike.cls ≠ "java/lang/invoke/VarHandle" ∧ (parseMethodDescriptor yX0_areAlike.desc).map (fun d => d.parameters.length) = some 2 := by decide +kernel
set_option maxRecDepth 100000 in
set_option maxHeartbeats 4000000 in
theorem kX0_areAlike (l : Launch) (D : va_G) (ad : Nat → Nat) (ca : Nat → ClassId) (g : Nat) (u : XS) (q_r : Int32) (q_s : Int32) (hqr : vp_in q_r 60) (hqs : vp_in q_s 60) : CiX l yX0_areAlike cX0_areAlike 3 .boolean 3 D ad ca g [.int q_r, .int q_s] u ((fx_areAlike u q_r q_s, u)) := by
  refine CiX.of (by decide) rfl (Nat.le_of_ble_eq_true rfl) ?_
  intro p e s m below meth c A ls E hS hl
  have hx := E.1.1
  have hb := E.1.2.1
  have hml := E.1.2.2.1
  have hown := E.1.2.2.2.1
  have hts := E.1.2.2.2.2
  have hl : lv_has ls 3 [(0, .ref (ad 0)), (1, .int q_r), (2, .int q_s)] := hl
  refine lv_aload_n hx hb dX0_areAlike_0 rfl (lv_at hl 0 rfl) ?_
  refine lv_iload_n hx hb dX0_areAlike_1 rfl (lv_at hl 1 rfl) ?_
  refine EnX.calli (r := fx_isPiece u q_r) (u2 := u) E hS [.int q_r] [] (kX0_isPiece l D ad ca g u q_r (by first | with_reducible assumption | (refine hqr ?_; with_reducible assumption) | (refine xt_in hI ?_; with_reducible assumption) | (refine xn_in hI ?_ ?_ <;> with_reducible assumption) | with_reducible exact xb_in hI _)) gc_X0_111 hd_X0_isPiece ⟨Nat.le_of_ble_eq_true rfl, Nat.le_of_ble_eq_true rfl⟩ rfl hl.1 (Nat.le_of_ble_eq_true rfl) ⟨Nat.le_refl 0, Nat.le_refl 0⟩ dX0_areAlike_2 (fun H locs hS => ?_)
  refine lv_if_ne (tgt := 16) hx hb dX0_areAlike_5 (by decide) (fun h5 => ?_) (fun h5 => ?_)
  · refine lv_iconst (v := 0) hx hb dX0_areAlike_16 (by decide) ?_
    exact EnX.iret E hS ni_0 (congrArg (fun z => (z, u)) (show (0 : Int32) = fx_areAlike u q_r q_s by unfold fx_areAlike; rw [if_neg h5])) dX0_areAlike_17
  · refine lv_aload_n hx hb dX0_areAlike_8 rfl (lv_at hl 0 rfl) ?_
    refine lv_iload_n hx hb dX0_areAlike_9 rfl (lv_at hl 2 rfl) ?_
    refine EnX.calli (r := fx_isPiece u q_s) (u2 := u) E hS [.int q_s] [] (kX0_isPiece l D ad ca g u q_s (by first | with_reducible assumption | (refine hqr ?_; with_reducible assumption) | (refine xt_in hI ?_; with_reducible assumption) | (refine xn_in hI ?_ ?_ <;> with_reducible assumption) | with_reducible exact xb_in hI _)) gc_X0_111 hd_X0_isPiece ⟨Nat.le_of_ble_eq_true rfl, Nat.le_of_ble_eq_true rfl⟩ rfl hl.1 (Nat.le_of_ble_eq_true rfl) ⟨Nat.le_refl 0, Nat.le_refl 0⟩ dX0_areAlike_10 (fun H locs hS => ?_)
    refine lv_if_eq (tgt := 18) hx hb dX0_areAlike_13 (by decide) (fun h13 => ?_) (fun h13 => ?_)
    · refine lv_aload_n hx hb dX0_areAlike_18 rfl (lv_at hl 0 rfl) ?_
      refine lv_iload_n hx hb dX0_areAlike_19 rfl (lv_at hl 1 rfl) ?_
      refine EnX.calli (r := fx_isLedger u q_r) (u2 := u) E hS [.int q_r] [] (kX0_isLedger l D ad ca g u q_r (by first | with_reducible assumption | (refine hqr ?_; with_reducible assumption) | (refine xt_in hI ?_; with_reducible assumption) | (refine xn_in hI ?_ ?_ <;> with_reducible assumption) | with_reducible exact xb_in hI _)) gc_X0_124 hd_X0_isLedger ⟨Nat.le_of_ble_eq_true rfl, Nat.le_of_ble_eq_true rfl⟩ rfl hl.1 (Nat.le_of_ble_eq_true rfl) ⟨Nat.le_refl 0, Nat.le_refl 0⟩ dX0_areAlike_20 (fun H locs hS => ?_)
      refine lv_aload_n hx hb dX0_areAlike_23 rfl (lv_at hl 0 rfl) ?_
      refine lv_iload_n hx hb dX0_areAlike_24 rfl (lv_at hl 2 rfl) ?_
      refine EnX.calli (r := fx_isLedger u q_s) (u2 := u) E hS [.int q_s] [.int (fx_isLedger u q_r)] (kX0_isLedger l D ad ca g u q_s (by first | with_reducible assumption | (refine hqr ?_; with_reducible assumption) | (refine xt_in hI ?_; with_reducible assumption) | (refine xn_in hI ?_ ?_ <;> with_reducible assumption) | with_reducible exact xb_in hI _)) gc_X0_124 hd_X0_isLedger ⟨Nat.le_of_ble_eq_true rfl, Nat.le_of_ble_eq_true rfl⟩ rfl hl.1 (Nat.le_of_ble_eq_true rfl) ⟨Nat.le_refl 0, Nat.le_refl 0⟩ dX0_areAlike_25 (fun H locs hS => ?_)
      refine lv_icmp_eq (tgt := 33) hx hb dX0_areAlike_28 (by decide) (fun h28 => ?_) (fun h28 => ?_)
      · refine lv_aload_n hx hb dX0_areAlike_33 rfl (lv_at hl 0 rfl) ?_
        refine lv_iload_n hx hb dX0_areAlike_34 rfl (lv_at hl 1 rfl) ?_
        refine EnX.calli (r := fx_isLedger u q_r) (u2 := u) E hS [.int q_r] [] (kX0_isLedger l D ad ca g u q_r (by first | with_reducible assumption | (refine hqr ?_; with_reducible assumption) | (refine xt_in hI ?_; with_reducible assumption) | (refine xn_in hI ?_ ?_ <;> with_reducible assumption) | with_reducible exact xb_in hI _)) gc_X0_124 hd_X0_isLedger ⟨Nat.le_of_ble_eq_true rfl, Nat.le_of_ble_eq_true rfl⟩ rfl hl.1 (Nat.le_of_ble_eq_true rfl) ⟨Nat.le_refl 0, Nat.le_refl 0⟩ dX0_areAlike_35 (fun H locs hS => ?_)
        refine lv_if_eq (tgt := 56) hx hb dX0_areAlike_38 (by decide) (fun h38 => ?_) (fun h38 => ?_)
        · refine lv_iconst (v := 1) hx hb dX0_areAlike_56 (by decide) ?_
          refine lv_goto (tgt := 61) hx hb dX0_areAlike_57 (by decide) ?_
          exact EnX.iret E hS ni_1 (congrArg (fun z => (z, u)) (show (1 : Int32) = fx_areAlike u q_r q_s by unfold fx_areAlike; rw [if_pos h5, if_pos h13, if_pos h28, if_pos h38])) dX0_areAlike_61
        · refine lv_aload_n hx hb dX0_areAlike_41 rfl (lv_at hl 0 rfl) ?_
          refine gX_thingBase E hS dX0_areAlike_42 ?_
          refine lv_iload_n hx hb dX0_areAlike_45 rfl (lv_at hl 1 rfl) ?_
          refine lX_thingBase (v := x_thingBase u (q_r).toNatClampNeg) E hS (show vp_in q_r 60 from by first | with_reducible assumption | (refine hqr ?_; with_reducible assumption) | (refine xt_in hI ?_; with_reducible assumption) | (refine xn_in hI ?_ ?_ <;> with_reducible assumption) | with_reducible exact xb_in hI _) rfl dX0_areAlike_46 ?_
          refine lv_aload_n hx hb dX0_areAlike_47 rfl (lv_at hl 0 rfl) ?_
          refine gX_thingBase E hS dX0_areAlike_48 ?_
          refine lv_iload_n hx hb dX0_areAlike_51 rfl (lv_at hl 2 rfl) ?_
          refine lX_thingBase (v := x_thingBase u (q_s).toNatClampNeg) E hS (show vp_in q_s 60 from by first | with_reducible assumption | (refine hqr ?_; with_reducible assumption) | (refine xt_in hI ?_; with_reducible assumption) | (refine xn_in hI ?_ ?_ <;> with_reducible assumption) | with_reducible exact xb_in hI _) rfl dX0_areAlike_52 ?_
          refine lv_icmp_ne (tgt := 60) hx hb dX0_areAlike_53 (by decide) (fun h53 => ?_) (fun h53 => ?_)
          · refine lv_iconst (v := 0) hx hb dX0_areAlike_60 (by decide) ?_
            exact EnX.iret E hS ni_0 (congrArg (fun z => (z, u)) (show (0 : Int32) = fx_areAlike u q_r q_s by unfold fx_areAlike; rw [if_pos h5, if_pos h13, if_pos h28, if_neg h38, if_neg h53])) dX0_areAlike_61
          · refine lv_iconst (v := 1) hx hb dX0_areAlike_56 (by decide) ?_
            refine lv_goto (tgt := 61) hx hb dX0_areAlike_57 (by decide) ?_
            exact EnX.iret E hS ni_1 (congrArg (fun z => (z, u)) (show (1 : Int32) = fx_areAlike u q_r q_s by unfold fx_areAlike; rw [if_pos h5, if_pos h13, if_pos h28, if_neg h38, if_pos h53])) dX0_areAlike_61
      · refine lv_iconst (v := 0) hx hb dX0_areAlike_31 (by decide) ?_
        exact EnX.iret E hS ni_0 (congrArg (fun z => (z, u)) (show (0 : Int32) = fx_areAlike u q_r q_s by unfold fx_areAlike; rw [if_pos h5, if_pos h13, if_neg h28])) dX0_areAlike_32
    · refine lv_iconst (v := 0) hx hb dX0_areAlike_16 (by decide) ?_
      exact EnX.iret E hS ni_0 (congrArg (fun z => (z, u)) (show (0 : Int32) = fx_areAlike u q_r q_s by unfold fx_areAlike; rw [if_pos h5, if_neg h13])) dX0_areAlike_17
