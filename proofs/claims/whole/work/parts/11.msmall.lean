/-! DepotTraysModel: what holds of its state between calls; small methods -/
def MI (u : MS) : Prop := (0 ≤ (m_things u).toInt ∧ (m_things u).toInt ≤ 60) ∧ (∀ i : Nat, 0 ≤ (m_sizes u i).toInt ∧ (m_sizes u i).toInt ≤ 8) ∧ (∀ q : Nat, -1 ≤ (m_lies u q).toInt ∧ (m_lies u q).toInt < 60) ∧ (∀ q : Nat, (m_moved u q).toInt < 60)
def fm_isIn (q_v : Int32) (q_least : Int32) (q_most : Int32) : Int32 := if q_v < q_least then 0 else (if q_most < q_v then 0 else 1)
theorem fm_isIn_01 (q_v : Int32) (q_least : Int32) (q_most : Int32) : fm_isIn q_v q_least q_most = 0 ∨ fm_isIn q_v q_least q_most = 1 := by
  unfold fm_isIn
  (repeat' split) <;> first | exact Or.inl rfl | exact Or.inr rfl
theorem hd_X1_isIn : yX1_isIn.cls ≠ "java/lang/invoke/MethodHandle" ∧ yX1_isIn.cls ≠ "java/lang/invoke/VarHandle" ∧ (parseMethodDescriptor yX1_isIn.desc).map (fun d => d.parameters.length) = some 3 := by decide +kernel
set_option maxRecDepth 100000 in
set_option maxHeartbeats 4000000 in
theorem kX1_isIn (l : Launch) (q_v : Int32) (q_least : Int32) (q_most : Int32)  : Cs l yX1_isIn cX1_isIn 3 .boolean 1 (fun _ => True) [.int q_v, .int q_least, .int q_most] (fm_isIn q_v q_least q_most) := by
  refine Cs.of (by decide) (Nat.le_of_ble_eq_true rfl) ?_
  intro p e s m below meth c ls E hZ hS hl
  have hx := E.1.1
  have hb := E.1.2.1
  have hml := E.1.2.2.1
  have hown := E.1.2.2.2.1
  have hts := E.1.2.2.2.2
  have hl : lv_has ls 3 [(0, .int q_v), (1, .int q_least), (2, .int q_most)] := hl
  refine lv_iload_n hx hb dX1_isIn_0 rfl (lv_at hl 0 rfl) ?_
  refine lv_iload_n hx hb dX1_isIn_1 rfl (lv_at hl 1 rfl) ?_
  refine lv_icmp_lt (tgt := 14) hx hb dX1_isIn_2 (by decide) (fun h2 => ?_) (fun h2 => ?_)
  · refine lv_iconst (v := 0) hx hb dX1_isIn_14 (by decide) ?_
    exact EnS.iret E hS ni_0 (by first | (simp only [fm_isIn, if_pos h2]; done) | (unfold fm_isIn; rw [if_pos h2])) dX1_isIn_15
  · refine lv_iload_n hx hb dX1_isIn_5 rfl (lv_at hl 0 rfl) ?_
    refine lv_iload_n hx hb dX1_isIn_6 rfl (lv_at hl 2 rfl) ?_
    refine lv_icmp_gt (tgt := 14) hx hb dX1_isIn_7 (by decide) (fun h7 => ?_) (fun h7 => ?_)
    · refine lv_iconst (v := 0) hx hb dX1_isIn_14 (by decide) ?_
      exact EnS.iret E hS ni_0 (by first | (simp only [fm_isIn, if_neg h2, if_pos h7]; done) | (unfold fm_isIn; rw [if_neg h2, if_pos h7])) dX1_isIn_15
    · refine lv_iconst (v := 1) hx hb dX1_isIn_10 (by decide) ?_
      refine lv_goto (tgt := 15) hx hb dX1_isIn_11 (by decide) ?_
      exact EnS.iret E hS ni_1 (by first | (simp only [fm_isIn, if_neg h2, if_neg h7]; done) | (unfold fm_isIn; rw [if_neg h2, if_neg h7])) dX1_isIn_15
def fm_fails (u : MS) (q_with : Int32) : Int32 × MS := ((-10) - q_with, ms_latest (ms_failures u ((m_failures u) + 1)) q_with)
theorem hd_X1_fails : yX1_fails.cls = RX1 ∧ yX1_fails.cls ≠ "java/lang/invoke/MethodHandle" ∧ yX1_fails.cls ≠ "java/lang/invoke/VarHandle" ∧ (parseMethodDescriptor yX1_fails.desc).map (fun d => d.parameters.length) = some 1 := by decide +kernel
set_option maxRecDepth 100000 in
set_option maxHeartbeats 4000000 in
theorem kX1_fails (l : Launch) (D : va_G) (ad : Nat → Nat) (ca : Nat → ClassId) (g : Nat) (u : MS) (q_with : Int32)  : CiM l yX1_fails cX1_fails 2 .int 1 D ad ca g [.int q_with] u (fm_fails u q_with) := by
  refine CiM.of (by decide) rfl (Nat.le_of_ble_eq_true rfl) ?_
  intro p e s m below meth c A ls E hS hl
  have hx := E.1.1
  have hb := E.1.2.1
  have hml := E.1.2.2.1
  have hown := E.1.2.2.2.1
  have hts := E.1.2.2.2.2
  have hl : lv_has ls 2 [(0, .ref (ad 0)), (1, .int q_with)] := hl
  refine lv_aload_n hx hb dX1_fails_0 rfl (lv_at hl 0 rfl) ?_
  refine lv_dup hx hb dX1_fails_1 rfl ?_
  refine gM_failures (v := m_failures u) E hS rfl dX1_fails_2 ?_
  refine lv_iconst (v := 1) hx hb dX1_fails_5 (by decide) ?_
  refine lv_iadd hx hb dX1_fails_6 ?_
  refine pM_failures E hS dX1_fails_7 (fun H locs hS => ?_)
  have hS : SM D ad ca A s (ms_failures u ((m_failures u) + 1)) H locs := hS
  refine lv_aload_n hx hb dX1_fails_10 rfl (lv_at hl 0 rfl) ?_
  refine lv_iload_n hx hb dX1_fails_11 rfl (lv_at hl 1 rfl) ?_
  refine pM_latest E hS dX1_fails_12 (fun H locs hS => ?_)
  have hS : SM D ad ca A s (ms_latest (ms_failures u ((m_failures u) + 1)) q_with) H locs := hS
  refine lv_bipush (v := (-10)) hx hb dX1_fails_15 (by decide) ?_
  refine lv_iload_n hx hb dX1_fails_17 rfl (lv_at hl 1 rfl) ?_
  refine lv_isub hx hb dX1_fails_18 ?_
  exact EnM.iret E hS (ni_i _) (by unfold fm_fails; rfl) dX1_fails_19
def fm_isThing (u : MS) (q_x : Int32) : Int32 := fm_isIn q_x 0 ((m_things u) - 1)
theorem fm_isThing_01 (u : MS) (q_x : Int32) : fm_isThing u q_x = 0 ∨ fm_isThing u q_x = 1 := by
  unfold fm_isThing
  (repeat' split) <;> first | exact Or.inl rfl | exact Or.inr rfl | apply fm_isIn_01
theorem hd_X1_isThing : yX1_isThing.cls = RX1 ∧ yX1_isThing.cls ≠ "java/lang/invoke/MethodHandle" ∧ yX1_isThing.cls ≠ "java/lang/invoke/VarHandle" ∧ (parseMethodDescriptor yX1_isThing.desc).map (fun d => d.parameters.length) = some 1 := by decide +kernel
set_option maxRecDepth 100000 in
set_option maxHeartbeats 4000000 in
theorem kX1_isThing (l : Launch) (D : va_G) (ad : Nat → Nat) (ca : Nat → ClassId) (g : Nat) (u : MS) (q_x : Int32)  : CiM l yX1_isThing cX1_isThing 2 .boolean 2 D ad ca g [.int q_x] u ((fm_isThing u q_x, u)) := by
  refine CiM.of (by decide) rfl (Nat.le_of_ble_eq_true rfl) ?_
  intro p e s m below meth c A ls E hS hl
  have hx := E.1.1
  have hb := E.1.2.1
  have hml := E.1.2.2.1
  have hown := E.1.2.2.2.1
  have hts := E.1.2.2.2.2
  have hl : lv_has ls 2 [(0, .ref (ad 0)), (1, .int q_x)] := hl
  refine lv_iload_n hx hb dX1_isThing_0 rfl (lv_at hl 1 rfl) ?_
  refine lv_iconst (v := 0) hx hb dX1_isThing_1 (by decide) ?_
  refine lv_aload_n hx hb dX1_isThing_2 rfl (lv_at hl 0 rfl) ?_
  refine gM_things (v := m_things u) E hS rfl dX1_isThing_3 ?_
  refine lv_iconst (v := 1) hx hb dX1_isThing_6 (by decide) ?_
  refine lv_isub hx hb dX1_isThing_7 ?_
  refine EnM.sti (r := fm_isIn q_x 0 ((m_things u) - 1)) E hS [.int q_x, .int 0, .int ((m_things u) - 1)] [] (kX1_isIn l q_x 0 ((m_things u) - 1) ) (fun _ _ _ _ h => h) (fun _ _ _ => trivial) gc_X1_60 hd_X1_isIn ⟨Nat.le_of_ble_eq_true rfl, Nat.le_of_ble_eq_true rfl⟩ rfl hl.1 (Nat.le_of_ble_eq_true rfl) ⟨Nat.le_refl 0, Nat.le_refl 0⟩ dX1_isThing_8 (fun H locs hS => ?_)
  exact EnM.iret E hS (ni_b (fm_isIn_01 q_x 0 ((m_things u) - 1))) (congrArg (fun z => (z, u)) (show fm_isIn q_x 0 ((m_things u) - 1) = fm_isThing u q_x by unfold fm_isThing; rfl)) dX1_isThing_11
def fm_mayBe (u : MS) (q_x : Int32) : Int32 := fm_isIn q_x (-1) ((m_things u) - 1)
theorem fm_mayBe_01 (u : MS) (q_x : Int32) : fm_mayBe u q_x = 0 ∨ fm_mayBe u q_x = 1 := by
  unfold fm_mayBe
  (repeat' split) <;> first | exact Or.inl rfl | exact Or.inr rfl | apply fm_isIn_01
theorem hd_X1_mayBe : yX1_mayBe.cls = RX1 ∧ yX1_mayBe.cls ≠ "java/lang/invoke/MethodHandle" ∧ yX1_mayBe.cls ≠ "java/lang/invoke/VarHandle" ∧ (parseMethodDescriptor yX1_mayBe.desc).map (fun d => d.parameters.length) = some 1 := by decide +kernel
set_option maxRecDepth 100000 in
set_option maxHeartbeats 4000000 in
theorem kX1_mayBe (l : Launch) (D : va_G) (ad : Nat → Nat) (ca : Nat → ClassId) (g : Nat) (u : MS) (q_x : Int32)  : CiM l yX1_mayBe cX1_mayBe 2 .boolean 2 D ad ca g [.int q_x] u ((fm_mayBe u q_x, u)) := by
  refine CiM.of (by decide) rfl (Nat.le_of_ble_eq_true rfl) ?_
  intro p e s m below meth c A ls E hS hl
  have hx := E.1.1
  have hb := E.1.2.1
  have hml := E.1.2.2.1
  have hown := E.1.2.2.2.1
  have hts := E.1.2.2.2.2
  have hl : lv_has ls 2 [(0, .ref (ad 0)), (1, .int q_x)] := hl
  refine lv_iload_n hx hb dX1_mayBe_0 rfl (lv_at hl 1 rfl) ?_
  refine lv_iconst (v := (-1)) hx hb dX1_mayBe_1 (by decide) ?_
  refine lv_aload_n hx hb dX1_mayBe_2 rfl (lv_at hl 0 rfl) ?_
  refine gM_things (v := m_things u) E hS rfl dX1_mayBe_3 ?_
  refine lv_iconst (v := 1) hx hb dX1_mayBe_6 (by decide) ?_
  refine lv_isub hx hb dX1_mayBe_7 ?_
  refine EnM.sti (r := fm_isIn q_x (-1) ((m_things u) - 1)) E hS [.int q_x, .int (-1), .int ((m_things u) - 1)] [] (kX1_isIn l q_x (-1) ((m_things u) - 1) ) (fun _ _ _ _ h => h) (fun _ _ _ => trivial) gc_X1_60 hd_X1_isIn ⟨Nat.le_of_ble_eq_true rfl, Nat.le_of_ble_eq_true rfl⟩ rfl hl.1 (Nat.le_of_ble_eq_true rfl) ⟨Nat.le_refl 0, Nat.le_refl 0⟩ dX1_mayBe_8 (fun H locs hS => ?_)
  exact EnM.iret E hS (ni_b (fm_isIn_01 q_x (-1) ((m_things u) - 1))) (congrArg (fun z => (z, u)) (show fm_isIn q_x (-1) ((m_things u) - 1) = fm_mayBe u q_x by unfold fm_mayBe; rfl)) dX1_mayBe_11
def fm_goesFor (q_a : Int32) (q_b : Int32) : Int32 := if q_a = q_b then 1 else (if q_b = 0 then (if (fm_isIn q_a 1 3) = 0 then (if q_a = 3 then (if q_b = 2 then 1 else (if q_b = 4 then (if q_a = 1 then 1 else (if q_a = 3 then 1 else 0)) else 0)) else (if q_b = 4 then (if q_a = 1 then 1 else (if q_a = 3 then 1 else 0)) else 0)) else 1) else (if q_a = 3 then (if q_b = 2 then 1 else (if q_b = 4 then (if q_a = 1 then 1 else (if q_a = 3 then 1 else 0)) else 0)) else (if q_b = 4 then (if q_a = 1 then 1 else (if q_a = 3 then 1 else 0)) else 0)))
theorem fm_goesFor_01 (q_a : Int32) (q_b : Int32) : fm_goesFor q_a q_b = 0 ∨ fm_goesFor q_a q_b = 1 := by
  unfold fm_goesFor
  (repeat' split) <;> first | exact Or.inl rfl | exact Or.inr rfl | apply fm_isIn_01
theorem hd_X1_goesFor : yX1_goesFor.cls ≠ "java/lang/invoke/MethodHandle" ∧ yX1_goesFor.cls ≠ "java/lang/invoke/VarHandle" ∧ (parseMethodDescriptor yX1_goesFor.desc).map (fun d => d.parameters.length) = some 2 := by decide +kernel
set_option maxRecDepth 100000 in
set_option maxHeartbeats 4000000 in
theorem kX1_goesFor (l : Launch) (q_a : Int32) (q_b : Int32)  : Cs l yX1_goesFor cX1_goesFor 2 .boolean 2 (fun _ => True) [.int q_a, .int q_b] (fm_goesFor q_a q_b) := by
  refine Cs.of (by decide) (Nat.le_of_ble_eq_true rfl) ?_
  intro p e s m below meth c ls E hZ hS hl
  have hx := E.1.1
  have hb := E.1.2.1
  have hml := E.1.2.2.1
  have hown := E.1.2.2.2.1
  have hts := E.1.2.2.2.2
  have hl : lv_has ls 2 [(0, .int q_a), (1, .int q_b)] := hl
  refine lv_iload_n hx hb dX1_goesFor_0 rfl (lv_at hl 0 rfl) ?_
  refine lv_iload_n hx hb dX1_goesFor_1 rfl (lv_at hl 1 rfl) ?_
  refine lv_icmp_eq (tgt := 43) hx hb dX1_goesFor_2 (by decide) (fun h2 => ?_) (fun h2 => ?_)
  · refine lv_iconst (v := 1) hx hb dX1_goesFor_43 (by decide) ?_
    refine lv_goto (tgt := 48) hx hb dX1_goesFor_44 (by decide) ?_
    exact EnS.iret E hS ni_1 (by first | (simp only [fm_goesFor, if_pos h2]; done) | (unfold fm_goesFor; rw [if_pos h2])) dX1_goesFor_48
  · refine lv_iload_n hx hb dX1_goesFor_5 rfl (lv_at hl 1 rfl) ?_
    refine lv_if_ne (tgt := 18) hx hb dX1_goesFor_6 (by decide) (fun h6 => ?_) (fun h6 => ?_)
    · refine lv_iload_n hx hb dX1_goesFor_18 rfl (lv_at hl 0 rfl) ?_
      refine lv_iconst (v := 3) hx hb dX1_goesFor_19 (by decide) ?_
      refine lv_icmp_ne (tgt := 28) hx hb dX1_goesFor_20 (by decide) (fun h20 => ?_) (fun h20 => ?_)
      · refine lv_iload_n hx hb dX1_goesFor_28 rfl (lv_at hl 1 rfl) ?_
        refine lv_iconst (v := 4) hx hb dX1_goesFor_29 (by decide) ?_
        refine lv_icmp_ne (tgt := 47) hx hb dX1_goesFor_30 (by decide) (fun h30 => ?_) (fun h30 => ?_)
        · refine lv_iconst (v := 0) hx hb dX1_goesFor_47 (by decide) ?_
          exact EnS.iret E hS ni_0 (by first | (simp only [fm_goesFor, if_neg h2, if_neg h6, if_neg h20, if_neg h30]; done) | (unfold fm_goesFor; rw [if_neg h2, if_neg h6, if_neg h20, if_neg h30])) dX1_goesFor_48
        · refine lv_iload_n hx hb dX1_goesFor_33 rfl (lv_at hl 0 rfl) ?_
          refine lv_iconst (v := 1) hx hb dX1_goesFor_34 (by decide) ?_
          refine lv_icmp_eq (tgt := 43) hx hb dX1_goesFor_35 (by decide) (fun h35 => ?_) (fun h35 => ?_)
          · refine lv_iconst (v := 1) hx hb dX1_goesFor_43 (by decide) ?_
            refine lv_goto (tgt := 48) hx hb dX1_goesFor_44 (by decide) ?_
            exact EnS.iret E hS ni_1 (by first | (simp only [fm_goesFor, if_neg h2, if_neg h6, if_neg h20, if_pos h30, if_pos h35]; done) | (unfold fm_goesFor; rw [if_neg h2, if_neg h6, if_neg h20, if_pos h30, if_pos h35])) dX1_goesFor_48
          · refine lv_iload_n hx hb dX1_goesFor_38 rfl (lv_at hl 0 rfl) ?_
            refine lv_iconst (v := 3) hx hb dX1_goesFor_39 (by decide) ?_
            refine lv_icmp_ne (tgt := 47) hx hb dX1_goesFor_40 (by decide) (fun h40 => ?_) (fun h40 => ?_)
            · refine lv_iconst (v := 0) hx hb dX1_goesFor_47 (by decide) ?_
              exact EnS.iret E hS ni_0 (by first | (simp only [fm_goesFor, if_neg h2, if_neg h6, if_neg h20, if_pos h30, if_neg h35, if_neg h40]; done) | (unfold fm_goesFor; rw [if_neg h2, if_neg h6, if_neg h20, if_pos h30, if_neg h35, if_neg h40])) dX1_goesFor_48
            · refine lv_iconst (v := 1) hx hb dX1_goesFor_43 (by decide) ?_
              refine lv_goto (tgt := 48) hx hb dX1_goesFor_44 (by decide) ?_
              exact EnS.iret E hS ni_1 (by first | (simp only [fm_goesFor, if_neg h2, if_neg h6, if_neg h20, if_pos h30, if_neg h35, if_pos h40]; done) | (unfold fm_goesFor; rw [if_neg h2, if_neg h6, if_neg h20, if_pos h30, if_neg h35, if_pos h40])) dX1_goesFor_48
      · refine lv_iload_n hx hb dX1_goesFor_23 rfl (lv_at hl 1 rfl) ?_
        refine lv_iconst (v := 2) hx hb dX1_goesFor_24 (by decide) ?_
        refine lv_icmp_eq (tgt := 43) hx hb dX1_goesFor_25 (by decide) (fun h25 => ?_) (fun h25 => ?_)
        · refine lv_iconst (v := 1) hx hb dX1_goesFor_43 (by decide) ?_
          refine lv_goto (tgt := 48) hx hb dX1_goesFor_44 (by decide) ?_
          exact EnS.iret E hS ni_1 (by first | (simp only [fm_goesFor, if_neg h2, if_neg h6, if_pos h20, if_pos h25]; done) | (unfold fm_goesFor; rw [if_neg h2, if_neg h6, if_pos h20, if_pos h25])) dX1_goesFor_48
        · refine lv_iload_n hx hb dX1_goesFor_28 rfl (lv_at hl 1 rfl) ?_
          refine lv_iconst (v := 4) hx hb dX1_goesFor_29 (by decide) ?_
          refine lv_icmp_ne (tgt := 47) hx hb dX1_goesFor_30 (by decide) (fun h30 => ?_) (fun h30 => ?_)
          · refine lv_iconst (v := 0) hx hb dX1_goesFor_47 (by decide) ?_
            exact EnS.iret E hS ni_0 (by first | (simp only [fm_goesFor, if_neg h2, if_neg h6, if_pos h20, if_neg h25, if_neg h30]; done) | (unfold fm_goesFor; rw [if_neg h2, if_neg h6, if_pos h20, if_neg h25, if_neg h30])) dX1_goesFor_48
          · refine lv_iload_n hx hb dX1_goesFor_33 rfl (lv_at hl 0 rfl) ?_
            refine lv_iconst (v := 1) hx hb dX1_goesFor_34 (by decide) ?_
            refine lv_icmp_eq (tgt := 43) hx hb dX1_goesFor_35 (by decide) (fun h35 => ?_) (fun h35 => ?_)
            · refine lv_iconst (v := 1) hx hb dX1_goesFor_43 (by decide) ?_
              refine lv_goto (tgt := 48) hx hb dX1_goesFor_44 (by decide) ?_
              exact EnS.iret E hS ni_1 (by first | (simp only [fm_goesFor, if_neg h2, if_neg h6, if_pos h20, if_neg h25, if_pos h30, if_pos h35]; done) | (unfold fm_goesFor; rw [if_neg h2, if_neg h6, if_pos h20, if_neg h25, if_pos h30, if_pos h35])) dX1_goesFor_48
            · refine lv_iload_n hx hb dX1_goesFor_38 rfl (lv_at hl 0 rfl) ?_
              refine lv_iconst (v := 3) hx hb dX1_goesFor_39 (by decide) ?_
              refine lv_icmp_ne (tgt := 47) hx hb dX1_goesFor_40 (by decide) (fun h40 => ?_) (fun h40 => ?_)
              · refine lv_iconst (v := 0) hx hb dX1_goesFor_47 (by decide) ?_
                exact EnS.iret E hS ni_0 (by first | (simp only [fm_goesFor, if_neg h2, if_neg h6, if_pos h20, if_neg h25, if_pos h30, if_neg h35, if_neg h40]; done) | (unfold fm_goesFor; rw [if_neg h2, if_neg h6, if_pos h20, if_neg h25, if_pos h30, if_neg h35, if_neg h40])) dX1_goesFor_48
              · refine lv_iconst (v := 1) hx hb dX1_goesFor_43 (by decide) ?_
                refine lv_goto (tgt := 48) hx hb dX1_goesFor_44 (by decide) ?_
                exact EnS.iret E hS ni_1 (by first | (simp only [fm_goesFor, if_neg h2, if_neg h6, if_pos h20, if_neg h25, if_pos h30, if_neg h35, if_pos h40]; done) | (unfold fm_goesFor; rw [if_neg h2, if_neg h6, if_pos h20, if_neg h25, if_pos h30, if_neg h35, if_pos h40])) dX1_goesFor_48
    · refine lv_iload_n hx hb dX1_goesFor_9 rfl (lv_at hl 0 rfl) ?_
      refine lv_iconst (v := 1) hx hb dX1_goesFor_10 (by decide) ?_
      refine lv_iconst (v := 3) hx hb dX1_goesFor_11 (by decide) ?_
      refine EnS.sti (r := fm_isIn q_a 1 3) E hS [.int q_a, .int 1, .int 3] [] (kX1_isIn l q_a 1 3 ) (fun _ _ _ _ h => h) (fun _ _ _ => trivial) gc_X1_60 hd_X1_isIn ⟨Nat.le_of_ble_eq_true rfl, Nat.le_of_ble_eq_true rfl⟩ rfl hl.1 (Nat.le_of_ble_eq_true rfl) ⟨Nat.le_refl 0, Nat.le_refl 0⟩ dX1_goesFor_12 (fun H locs hS => ?_)
      refine lv_if_ne (tgt := 43) hx hb dX1_goesFor_15 (by decide) (fun h15 => ?_) (fun h15 => ?_)
      · refine lv_iconst (v := 1) hx hb dX1_goesFor_43 (by decide) ?_
        refine lv_goto (tgt := 48) hx hb dX1_goesFor_44 (by decide) ?_
        exact EnS.iret E hS ni_1 (by first | (simp only [fm_goesFor, if_neg h2, if_pos h6, if_neg h15]; done) | (unfold fm_goesFor; rw [if_neg h2, if_pos h6, if_neg h15])) dX1_goesFor_48
      · refine lv_iload_n hx hb dX1_goesFor_18 rfl (lv_at hl 0 rfl) ?_
        refine lv_iconst (v := 3) hx hb dX1_goesFor_19 (by decide) ?_
        refine lv_icmp_ne (tgt := 28) hx hb dX1_goesFor_20 (by decide) (fun h20 => ?_) (fun h20 => ?_)
        · refine lv_iload_n hx hb dX1_goesFor_28 rfl (lv_at hl 1 rfl) ?_
          refine lv_iconst (v := 4) hx hb dX1_goesFor_29 (by decide) ?_
          refine lv_icmp_ne (tgt := 47) hx hb dX1_goesFor_30 (by decide) (fun h30 => ?_) (fun h30 => ?_)
          · refine lv_iconst (v := 0) hx hb dX1_goesFor_47 (by decide) ?_
            exact EnS.iret E hS ni_0 (by first | (simp only [fm_goesFor, if_neg h2, if_pos h6, if_pos h15, if_neg h20, if_neg h30]; done) | (unfold fm_goesFor; rw [if_neg h2, if_pos h6, if_pos h15, if_neg h20, if_neg h30])) dX1_goesFor_48
          · refine lv_iload_n hx hb dX1_goesFor_33 rfl (lv_at hl 0 rfl) ?_
            refine lv_iconst (v := 1) hx hb dX1_goesFor_34 (by decide) ?_
            refine lv_icmp_eq (tgt := 43) hx hb dX1_goesFor_35 (by decide) (fun h35 => ?_) (fun h35 => ?_)
            · refine lv_iconst (v := 1) hx hb dX1_goesFor_43 (by decide) ?_
              refine lv_goto (tgt := 48) hx hb dX1_goesFor_44 (by decide) ?_
              exact EnS.iret E hS ni_1 (by first | (simp only [fm_goesFor, if_neg h2, if_pos h6, if_pos h15, if_neg h20, if_pos h30, if_pos h35]; done) | (unfold fm_goesFor; rw [if_neg h2, if_pos h6, if_pos h15, if_neg h20, if_pos h30, if_pos h35])) dX1_goesFor_48
            · refine lv_iload_n hx hb dX1_goesFor_38 rfl (lv_at hl 0 rfl) ?_
              refine lv_iconst (v := 3) hx hb dX1_goesFor_39 (by decide) ?_
              refine lv_icmp_ne (tgt := 47) hx hb dX1_goesFor_40 (by decide) (fun h40 => ?_) (fun h40 => ?_)
              · refine lv_iconst (v := 0) hx hb dX1_goesFor_47 (by decide) ?_
                exact EnS.iret E hS ni_0 (by first | (simp only [fm_goesFor, if_neg h2, if_pos h6, if_pos h15, if_neg h20, if_pos h30, if_neg h35, if_neg h40]; done) | (unfold fm_goesFor; rw [if_neg h2, if_pos h6, if_pos h15, if_neg h20, if_pos h30, if_neg h35, if_neg h40])) dX1_goesFor_48
              · refine lv_iconst (v := 1) hx hb dX1_goesFor_43 (by decide) ?_
                refine lv_goto (tgt := 48) hx hb dX1_goesFor_44 (by decide) ?_
                exact EnS.iret E hS ni_1 (by first | (simp only [fm_goesFor, if_neg h2, if_pos h6, if_pos h15, if_neg h20, if_pos h30, if_neg h35, if_pos h40]; done) | (unfold fm_goesFor; rw [if_neg h2, if_pos h6, if_pos h15, if_neg h20, if_pos h30, if_neg h35, if_pos h40])) dX1_goesFor_48
        · refine lv_iload_n hx hb dX1_goesFor_23 rfl (lv_at hl 1 rfl) ?_
          refine lv_iconst (v := 2) hx hb dX1_goesFor_24 (by decide) ?_
          refine lv_icmp_eq (tgt := 43) hx hb dX1_goesFor_25 (by decide) (fun h25 => ?_) (fun h25 => ?_)
          · refine lv_iconst (v := 1) hx hb dX1_goesFor_43 (by decide) ?_
            refine lv_goto (tgt := 48) hx hb dX1_goesFor_44 (by decide) ?_
            exact EnS.iret E hS ni_1 (by first | (simp only [fm_goesFor, if_neg h2, if_pos h6, if_pos h15, if_pos h20, if_pos h25]; done) | (unfold fm_goesFor; rw [if_neg h2, if_pos h6, if_pos h15, if_pos h20, if_pos h25])) dX1_goesFor_48
          · refine lv_iload_n hx hb dX1_goesFor_28 rfl (lv_at hl 1 rfl) ?_
            refine lv_iconst (v := 4) hx hb dX1_goesFor_29 (by decide) ?_
            refine lv_icmp_ne (tgt := 47) hx hb dX1_goesFor_30 (by decide) (fun h30 => ?_) (fun h30 => ?_)
            · refine lv_iconst (v := 0) hx hb dX1_goesFor_47 (by decide) ?_
              exact EnS.iret E hS ni_0 (by first | (simp only [fm_goesFor, if_neg h2, if_pos h6, if_pos h15, if_pos h20, if_neg h25, if_neg h30]; done) | (unfold fm_goesFor; rw [if_neg h2, if_pos h6, if_pos h15, if_pos h20, if_neg h25, if_neg h30])) dX1_goesFor_48
            · refine lv_iload_n hx hb dX1_goesFor_33 rfl (lv_at hl 0 rfl) ?_
              refine lv_iconst (v := 1) hx hb dX1_goesFor_34 (by decide) ?_
              refine lv_icmp_eq (tgt := 43) hx hb dX1_goesFor_35 (by decide) (fun h35 => ?_) (fun h35 => ?_)
              · refine lv_iconst (v := 1) hx hb dX1_goesFor_43 (by decide) ?_
                refine lv_goto (tgt := 48) hx hb dX1_goesFor_44 (by decide) ?_
                exact EnS.iret E hS ni_1 (by first | (simp only [fm_goesFor, if_neg h2, if_pos h6, if_pos h15, if_pos h20, if_neg h25, if_pos h30, if_pos h35]; done) | (unfold fm_goesFor; rw [if_neg h2, if_pos h6, if_pos h15, if_pos h20, if_neg h25, if_pos h30, if_pos h35])) dX1_goesFor_48
              · refine lv_iload_n hx hb dX1_goesFor_38 rfl (lv_at hl 0 rfl) ?_
                refine lv_iconst (v := 3) hx hb dX1_goesFor_39 (by decide) ?_
                refine lv_icmp_ne (tgt := 47) hx hb dX1_goesFor_40 (by decide) (fun h40 => ?_) (fun h40 => ?_)
                · refine lv_iconst (v := 0) hx hb dX1_goesFor_47 (by decide) ?_
                  exact EnS.iret E hS ni_0 (by first | (simp only [fm_goesFor, if_neg h2, if_pos h6, if_pos h15, if_pos h20, if_neg h25, if_pos h30, if_neg h35, if_neg h40]; done) | (unfold fm_goesFor; rw [if_neg h2, if_pos h6, if_pos h15, if_pos h20, if_neg h25, if_pos h30, if_neg h35, if_neg h40])) dX1_goesFor_48
                · refine lv_iconst (v := 1) hx hb dX1_goesFor_43 (by decide) ?_
                  refine lv_goto (tgt := 48) hx hb dX1_goesFor_44 (by decide) ?_
                  exact EnS.iret E hS ni_1 (by first | (simp only [fm_goesFor, if_neg h2, if_pos h6, if_pos h15, if_pos h20, if_neg h25, if_pos h30, if_neg h35, if_pos h40]; done) | (unfold fm_goesFor; rw [if_neg h2, if_pos h6, if_pos h15, if_pos h20, if_neg h25, if_pos h30, if_neg h35, if_pos h40])) dX1_goesFor_48
def fm_isLedger (u : MS) (q_x : Int32) : Int32 := if (m_depths u (q_x).toNatClampNeg) = 1 then (if (m_bases u (q_x).toNatClampNeg) ≤ 4 then 0 else 1) else 0
theorem fm_isLedger_01 (u : MS) (q_x : Int32) : fm_isLedger u q_x = 0 ∨ fm_isLedger u q_x = 1 := by
  unfold fm_isLedger
  (repeat' split) <;> first | exact Or.inl rfl | exact Or.inr rfl
theorem hd_X1_isLedger : yX1_isLedger.cls = RX1 ∧ yX1_isLedger.cls ≠ "java/lang/invoke/MethodHandle" ∧ yX1_isLedger.cls ≠ "java/lang/invoke/VarHandle" ∧ (parseMethodDescriptor yX1_isLedger.desc).map (fun d => d.parameters.length) = some 1 := by decide +kernel
set_option maxRecDepth 100000 in
set_option maxHeartbeats 4000000 in
theorem kX1_isLedger (l : Launch) (D : va_G) (ad : Nat → Nat) (ca : Nat → ClassId) (g : Nat) (u : MS) (q_x : Int32) (hqx : vp_in q_x 60) : CiM l yX1_isLedger cX1_isLedger 2 .boolean 1 D ad ca g [.int q_x] u ((fm_isLedger u q_x, u)) := by
  refine CiM.of (by decide) rfl (Nat.le_of_ble_eq_true rfl) ?_
  intro p e s m below meth c A ls E hS hl
  have hx := E.1.1
  have hb := E.1.2.1
  have hml := E.1.2.2.1
  have hown := E.1.2.2.2.1
  have hts := E.1.2.2.2.2
  have hl : lv_has ls 2 [(0, .ref (ad 0)), (1, .int q_x)] := hl
  refine lv_aload_n hx hb dX1_isLedger_0 rfl (lv_at hl 0 rfl) ?_
  refine gM_depths E hS dX1_isLedger_1 ?_
  refine lv_iload_n hx hb dX1_isLedger_4 rfl (lv_at hl 1 rfl) ?_
  refine lM_depths (v := m_depths u (q_x).toNatClampNeg) E hS (show vp_in q_x 60 from by first | with_reducible assumption | (refine hqr ?_; with_reducible assumption)) rfl dX1_isLedger_5 ?_
  refine lv_iconst (v := 1) hx hb dX1_isLedger_6 (by decide) ?_
  refine lv_icmp_ne (tgt := 24) hx hb dX1_isLedger_7 (by decide) (fun h7 => ?_) (fun h7 => ?_)
  · refine lv_iconst (v := 0) hx hb dX1_isLedger_24 (by decide) ?_
    exact EnM.iret E hS ni_0 (congrArg (fun z => (z, u)) (show (0 : Int32) = fm_isLedger u q_x by unfold fm_isLedger; rw [if_neg h7])) dX1_isLedger_25
  · refine lv_aload_n hx hb dX1_isLedger_10 rfl (lv_at hl 0 rfl) ?_
    refine gM_bases E hS dX1_isLedger_11 ?_
    refine lv_iload_n hx hb dX1_isLedger_14 rfl (lv_at hl 1 rfl) ?_
    refine lM_bases (v := m_bases u (q_x).toNatClampNeg) E hS (show vp_in q_x 60 from by first | with_reducible assumption | (refine hqr ?_; with_reducible assumption)) rfl dX1_isLedger_15 ?_
    refine lv_iconst (v := 4) hx hb dX1_isLedger_16 (by decide) ?_
    refine lv_icmp_le (tgt := 24) hx hb dX1_isLedger_17 (by decide) (fun h17 => ?_) (fun h17 => ?_)
    · refine lv_iconst (v := 0) hx hb dX1_isLedger_24 (by decide) ?_
      exact EnM.iret E hS ni_0 (congrArg (fun z => (z, u)) (show (0 : Int32) = fm_isLedger u q_x by unfold fm_isLedger; rw [if_pos h7, if_pos h17])) dX1_isLedger_25
    · refine lv_iconst (v := 1) hx hb dX1_isLedger_20 (by decide) ?_
      refine lv_goto (tgt := 25) hx hb dX1_isLedger_21 (by decide) ?_
      exact EnM.iret E hS ni_1 (congrArg (fun z => (z, u)) (show (1 : Int32) = fm_isLedger u q_x by unfold fm_isLedger; rw [if_pos h7, if_neg h17])) dX1_isLedger_25
def fm_isShape (q_base : Int32) (q_depth : Int32) : Int32 := if (fm_isIn q_base 0 6) = 0 then 0 else (if q_base ≤ 4 then (if (fm_isIn q_depth 1 3) = 0 then 0 else 1) else (if (fm_isIn q_depth 1 2) = 0 then 0 else 1))
theorem fm_isShape_01 (q_base : Int32) (q_depth : Int32) : fm_isShape q_base q_depth = 0 ∨ fm_isShape q_base q_depth = 1 := by
  unfold fm_isShape
  (repeat' split) <;> first | exact Or.inl rfl | exact Or.inr rfl | apply fm_isIn_01
theorem hd_X1_isShape : yX1_isShape.cls ≠ "java/lang/invoke/MethodHandle" ∧ yX1_isShape.cls ≠ "java/lang/invoke/VarHandle" ∧ (parseMethodDescriptor yX1_isShape.desc).map (fun d => d.parameters.length) = some 2 := by decide +kernel
set_option maxRecDepth 100000 in
set_option maxHeartbeats 4000000 in
theorem kX1_isShape (l : Launch) (q_base : Int32) (q_depth : Int32)  : Cs l yX1_isShape cX1_isShape 2 .boolean 2 (fun _ => True) [.int q_base, .int q_depth] (fm_isShape q_base q_depth) := by
  refine Cs.of (by decide) (Nat.le_of_ble_eq_true rfl) ?_
  intro p e s m below meth c ls E hZ hS hl
  have hx := E.1.1
  have hb := E.1.2.1
  have hml := E.1.2.2.1
  have hown := E.1.2.2.2.1
  have hts := E.1.2.2.2.2
  have hl : lv_has ls 2 [(0, .int q_base), (1, .int q_depth)] := hl
  refine lv_iload_n hx hb dX1_isShape_0 rfl (lv_at hl 0 rfl) ?_
  refine lv_iconst (v := 0) hx hb dX1_isShape_1 (by decide) ?_
  refine lv_bipush (v := 6) hx hb dX1_isShape_2 (by decide) ?_
  refine EnS.sti (r := fm_isIn q_base 0 6) E hS [.int q_base, .int 0, .int 6] [] (kX1_isIn l q_base 0 6 ) (fun _ _ _ _ h => h) (fun _ _ _ => trivial) gc_X1_60 hd_X1_isIn ⟨Nat.le_of_ble_eq_true rfl, Nat.le_of_ble_eq_true rfl⟩ rfl hl.1 (Nat.le_of_ble_eq_true rfl) ⟨Nat.le_refl 0, Nat.le_refl 0⟩ dX1_isShape_4 (fun H locs hS => ?_)
  refine lv_if_eq (tgt := 32) hx hb dX1_isShape_7 (by decide) (fun h7 => ?_) (fun h7 => ?_)
  · refine lv_iconst (v := 0) hx hb dX1_isShape_32 (by decide) ?_
    exact EnS.iret E hS ni_0 (by first | (simp only [fm_isShape, if_pos h7]; done) | (unfold fm_isShape; rw [if_pos h7])) dX1_isShape_33
  · refine lv_iload_n hx hb dX1_isShape_10 rfl (lv_at hl 1 rfl) ?_
    refine lv_iconst (v := 1) hx hb dX1_isShape_11 (by decide) ?_
    refine lv_iload_n hx hb dX1_isShape_12 rfl (lv_at hl 0 rfl) ?_
    refine lv_iconst (v := 4) hx hb dX1_isShape_13 (by decide) ?_
    refine lv_icmp_le (tgt := 21) hx hb dX1_isShape_14 (by decide) (fun h14 => ?_) (fun h14 => ?_)
    · refine lv_iconst (v := 3) hx hb dX1_isShape_21 (by decide) ?_
      refine EnS.sti (r := fm_isIn q_depth 1 3) E hS [.int q_depth, .int 1, .int 3] [] (kX1_isIn l q_depth 1 3 ) (fun _ _ _ _ h => h) (fun _ _ _ => trivial) gc_X1_60 hd_X1_isIn ⟨Nat.le_of_ble_eq_true rfl, Nat.le_of_ble_eq_true rfl⟩ rfl hl.1 (Nat.le_of_ble_eq_true rfl) ⟨Nat.le_refl 0, Nat.le_refl 0⟩ dX1_isShape_22 (fun H locs hS => ?_)
      refine lv_if_eq (tgt := 32) hx hb dX1_isShape_25 (by decide) (fun h25 => ?_) (fun h25 => ?_)
      · refine lv_iconst (v := 0) hx hb dX1_isShape_32 (by decide) ?_
        exact EnS.iret E hS ni_0 (by first | (simp only [fm_isShape, if_neg h7, if_pos h14, if_pos h25]; done) | (unfold fm_isShape; rw [if_neg h7, if_pos h14, if_pos h25])) dX1_isShape_33
      · refine lv_iconst (v := 1) hx hb dX1_isShape_28 (by decide) ?_
        refine lv_goto (tgt := 33) hx hb dX1_isShape_29 (by decide) ?_
        exact EnS.iret E hS ni_1 (by first | (simp only [fm_isShape, if_neg h7, if_pos h14, if_neg h25]; done) | (unfold fm_isShape; rw [if_neg h7, if_pos h14, if_neg h25])) dX1_isShape_33
    · refine lv_iconst (v := 2) hx hb dX1_isShape_17 (by decide) ?_
      refine lv_goto (tgt := 22) hx hb dX1_isShape_18 (by decide) ?_
      refine EnS.sti (r := fm_isIn q_depth 1 2) E hS [.int q_depth, .int 1, .int 2] [] (kX1_isIn l q_depth 1 2 ) (fun _ _ _ _ h => h) (fun _ _ _ => trivial) gc_X1_60 hd_X1_isIn ⟨Nat.le_of_ble_eq_true rfl, Nat.le_of_ble_eq_true rfl⟩ rfl hl.1 (Nat.le_of_ble_eq_true rfl) ⟨Nat.le_refl 0, Nat.le_refl 0⟩ dX1_isShape_22 (fun H locs hS => ?_)
      refine lv_if_eq (tgt := 32) hx hb dX1_isShape_25 (by decide) (fun h25 => ?_) (fun h25 => ?_)
      · refine lv_iconst (v := 0) hx hb dX1_isShape_32 (by decide) ?_
        exact EnS.iret E hS ni_0 (by first | (simp only [fm_isShape, if_neg h7, if_neg h14, if_pos h25]; done) | (unfold fm_isShape; rw [if_neg h7, if_neg h14, if_pos h25])) dX1_isShape_33
      · refine lv_iconst (v := 1) hx hb dX1_isShape_28 (by decide) ?_
        refine lv_goto (tgt := 33) hx hb dX1_isShape_29 (by decide) ?_
        exact EnS.iret E hS ni_1 (by first | (simp only [fm_isShape, if_neg h7, if_neg h14, if_neg h25]; done) | (unfold fm_isShape; rw [if_neg h7, if_neg h14, if_neg h25])) dX1_isShape_33
def fm_isAsked (q_base : Int32) (q_depth : Int32) : Int32 := if (fm_isIn q_base 0 6) = 0 then 0 else (if (fm_isIn q_depth 0 3) = 0 then 0 else (if q_base ≤ 4 then 1 else (if (fm_isIn q_depth 1 2) = 0 then 0 else 1)))
theorem fm_isAsked_01 (q_base : Int32) (q_depth : Int32) : fm_isAsked q_base q_depth = 0 ∨ fm_isAsked q_base q_depth = 1 := by
  unfold fm_isAsked
  (repeat' split) <;> first | exact Or.inl rfl | exact Or.inr rfl | apply fm_isIn_01
theorem hd_X1_isAsked : yX1_isAsked.cls ≠ "java/lang/invoke/MethodHandle" ∧ yX1_isAsked.cls ≠ "java/lang/invoke/VarHandle" ∧ (parseMethodDescriptor yX1_isAsked.desc).map (fun d => d.parameters.length) = some 2 := by decide +kernel
set_option maxRecDepth 100000 in
set_option maxHeartbeats 4000000 in
theorem kX1_isAsked (l : Launch) (q_base : Int32) (q_depth : Int32)  : Cs l yX1_isAsked cX1_isAsked 2 .boolean 2 (fun _ => True) [.int q_base, .int q_depth] (fm_isAsked q_base q_depth) := by
  refine Cs.of (by decide) (Nat.le_of_ble_eq_true rfl) ?_
  intro p e s m below meth c ls E hZ hS hl
  have hx := E.1.1
  have hb := E.1.2.1
  have hml := E.1.2.2.1
  have hown := E.1.2.2.2.1
  have hts := E.1.2.2.2.2
  have hl : lv_has ls 2 [(0, .int q_base), (1, .int q_depth)] := hl
  refine lv_iload_n hx hb dX1_isAsked_0 rfl (lv_at hl 0 rfl) ?_
  refine lv_iconst (v := 0) hx hb dX1_isAsked_1 (by decide) ?_
  refine lv_bipush (v := 6) hx hb dX1_isAsked_2 (by decide) ?_
  refine EnS.sti (r := fm_isIn q_base 0 6) E hS [.int q_base, .int 0, .int 6] [] (kX1_isIn l q_base 0 6 ) (fun _ _ _ _ h => h) (fun _ _ _ => trivial) gc_X1_60 hd_X1_isIn ⟨Nat.le_of_ble_eq_true rfl, Nat.le_of_ble_eq_true rfl⟩ rfl hl.1 (Nat.le_of_ble_eq_true rfl) ⟨Nat.le_refl 0, Nat.le_refl 0⟩ dX1_isAsked_4 (fun H locs hS => ?_)
  refine lv_if_eq (tgt := 37) hx hb dX1_isAsked_7 (by decide) (fun h7 => ?_) (fun h7 => ?_)
  · refine lv_iconst (v := 0) hx hb dX1_isAsked_37 (by decide) ?_
    exact EnS.iret E hS ni_0 (by first | (simp only [fm_isAsked, if_pos h7]; done) | (unfold fm_isAsked; rw [if_pos h7])) dX1_isAsked_38
  · refine lv_iload_n hx hb dX1_isAsked_10 rfl (lv_at hl 1 rfl) ?_
    refine lv_iconst (v := 0) hx hb dX1_isAsked_11 (by decide) ?_
    refine lv_iconst (v := 3) hx hb dX1_isAsked_12 (by decide) ?_
    refine EnS.sti (r := fm_isIn q_depth 0 3) E hS [.int q_depth, .int 0, .int 3] [] (kX1_isIn l q_depth 0 3 ) (fun _ _ _ _ h => h) (fun _ _ _ => trivial) gc_X1_60 hd_X1_isIn ⟨Nat.le_of_ble_eq_true rfl, Nat.le_of_ble_eq_true rfl⟩ rfl hl.1 (Nat.le_of_ble_eq_true rfl) ⟨Nat.le_refl 0, Nat.le_refl 0⟩ dX1_isAsked_13 (fun H locs hS => ?_)
    refine lv_if_eq (tgt := 37) hx hb dX1_isAsked_16 (by decide) (fun h16 => ?_) (fun h16 => ?_)
    · refine lv_iconst (v := 0) hx hb dX1_isAsked_37 (by decide) ?_
      exact EnS.iret E hS ni_0 (by first | (simp only [fm_isAsked, if_neg h7, if_pos h16]; done) | (unfold fm_isAsked; rw [if_neg h7, if_pos h16])) dX1_isAsked_38
    · refine lv_iload_n hx hb dX1_isAsked_19 rfl (lv_at hl 0 rfl) ?_
      refine lv_iconst (v := 4) hx hb dX1_isAsked_20 (by decide) ?_
      refine lv_icmp_le (tgt := 33) hx hb dX1_isAsked_21 (by decide) (fun h21 => ?_) (fun h21 => ?_)
      · refine lv_iconst (v := 1) hx hb dX1_isAsked_33 (by decide) ?_
        refine lv_goto (tgt := 38) hx hb dX1_isAsked_34 (by decide) ?_
        exact EnS.iret E hS ni_1 (by first | (simp only [fm_isAsked, if_neg h7, if_neg h16, if_pos h21]; done) | (unfold fm_isAsked; rw [if_neg h7, if_neg h16, if_pos h21])) dX1_isAsked_38
      · refine lv_iload_n hx hb dX1_isAsked_24 rfl (lv_at hl 1 rfl) ?_
        refine lv_iconst (v := 1) hx hb dX1_isAsked_25 (by decide) ?_
        refine lv_iconst (v := 2) hx hb dX1_isAsked_26 (by decide) ?_
        refine EnS.sti (r := fm_isIn q_depth 1 2) E hS [.int q_depth, .int 1, .int 2] [] (kX1_isIn l q_depth 1 2 ) (fun _ _ _ _ h => h) (fun _ _ _ => trivial) gc_X1_60 hd_X1_isIn ⟨Nat.le_of_ble_eq_true rfl, Nat.le_of_ble_eq_true rfl⟩ rfl hl.1 (Nat.le_of_ble_eq_true rfl) ⟨Nat.le_refl 0, Nat.le_refl 0⟩ dX1_isAsked_27 (fun H locs hS => ?_)
        refine lv_if_eq (tgt := 37) hx hb dX1_isAsked_30 (by decide) (fun h30 => ?_) (fun h30 => ?_)
        · refine lv_iconst (v := 0) hx hb dX1_isAsked_37 (by decide) ?_
          exact EnS.iret E hS ni_0 (by first | (simp only [fm_isAsked, if_neg h7, if_neg h16, if_neg h21, if_pos h30]; done) | (unfold fm_isAsked; rw [if_neg h7, if_neg h16, if_neg h21, if_pos h30])) dX1_isAsked_38
        · refine lv_iconst (v := 1) hx hb dX1_isAsked_33 (by decide) ?_
          refine lv_goto (tgt := 38) hx hb dX1_isAsked_34 (by decide) ?_
          exact EnS.iret E hS ni_1 (by first | (simp only [fm_isAsked, if_neg h7, if_neg h16, if_neg h21, if_neg h30]; done) | (unfold fm_isAsked; rw [if_neg h7, if_neg h16, if_neg h21, if_neg h30])) dX1_isAsked_38
def fm_isSpan (q_i : Int32) (q_n : Int32) (q_size : Int32) : Int32 := if q_i < 0 then 0 else (if q_n < 0 then 0 else (if (q_size - q_n) < q_i then 0 else 1))
theorem fm_isSpan_01 (q_i : Int32) (q_n : Int32) (q_size : Int32) : fm_isSpan q_i q_n q_size = 0 ∨ fm_isSpan q_i q_n q_size = 1 := by
  unfold fm_isSpan
  (repeat' split) <;> first | exact Or.inl rfl | exact Or.inr rfl
theorem hd_X1_isSpan : yX1_isSpan.cls ≠ "java/lang/invoke/MethodHandle" ∧ yX1_isSpan.cls ≠ "java/lang/invoke/VarHandle" ∧ (parseMethodDescriptor yX1_isSpan.desc).map (fun d => d.parameters.length) = some 3 := by decide +kernel
set_option maxRecDepth 100000 in
set_option maxHeartbeats 4000000 in
theorem kX1_isSpan (l : Launch) (q_i : Int32) (q_n : Int32) (q_size : Int32)  : Cs l yX1_isSpan cX1_isSpan 3 .boolean 1 (fun _ => True) [.int q_i, .int q_n, .int q_size] (fm_isSpan q_i q_n q_size) := by
  refine Cs.of (by decide) (Nat.le_of_ble_eq_true rfl) ?_
  intro p e s m below meth c ls E hZ hS hl
  have hx := E.1.1
  have hb := E.1.2.1
  have hml := E.1.2.2.1
  have hown := E.1.2.2.2.1
  have hts := E.1.2.2.2.2
  have hl : lv_has ls 3 [(0, .int q_i), (1, .int q_n), (2, .int q_size)] := hl
  refine lv_iload_n hx hb dX1_isSpan_0 rfl (lv_at hl 0 rfl) ?_
  refine lv_if_lt (tgt := 19) hx hb dX1_isSpan_1 (by decide) (fun h1 => ?_) (fun h1 => ?_)
  · refine lv_iconst (v := 0) hx hb dX1_isSpan_19 (by decide) ?_
    exact EnS.iret E hS ni_0 (by first | (simp only [fm_isSpan, if_pos h1]; done) | (unfold fm_isSpan; rw [if_pos h1])) dX1_isSpan_20
  · refine lv_iload_n hx hb dX1_isSpan_4 rfl (lv_at hl 1 rfl) ?_
    refine lv_if_lt (tgt := 19) hx hb dX1_isSpan_5 (by decide) (fun h5 => ?_) (fun h5 => ?_)
    · refine lv_iconst (v := 0) hx hb dX1_isSpan_19 (by decide) ?_
      exact EnS.iret E hS ni_0 (by first | (simp only [fm_isSpan, if_neg h1, if_pos h5]; done) | (unfold fm_isSpan; rw [if_neg h1, if_pos h5])) dX1_isSpan_20
    · refine lv_iload_n hx hb dX1_isSpan_8 rfl (lv_at hl 0 rfl) ?_
      refine lv_iload_n hx hb dX1_isSpan_9 rfl (lv_at hl 2 rfl) ?_
      refine lv_iload_n hx hb dX1_isSpan_10 rfl (lv_at hl 1 rfl) ?_
      refine lv_isub hx hb dX1_isSpan_11 ?_
      refine lv_icmp_gt (tgt := 19) hx hb dX1_isSpan_12 (by decide) (fun h12 => ?_) (fun h12 => ?_)
      · refine lv_iconst (v := 0) hx hb dX1_isSpan_19 (by decide) ?_
        exact EnS.iret E hS ni_0 (by first | (simp only [fm_isSpan, if_neg h1, if_neg h5, if_pos h12]; done) | (unfold fm_isSpan; rw [if_neg h1, if_neg h5, if_pos h12])) dX1_isSpan_20
      · refine lv_iconst (v := 1) hx hb dX1_isSpan_15 (by decide) ?_
        refine lv_goto (tgt := 20) hx hb dX1_isSpan_16 (by decide) ?_
        exact EnS.iret E hS ni_1 (by first | (simp only [fm_isSpan, if_neg h1, if_neg h5, if_neg h12]; done) | (unfold fm_isSpan; rw [if_neg h1, if_neg h5, if_neg h12])) dX1_isSpan_20
theorem isIn_iff {a b c : Int32} : ¬ fm_isIn a b c = 0 ↔ b.toInt ≤ a.toInt ∧ a.toInt ≤ c.toInt := by
  unfold fm_isIn
  by_cases h1 : a < b
  · rw [if_pos h1]; rw [lt_ti] at h1
    constructor
    · intro h; exact absurd rfl h
    · intro h; omega
  rw [if_neg h1]; rw [lt_ti] at h1
  by_cases h2 : c < a
  · rw [if_pos h2]; rw [lt_ti] at h2
    constructor
    · intro h; exact absurd rfl h
    · intro h; omega
  rw [if_neg h2]; rw [lt_ti] at h2
  constructor
  · intro _; omega
  · intro _; decide
theorem th_1 {u : MS} (hI : MI u) : (m_things u - 1).toInt = (m_things u).toInt - 1 := by
  have h := hI.1
  rw [ti_sub (by rw [ti1]; omega) (by rw [ti1]; omega), ti1]
theorem mthing_iff {u : MS} (hI : MI u) {x : Int32} : ¬ fm_isThing u x = 0 ↔ 0 ≤ x.toInt ∧ x.toInt < (m_things u).toInt := by
  unfold fm_isThing
  rw [isIn_iff, th_1 hI, ti0]; omega
theorem mmay_iff {u : MS} (hI : MI u) {x : Int32} : ¬ fm_mayBe u x = 0 ↔ -1 ≤ x.toInt ∧ x.toInt < (m_things u).toInt := by
  unfold fm_mayBe
  rw [isIn_iff, th_1 hI, tim1]; omega
theorem mt_in {u : MS} (hI : MI u) {x : Int32} (h : ¬ fm_isThing u x = 0) : vp_in x 60 := by
  have h1 := (mthing_iff hI).mp h
  have h2 := hI.1
  rw [vp_in_iff]; omega
theorem mb_lt {u : MS} (hI : MI u) {x : Int32} (h : ¬ fm_mayBe u x = 0) : x.toInt < 60 := by
  have h1 := (mmay_iff hI).mp h
  have h2 := hI.1
  omega
theorem ne_m1 {x : Int32} : ¬ x = (-1) ↔ ¬ x.toInt = -1 := by
  rw [← tim1]
  exact not_congr (Int32.toInt_inj.symm)
theorem mn_in {u : MS} (hI : MI u) {x : Int32} (h : ¬ fm_mayBe u x = 0) (h2 : ¬ x = (-1)) : vp_in x 60 := by
  have h1 := (mmay_iff hI).mp h
  have h3 := hI.1
  rw [ne_m1] at h2
  rw [vp_in_iff]; omega
theorem mi_ti {r i : Int32} (hr : vp_in r 60) (h0 : 0 ≤ i.toInt) (h8 : i.toInt ≤ 8) : ((8 * r) + i).toInt = 8 * r.toInt + i.toInt := by
  rw [vp_in_iff] at hr
  have e1 : (8 * r).toInt = 8 * r.toInt := by
    have h := ti_mul (a := 8) (b := r) (by rw [ti8]; omega) (by rw [ti8]; omega)
    rw [h, ti8]
  rw [ti_add (by omega) (by omega), e1]
theorem mi_8 {r : Int32} (hr : vp_in r 60) : (8 * r).toInt = 8 * r.toInt := by
  rw [vp_in_iff] at hr
  have h := ti_mul (a := 8) (b := r) (by rw [ti8]; omega) (by rw [ti8]; omega)
  rw [h, ti8]
theorem mi_in {r i : Int32} (hr : vp_in r 60) (h0 : 0 ≤ i.toInt) (h8 : i.toInt < 8) : vp_in ((8 * r) + i) 480 := by
  have h := mi_ti hr h0 (by omega)
  rw [vp_in_iff] at hr ⊢
  omega
theorem mi_cl {r i : Int32} (hr : vp_in r 60) (h0 : 0 ≤ i.toInt) (h8 : i.toInt ≤ 8) : ((8 * r) + i).toNatClampNeg = 8 * r.toNatClampNeg + i.toNatClampNeg := by
  have h := mi_ti hr h0 h8
  rw [vp_in_iff] at hr
  have e1 := cl_ti (a := (8 * r) + i) (by omega)
  have e2 := cl_ti (a := r) (by omega)
  have e3 := cl_ti (a := i) (by omega)
  omega
theorem mj_ti {r i k : Int32} (hr : vp_in r 60) (h0 : 0 ≤ i.toInt) (hk : 0 ≤ k.toInt) (h8 : i.toInt + k.toInt ≤ 8) : (((8 * r) + i) + k).toInt = 8 * r.toInt + i.toInt + k.toInt := by
  have h := mi_ti hr h0 (by omega)
  rw [vp_in_iff] at hr
  rw [ti_add (by omega) (by omega), h]
theorem mj_in {r i k : Int32} (hr : vp_in r 60) (h0 : 0 ≤ i.toInt) (hk : 0 ≤ k.toInt) (h8 : i.toInt + k.toInt < 8) : vp_in (((8 * r) + i) + k) 480 := by
  have h := mj_ti hr h0 hk (by omega)
  rw [vp_in_iff] at hr ⊢
  omega
theorem mj_cl {r i k : Int32} (hr : vp_in r 60) (h0 : 0 ≤ i.toInt) (hk : 0 ≤ k.toInt) (h8 : i.toInt + k.toInt ≤ 8) : (((8 * r) + i) + k).toNatClampNeg = 8 * r.toNatClampNeg + i.toNatClampNeg + k.toNatClampNeg := by
  have h := mj_ti hr h0 hk h8
  rw [vp_in_iff] at hr
  have e1 := cl_ti (a := ((8 * r) + i) + k) (by omega)
  have e2 := cl_ti (a := r) (by omega)
  have e3 := cl_ti (a := i) (by omega)
  have e4 := cl_ti (a := k) (by omega)
  omega
theorem ge0_ti {x : Int32} (h : ¬ x < 0) : 0 ≤ x.toInt := by rw [lt_ti, ti0] at h; omega
theorem in_of {x : Int32} (h : ¬ x < 0) (h2 : x.toInt < 60) : vp_in x 60 := by
  have := ge0_ti h
  rw [vp_in_iff]; omega
def fm_isSuch (u : MS) (q_x : Int32) (q_base : Int32) (q_depth : Int32) : Int32 := if q_x < 0 then 0 else (if (m_depths u (q_x).toNatClampNeg) = q_depth then (if (fm_goesFor (m_bases u (q_x).toNatClampNeg) q_base) = 0 then 0 else 1) else 0)
theorem fm_isSuch_01 (u : MS) (q_x : Int32) (q_base : Int32) (q_depth : Int32) : fm_isSuch u q_x q_base q_depth = 0 ∨ fm_isSuch u q_x q_base q_depth = 1 := by
  unfold fm_isSuch
  (repeat' split) <;> first | exact Or.inl rfl | exact Or.inr rfl | apply fm_goesFor_01
theorem hd_X1_isSuch : yX1_isSuch.cls = RX1 ∧ yX1_isSuch.cls ≠ "java/lang/invoke/MethodHandle" ∧ yX1_isSuch.cls ≠ "java/lang/invoke/VarHandle" ∧ (parseMethodDescriptor yX1_isSuch.desc).map (fun d => d.parameters.length) = some 3 := by decide +kernel
set_option maxRecDepth 100000 in
set_option maxHeartbeats 4000000 in
theorem kX1_isSuch (l : Launch) (D : va_G) (ad : Nat → Nat) (ca : Nat → ClassId) (g : Nat) (u : MS) (q_x : Int32) (q_base : Int32) (q_depth : Int32) (hx60 : q_x.toInt < 60) : CiM l yX1_isSuch cX1_isSuch 4 .boolean 3 D ad ca g [.int q_x, .int q_base, .int q_depth] u ((fm_isSuch u q_x q_base q_depth, u)) := by
  refine CiM.of (by decide) rfl (Nat.le_of_ble_eq_true rfl) ?_
  intro p e s m below meth c A ls E hS hl
  have hx := E.1.1
  have hb := E.1.2.1
  have hml := E.1.2.2.1
  have hown := E.1.2.2.2.1
  have hts := E.1.2.2.2.2
  have hl : lv_has ls 4 [(0, .ref (ad 0)), (1, .int q_x), (2, .int q_base), (3, .int q_depth)] := hl
  refine lv_iload_n hx hb dX1_isSuch_0 rfl (lv_at hl 1 rfl) ?_
  refine lv_if_lt (tgt := 31) hx hb dX1_isSuch_1 (by decide) (fun h1 => ?_) (fun h1 => ?_)
  · refine lv_iconst (v := 0) hx hb dX1_isSuch_31 (by decide) ?_
    exact EnM.iret E hS ni_0 (congrArg (fun z => (z, u)) (show (0 : Int32) = fm_isSuch u q_x q_base q_depth by unfold fm_isSuch; rw [if_pos h1])) dX1_isSuch_32
  · refine lv_aload_n hx hb dX1_isSuch_4 rfl (lv_at hl 0 rfl) ?_
    refine gM_depths E hS dX1_isSuch_5 ?_
    refine lv_iload_n hx hb dX1_isSuch_8 rfl (lv_at hl 1 rfl) ?_
    refine lM_depths (v := m_depths u (q_x).toNatClampNeg) E hS (show vp_in q_x 60 from by first | with_reducible assumption | (refine in_of ?_ ?_ <;> with_reducible assumption) | (refine hqr ?_; with_reducible assumption)) rfl dX1_isSuch_9 ?_
    refine lv_iload_n hx hb dX1_isSuch_10 rfl (lv_at hl 3 rfl) ?_
    refine lv_icmp_ne (tgt := 31) hx hb dX1_isSuch_11 (by decide) (fun h11 => ?_) (fun h11 => ?_)
    · refine lv_iconst (v := 0) hx hb dX1_isSuch_31 (by decide) ?_
      exact EnM.iret E hS ni_0 (congrArg (fun z => (z, u)) (show (0 : Int32) = fm_isSuch u q_x q_base q_depth by unfold fm_isSuch; rw [if_neg h1, if_neg h11])) dX1_isSuch_32
    · refine lv_aload_n hx hb dX1_isSuch_14 rfl (lv_at hl 0 rfl) ?_
      refine gM_bases E hS dX1_isSuch_15 ?_
      refine lv_iload_n hx hb dX1_isSuch_18 rfl (lv_at hl 1 rfl) ?_
      refine lM_bases (v := m_bases u (q_x).toNatClampNeg) E hS (show vp_in q_x 60 from by first | with_reducible assumption | (refine in_of ?_ ?_ <;> with_reducible assumption) | (refine hqr ?_; with_reducible assumption)) rfl dX1_isSuch_19 ?_
      refine lv_iload_n hx hb dX1_isSuch_20 rfl (lv_at hl 2 rfl) ?_
      refine EnM.sti (r := fm_goesFor (m_bases u (q_x).toNatClampNeg) q_base) E hS [.int (m_bases u (q_x).toNatClampNeg), .int q_base] [] (kX1_goesFor l (m_bases u (q_x).toNatClampNeg) q_base ) (fun _ _ _ _ h => h) (fun _ _ _ => trivial) gc_X1_64 hd_X1_goesFor ⟨Nat.le_of_ble_eq_true rfl, Nat.le_of_ble_eq_true rfl⟩ rfl hl.1 (Nat.le_of_ble_eq_true rfl) ⟨Nat.le_refl 0, Nat.le_refl 0⟩ dX1_isSuch_21 (fun H locs hS => ?_)
      refine lv_if_eq (tgt := 31) hx hb dX1_isSuch_24 (by decide) (fun h24 => ?_) (fun h24 => ?_)
      · refine lv_iconst (v := 0) hx hb dX1_isSuch_31 (by decide) ?_
        exact EnM.iret E hS ni_0 (congrArg (fun z => (z, u)) (show (0 : Int32) = fm_isSuch u q_x q_base q_depth by unfold fm_isSuch; rw [if_neg h1, if_pos h11, if_pos h24])) dX1_isSuch_32
      · refine lv_iconst (v := 1) hx hb dX1_isSuch_27 (by decide) ?_
        refine lv_goto (tgt := 32) hx hb dX1_isSuch_28 (by decide) ?_
        exact EnM.iret E hS ni_1 (congrArg (fun z => (z, u)) (show (1 : Int32) = fm_isSuch u q_x q_base q_depth by unfold fm_isSuch; rw [if_neg h1, if_pos h11, if_neg h24])) dX1_isSuch_32
def fm_refused (u : MS) (q_r : Int32) (q_i : Int32) : Int32 := if q_r = (-1) then 1 else (if (fm_isLedger u q_r) = 0 then 2 else (if (fm_isIn q_i 0 ((m_sizes u (q_r).toNatClampNeg) - 1)) = 0 then 3 else 0))
theorem hd_X1_refused : yX1_refused.cls = RX1 ∧ yX1_refused.cls ≠ "java/lang/invoke/MethodHandle" ∧ yX1_refused.cls ≠ "java/lang/invoke/VarHandle" ∧ (parseMethodDescriptor yX1_refused.desc).map (fun d => d.parameters.length) = some 2 := by decide +kernel
set_option maxRecDepth 100000 in
set_option maxHeartbeats 4000000 in
theorem kX1_refused (l : Launch) (D : va_G) (ad : Nat → Nat) (ca : Nat → ClassId) (g : Nat) (u : MS) (q_r : Int32) (q_i : Int32) (hqr : ¬ q_r = (-1) → vp_in q_r 60) : CiM l yX1_refused cX1_refused 3 .int 2 D ad ca g [.int q_r, .int q_i] u ((fm_refused u q_r q_i, u)) := by
  refine CiM.of (by decide) rfl (Nat.le_of_ble_eq_true rfl) ?_
  intro p e s m below meth c A ls E hS hl
  have hx := E.1.1
  have hb := E.1.2.1
  have hml := E.1.2.2.1
  have hown := E.1.2.2.2.1
  have hts := E.1.2.2.2.2
  have hl : lv_has ls 3 [(0, .ref (ad 0)), (1, .int q_r), (2, .int q_i)] := hl
  refine lv_iload_n hx hb dX1_refused_0 rfl (lv_at hl 1 rfl) ?_
  refine lv_iconst (v := (-1)) hx hb dX1_refused_1 (by decide) ?_
  refine lv_icmp_ne (tgt := 7) hx hb dX1_refused_2 (by decide) (fun h2 => ?_) (fun h2 => ?_)
  · refine lv_aload_n hx hb dX1_refused_7 rfl (lv_at hl 0 rfl) ?_
    refine lv_iload_n hx hb dX1_refused_8 rfl (lv_at hl 1 rfl) ?_
    refine EnM.calli (r := fm_isLedger u q_r) (u2 := u) E hS [.int q_r] [] (kX1_isLedger l D ad ca g u q_r (by first | with_reducible assumption | (refine in_of ?_ ?_ <;> with_reducible assumption) | (refine hqr ?_; with_reducible assumption))) gc_X1_86 hd_X1_isLedger ⟨Nat.le_of_ble_eq_true rfl, Nat.le_of_ble_eq_true rfl⟩ rfl hl.1 (Nat.le_of_ble_eq_true rfl) ⟨Nat.le_refl 0, Nat.le_refl 0⟩ dX1_refused_9 (fun H locs hS => ?_)
    refine lv_if_ne (tgt := 19) hx hb dX1_refused_12 (by decide) (fun h12 => ?_) (fun h12 => ?_)
    · refine lv_iload_n hx hb dX1_refused_19 rfl (lv_at hl 2 rfl) ?_
      refine lv_iconst (v := 0) hx hb dX1_refused_20 (by decide) ?_
      refine lv_aload_n hx hb dX1_refused_21 rfl (lv_at hl 0 rfl) ?_
      refine gM_sizes E hS dX1_refused_22 ?_
      refine lv_iload_n hx hb dX1_refused_25 rfl (lv_at hl 1 rfl) ?_
      refine lM_sizes (v := m_sizes u (q_r).toNatClampNeg) E hS (show vp_in q_r 60 from by first | with_reducible assumption | (refine in_of ?_ ?_ <;> with_reducible assumption) | (refine hqr ?_; with_reducible assumption)) rfl dX1_refused_26 ?_
      refine lv_iconst (v := 1) hx hb dX1_refused_27 (by decide) ?_
      refine lv_isub hx hb dX1_refused_28 ?_
      refine EnM.sti (r := fm_isIn q_i 0 ((m_sizes u (q_r).toNatClampNeg) - 1)) E hS [.int q_i, .int 0, .int ((m_sizes u (q_r).toNatClampNeg) - 1)] [] (kX1_isIn l q_i 0 ((m_sizes u (q_r).toNatClampNeg) - 1) ) (fun _ _ _ _ h => h) (fun _ _ _ => trivial) gc_X1_60 hd_X1_isIn ⟨Nat.le_of_ble_eq_true rfl, Nat.le_of_ble_eq_true rfl⟩ rfl hl.1 (Nat.le_of_ble_eq_true rfl) ⟨Nat.le_refl 0, Nat.le_refl 0⟩ dX1_refused_29 (fun H locs hS => ?_)
      refine lv_if_eq (tgt := 39) hx hb dX1_refused_32 (by decide) (fun h32 => ?_) (fun h32 => ?_)
      · refine lv_iconst (v := 3) hx hb dX1_refused_39 (by decide) ?_
        exact EnM.iret E hS (ni_i _) (congrArg (fun z => (z, u)) (show (3 : Int32) = fm_refused u q_r q_i by unfold fm_refused; rw [if_neg h2, if_neg h12, if_pos h32])) dX1_refused_40
      · refine lv_iconst (v := 0) hx hb dX1_refused_35 (by decide) ?_
        refine lv_goto (tgt := 40) hx hb dX1_refused_36 (by decide) ?_
        exact EnM.iret E hS (ni_i _) (congrArg (fun z => (z, u)) (show (0 : Int32) = fm_refused u q_r q_i by unfold fm_refused; rw [if_neg h2, if_neg h12, if_neg h32])) dX1_refused_40
    · refine lv_iconst (v := 2) hx hb dX1_refused_15 (by decide) ?_
      refine lv_goto (tgt := 40) hx hb dX1_refused_16 (by decide) ?_
      exact EnM.iret E hS (ni_i _) (congrArg (fun z => (z, u)) (show (2 : Int32) = fm_refused u q_r q_i by unfold fm_refused; rw [if_neg h2, if_pos h12])) dX1_refused_40
  · refine lv_iconst (v := 1) hx hb dX1_refused_5 (by decide) ?_
    exact EnM.iret E hS (ni_i _) (congrArg (fun z => (z, u)) (show (1 : Int32) = fm_refused u q_r q_i by unfold fm_refused; rw [if_pos h2])) dX1_refused_6
def fm_make_L : Nat → MS → Int32 → Int32 → Int32 → Int32 → Int32 → Int32 → Int32 × MS
  | 0, w, q_base, q_depth, q_n, q_worth, v_5, v_6 => (0, w)
  | f_ + 1, w, q_base, q_depth, q_n, q_worth, v_5, v_6 => (if 8 ≤ v_6 then (v_5, w) else fm_make_L f_ (ms_numbers (ms_lies w (upd (m_lies w) ((8 * v_5) + v_6).toNatClampNeg (-1))) (vp_updL (m_numbers w) ((8 * v_5) + v_6).toNatClampNeg 0)) q_base q_depth q_n q_worth v_5 (v_6 + 1))
set_option maxRecDepth 100000 in
set_option maxHeartbeats 4000000 in
theorem loop_X1_make_L {p : Program} {e : Env} {s : State} {m : MethodId} {below : List Frame} {meth : Method} {c : Code} {args : Array Value} {A : Nat → Prop} (l : Launch) (D : va_G) (ad : Nat → Nat) (ca : Nat → ClassId) (g : Nat) (u : MS) (E : EnM p s m c args cX1_make 7 meth (some .int) D ca g A) : ∀ (f_ : Nat) (w : MS) (q_base : Int32) (q_depth : Int32) (q_n : Int32) (q_worth : Int32) (v_5 : Int32) (v_6 : Int32), vp_in v_5 60 → (0 ≤ v_6.toInt ∧ v_6.toInt ≤ 8) → 8 - v_6.toInt < (f_ : Int) → ∀ (H : Heap) (locs : List Loc) (ls : Array Slot), SM D ad ca A s w H locs → lv_has ls 7 [(0, .ref (ad 0)), (1, .int q_base), (2, .int q_depth), (3, .int q_n), (4, .int q_worth), (5, .int v_5), (6, .int v_6)] → W p l e (rk 1) s m args below meth c H locs 0 0 (MQ below (va_Qi (fun r' v => (r', v) = fm_make_L f_ w q_base q_depth q_n q_worth v_5 v_6) (BkM D ad ca) A) args s 0 0 A) (F0 m 52 ls []) := by
  have hx := E.1.1
  have hb := E.1.2.1
  have hml := E.1.2.2.1
  have hown := E.1.2.2.2.1
  have hts := E.1.2.2.2.2
  intro f_
  induction f_ with
  | zero =>
    intro w q_base q_depth q_n q_worth v_5 v_6 hr5 hi hf H locs ls hS hl
    exfalso
    omega
  | succ f_ ih =>
    intro w q_base q_depth q_n q_worth v_5 v_6 hr5 hi hf H locs ls hS hl
    refine lv_iload hx hb dX1_make_52 (lv_at hl 6 rfl) ?_
    refine lv_bipush (v := 8) hx hb dX1_make_54 (by decide) ?_
    refine lv_icmp_ge (tgt := 93) hx hb dX1_make_56 (by decide) (fun h56 => ?_) (fun h56 => ?_)
    · refine lv_iload hx hb dX1_make_93 (lv_at hl 5 rfl) ?_
      exact EnM.iret E hS (ni_i _) (by rw [fm_make_L, if_pos h56]) dX1_make_95
    · have g56 := h56
      rw [le_ti, ti8] at g56
      have hmi : vp_in ((8 * v_5) + v_6) 480 := mi_in hr5 (by omega) (by omega)
      refine lv_aload_n hx hb dX1_make_59 rfl (lv_at hl 0 rfl) ?_
      refine gM_lies E hS dX1_make_60 ?_
      refine lv_bipush (v := 8) hx hb dX1_make_63 (by decide) ?_
      refine lv_iload hx hb dX1_make_65 (lv_at hl 5 rfl) ?_
      refine lv_imul hx hb dX1_make_67 ?_
      refine lv_iload hx hb dX1_make_68 (lv_at hl 6 rfl) ?_
      refine lv_iadd hx hb dX1_make_70 ?_
      refine lv_iconst (v := (-1)) hx hb dX1_make_71 (by decide) ?_
      refine sM_lies E hS (show vp_in ((8 * v_5) + v_6) 480 from by first | with_reducible assumption | (refine in_of ?_ ?_ <;> with_reducible assumption) | (refine hqr ?_; with_reducible assumption)) dX1_make_72 (fun H locs hS => ?_)
      have hS : SM D ad ca A s (ms_lies w (upd (m_lies w) ((8 * v_5) + v_6).toNatClampNeg (-1))) H locs := hS
      refine lv_aload_n hx hb dX1_make_73 rfl (lv_at hl 0 rfl) ?_
      refine gM_numbers E hS dX1_make_74 ?_
      refine lv_bipush (v := 8) hx hb dX1_make_77 (by decide) ?_
      refine lv_iload hx hb dX1_make_79 (lv_at hl 5 rfl) ?_
      refine lv_imul hx hb dX1_make_81 ?_
      refine lv_iload hx hb dX1_make_82 (lv_at hl 6 rfl) ?_
      refine lv_iadd hx hb dX1_make_84 ?_
      refine lv_lconst (v := 0) hx hb dX1_make_85 (by decide) ?_
      refine sM_numbers E hS (show vp_in ((8 * v_5) + v_6) 480 from by first | with_reducible assumption | (refine in_of ?_ ?_ <;> with_reducible assumption) | (refine hqr ?_; with_reducible assumption)) dX1_make_86 (fun H locs hS => ?_)
      have hS : SM D ad ca A s (ms_numbers (ms_lies w (upd (m_lies w) ((8 * v_5) + v_6).toNatClampNeg (-1))) (vp_updL (m_numbers w) ((8 * v_5) + v_6).toNatClampNeg 0)) H locs := hS
      refine lv_iinc (v := v_6 + 1) (lv' := [(6, .int (v_6 + 1)), (0, .ref (ad 0)), (1, .int q_base), (2, .int q_depth), (3, .int q_n), (4, .int q_worth), (5, .int v_5)]) hx hb dX1_make_87 hl (k := 6) rfl rfl (by decide) rfl (fun ls hl => ?_)
      refine lv_goto (tgt := 52) hx hb dX1_make_90 (by decide) ?_
      have hr : fm_make_L (f_ + 1) w q_base q_depth q_n q_worth v_5 v_6 = fm_make_L f_ (ms_numbers (ms_lies w (upd (m_lies w) ((8 * v_5) + v_6).toNatClampNeg (-1))) (vp_updL (m_numbers w) ((8 * v_5) + v_6).toNatClampNeg 0)) q_base q_depth q_n q_worth v_5 (v_6 + 1) := by rw [fm_make_L, if_neg h56]
      have e6 : (v_6 + 1).toInt = v_6.toInt + 1 := ti_inc (by omega) (by omega)
      rw [hr]
      exact ih (ms_numbers (ms_lies w (upd (m_lies w) ((8 * v_5) + v_6).toNatClampNeg (-1))) (vp_updL (m_numbers w) ((8 * v_5) + v_6).toNatClampNeg 0)) q_base q_depth q_n q_worth v_5 (v_6 + 1) hr5 (by omega) (by omega) _ _ ls hS (lv_sub hl [1, 2, 3, 4, 5, 6, 0] rfl)
def fm_make (u : MS) (q_base : Int32) (q_depth : Int32) (q_n : Int32) (q_worth : Int32) : Int32 × MS := fm_make_L 9 (ms_worths (ms_sizes (ms_depths (ms_bases (ms_things u ((m_things u) + 1)) (upd (m_bases u) (m_things u).toNatClampNeg q_base)) (upd (m_depths u) (m_things u).toNatClampNeg q_depth)) (upd (m_sizes u) (m_things u).toNatClampNeg q_n)) (upd (m_worths u) (m_things u).toNatClampNeg q_worth)) q_base q_depth q_n q_worth (m_things u) 0
theorem hd_X1_make : yX1_make.cls = RX1 ∧ yX1_make.cls ≠ "java/lang/invoke/MethodHandle" ∧ yX1_make.cls ≠ "java/lang/invoke/VarHandle" ∧ (parseMethodDescriptor yX1_make.desc).map (fun d => d.parameters.length) = some 4 := by decide +kernel
set_option maxRecDepth 100000 in
set_option maxHeartbeats 4000000 in
theorem kX1_make (l : Launch) (D : va_G) (ad : Nat → Nat) (ca : Nat → ClassId) (g : Nat) (u : MS) (q_base : Int32) (q_depth : Int32) (q_n : Int32) (q_worth : Int32) (htc : vp_in (m_things u) 60) : CiM l yX1_make cX1_make 7 .int 1 D ad ca g [.int q_base, .int q_depth, .int q_n, .int q_worth] u (fm_make u q_base q_depth q_n q_worth) := by
  refine CiM.of (by decide) rfl (Nat.le_of_ble_eq_true rfl) ?_
  intro p e s m below meth c A ls E hS hl
  have hx := E.1.1
  have hb := E.1.2.1
  have hml := E.1.2.2.1
  have hown := E.1.2.2.2.1
  have hts := E.1.2.2.2.2
  have hl : lv_has ls 7 [(0, .ref (ad 0)), (1, .int q_base), (2, .int q_depth), (3, .int q_n), (4, .int q_worth)] := hl
  refine lv_aload_n hx hb dX1_make_0 rfl (lv_at hl 0 rfl) ?_
  refine gM_things (v := m_things u) E hS rfl dX1_make_1 ?_
  refine lv_istore (lv' := [(5, .int (m_things u)), (0, .ref (ad 0)), (1, .int q_base), (2, .int q_depth), (3, .int q_n), (4, .int q_worth)]) hx hb dX1_make_4 hl (by decide) rfl (fun ls hl => ?_)
  refine lv_aload_n hx hb dX1_make_6 rfl (lv_at hl 1 rfl) ?_
  refine lv_dup hx hb dX1_make_7 rfl ?_
  refine gM_things (v := m_things u) E hS rfl dX1_make_8 ?_
  refine lv_iconst (v := 1) hx hb dX1_make_11 (by decide) ?_
  refine lv_iadd hx hb dX1_make_12 ?_
  refine pM_things E hS dX1_make_13 (fun H locs hS => ?_)
  have hS : SM D ad ca A s (ms_things u ((m_things u) + 1)) H locs := hS
  refine lv_aload_n hx hb dX1_make_16 rfl (lv_at hl 1 rfl) ?_
  refine gM_bases E hS dX1_make_17 ?_
  refine lv_iload hx hb dX1_make_20 (lv_at hl 0 rfl) ?_
  refine lv_iload_n hx hb dX1_make_22 rfl (lv_at hl 2 rfl) ?_
  refine sM_bases E hS (show vp_in (m_things u) 60 from by first | with_reducible assumption | (refine in_of ?_ ?_ <;> with_reducible assumption) | (refine hqr ?_; with_reducible assumption)) dX1_make_23 (fun H locs hS => ?_)
  have hS : SM D ad ca A s (ms_bases (ms_things u ((m_things u) + 1)) (upd (m_bases u) (m_things u).toNatClampNeg q_base)) H locs := hS
  refine lv_aload_n hx hb dX1_make_24 rfl (lv_at hl 1 rfl) ?_
  refine gM_depths E hS dX1_make_25 ?_
  refine lv_iload hx hb dX1_make_28 (lv_at hl 0 rfl) ?_
  refine lv_iload_n hx hb dX1_make_30 rfl (lv_at hl 3 rfl) ?_
  refine sM_depths E hS (show vp_in (m_things u) 60 from by first | with_reducible assumption | (refine in_of ?_ ?_ <;> with_reducible assumption) | (refine hqr ?_; with_reducible assumption)) dX1_make_31 (fun H locs hS => ?_)
  have hS : SM D ad ca A s (ms_depths (ms_bases (ms_things u ((m_things u) + 1)) (upd (m_bases u) (m_things u).toNatClampNeg q_base)) (upd (m_depths u) (m_things u).toNatClampNeg q_depth)) H locs := hS
  refine lv_aload_n hx hb dX1_make_32 rfl (lv_at hl 1 rfl) ?_
  refine gM_sizes E hS dX1_make_33 ?_
  refine lv_iload hx hb dX1_make_36 (lv_at hl 0 rfl) ?_
  refine lv_iload_n hx hb dX1_make_38 rfl (lv_at hl 4 rfl) ?_
  refine sM_sizes E hS (show vp_in (m_things u) 60 from by first | with_reducible assumption | (refine in_of ?_ ?_ <;> with_reducible assumption) | (refine hqr ?_; with_reducible assumption)) dX1_make_39 (fun H locs hS => ?_)
  have hS : SM D ad ca A s (ms_sizes (ms_depths (ms_bases (ms_things u ((m_things u) + 1)) (upd (m_bases u) (m_things u).toNatClampNeg q_base)) (upd (m_depths u) (m_things u).toNatClampNeg q_depth)) (upd (m_sizes u) (m_things u).toNatClampNeg q_n)) H locs := hS
  refine lv_aload_n hx hb dX1_make_40 rfl (lv_at hl 1 rfl) ?_
  refine gM_worths E hS dX1_make_41 ?_
  refine lv_iload hx hb dX1_make_44 (lv_at hl 0 rfl) ?_
  refine lv_iload hx hb dX1_make_46 (lv_at hl 5 rfl) ?_
  refine sM_worths E hS (show vp_in (m_things u) 60 from by first | with_reducible assumption | (refine in_of ?_ ?_ <;> with_reducible assumption) | (refine hqr ?_; with_reducible assumption)) dX1_make_48 (fun H locs hS => ?_)
  have hS : SM D ad ca A s (ms_worths (ms_sizes (ms_depths (ms_bases (ms_things u ((m_things u) + 1)) (upd (m_bases u) (m_things u).toNatClampNeg q_base)) (upd (m_depths u) (m_things u).toNatClampNeg q_depth)) (upd (m_sizes u) (m_things u).toNatClampNeg q_n)) (upd (m_worths u) (m_things u).toNatClampNeg q_worth)) H locs := hS
  refine lv_iconst (v := 0) hx hb dX1_make_49 (by decide) ?_
  refine lv_istore (lv' := [(6, .int 0), (5, .int (m_things u)), (0, .ref (ad 0)), (1, .int q_base), (2, .int q_depth), (3, .int q_n), (4, .int q_worth)]) hx hb dX1_make_50 hl (by decide) rfl (fun ls hl => ?_)
  have hr : fm_make u q_base q_depth q_n q_worth = fm_make_L 9 (ms_worths (ms_sizes (ms_depths (ms_bases (ms_things u ((m_things u) + 1)) (upd (m_bases u) (m_things u).toNatClampNeg q_base)) (upd (m_depths u) (m_things u).toNatClampNeg q_depth)) (upd (m_sizes u) (m_things u).toNatClampNeg q_n)) (upd (m_worths u) (m_things u).toNatClampNeg q_worth)) q_base q_depth q_n q_worth (m_things u) 0 := by unfold fm_make; rfl
  rw [hr]
  exact loop_X1_make_L l D ad ca g u  E 9 (ms_worths (ms_sizes (ms_depths (ms_bases (ms_things u ((m_things u) + 1)) (upd (m_bases u) (m_things u).toNatClampNeg q_base)) (upd (m_depths u) (m_things u).toNatClampNeg q_depth)) (upd (m_sizes u) (m_things u).toNatClampNeg q_n)) (upd (m_worths u) (m_things u).toNatClampNeg q_worth)) q_base q_depth q_n q_worth (m_things u) 0 htc (by rw [ti0]; omega) (by rw [ti0]; omega) _ _ ls hS (lv_sub hl [2, 3, 4, 5, 6, 1, 0] rfl)
