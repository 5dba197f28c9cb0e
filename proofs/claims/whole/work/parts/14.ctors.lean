/-! the two constructors -/
def x0 : XS := (fun _ => 0, fun _ => 0, fun _ => 0, fun _ => 0, fun _ => 0, fun _ => 0, fun _ => 0, 0, 0, 0, -1)
def rmX : Room := { frames := 1, cells := 7, slots := 736, locals := 64 }
theorem hd_X0_init : yX0_init.cls ≠ "java/lang/invoke/MethodHandle" ∧ yX0_init.cls ≠ "java/lang/invoke/VarHandle" ∧ (parseMethodDescriptor yX0_init.desc).map (fun d => d.parameters.length) = some 0 := by decide +kernel
set_option maxRecDepth 100000 in
set_option maxHeartbeats 4000000 in
theorem kX0_init (l : Launch) (D : va_G) (h0 sz : Nat) : Met l yX0_init (kW yX0_init cX0_init 1 none) rmX (va_Pc [.ref h0] (fun U => U.heap.size = sz ∧ va_P D kC [(h0, .inr (0, [.null, .null, .null, .null, .null, .null, .null, .int 0, .int 0, .int 0, .int 0]))] U.heap ∧ va_K D kC [] U ∧ va_D (fun _ => True) [(h0, .inr (0, [.null, .null, .null, .null, .null, .null, .null, .int 0, .int 0, .int 0, .int 0]))])) (va_Qv (fun (q : (Nat → Nat) × (Nat → ClassId)) => q.1 0 = h0) (fun q t => va_P D kC (wX q.1 q.2 x0) t.heap ∧ va_K D kC (tX q.2) t ∧ va_D (va_A [(h0, .inr (0, [.null, .null, .null, .null, .null, .null, .null, .int 0, .int 0, .int 0, .int 0]))] sz) (wX q.1 q.2 x0)) (va_A [(h0, .inr (0, [.null, .null, .null, .null, .null, .null, .null, .int 0, .int 0, .int 0, .int 0]))] sz)) 7 736 (va_A [(h0, .inr (0, [.null, .null, .null, .null, .null, .null, .null, .int 0, .int 0, .int 0, .int 0]))] sz) := by
  refine Met.ofW (cc := cX0_init) (maxL := 1) (ret := none) (by decide) rfl ?_
  intro p e s m args below meth c s₁ B hml hv
  obtain ⟨rfl, hsz, hP, hK, hD0⟩ := hv
  have hx := B.exec
  have hb := B.bytes
  have hr := B.returns
  have hts0 := atoms_spec (ws := kW yX0_init cX0_init 1 none) B.pre
  have hts : ∀ w ∈ kT, w.before #[Value.ref h0] s = true := fun w h => hts0 w (List.mem_cons_of_mem _ h)
  have hown : s.vm.findClass RX0 = some m.cls := findClass_of_methodNamed B.named
  have hlocks := B.notSynchronized
  have hin : meth.name = "<init>" := (name_of_methodNamed B.named B.method).1
  subst hsz
  have hD := hD0.self (sz := s.heap.size)
  generalize hAe : va_A [(h0, .inr (0, [.null, .null, .null, .null, .null, .null, .null, .int 0, .int 0, .int 0, .int 0]))] s.heap.size = A at hD ⊢
  have hA : ∀ q : Nat, s.heap.size ≤ q → A q := fun q h => by rw [← hAe]; exact Or.inr h
  have hS : va_S A s.heap s.heap [] := va_S.rf
  have hP : va_P D kC [(h0, .inr (0, [.null, .null, .null, .null, .null, .null, .null, .int 0, .int 0, .int 0, .int 0]))] s.heap := hP
  have hl := lv_entry ([.ref h0]) (n := 1) (Nat.le_of_ble_eq_true rfl)
  rw [lg_entry_eq]
  generalize (lg_sl ([.ref h0]) ++ List.replicate (1 - (lg_sl ([.ref h0])).length) Slot.unset).toArray = ls at hl ⊢
  have hl : lv_has ls 1 [(0, .ref h0)] := hl
  refine lv_aload_n hx hb dX0_init_0 rfl (lv_at hl 0 rfl) ?_
  refine W.objInit hx hb hown (hts _ wl_X0_1) (hts _ wm_obj) (hts _ wc_obj) rfl (by rw [hml]; exact hl.1) rfl dX0_init_1 (Nat.le_of_ble_eq_true rfl) (Nat.le_of_ble_eq_true rfl) ?_
  refine W.eq (g2 := F0 m 4 ls []) rfl ?_
  refine lv_aload_n hx hb dX0_init_4 rfl (lv_at hl 0 rfl) ?_
  refine lv_bipush (v := 60) hx hb dX0_init_5 (by decide) ?_
  have h_c0 : 0 + 1 ≤ 7 := by decide
  have h_s0 : 0 + 60 ≤ 736 := by decide
  refine va_newa (atype := .int) (ty := .int) (N' := 60) (a0 := (60, .inl (fun _ => 0))) hx hb (hts _ wa_int) rfl hK hP hD hS hA (fun _ => rfl) (by decide) (by decide) (by decide) h_c0 h_s0 dX0_init_7 (fun q1 c1 H hK hP hD hS => ?_)
  refine W.widen (k := 1) (n := 60) (by omega) (by omega) ?_
  have hP : va_P D kC [(h0, .inr (0, [.null, .null, .null, .null, .null, .null, .null, .int 0, .int 0, .int 0, .int 0])), (q1, .inl (c1, 60, .inl (fun _ => 0)))] H := hP
  have hD : va_D A [(h0, .inr (0, [.null, .null, .null, .null, .null, .null, .null, .int 0, .int 0, .int 0, .int 0])), (q1, .inl (c1, 60, .inl (fun _ => 0)))] := hD
  have hK : va_K D kC [(c1, .int)] s := hK
  refine va_putF (D := D) (ci := 0) (v := .ref q1) (ty := .array .int) (C := RX0) (T := TX0) (N := 11) hx hb hts wI_X0 tyX0 tyX0_ok nmX0 hown hK hP hD hS 0 rfl rfl 0 (by decide) (hts _ wf_X0_9) (fun _ h9 => h9) rfl hin rfl (by decide +kernel) rfl rfl (Nat.le_of_ble_eq_true rfl) dX0_init_9 (fun H locs hP hD hS => ?_)
  have hP : va_P D kC [(h0, .inr (0, [.ref q1, .null, .null, .null, .null, .null, .null, .int 0, .int 0, .int 0, .int 0])), (q1, .inl (c1, 60, .inl (fun _ => 0)))] H := hP
  have hD : va_D A [(h0, .inr (0, [.ref q1, .null, .null, .null, .null, .null, .null, .int 0, .int 0, .int 0, .int 0])), (q1, .inl (c1, 60, .inl (fun _ => 0)))] := hD
  refine lv_aload_n hx hb dX0_init_12 rfl (lv_at hl 0 rfl) ?_
  refine lv_bipush (v := 60) hx hb dX0_init_13 (by decide) ?_
  have h_c1 : 1 + 1 ≤ 7 := by decide
  have h_s1 : 60 + 60 ≤ 736 := by decide
  refine va_newa (atype := .int) (ty := .int) (N' := 60) (a0 := (60, .inl (fun _ => 0))) hx hb (hts _ wa_int) rfl hK hP hD hS hA (fun _ => rfl) (by decide) (by decide) (by decide) h_c1 h_s1 dX0_init_15 (fun q2 c2 H hK hP hD hS => ?_)
  refine W.widen (k := 2) (n := 120) (by omega) (by omega) ?_
  have hP : va_P D kC [(h0, .inr (0, [.ref q1, .null, .null, .null, .null, .null, .null, .int 0, .int 0, .int 0, .int 0])), (q1, .inl (c1, 60, .inl (fun _ => 0))), (q2, .inl (c2, 60, .inl (fun _ => 0)))] H := hP
  have hD : va_D A [(h0, .inr (0, [.ref q1, .null, .null, .null, .null, .null, .null, .int 0, .int 0, .int 0, .int 0])), (q1, .inl (c1, 60, .inl (fun _ => 0))), (q2, .inl (c2, 60, .inl (fun _ => 0)))] := hD
  have hK : va_K D kC [(c1, .int), (c2, .int)] s := hK
  refine va_putF (D := D) (ci := 0) (v := .ref q2) (ty := .array .int) (C := RX0) (T := TX0) (N := 11) hx hb hts wI_X0 tyX0 tyX0_ok nmX0 hown hK hP hD hS 0 rfl rfl 1 (by decide) (hts _ wf_X0_13) (fun _ h9 => h9) rfl hin rfl (by decide +kernel) rfl rfl (Nat.le_of_ble_eq_true rfl) dX0_init_17 (fun H locs hP hD hS => ?_)
  have hP : va_P D kC [(h0, .inr (0, [.ref q1, .ref q2, .null, .null, .null, .null, .null, .int 0, .int 0, .int 0, .int 0])), (q1, .inl (c1, 60, .inl (fun _ => 0))), (q2, .inl (c2, 60, .inl (fun _ => 0)))] H := hP
  have hD : va_D A [(h0, .inr (0, [.ref q1, .ref q2, .null, .null, .null, .null, .null, .int 0, .int 0, .int 0, .int 0])), (q1, .inl (c1, 60, .inl (fun _ => 0))), (q2, .inl (c2, 60, .inl (fun _ => 0)))] := hD
  refine lv_aload_n hx hb dX0_init_20 rfl (lv_at hl 0 rfl) ?_
  refine lv_bipush (v := 60) hx hb dX0_init_21 (by decide) ?_
  have h_c2 : 2 + 1 ≤ 7 := by decide
  have h_s2 : 120 + 60 ≤ 736 := by decide
  refine va_newa (atype := .int) (ty := .int) (N' := 60) (a0 := (60, .inl (fun _ => 0))) hx hb (hts _ wa_int) rfl hK hP hD hS hA (fun _ => rfl) (by decide) (by decide) (by decide) h_c2 h_s2 dX0_init_23 (fun q3 c3 H hK hP hD hS => ?_)
  refine W.widen (k := 3) (n := 180) (by omega) (by omega) ?_
  have hP : va_P D kC [(h0, .inr (0, [.ref q1, .ref q2, .null, .null, .null, .null, .null, .int 0, .int 0, .int 0, .int 0])), (q1, .inl (c1, 60, .inl (fun _ => 0))), (q2, .inl (c2, 60, .inl (fun _ => 0))), (q3, .inl (c3, 60, .inl (fun _ => 0)))] H := hP
  have hD : va_D A [(h0, .inr (0, [.ref q1, .ref q2, .null, .null, .null, .null, .null, .int 0, .int 0, .int 0, .int 0])), (q1, .inl (c1, 60, .inl (fun _ => 0))), (q2, .inl (c2, 60, .inl (fun _ => 0))), (q3, .inl (c3, 60, .inl (fun _ => 0)))] := hD
  have hK : va_K D kC [(c1, .int), (c2, .int), (c3, .int)] s := hK
  refine va_putF (D := D) (ci := 0) (v := .ref q3) (ty := .array .int) (C := RX0) (T := TX0) (N := 11) hx hb hts wI_X0 tyX0 tyX0_ok nmX0 hown hK hP hD hS 0 rfl rfl 2 (by decide) (hts _ wf_X0_16) (fun _ h9 => h9) rfl hin rfl (by decide +kernel) rfl rfl (Nat.le_of_ble_eq_true rfl) dX0_init_25 (fun H locs hP hD hS => ?_)
  have hP : va_P D kC [(h0, .inr (0, [.ref q1, .ref q2, .ref q3, .null, .null, .null, .null, .int 0, .int 0, .int 0, .int 0])), (q1, .inl (c1, 60, .inl (fun _ => 0))), (q2, .inl (c2, 60, .inl (fun _ => 0))), (q3, .inl (c3, 60, .inl (fun _ => 0)))] H := hP
  have hD : va_D A [(h0, .inr (0, [.ref q1, .ref q2, .ref q3, .null, .null, .null, .null, .int 0, .int 0, .int 0, .int 0])), (q1, .inl (c1, 60, .inl (fun _ => 0))), (q2, .inl (c2, 60, .inl (fun _ => 0))), (q3, .inl (c3, 60, .inl (fun _ => 0)))] := hD
  refine lv_aload_n hx hb dX0_init_28 rfl (lv_at hl 0 rfl) ?_
  refine lv_bipush (v := 60) hx hb dX0_init_29 (by decide) ?_
  have h_c3 : 3 + 1 ≤ 7 := by decide
  have h_s3 : 180 + 60 ≤ 736 := by decide
  refine va_newa (atype := .int) (ty := .int) (N' := 60) (a0 := (60, .inl (fun _ => 0))) hx hb (hts _ wa_int) rfl hK hP hD hS hA (fun _ => rfl) (by decide) (by decide) (by decide) h_c3 h_s3 dX0_init_31 (fun q4 c4 H hK hP hD hS => ?_)
  refine W.widen (k := 4) (n := 240) (by omega) (by omega) ?_
  have hP : va_P D kC [(h0, .inr (0, [.ref q1, .ref q2, .ref q3, .null, .null, .null, .null, .int 0, .int 0, .int 0, .int 0])), (q1, .inl (c1, 60, .inl (fun _ => 0))), (q2, .inl (c2, 60, .inl (fun _ => 0))), (q3, .inl (c3, 60, .inl (fun _ => 0))), (q4, .inl (c4, 60, .inl (fun _ => 0)))] H := hP
  have hD : va_D A [(h0, .inr (0, [.ref q1, .ref q2, .ref q3, .null, .null, .null, .null, .int 0, .int 0, .int 0, .int 0])), (q1, .inl (c1, 60, .inl (fun _ => 0))), (q2, .inl (c2, 60, .inl (fun _ => 0))), (q3, .inl (c3, 60, .inl (fun _ => 0))), (q4, .inl (c4, 60, .inl (fun _ => 0)))] := hD
  have hK : va_K D kC [(c1, .int), (c2, .int), (c3, .int), (c4, .int)] s := hK
  refine va_putF (D := D) (ci := 0) (v := .ref q4) (ty := .array .int) (C := RX0) (T := TX0) (N := 11) hx hb hts wI_X0 tyX0 tyX0_ok nmX0 hown hK hP hD hS 0 rfl rfl 3 (by decide) (hts _ wf_X0_19) (fun _ h9 => h9) rfl hin rfl (by decide +kernel) rfl rfl (Nat.le_of_ble_eq_true rfl) dX0_init_33 (fun H locs hP hD hS => ?_)
  have hP : va_P D kC [(h0, .inr (0, [.ref q1, .ref q2, .ref q3, .ref q4, .null, .null, .null, .int 0, .int 0, .int 0, .int 0])), (q1, .inl (c1, 60, .inl (fun _ => 0))), (q2, .inl (c2, 60, .inl (fun _ => 0))), (q3, .inl (c3, 60, .inl (fun _ => 0))), (q4, .inl (c4, 60, .inl (fun _ => 0)))] H := hP
  have hD : va_D A [(h0, .inr (0, [.ref q1, .ref q2, .ref q3, .ref q4, .null, .null, .null, .int 0, .int 0, .int 0, .int 0])), (q1, .inl (c1, 60, .inl (fun _ => 0))), (q2, .inl (c2, 60, .inl (fun _ => 0))), (q3, .inl (c3, 60, .inl (fun _ => 0))), (q4, .inl (c4, 60, .inl (fun _ => 0)))] := hD
  refine lv_aload_n hx hb dX0_init_36 rfl (lv_at hl 0 rfl) ?_
  refine lv_sipush (v := 480) hx hb dX0_init_37 (by decide) ?_
  have h_c4 : 4 + 1 ≤ 7 := by decide
  have h_s4 : 240 + 480 ≤ 736 := by decide
  refine va_newa (atype := .long) (ty := .long) (N' := 480) (a0 := (480, .inr (.inl (fun _ => 0)))) hx hb (hts _ wa_long) rfl hK hP hD hS hA (fun _ => rfl) (by decide) (by decide) (by decide) h_c4 h_s4 dX0_init_40 (fun q5 c5 H hK hP hD hS => ?_)
  refine W.widen (k := 5) (n := 720) (by omega) (by omega) ?_
  have hP : va_P D kC [(h0, .inr (0, [.ref q1, .ref q2, .ref q3, .ref q4, .null, .null, .null, .int 0, .int 0, .int 0, .int 0])), (q1, .inl (c1, 60, .inl (fun _ => 0))), (q2, .inl (c2, 60, .inl (fun _ => 0))), (q3, .inl (c3, 60, .inl (fun _ => 0))), (q4, .inl (c4, 60, .inl (fun _ => 0))), (q5, .inl (c5, 480, .inr (.inl (fun _ => 0))))] H := hP
  have hD : va_D A [(h0, .inr (0, [.ref q1, .ref q2, .ref q3, .ref q4, .null, .null, .null, .int 0, .int 0, .int 0, .int 0])), (q1, .inl (c1, 60, .inl (fun _ => 0))), (q2, .inl (c2, 60, .inl (fun _ => 0))), (q3, .inl (c3, 60, .inl (fun _ => 0))), (q4, .inl (c4, 60, .inl (fun _ => 0))), (q5, .inl (c5, 480, .inr (.inl (fun _ => 0))))] := hD
  have hK : va_K D kC [(c1, .int), (c2, .int), (c3, .int), (c4, .int), (c5, .long)] s := hK
  refine va_putF (D := D) (ci := 0) (v := .ref q5) (ty := .array .long) (C := RX0) (T := TX0) (N := 11) hx hb hts wI_X0 tyX0 tyX0_ok nmX0 hown hK hP hD hS 0 rfl rfl 4 (by decide) (hts _ wf_X0_22) (fun _ h9 => h9) rfl hin rfl (by decide +kernel) rfl rfl (Nat.le_of_ble_eq_true rfl) dX0_init_42 (fun H locs hP hD hS => ?_)
  have hP : va_P D kC [(h0, .inr (0, [.ref q1, .ref q2, .ref q3, .ref q4, .ref q5, .null, .null, .int 0, .int 0, .int 0, .int 0])), (q1, .inl (c1, 60, .inl (fun _ => 0))), (q2, .inl (c2, 60, .inl (fun _ => 0))), (q3, .inl (c3, 60, .inl (fun _ => 0))), (q4, .inl (c4, 60, .inl (fun _ => 0))), (q5, .inl (c5, 480, .inr (.inl (fun _ => 0))))] H := hP
  have hD : va_D A [(h0, .inr (0, [.ref q1, .ref q2, .ref q3, .ref q4, .ref q5, .null, .null, .int 0, .int 0, .int 0, .int 0])), (q1, .inl (c1, 60, .inl (fun _ => 0))), (q2, .inl (c2, 60, .inl (fun _ => 0))), (q3, .inl (c3, 60, .inl (fun _ => 0))), (q4, .inl (c4, 60, .inl (fun _ => 0))), (q5, .inl (c5, 480, .inr (.inl (fun _ => 0))))] := hD
  refine lv_aload_n hx hb dX0_init_45 rfl (lv_at hl 0 rfl) ?_
  refine lv_bipush (v := 8) hx hb dX0_init_46 (by decide) ?_
  have h_c5 : 5 + 1 ≤ 7 := by decide
  have h_s5 : 720 + 8 ≤ 736 := by decide
  refine va_newa (atype := .int) (ty := .int) (N' := 8) (a0 := (8, .inl (fun _ => 0))) hx hb (hts _ wa_int) rfl hK hP hD hS hA (fun _ => rfl) (by decide) (by decide) (by decide) h_c5 h_s5 dX0_init_48 (fun q6 c6 H hK hP hD hS => ?_)
  refine W.widen (k := 6) (n := 728) (by omega) (by omega) ?_
  have hP : va_P D kC [(h0, .inr (0, [.ref q1, .ref q2, .ref q3, .ref q4, .ref q5, .null, .null, .int 0, .int 0, .int 0, .int 0])), (q1, .inl (c1, 60, .inl (fun _ => 0))), (q2, .inl (c2, 60, .inl (fun _ => 0))), (q3, .inl (c3, 60, .inl (fun _ => 0))), (q4, .inl (c4, 60, .inl (fun _ => 0))), (q5, .inl (c5, 480, .inr (.inl (fun _ => 0)))), (q6, .inl (c6, 8, .inl (fun _ => 0)))] H := hP
  have hD : va_D A [(h0, .inr (0, [.ref q1, .ref q2, .ref q3, .ref q4, .ref q5, .null, .null, .int 0, .int 0, .int 0, .int 0])), (q1, .inl (c1, 60, .inl (fun _ => 0))), (q2, .inl (c2, 60, .inl (fun _ => 0))), (q3, .inl (c3, 60, .inl (fun _ => 0))), (q4, .inl (c4, 60, .inl (fun _ => 0))), (q5, .inl (c5, 480, .inr (.inl (fun _ => 0)))), (q6, .inl (c6, 8, .inl (fun _ => 0)))] := hD
  have hK : va_K D kC [(c1, .int), (c2, .int), (c3, .int), (c4, .int), (c5, .long), (c6, .int)] s := hK
  refine va_putF (D := D) (ci := 0) (v := .ref q6) (ty := .array .int) (C := RX0) (T := TX0) (N := 11) hx hb hts wI_X0 tyX0 tyX0_ok nmX0 hown hK hP hD hS 0 rfl rfl 5 (by decide) (hts _ wf_X0_26) (fun _ h9 => h9) rfl hin rfl (by decide +kernel) rfl rfl (Nat.le_of_ble_eq_true rfl) dX0_init_50 (fun H locs hP hD hS => ?_)
  have hP : va_P D kC [(h0, .inr (0, [.ref q1, .ref q2, .ref q3, .ref q4, .ref q5, .ref q6, .null, .int 0, .int 0, .int 0, .int 0])), (q1, .inl (c1, 60, .inl (fun _ => 0))), (q2, .inl (c2, 60, .inl (fun _ => 0))), (q3, .inl (c3, 60, .inl (fun _ => 0))), (q4, .inl (c4, 60, .inl (fun _ => 0))), (q5, .inl (c5, 480, .inr (.inl (fun _ => 0)))), (q6, .inl (c6, 8, .inl (fun _ => 0)))] H := hP
  have hD : va_D A [(h0, .inr (0, [.ref q1, .ref q2, .ref q3, .ref q4, .ref q5, .ref q6, .null, .int 0, .int 0, .int 0, .int 0])), (q1, .inl (c1, 60, .inl (fun _ => 0))), (q2, .inl (c2, 60, .inl (fun _ => 0))), (q3, .inl (c3, 60, .inl (fun _ => 0))), (q4, .inl (c4, 60, .inl (fun _ => 0))), (q5, .inl (c5, 480, .inr (.inl (fun _ => 0)))), (q6, .inl (c6, 8, .inl (fun _ => 0)))] := hD
  refine lv_aload_n hx hb dX0_init_53 rfl (lv_at hl 0 rfl) ?_
  refine lv_bipush (v := 8) hx hb dX0_init_54 (by decide) ?_
  have h_c6 : 6 + 1 ≤ 7 := by decide
  have h_s6 : 728 + 8 ≤ 736 := by decide
  refine va_newa (atype := .int) (ty := .int) (N' := 8) (a0 := (8, .inl (fun _ => 0))) hx hb (hts _ wa_int) rfl hK hP hD hS hA (fun _ => rfl) (by decide) (by decide) (by decide) h_c6 h_s6 dX0_init_56 (fun q7 c7 H hK hP hD hS => ?_)
  refine W.widen (k := 7) (n := 736) (by omega) (by omega) ?_
  have hP : va_P D kC [(h0, .inr (0, [.ref q1, .ref q2, .ref q3, .ref q4, .ref q5, .ref q6, .null, .int 0, .int 0, .int 0, .int 0])), (q1, .inl (c1, 60, .inl (fun _ => 0))), (q2, .inl (c2, 60, .inl (fun _ => 0))), (q3, .inl (c3, 60, .inl (fun _ => 0))), (q4, .inl (c4, 60, .inl (fun _ => 0))), (q5, .inl (c5, 480, .inr (.inl (fun _ => 0)))), (q6, .inl (c6, 8, .inl (fun _ => 0))), (q7, .inl (c7, 8, .inl (fun _ => 0)))] H := hP
  have hD : va_D A [(h0, .inr (0, [.ref q1, .ref q2, .ref q3, .ref q4, .ref q5, .ref q6, .null, .int 0, .int 0, .int 0, .int 0])), (q1, .inl (c1, 60, .inl (fun _ => 0))), (q2, .inl (c2, 60, .inl (fun _ => 0))), (q3, .inl (c3, 60, .inl (fun _ => 0))), (q4, .inl (c4, 60, .inl (fun _ => 0))), (q5, .inl (c5, 480, .inr (.inl (fun _ => 0)))), (q6, .inl (c6, 8, .inl (fun _ => 0))), (q7, .inl (c7, 8, .inl (fun _ => 0)))] := hD
  have hK : va_K D kC [(c1, .int), (c2, .int), (c3, .int), (c4, .int), (c5, .long), (c6, .int), (c7, .int)] s := hK
  refine va_putF (D := D) (ci := 0) (v := .ref q7) (ty := .array .int) (C := RX0) (T := TX0) (N := 11) hx hb hts wI_X0 tyX0 tyX0_ok nmX0 hown hK hP hD hS 0 rfl rfl 6 (by decide) (hts _ wf_X0_29) (fun _ h9 => h9) rfl hin rfl (by decide +kernel) rfl rfl (Nat.le_of_ble_eq_true rfl) dX0_init_58 (fun H locs hP hD hS => ?_)
  have hP : va_P D kC [(h0, .inr (0, [.ref q1, .ref q2, .ref q3, .ref q4, .ref q5, .ref q6, .ref q7, .int 0, .int 0, .int 0, .int 0])), (q1, .inl (c1, 60, .inl (fun _ => 0))), (q2, .inl (c2, 60, .inl (fun _ => 0))), (q3, .inl (c3, 60, .inl (fun _ => 0))), (q4, .inl (c4, 60, .inl (fun _ => 0))), (q5, .inl (c5, 480, .inr (.inl (fun _ => 0)))), (q6, .inl (c6, 8, .inl (fun _ => 0))), (q7, .inl (c7, 8, .inl (fun _ => 0)))] H := hP
  have hD : va_D A [(h0, .inr (0, [.ref q1, .ref q2, .ref q3, .ref q4, .ref q5, .ref q6, .ref q7, .int 0, .int 0, .int 0, .int 0])), (q1, .inl (c1, 60, .inl (fun _ => 0))), (q2, .inl (c2, 60, .inl (fun _ => 0))), (q3, .inl (c3, 60, .inl (fun _ => 0))), (q4, .inl (c4, 60, .inl (fun _ => 0))), (q5, .inl (c5, 480, .inr (.inl (fun _ => 0)))), (q6, .inl (c6, 8, .inl (fun _ => 0))), (q7, .inl (c7, 8, .inl (fun _ => 0)))] := hD
  refine lv_aload_n hx hb dX0_init_61 rfl (lv_at hl 0 rfl) ?_
  refine lv_iconst (v := 0) hx hb dX0_init_62 (by decide) ?_
  refine va_put (D := D) (ci := 0) (v := .int 0) (ty := .int) (C := RX0) (T := TX0) (N := 11) hx hb hts wI_X0 tyX0 tyX0_ok nmX0 hown hK hP hD hS 0 rfl rfl 7 (by decide) (hts _ wf_X0_32) (fun _ h9 => h9) rfl (by decide +kernel) rfl rfl (Nat.le_of_ble_eq_true rfl) dX0_init_63 (fun H locs hP hD hS => ?_)
  have hP : va_P D kC [(h0, .inr (0, [.ref q1, .ref q2, .ref q3, .ref q4, .ref q5, .ref q6, .ref q7, .int 0, .int 0, .int 0, .int 0])), (q1, .inl (c1, 60, .inl (fun _ => 0))), (q2, .inl (c2, 60, .inl (fun _ => 0))), (q3, .inl (c3, 60, .inl (fun _ => 0))), (q4, .inl (c4, 60, .inl (fun _ => 0))), (q5, .inl (c5, 480, .inr (.inl (fun _ => 0)))), (q6, .inl (c6, 8, .inl (fun _ => 0))), (q7, .inl (c7, 8, .inl (fun _ => 0)))] H := hP
  have hD : va_D A [(h0, .inr (0, [.ref q1, .ref q2, .ref q3, .ref q4, .ref q5, .ref q6, .ref q7, .int 0, .int 0, .int 0, .int 0])), (q1, .inl (c1, 60, .inl (fun _ => 0))), (q2, .inl (c2, 60, .inl (fun _ => 0))), (q3, .inl (c3, 60, .inl (fun _ => 0))), (q4, .inl (c4, 60, .inl (fun _ => 0))), (q5, .inl (c5, 480, .inr (.inl (fun _ => 0)))), (q6, .inl (c6, 8, .inl (fun _ => 0))), (q7, .inl (c7, 8, .inl (fun _ => 0)))] := hD
  refine lv_aload_n hx hb dX0_init_66 rfl (lv_at hl 0 rfl) ?_
  refine lv_iconst (v := 0) hx hb dX0_init_67 (by decide) ?_
  refine va_put (D := D) (ci := 0) (v := .int 0) (ty := .int) (C := RX0) (T := TX0) (N := 11) hx hb hts wI_X0 tyX0 tyX0_ok nmX0 hown hK hP hD hS 0 rfl rfl 8 (by decide) (hts _ wf_X0_36) (fun _ h9 => h9) rfl (by decide +kernel) rfl rfl (Nat.le_of_ble_eq_true rfl) dX0_init_68 (fun H locs hP hD hS => ?_)
  have hP : va_P D kC [(h0, .inr (0, [.ref q1, .ref q2, .ref q3, .ref q4, .ref q5, .ref q6, .ref q7, .int 0, .int 0, .int 0, .int 0])), (q1, .inl (c1, 60, .inl (fun _ => 0))), (q2, .inl (c2, 60, .inl (fun _ => 0))), (q3, .inl (c3, 60, .inl (fun _ => 0))), (q4, .inl (c4, 60, .inl (fun _ => 0))), (q5, .inl (c5, 480, .inr (.inl (fun _ => 0)))), (q6, .inl (c6, 8, .inl (fun _ => 0))), (q7, .inl (c7, 8, .inl (fun _ => 0)))] H := hP
  have hD : va_D A [(h0, .inr (0, [.ref q1, .ref q2, .ref q3, .ref q4, .ref q5, .ref q6, .ref q7, .int 0, .int 0, .int 0, .int 0])), (q1, .inl (c1, 60, .inl (fun _ => 0))), (q2, .inl (c2, 60, .inl (fun _ => 0))), (q3, .inl (c3, 60, .inl (fun _ => 0))), (q4, .inl (c4, 60, .inl (fun _ => 0))), (q5, .inl (c5, 480, .inr (.inl (fun _ => 0)))), (q6, .inl (c6, 8, .inl (fun _ => 0))), (q7, .inl (c7, 8, .inl (fun _ => 0)))] := hD
  refine lv_aload_n hx hb dX0_init_71 rfl (lv_at hl 0 rfl) ?_
  refine lv_iconst (v := 0) hx hb dX0_init_72 (by decide) ?_
  refine va_put (D := D) (ci := 0) (v := .int 0) (ty := .int) (C := RX0) (T := TX0) (N := 11) hx hb hts wI_X0 tyX0 tyX0_ok nmX0 hown hK hP hD hS 0 rfl rfl 9 (by decide) (hts _ wf_X0_39) (fun _ h9 => h9) rfl (by decide +kernel) rfl rfl (Nat.le_of_ble_eq_true rfl) dX0_init_73 (fun H locs hP hD hS => ?_)
  have hP : va_P D kC [(h0, .inr (0, [.ref q1, .ref q2, .ref q3, .ref q4, .ref q5, .ref q6, .ref q7, .int 0, .int 0, .int 0, .int 0])), (q1, .inl (c1, 60, .inl (fun _ => 0))), (q2, .inl (c2, 60, .inl (fun _ => 0))), (q3, .inl (c3, 60, .inl (fun _ => 0))), (q4, .inl (c4, 60, .inl (fun _ => 0))), (q5, .inl (c5, 480, .inr (.inl (fun _ => 0)))), (q6, .inl (c6, 8, .inl (fun _ => 0))), (q7, .inl (c7, 8, .inl (fun _ => 0)))] H := hP
  have hD : va_D A [(h0, .inr (0, [.ref q1, .ref q2, .ref q3, .ref q4, .ref q5, .ref q6, .ref q7, .int 0, .int 0, .int 0, .int 0])), (q1, .inl (c1, 60, .inl (fun _ => 0))), (q2, .inl (c2, 60, .inl (fun _ => 0))), (q3, .inl (c3, 60, .inl (fun _ => 0))), (q4, .inl (c4, 60, .inl (fun _ => 0))), (q5, .inl (c5, 480, .inr (.inl (fun _ => 0)))), (q6, .inl (c6, 8, .inl (fun _ => 0))), (q7, .inl (c7, 8, .inl (fun _ => 0)))] := hD
  refine lv_aload_n hx hb dX0_init_76 rfl (lv_at hl 0 rfl) ?_
  refine lv_iconst (v := (-1)) hx hb dX0_init_77 (by decide) ?_
  refine va_put (D := D) (ci := 0) (v := .int (-1)) (ty := .int) (C := RX0) (T := TX0) (N := 11) hx hb hts wI_X0 tyX0 tyX0_ok nmX0 hown hK hP hD hS 0 rfl rfl 10 (by decide) (hts _ wf_X0_42) (fun _ h9 => h9) rfl (by decide +kernel) rfl rfl (Nat.le_of_ble_eq_true rfl) dX0_init_78 (fun H locs hP hD hS => ?_)
  have hP : va_P D kC [(h0, .inr (0, [.ref q1, .ref q2, .ref q3, .ref q4, .ref q5, .ref q6, .ref q7, .int 0, .int 0, .int 0, .int (-1)])), (q1, .inl (c1, 60, .inl (fun _ => 0))), (q2, .inl (c2, 60, .inl (fun _ => 0))), (q3, .inl (c3, 60, .inl (fun _ => 0))), (q4, .inl (c4, 60, .inl (fun _ => 0))), (q5, .inl (c5, 480, .inr (.inl (fun _ => 0)))), (q6, .inl (c6, 8, .inl (fun _ => 0))), (q7, .inl (c7, 8, .inl (fun _ => 0)))] H := hP
  have hD : va_D A [(h0, .inr (0, [.ref q1, .ref q2, .ref q3, .ref q4, .ref q5, .ref q6, .ref q7, .int 0, .int 0, .int 0, .int (-1)])), (q1, .inl (c1, 60, .inl (fun _ => 0))), (q2, .inl (c2, 60, .inl (fun _ => 0))), (q3, .inl (c3, 60, .inl (fun _ => 0))), (q4, .inl (c4, 60, .inl (fun _ => 0))), (q5, .inl (c5, 480, .inr (.inl (fun _ => 0)))), (q6, .inl (c6, 8, .inl (fun _ => 0))), (q7, .inl (c7, 8, .inl (fun _ => 0)))] := hD
  exact W.vret hx hb hr (fun t ht hW => ⟨⟨(fun j => [h0, q1, q2, q3, q4, q5, q6, q7].getD j 0, fun j => [c1, c1, c2, c3, c4, c5, c6, c7].getD j c1), rfl, rfl, show va_P D kC [(h0, .inr (0, [.ref q1, .ref q2, .ref q3, .ref q4, .ref q5, .ref q6, .ref q7, .int 0, .int 0, .int 0, .int (-1)])), (q1, .inl (c1, 60, .inl (fun _ => 0))), (q2, .inl (c2, 60, .inl (fun _ => 0))), (q3, .inl (c3, 60, .inl (fun _ => 0))), (q4, .inl (c4, 60, .inl (fun _ => 0))), (q5, .inl (c5, 480, .inr (.inl (fun _ => 0)))), (q6, .inl (c6, 8, .inl (fun _ => 0))), (q7, .inl (c7, 8, .inl (fun _ => 0)))] t.heap by rw [ht]; exact hP, va_K.moved hW.alike hK, hD⟩, hS.F ht⟩) hS.2.2 dX0_init_81
def m0 : MS := (0, fun _ => 0, fun _ => 0, fun _ => 0, fun _ => 0, fun _ => 0, fun _ => 0, fun _ => 0, fun _ => 0, 0, 0, -1, fun _ => 0, fun _ => 0, fun _ => 0, fun _ => 0)
def rmM : Room := { frames := 1, cells := 12, slots := 1352, locals := 64 }
theorem hd_X1_init : yX1_init.cls ≠ "java/lang/invoke/MethodHandle" ∧ yX1_init.cls ≠ "java/lang/invoke/VarHandle" ∧ (parseMethodDescriptor yX1_init.desc).map (fun d => d.parameters.length) = some 0 := by decide +kernel
set_option maxRecDepth 100000 in
set_option maxHeartbeats 4000000 in
theorem kX1_init (l : Launch) (D : va_G) (h0 sz : Nat) : Met l yX1_init (kW yX1_init cX1_init 1 none) rmM (va_Pc [.ref h0] (fun U => U.heap.size = sz ∧ va_P D kC [(h0, .inr (1, [.int 0, .null, .null, .null, .null, .null, .null, .null, .null, .int 0, .int 0, .int 0, .null, .null, .null, .null]))] U.heap ∧ va_K D kC [] U ∧ va_D (fun _ => True) [(h0, .inr (1, [.int 0, .null, .null, .null, .null, .null, .null, .null, .null, .int 0, .int 0, .int 0, .null, .null, .null, .null]))])) (va_Qv (fun (q : (Nat → Nat) × (Nat → ClassId)) => q.1 0 = h0) (fun q t => va_P D kC (wM q.1 q.2 m0) t.heap ∧ va_K D kC (tM q.2) t ∧ va_D (va_A [(h0, .inr (1, [.int 0, .null, .null, .null, .null, .null, .null, .null, .null, .int 0, .int 0, .int 0, .null, .null, .null, .null]))] sz) (wM q.1 q.2 m0)) (va_A [(h0, .inr (1, [.int 0, .null, .null, .null, .null, .null, .null, .null, .null, .int 0, .int 0, .int 0, .null, .null, .null, .null]))] sz)) 12 1352 (va_A [(h0, .inr (1, [.int 0, .null, .null, .null, .null, .null, .null, .null, .null, .int 0, .int 0, .int 0, .null, .null, .null, .null]))] sz) := by
  refine Met.ofW (cc := cX1_init) (maxL := 1) (ret := none) (by decide) rfl ?_
  intro p e s m args below meth c s₁ B hml hv
  obtain ⟨rfl, hsz, hP, hK, hD0⟩ := hv
  have hx := B.exec
  have hb := B.bytes
  have hr := B.returns
  have hts0 := atoms_spec (ws := kW yX1_init cX1_init 1 none) B.pre
  have hts : ∀ w ∈ kT, w.before #[Value.ref h0] s = true := fun w h => hts0 w (List.mem_cons_of_mem _ h)
  have hown : s.vm.findClass RX1 = some m.cls := findClass_of_methodNamed B.named
  have hlocks := B.notSynchronized
  have hin : meth.name = "<init>" := (name_of_methodNamed B.named B.method).1
  subst hsz
  have hD := hD0.self (sz := s.heap.size)
  generalize hAe : va_A [(h0, .inr (1, [.int 0, .null, .null, .null, .null, .null, .null, .null, .null, .int 0, .int 0, .int 0, .null, .null, .null, .null]))] s.heap.size = A at hD ⊢
  have hA : ∀ q : Nat, s.heap.size ≤ q → A q := fun q h => by rw [← hAe]; exact Or.inr h
  have hS : va_S A s.heap s.heap [] := va_S.rf
  have hP : va_P D kC [(h0, .inr (1, [.int 0, .null, .null, .null, .null, .null, .null, .null, .null, .int 0, .int 0, .int 0, .null, .null, .null, .null]))] s.heap := hP
  have hl := lv_entry ([.ref h0]) (n := 1) (Nat.le_of_ble_eq_true rfl)
  rw [lg_entry_eq]
  generalize (lg_sl ([.ref h0]) ++ List.replicate (1 - (lg_sl ([.ref h0])).length) Slot.unset).toArray = ls at hl ⊢
  have hl : lv_has ls 1 [(0, .ref h0)] := hl
  refine lv_aload_n hx hb dX1_init_0 rfl (lv_at hl 0 rfl) ?_
  refine W.objInit hx hb hown (hts _ wl_X1_1) (hts _ wm_obj) (hts _ wc_obj) rfl (by rw [hml]; exact hl.1) rfl dX1_init_1 (Nat.le_of_ble_eq_true rfl) (Nat.le_of_ble_eq_true rfl) ?_
  refine W.eq (g2 := F0 m 4 ls []) rfl ?_
  refine lv_aload_n hx hb dX1_init_4 rfl (lv_at hl 0 rfl) ?_
  refine lv_bipush (v := 60) hx hb dX1_init_5 (by decide) ?_
  have h_c0 : 0 + 1 ≤ 12 := by decide
  have h_s0 : 0 + 60 ≤ 1352 := by decide
  refine va_newa (atype := .int) (ty := .int) (N' := 60) (a0 := (60, .inl (fun _ => 0))) hx hb (hts _ wa_int) rfl hK hP hD hS hA (fun _ => rfl) (by decide) (by decide) (by decide) h_c0 h_s0 dX1_init_7 (fun q1 c1 H hK hP hD hS => ?_)
  refine W.widen (k := 1) (n := 60) (by omega) (by omega) ?_
  have hP : va_P D kC [(h0, .inr (1, [.int 0, .null, .null, .null, .null, .null, .null, .null, .null, .int 0, .int 0, .int 0, .null, .null, .null, .null])), (q1, .inl (c1, 60, .inl (fun _ => 0)))] H := hP
  have hD : va_D A [(h0, .inr (1, [.int 0, .null, .null, .null, .null, .null, .null, .null, .null, .int 0, .int 0, .int 0, .null, .null, .null, .null])), (q1, .inl (c1, 60, .inl (fun _ => 0)))] := hD
  have hK : va_K D kC [(c1, .int)] s := hK
  refine va_putF (D := D) (ci := 1) (v := .ref q1) (ty := .array .int) (C := RX1) (T := TX1) (N := 16) hx hb hts wI_X1 tyX1 tyX1_ok nmX1 hown hK hP hD hS 0 rfl rfl 1 (by decide) (hts _ wf_X1_7) (fun _ h9 => h9) rfl hin rfl (by decide +kernel) rfl rfl (Nat.le_of_ble_eq_true rfl) dX1_init_9 (fun H locs hP hD hS => ?_)
  have hP : va_P D kC [(h0, .inr (1, [.int 0, .ref q1, .null, .null, .null, .null, .null, .null, .null, .int 0, .int 0, .int 0, .null, .null, .null, .null])), (q1, .inl (c1, 60, .inl (fun _ => 0)))] H := hP
  have hD : va_D A [(h0, .inr (1, [.int 0, .ref q1, .null, .null, .null, .null, .null, .null, .null, .int 0, .int 0, .int 0, .null, .null, .null, .null])), (q1, .inl (c1, 60, .inl (fun _ => 0)))] := hD
  refine lv_aload_n hx hb dX1_init_12 rfl (lv_at hl 0 rfl) ?_
  refine lv_bipush (v := 60) hx hb dX1_init_13 (by decide) ?_
  have h_c1 : 1 + 1 ≤ 12 := by decide
  have h_s1 : 60 + 60 ≤ 1352 := by decide
  refine va_newa (atype := .int) (ty := .int) (N' := 60) (a0 := (60, .inl (fun _ => 0))) hx hb (hts _ wa_int) rfl hK hP hD hS hA (fun _ => rfl) (by decide) (by decide) (by decide) h_c1 h_s1 dX1_init_15 (fun q2 c2 H hK hP hD hS => ?_)
  refine W.widen (k := 2) (n := 120) (by omega) (by omega) ?_
  have hP : va_P D kC [(h0, .inr (1, [.int 0, .ref q1, .null, .null, .null, .null, .null, .null, .null, .int 0, .int 0, .int 0, .null, .null, .null, .null])), (q1, .inl (c1, 60, .inl (fun _ => 0))), (q2, .inl (c2, 60, .inl (fun _ => 0)))] H := hP
  have hD : va_D A [(h0, .inr (1, [.int 0, .ref q1, .null, .null, .null, .null, .null, .null, .null, .int 0, .int 0, .int 0, .null, .null, .null, .null])), (q1, .inl (c1, 60, .inl (fun _ => 0))), (q2, .inl (c2, 60, .inl (fun _ => 0)))] := hD
  have hK : va_K D kC [(c1, .int), (c2, .int)] s := hK
  refine va_putF (D := D) (ci := 1) (v := .ref q2) (ty := .array .int) (C := RX1) (T := TX1) (N := 16) hx hb hts wI_X1 tyX1 tyX1_ok nmX1 hown hK hP hD hS 0 rfl rfl 2 (by decide) (hts _ wf_X1_13) (fun _ h9 => h9) rfl hin rfl (by decide +kernel) rfl rfl (Nat.le_of_ble_eq_true rfl) dX1_init_17 (fun H locs hP hD hS => ?_)
  have hP : va_P D kC [(h0, .inr (1, [.int 0, .ref q1, .ref q2, .null, .null, .null, .null, .null, .null, .int 0, .int 0, .int 0, .null, .null, .null, .null])), (q1, .inl (c1, 60, .inl (fun _ => 0))), (q2, .inl (c2, 60, .inl (fun _ => 0)))] H := hP
  have hD : va_D A [(h0, .inr (1, [.int 0, .ref q1, .ref q2, .null, .null, .null, .null, .null, .null, .int 0, .int 0, .int 0, .null, .null, .null, .null])), (q1, .inl (c1, 60, .inl (fun _ => 0))), (q2, .inl (c2, 60, .inl (fun _ => 0)))] := hD
  refine lv_aload_n hx hb dX1_init_20 rfl (lv_at hl 0 rfl) ?_
  refine lv_bipush (v := 60) hx hb dX1_init_21 (by decide) ?_
  have h_c2 : 2 + 1 ≤ 12 := by decide
  have h_s2 : 120 + 60 ≤ 1352 := by decide
  refine va_newa (atype := .int) (ty := .int) (N' := 60) (a0 := (60, .inl (fun _ => 0))) hx hb (hts _ wa_int) rfl hK hP hD hS hA (fun _ => rfl) (by decide) (by decide) (by decide) h_c2 h_s2 dX1_init_23 (fun q3 c3 H hK hP hD hS => ?_)
  refine W.widen (k := 3) (n := 180) (by omega) (by omega) ?_
  have hP : va_P D kC [(h0, .inr (1, [.int 0, .ref q1, .ref q2, .null, .null, .null, .null, .null, .null, .int 0, .int 0, .int 0, .null, .null, .null, .null])), (q1, .inl (c1, 60, .inl (fun _ => 0))), (q2, .inl (c2, 60, .inl (fun _ => 0))), (q3, .inl (c3, 60, .inl (fun _ => 0)))] H := hP
  have hD : va_D A [(h0, .inr (1, [.int 0, .ref q1, .ref q2, .null, .null, .null, .null, .null, .null, .int 0, .int 0, .int 0, .null, .null, .null, .null])), (q1, .inl (c1, 60, .inl (fun _ => 0))), (q2, .inl (c2, 60, .inl (fun _ => 0))), (q3, .inl (c3, 60, .inl (fun _ => 0)))] := hD
  have hK : va_K D kC [(c1, .int), (c2, .int), (c3, .int)] s := hK
  refine va_putF (D := D) (ci := 1) (v := .ref q3) (ty := .array .int) (C := RX1) (T := TX1) (N := 16) hx hb hts wI_X1 tyX1 tyX1_ok nmX1 hown hK hP hD hS 0 rfl rfl 3 (by decide) (hts _ wf_X1_16) (fun _ h9 => h9) rfl hin rfl (by decide +kernel) rfl rfl (Nat.le_of_ble_eq_true rfl) dX1_init_25 (fun H locs hP hD hS => ?_)
  have hP : va_P D kC [(h0, .inr (1, [.int 0, .ref q1, .ref q2, .ref q3, .null, .null, .null, .null, .null, .int 0, .int 0, .int 0, .null, .null, .null, .null])), (q1, .inl (c1, 60, .inl (fun _ => 0))), (q2, .inl (c2, 60, .inl (fun _ => 0))), (q3, .inl (c3, 60, .inl (fun _ => 0)))] H := hP
  have hD : va_D A [(h0, .inr (1, [.int 0, .ref q1, .ref q2, .ref q3, .null, .null, .null, .null, .null, .int 0, .int 0, .int 0, .null, .null, .null, .null])), (q1, .inl (c1, 60, .inl (fun _ => 0))), (q2, .inl (c2, 60, .inl (fun _ => 0))), (q3, .inl (c3, 60, .inl (fun _ => 0)))] := hD
  refine lv_aload_n hx hb dX1_init_28 rfl (lv_at hl 0 rfl) ?_
  refine lv_bipush (v := 60) hx hb dX1_init_29 (by decide) ?_
  have h_c3 : 3 + 1 ≤ 12 := by decide
  have h_s3 : 180 + 60 ≤ 1352 := by decide
  refine va_newa (atype := .int) (ty := .int) (N' := 60) (a0 := (60, .inl (fun _ => 0))) hx hb (hts _ wa_int) rfl hK hP hD hS hA (fun _ => rfl) (by decide) (by decide) (by decide) h_c3 h_s3 dX1_init_31 (fun q4 c4 H hK hP hD hS => ?_)
  refine W.widen (k := 4) (n := 240) (by omega) (by omega) ?_
  have hP : va_P D kC [(h0, .inr (1, [.int 0, .ref q1, .ref q2, .ref q3, .null, .null, .null, .null, .null, .int 0, .int 0, .int 0, .null, .null, .null, .null])), (q1, .inl (c1, 60, .inl (fun _ => 0))), (q2, .inl (c2, 60, .inl (fun _ => 0))), (q3, .inl (c3, 60, .inl (fun _ => 0))), (q4, .inl (c4, 60, .inl (fun _ => 0)))] H := hP
  have hD : va_D A [(h0, .inr (1, [.int 0, .ref q1, .ref q2, .ref q3, .null, .null, .null, .null, .null, .int 0, .int 0, .int 0, .null, .null, .null, .null])), (q1, .inl (c1, 60, .inl (fun _ => 0))), (q2, .inl (c2, 60, .inl (fun _ => 0))), (q3, .inl (c3, 60, .inl (fun _ => 0))), (q4, .inl (c4, 60, .inl (fun _ => 0)))] := hD
  have hK : va_K D kC [(c1, .int), (c2, .int), (c3, .int), (c4, .int)] s := hK
  refine va_putF (D := D) (ci := 1) (v := .ref q4) (ty := .array .int) (C := RX1) (T := TX1) (N := 16) hx hb hts wI_X1 tyX1 tyX1_ok nmX1 hown hK hP hD hS 0 rfl rfl 4 (by decide) (hts _ wf_X1_19) (fun _ h9 => h9) rfl hin rfl (by decide +kernel) rfl rfl (Nat.le_of_ble_eq_true rfl) dX1_init_33 (fun H locs hP hD hS => ?_)
  have hP : va_P D kC [(h0, .inr (1, [.int 0, .ref q1, .ref q2, .ref q3, .ref q4, .null, .null, .null, .null, .int 0, .int 0, .int 0, .null, .null, .null, .null])), (q1, .inl (c1, 60, .inl (fun _ => 0))), (q2, .inl (c2, 60, .inl (fun _ => 0))), (q3, .inl (c3, 60, .inl (fun _ => 0))), (q4, .inl (c4, 60, .inl (fun _ => 0)))] H := hP
  have hD : va_D A [(h0, .inr (1, [.int 0, .ref q1, .ref q2, .ref q3, .ref q4, .null, .null, .null, .null, .int 0, .int 0, .int 0, .null, .null, .null, .null])), (q1, .inl (c1, 60, .inl (fun _ => 0))), (q2, .inl (c2, 60, .inl (fun _ => 0))), (q3, .inl (c3, 60, .inl (fun _ => 0))), (q4, .inl (c4, 60, .inl (fun _ => 0)))] := hD
  refine lv_aload_n hx hb dX1_init_36 rfl (lv_at hl 0 rfl) ?_
  refine lv_sipush (v := 480) hx hb dX1_init_37 (by decide) ?_
  have h_c4 : 4 + 1 ≤ 12 := by decide
  have h_s4 : 240 + 480 ≤ 1352 := by decide
  refine va_newa (atype := .int) (ty := .int) (N' := 480) (a0 := (480, .inl (fun _ => 0))) hx hb (hts _ wa_int) rfl hK hP hD hS hA (fun _ => rfl) (by decide) (by decide) (by decide) h_c4 h_s4 dX1_init_40 (fun q5 c5 H hK hP hD hS => ?_)
  refine W.widen (k := 5) (n := 720) (by omega) (by omega) ?_
  have hP : va_P D kC [(h0, .inr (1, [.int 0, .ref q1, .ref q2, .ref q3, .ref q4, .null, .null, .null, .null, .int 0, .int 0, .int 0, .null, .null, .null, .null])), (q1, .inl (c1, 60, .inl (fun _ => 0))), (q2, .inl (c2, 60, .inl (fun _ => 0))), (q3, .inl (c3, 60, .inl (fun _ => 0))), (q4, .inl (c4, 60, .inl (fun _ => 0))), (q5, .inl (c5, 480, .inl (fun _ => 0)))] H := hP
  have hD : va_D A [(h0, .inr (1, [.int 0, .ref q1, .ref q2, .ref q3, .ref q4, .null, .null, .null, .null, .int 0, .int 0, .int 0, .null, .null, .null, .null])), (q1, .inl (c1, 60, .inl (fun _ => 0))), (q2, .inl (c2, 60, .inl (fun _ => 0))), (q3, .inl (c3, 60, .inl (fun _ => 0))), (q4, .inl (c4, 60, .inl (fun _ => 0))), (q5, .inl (c5, 480, .inl (fun _ => 0)))] := hD
  have hK : va_K D kC [(c1, .int), (c2, .int), (c3, .int), (c4, .int), (c5, .int)] s := hK
  refine va_putF (D := D) (ci := 1) (v := .ref q5) (ty := .array .int) (C := RX1) (T := TX1) (N := 16) hx hb hts wI_X1 tyX1 tyX1_ok nmX1 hown hK hP hD hS 0 rfl rfl 5 (by decide) (hts _ wf_X1_22) (fun _ h9 => h9) rfl hin rfl (by decide +kernel) rfl rfl (Nat.le_of_ble_eq_true rfl) dX1_init_42 (fun H locs hP hD hS => ?_)
  have hP : va_P D kC [(h0, .inr (1, [.int 0, .ref q1, .ref q2, .ref q3, .ref q4, .ref q5, .null, .null, .null, .int 0, .int 0, .int 0, .null, .null, .null, .null])), (q1, .inl (c1, 60, .inl (fun _ => 0))), (q2, .inl (c2, 60, .inl (fun _ => 0))), (q3, .inl (c3, 60, .inl (fun _ => 0))), (q4, .inl (c4, 60, .inl (fun _ => 0))), (q5, .inl (c5, 480, .inl (fun _ => 0)))] H := hP
  have hD : va_D A [(h0, .inr (1, [.int 0, .ref q1, .ref q2, .ref q3, .ref q4, .ref q5, .null, .null, .null, .int 0, .int 0, .int 0, .null, .null, .null, .null])), (q1, .inl (c1, 60, .inl (fun _ => 0))), (q2, .inl (c2, 60, .inl (fun _ => 0))), (q3, .inl (c3, 60, .inl (fun _ => 0))), (q4, .inl (c4, 60, .inl (fun _ => 0))), (q5, .inl (c5, 480, .inl (fun _ => 0)))] := hD
  refine lv_aload_n hx hb dX1_init_45 rfl (lv_at hl 0 rfl) ?_
  refine lv_sipush (v := 480) hx hb dX1_init_46 (by decide) ?_
  have h_c5 : 5 + 1 ≤ 12 := by decide
  have h_s5 : 720 + 480 ≤ 1352 := by decide
  refine va_newa (atype := .long) (ty := .long) (N' := 480) (a0 := (480, .inr (.inl (fun _ => 0)))) hx hb (hts _ wa_long) rfl hK hP hD hS hA (fun _ => rfl) (by decide) (by decide) (by decide) h_c5 h_s5 dX1_init_49 (fun q6 c6 H hK hP hD hS => ?_)
  refine W.widen (k := 6) (n := 1200) (by omega) (by omega) ?_
  have hP : va_P D kC [(h0, .inr (1, [.int 0, .ref q1, .ref q2, .ref q3, .ref q4, .ref q5, .null, .null, .null, .int 0, .int 0, .int 0, .null, .null, .null, .null])), (q1, .inl (c1, 60, .inl (fun _ => 0))), (q2, .inl (c2, 60, .inl (fun _ => 0))), (q3, .inl (c3, 60, .inl (fun _ => 0))), (q4, .inl (c4, 60, .inl (fun _ => 0))), (q5, .inl (c5, 480, .inl (fun _ => 0))), (q6, .inl (c6, 480, .inr (.inl (fun _ => 0))))] H := hP
  have hD : va_D A [(h0, .inr (1, [.int 0, .ref q1, .ref q2, .ref q3, .ref q4, .ref q5, .null, .null, .null, .int 0, .int 0, .int 0, .null, .null, .null, .null])), (q1, .inl (c1, 60, .inl (fun _ => 0))), (q2, .inl (c2, 60, .inl (fun _ => 0))), (q3, .inl (c3, 60, .inl (fun _ => 0))), (q4, .inl (c4, 60, .inl (fun _ => 0))), (q5, .inl (c5, 480, .inl (fun _ => 0))), (q6, .inl (c6, 480, .inr (.inl (fun _ => 0))))] := hD
  have hK : va_K D kC [(c1, .int), (c2, .int), (c3, .int), (c4, .int), (c5, .int), (c6, .long)] s := hK
  refine va_putF (D := D) (ci := 1) (v := .ref q6) (ty := .array .long) (C := RX1) (T := TX1) (N := 16) hx hb hts wI_X1 tyX1 tyX1_ok nmX1 hown hK hP hD hS 0 rfl rfl 6 (by decide) (hts _ wf_X1_25) (fun _ h9 => h9) rfl hin rfl (by decide +kernel) rfl rfl (Nat.le_of_ble_eq_true rfl) dX1_init_51 (fun H locs hP hD hS => ?_)
  have hP : va_P D kC [(h0, .inr (1, [.int 0, .ref q1, .ref q2, .ref q3, .ref q4, .ref q5, .ref q6, .null, .null, .int 0, .int 0, .int 0, .null, .null, .null, .null])), (q1, .inl (c1, 60, .inl (fun _ => 0))), (q2, .inl (c2, 60, .inl (fun _ => 0))), (q3, .inl (c3, 60, .inl (fun _ => 0))), (q4, .inl (c4, 60, .inl (fun _ => 0))), (q5, .inl (c5, 480, .inl (fun _ => 0))), (q6, .inl (c6, 480, .inr (.inl (fun _ => 0))))] H := hP
  have hD : va_D A [(h0, .inr (1, [.int 0, .ref q1, .ref q2, .ref q3, .ref q4, .ref q5, .ref q6, .null, .null, .int 0, .int 0, .int 0, .null, .null, .null, .null])), (q1, .inl (c1, 60, .inl (fun _ => 0))), (q2, .inl (c2, 60, .inl (fun _ => 0))), (q3, .inl (c3, 60, .inl (fun _ => 0))), (q4, .inl (c4, 60, .inl (fun _ => 0))), (q5, .inl (c5, 480, .inl (fun _ => 0))), (q6, .inl (c6, 480, .inr (.inl (fun _ => 0))))] := hD
  refine lv_aload_n hx hb dX1_init_54 rfl (lv_at hl 0 rfl) ?_
  refine lv_bipush (v := 8) hx hb dX1_init_55 (by decide) ?_
  have h_c6 : 6 + 1 ≤ 12 := by decide
  have h_s6 : 1200 + 8 ≤ 1352 := by decide
  refine va_newa (atype := .int) (ty := .int) (N' := 8) (a0 := (8, .inl (fun _ => 0))) hx hb (hts _ wa_int) rfl hK hP hD hS hA (fun _ => rfl) (by decide) (by decide) (by decide) h_c6 h_s6 dX1_init_57 (fun q7 c7 H hK hP hD hS => ?_)
  refine W.widen (k := 7) (n := 1208) (by omega) (by omega) ?_
  have hP : va_P D kC [(h0, .inr (1, [.int 0, .ref q1, .ref q2, .ref q3, .ref q4, .ref q5, .ref q6, .null, .null, .int 0, .int 0, .int 0, .null, .null, .null, .null])), (q1, .inl (c1, 60, .inl (fun _ => 0))), (q2, .inl (c2, 60, .inl (fun _ => 0))), (q3, .inl (c3, 60, .inl (fun _ => 0))), (q4, .inl (c4, 60, .inl (fun _ => 0))), (q5, .inl (c5, 480, .inl (fun _ => 0))), (q6, .inl (c6, 480, .inr (.inl (fun _ => 0)))), (q7, .inl (c7, 8, .inl (fun _ => 0)))] H := hP
  have hD : va_D A [(h0, .inr (1, [.int 0, .ref q1, .ref q2, .ref q3, .ref q4, .ref q5, .ref q6, .null, .null, .int 0, .int 0, .int 0, .null, .null, .null, .null])), (q1, .inl (c1, 60, .inl (fun _ => 0))), (q2, .inl (c2, 60, .inl (fun _ => 0))), (q3, .inl (c3, 60, .inl (fun _ => 0))), (q4, .inl (c4, 60, .inl (fun _ => 0))), (q5, .inl (c5, 480, .inl (fun _ => 0))), (q6, .inl (c6, 480, .inr (.inl (fun _ => 0)))), (q7, .inl (c7, 8, .inl (fun _ => 0)))] := hD
  have hK : va_K D kC [(c1, .int), (c2, .int), (c3, .int), (c4, .int), (c5, .int), (c6, .long), (c7, .int)] s := hK
  refine va_putF (D := D) (ci := 1) (v := .ref q7) (ty := .array .int) (C := RX1) (T := TX1) (N := 16) hx hb hts wI_X1 tyX1 tyX1_ok nmX1 hown hK hP hD hS 0 rfl rfl 7 (by decide) (hts _ wf_X1_29) (fun _ h9 => h9) rfl hin rfl (by decide +kernel) rfl rfl (Nat.le_of_ble_eq_true rfl) dX1_init_59 (fun H locs hP hD hS => ?_)
  have hP : va_P D kC [(h0, .inr (1, [.int 0, .ref q1, .ref q2, .ref q3, .ref q4, .ref q5, .ref q6, .ref q7, .null, .int 0, .int 0, .int 0, .null, .null, .null, .null])), (q1, .inl (c1, 60, .inl (fun _ => 0))), (q2, .inl (c2, 60, .inl (fun _ => 0))), (q3, .inl (c3, 60, .inl (fun _ => 0))), (q4, .inl (c4, 60, .inl (fun _ => 0))), (q5, .inl (c5, 480, .inl (fun _ => 0))), (q6, .inl (c6, 480, .inr (.inl (fun _ => 0)))), (q7, .inl (c7, 8, .inl (fun _ => 0)))] H := hP
  have hD : va_D A [(h0, .inr (1, [.int 0, .ref q1, .ref q2, .ref q3, .ref q4, .ref q5, .ref q6, .ref q7, .null, .int 0, .int 0, .int 0, .null, .null, .null, .null])), (q1, .inl (c1, 60, .inl (fun _ => 0))), (q2, .inl (c2, 60, .inl (fun _ => 0))), (q3, .inl (c3, 60, .inl (fun _ => 0))), (q4, .inl (c4, 60, .inl (fun _ => 0))), (q5, .inl (c5, 480, .inl (fun _ => 0))), (q6, .inl (c6, 480, .inr (.inl (fun _ => 0)))), (q7, .inl (c7, 8, .inl (fun _ => 0)))] := hD
  refine lv_aload_n hx hb dX1_init_62 rfl (lv_at hl 0 rfl) ?_
  refine lv_bipush (v := 8) hx hb dX1_init_63 (by decide) ?_
  have h_c7 : 7 + 1 ≤ 12 := by decide
  have h_s7 : 1208 + 8 ≤ 1352 := by decide
  refine va_newa (atype := .int) (ty := .int) (N' := 8) (a0 := (8, .inl (fun _ => 0))) hx hb (hts _ wa_int) rfl hK hP hD hS hA (fun _ => rfl) (by decide) (by decide) (by decide) h_c7 h_s7 dX1_init_65 (fun q8 c8 H hK hP hD hS => ?_)
  refine W.widen (k := 8) (n := 1216) (by omega) (by omega) ?_
  have hP : va_P D kC [(h0, .inr (1, [.int 0, .ref q1, .ref q2, .ref q3, .ref q4, .ref q5, .ref q6, .ref q7, .null, .int 0, .int 0, .int 0, .null, .null, .null, .null])), (q1, .inl (c1, 60, .inl (fun _ => 0))), (q2, .inl (c2, 60, .inl (fun _ => 0))), (q3, .inl (c3, 60, .inl (fun _ => 0))), (q4, .inl (c4, 60, .inl (fun _ => 0))), (q5, .inl (c5, 480, .inl (fun _ => 0))), (q6, .inl (c6, 480, .inr (.inl (fun _ => 0)))), (q7, .inl (c7, 8, .inl (fun _ => 0))), (q8, .inl (c8, 8, .inl (fun _ => 0)))] H := hP
  have hD : va_D A [(h0, .inr (1, [.int 0, .ref q1, .ref q2, .ref q3, .ref q4, .ref q5, .ref q6, .ref q7, .null, .int 0, .int 0, .int 0, .null, .null, .null, .null])), (q1, .inl (c1, 60, .inl (fun _ => 0))), (q2, .inl (c2, 60, .inl (fun _ => 0))), (q3, .inl (c3, 60, .inl (fun _ => 0))), (q4, .inl (c4, 60, .inl (fun _ => 0))), (q5, .inl (c5, 480, .inl (fun _ => 0))), (q6, .inl (c6, 480, .inr (.inl (fun _ => 0)))), (q7, .inl (c7, 8, .inl (fun _ => 0))), (q8, .inl (c8, 8, .inl (fun _ => 0)))] := hD
  have hK : va_K D kC [(c1, .int), (c2, .int), (c3, .int), (c4, .int), (c5, .int), (c6, .long), (c7, .int), (c8, .int)] s := hK
  refine va_putF (D := D) (ci := 1) (v := .ref q8) (ty := .array .int) (C := RX1) (T := TX1) (N := 16) hx hb hts wI_X1 tyX1 tyX1_ok nmX1 hown hK hP hD hS 0 rfl rfl 8 (by decide) (hts _ wf_X1_32) (fun _ h9 => h9) rfl hin rfl (by decide +kernel) rfl rfl (Nat.le_of_ble_eq_true rfl) dX1_init_67 (fun H locs hP hD hS => ?_)
  have hP : va_P D kC [(h0, .inr (1, [.int 0, .ref q1, .ref q2, .ref q3, .ref q4, .ref q5, .ref q6, .ref q7, .ref q8, .int 0, .int 0, .int 0, .null, .null, .null, .null])), (q1, .inl (c1, 60, .inl (fun _ => 0))), (q2, .inl (c2, 60, .inl (fun _ => 0))), (q3, .inl (c3, 60, .inl (fun _ => 0))), (q4, .inl (c4, 60, .inl (fun _ => 0))), (q5, .inl (c5, 480, .inl (fun _ => 0))), (q6, .inl (c6, 480, .inr (.inl (fun _ => 0)))), (q7, .inl (c7, 8, .inl (fun _ => 0))), (q8, .inl (c8, 8, .inl (fun _ => 0)))] H := hP
  have hD : va_D A [(h0, .inr (1, [.int 0, .ref q1, .ref q2, .ref q3, .ref q4, .ref q5, .ref q6, .ref q7, .ref q8, .int 0, .int 0, .int 0, .null, .null, .null, .null])), (q1, .inl (c1, 60, .inl (fun _ => 0))), (q2, .inl (c2, 60, .inl (fun _ => 0))), (q3, .inl (c3, 60, .inl (fun _ => 0))), (q4, .inl (c4, 60, .inl (fun _ => 0))), (q5, .inl (c5, 480, .inl (fun _ => 0))), (q6, .inl (c6, 480, .inr (.inl (fun _ => 0)))), (q7, .inl (c7, 8, .inl (fun _ => 0))), (q8, .inl (c8, 8, .inl (fun _ => 0)))] := hD
  refine lv_aload_n hx hb dX1_init_70 rfl (lv_at hl 0 rfl) ?_
  refine lv_iconst (v := (-1)) hx hb dX1_init_71 (by decide) ?_
  refine va_put (D := D) (ci := 1) (v := .int (-1)) (ty := .int) (C := RX1) (T := TX1) (N := 16) hx hb hts wI_X1 tyX1 tyX1_ok nmX1 hown hK hP hD hS 0 rfl rfl 11 (by decide) (hts _ wf_X1_35) (fun _ h9 => h9) rfl (by decide +kernel) rfl rfl (Nat.le_of_ble_eq_true rfl) dX1_init_72 (fun H locs hP hD hS => ?_)
  have hP : va_P D kC [(h0, .inr (1, [.int 0, .ref q1, .ref q2, .ref q3, .ref q4, .ref q5, .ref q6, .ref q7, .ref q8, .int 0, .int 0, .int (-1), .null, .null, .null, .null])), (q1, .inl (c1, 60, .inl (fun _ => 0))), (q2, .inl (c2, 60, .inl (fun _ => 0))), (q3, .inl (c3, 60, .inl (fun _ => 0))), (q4, .inl (c4, 60, .inl (fun _ => 0))), (q5, .inl (c5, 480, .inl (fun _ => 0))), (q6, .inl (c6, 480, .inr (.inl (fun _ => 0)))), (q7, .inl (c7, 8, .inl (fun _ => 0))), (q8, .inl (c8, 8, .inl (fun _ => 0)))] H := hP
  have hD : va_D A [(h0, .inr (1, [.int 0, .ref q1, .ref q2, .ref q3, .ref q4, .ref q5, .ref q6, .ref q7, .ref q8, .int 0, .int 0, .int (-1), .null, .null, .null, .null])), (q1, .inl (c1, 60, .inl (fun _ => 0))), (q2, .inl (c2, 60, .inl (fun _ => 0))), (q3, .inl (c3, 60, .inl (fun _ => 0))), (q4, .inl (c4, 60, .inl (fun _ => 0))), (q5, .inl (c5, 480, .inl (fun _ => 0))), (q6, .inl (c6, 480, .inr (.inl (fun _ => 0)))), (q7, .inl (c7, 8, .inl (fun _ => 0))), (q8, .inl (c8, 8, .inl (fun _ => 0)))] := hD
  refine lv_aload_n hx hb dX1_init_75 rfl (lv_at hl 0 rfl) ?_
  refine lv_bipush (v := 60) hx hb dX1_init_76 (by decide) ?_
  have h_c8 : 8 + 1 ≤ 12 := by decide
  have h_s8 : 1216 + 60 ≤ 1352 := by decide
  refine va_newa (atype := .long) (ty := .long) (N' := 60) (a0 := (60, .inr (.inl (fun _ => 0)))) hx hb (hts _ wa_long) rfl hK hP hD hS hA (fun _ => rfl) (by decide) (by decide) (by decide) h_c8 h_s8 dX1_init_78 (fun q9 c9 H hK hP hD hS => ?_)
  refine W.widen (k := 9) (n := 1276) (by omega) (by omega) ?_
  have hP : va_P D kC [(h0, .inr (1, [.int 0, .ref q1, .ref q2, .ref q3, .ref q4, .ref q5, .ref q6, .ref q7, .ref q8, .int 0, .int 0, .int (-1), .null, .null, .null, .null])), (q1, .inl (c1, 60, .inl (fun _ => 0))), (q2, .inl (c2, 60, .inl (fun _ => 0))), (q3, .inl (c3, 60, .inl (fun _ => 0))), (q4, .inl (c4, 60, .inl (fun _ => 0))), (q5, .inl (c5, 480, .inl (fun _ => 0))), (q6, .inl (c6, 480, .inr (.inl (fun _ => 0)))), (q7, .inl (c7, 8, .inl (fun _ => 0))), (q8, .inl (c8, 8, .inl (fun _ => 0))), (q9, .inl (c9, 60, .inr (.inl (fun _ => 0))))] H := hP
  have hD : va_D A [(h0, .inr (1, [.int 0, .ref q1, .ref q2, .ref q3, .ref q4, .ref q5, .ref q6, .ref q7, .ref q8, .int 0, .int 0, .int (-1), .null, .null, .null, .null])), (q1, .inl (c1, 60, .inl (fun _ => 0))), (q2, .inl (c2, 60, .inl (fun _ => 0))), (q3, .inl (c3, 60, .inl (fun _ => 0))), (q4, .inl (c4, 60, .inl (fun _ => 0))), (q5, .inl (c5, 480, .inl (fun _ => 0))), (q6, .inl (c6, 480, .inr (.inl (fun _ => 0)))), (q7, .inl (c7, 8, .inl (fun _ => 0))), (q8, .inl (c8, 8, .inl (fun _ => 0))), (q9, .inl (c9, 60, .inr (.inl (fun _ => 0))))] := hD
  have hK : va_K D kC [(c1, .int), (c2, .int), (c3, .int), (c4, .int), (c5, .int), (c6, .long), (c7, .int), (c8, .int), (c9, .long)] s := hK
  refine va_putF (D := D) (ci := 1) (v := .ref q9) (ty := .array .long) (C := RX1) (T := TX1) (N := 16) hx hb hts wI_X1 tyX1 tyX1_ok nmX1 hown hK hP hD hS 0 rfl rfl 12 (by decide) (hts _ wf_X1_39) (fun _ h9 => h9) rfl hin rfl (by decide +kernel) rfl rfl (Nat.le_of_ble_eq_true rfl) dX1_init_80 (fun H locs hP hD hS => ?_)
  have hP : va_P D kC [(h0, .inr (1, [.int 0, .ref q1, .ref q2, .ref q3, .ref q4, .ref q5, .ref q6, .ref q7, .ref q8, .int 0, .int 0, .int (-1), .ref q9, .null, .null, .null])), (q1, .inl (c1, 60, .inl (fun _ => 0))), (q2, .inl (c2, 60, .inl (fun _ => 0))), (q3, .inl (c3, 60, .inl (fun _ => 0))), (q4, .inl (c4, 60, .inl (fun _ => 0))), (q5, .inl (c5, 480, .inl (fun _ => 0))), (q6, .inl (c6, 480, .inr (.inl (fun _ => 0)))), (q7, .inl (c7, 8, .inl (fun _ => 0))), (q8, .inl (c8, 8, .inl (fun _ => 0))), (q9, .inl (c9, 60, .inr (.inl (fun _ => 0))))] H := hP
  have hD : va_D A [(h0, .inr (1, [.int 0, .ref q1, .ref q2, .ref q3, .ref q4, .ref q5, .ref q6, .ref q7, .ref q8, .int 0, .int 0, .int (-1), .ref q9, .null, .null, .null])), (q1, .inl (c1, 60, .inl (fun _ => 0))), (q2, .inl (c2, 60, .inl (fun _ => 0))), (q3, .inl (c3, 60, .inl (fun _ => 0))), (q4, .inl (c4, 60, .inl (fun _ => 0))), (q5, .inl (c5, 480, .inl (fun _ => 0))), (q6, .inl (c6, 480, .inr (.inl (fun _ => 0)))), (q7, .inl (c7, 8, .inl (fun _ => 0))), (q8, .inl (c8, 8, .inl (fun _ => 0))), (q9, .inl (c9, 60, .inr (.inl (fun _ => 0))))] := hD
  refine lv_aload_n hx hb dX1_init_83 rfl (lv_at hl 0 rfl) ?_
  refine lv_bipush (v := 60) hx hb dX1_init_84 (by decide) ?_
  have h_c9 : 9 + 1 ≤ 12 := by decide
  have h_s9 : 1276 + 60 ≤ 1352 := by decide
  refine va_newa (atype := .int) (ty := .int) (N' := 60) (a0 := (60, .inl (fun _ => 0))) hx hb (hts _ wa_int) rfl hK hP hD hS hA (fun _ => rfl) (by decide) (by decide) (by decide) h_c9 h_s9 dX1_init_86 (fun q10 c10 H hK hP hD hS => ?_)
  refine W.widen (k := 10) (n := 1336) (by omega) (by omega) ?_
  have hP : va_P D kC [(h0, .inr (1, [.int 0, .ref q1, .ref q2, .ref q3, .ref q4, .ref q5, .ref q6, .ref q7, .ref q8, .int 0, .int 0, .int (-1), .ref q9, .null, .null, .null])), (q1, .inl (c1, 60, .inl (fun _ => 0))), (q2, .inl (c2, 60, .inl (fun _ => 0))), (q3, .inl (c3, 60, .inl (fun _ => 0))), (q4, .inl (c4, 60, .inl (fun _ => 0))), (q5, .inl (c5, 480, .inl (fun _ => 0))), (q6, .inl (c6, 480, .inr (.inl (fun _ => 0)))), (q7, .inl (c7, 8, .inl (fun _ => 0))), (q8, .inl (c8, 8, .inl (fun _ => 0))), (q9, .inl (c9, 60, .inr (.inl (fun _ => 0)))), (q10, .inl (c10, 60, .inl (fun _ => 0)))] H := hP
  have hD : va_D A [(h0, .inr (1, [.int 0, .ref q1, .ref q2, .ref q3, .ref q4, .ref q5, .ref q6, .ref q7, .ref q8, .int 0, .int 0, .int (-1), .ref q9, .null, .null, .null])), (q1, .inl (c1, 60, .inl (fun _ => 0))), (q2, .inl (c2, 60, .inl (fun _ => 0))), (q3, .inl (c3, 60, .inl (fun _ => 0))), (q4, .inl (c4, 60, .inl (fun _ => 0))), (q5, .inl (c5, 480, .inl (fun _ => 0))), (q6, .inl (c6, 480, .inr (.inl (fun _ => 0)))), (q7, .inl (c7, 8, .inl (fun _ => 0))), (q8, .inl (c8, 8, .inl (fun _ => 0))), (q9, .inl (c9, 60, .inr (.inl (fun _ => 0)))), (q10, .inl (c10, 60, .inl (fun _ => 0)))] := hD
  have hK : va_K D kC [(c1, .int), (c2, .int), (c3, .int), (c4, .int), (c5, .int), (c6, .long), (c7, .int), (c8, .int), (c9, .long), (c10, .int)] s := hK
  refine va_putF (D := D) (ci := 1) (v := .ref q10) (ty := .array .int) (C := RX1) (T := TX1) (N := 16) hx hb hts wI_X1 tyX1 tyX1_ok nmX1 hown hK hP hD hS 0 rfl rfl 13 (by decide) (hts _ wf_X1_42) (fun _ h9 => h9) rfl hin rfl (by decide +kernel) rfl rfl (Nat.le_of_ble_eq_true rfl) dX1_init_88 (fun H locs hP hD hS => ?_)
  have hP : va_P D kC [(h0, .inr (1, [.int 0, .ref q1, .ref q2, .ref q3, .ref q4, .ref q5, .ref q6, .ref q7, .ref q8, .int 0, .int 0, .int (-1), .ref q9, .ref q10, .null, .null])), (q1, .inl (c1, 60, .inl (fun _ => 0))), (q2, .inl (c2, 60, .inl (fun _ => 0))), (q3, .inl (c3, 60, .inl (fun _ => 0))), (q4, .inl (c4, 60, .inl (fun _ => 0))), (q5, .inl (c5, 480, .inl (fun _ => 0))), (q6, .inl (c6, 480, .inr (.inl (fun _ => 0)))), (q7, .inl (c7, 8, .inl (fun _ => 0))), (q8, .inl (c8, 8, .inl (fun _ => 0))), (q9, .inl (c9, 60, .inr (.inl (fun _ => 0)))), (q10, .inl (c10, 60, .inl (fun _ => 0)))] H := hP
  have hD : va_D A [(h0, .inr (1, [.int 0, .ref q1, .ref q2, .ref q3, .ref q4, .ref q5, .ref q6, .ref q7, .ref q8, .int 0, .int 0, .int (-1), .ref q9, .ref q10, .null, .null])), (q1, .inl (c1, 60, .inl (fun _ => 0))), (q2, .inl (c2, 60, .inl (fun _ => 0))), (q3, .inl (c3, 60, .inl (fun _ => 0))), (q4, .inl (c4, 60, .inl (fun _ => 0))), (q5, .inl (c5, 480, .inl (fun _ => 0))), (q6, .inl (c6, 480, .inr (.inl (fun _ => 0)))), (q7, .inl (c7, 8, .inl (fun _ => 0))), (q8, .inl (c8, 8, .inl (fun _ => 0))), (q9, .inl (c9, 60, .inr (.inl (fun _ => 0)))), (q10, .inl (c10, 60, .inl (fun _ => 0)))] := hD
  refine lv_aload_n hx hb dX1_init_91 rfl (lv_at hl 0 rfl) ?_
  refine lv_bipush (v := 8) hx hb dX1_init_92 (by decide) ?_
  have h_c10 : 10 + 1 ≤ 12 := by decide
  have h_s10 : 1336 + 8 ≤ 1352 := by decide
  refine va_newa (atype := .int) (ty := .int) (N' := 8) (a0 := (8, .inl (fun _ => 0))) hx hb (hts _ wa_int) rfl hK hP hD hS hA (fun _ => rfl) (by decide) (by decide) (by decide) h_c10 h_s10 dX1_init_94 (fun q11 c11 H hK hP hD hS => ?_)
  refine W.widen (k := 11) (n := 1344) (by omega) (by omega) ?_
  have hP : va_P D kC [(h0, .inr (1, [.int 0, .ref q1, .ref q2, .ref q3, .ref q4, .ref q5, .ref q6, .ref q7, .ref q8, .int 0, .int 0, .int (-1), .ref q9, .ref q10, .null, .null])), (q1, .inl (c1, 60, .inl (fun _ => 0))), (q2, .inl (c2, 60, .inl (fun _ => 0))), (q3, .inl (c3, 60, .inl (fun _ => 0))), (q4, .inl (c4, 60, .inl (fun _ => 0))), (q5, .inl (c5, 480, .inl (fun _ => 0))), (q6, .inl (c6, 480, .inr (.inl (fun _ => 0)))), (q7, .inl (c7, 8, .inl (fun _ => 0))), (q8, .inl (c8, 8, .inl (fun _ => 0))), (q9, .inl (c9, 60, .inr (.inl (fun _ => 0)))), (q10, .inl (c10, 60, .inl (fun _ => 0))), (q11, .inl (c11, 8, .inl (fun _ => 0)))] H := hP
  have hD : va_D A [(h0, .inr (1, [.int 0, .ref q1, .ref q2, .ref q3, .ref q4, .ref q5, .ref q6, .ref q7, .ref q8, .int 0, .int 0, .int (-1), .ref q9, .ref q10, .null, .null])), (q1, .inl (c1, 60, .inl (fun _ => 0))), (q2, .inl (c2, 60, .inl (fun _ => 0))), (q3, .inl (c3, 60, .inl (fun _ => 0))), (q4, .inl (c4, 60, .inl (fun _ => 0))), (q5, .inl (c5, 480, .inl (fun _ => 0))), (q6, .inl (c6, 480, .inr (.inl (fun _ => 0)))), (q7, .inl (c7, 8, .inl (fun _ => 0))), (q8, .inl (c8, 8, .inl (fun _ => 0))), (q9, .inl (c9, 60, .inr (.inl (fun _ => 0)))), (q10, .inl (c10, 60, .inl (fun _ => 0))), (q11, .inl (c11, 8, .inl (fun _ => 0)))] := hD
  have hK : va_K D kC [(c1, .int), (c2, .int), (c3, .int), (c4, .int), (c5, .int), (c6, .long), (c7, .int), (c8, .int), (c9, .long), (c10, .int), (c11, .int)] s := hK
  refine va_putF (D := D) (ci := 1) (v := .ref q11) (ty := .array .int) (C := RX1) (T := TX1) (N := 16) hx hb hts wI_X1 tyX1 tyX1_ok nmX1 hown hK hP hD hS 0 rfl rfl 14 (by decide) (hts _ wf_X1_45) (fun _ h9 => h9) rfl hin rfl (by decide +kernel) rfl rfl (Nat.le_of_ble_eq_true rfl) dX1_init_96 (fun H locs hP hD hS => ?_)
  have hP : va_P D kC [(h0, .inr (1, [.int 0, .ref q1, .ref q2, .ref q3, .ref q4, .ref q5, .ref q6, .ref q7, .ref q8, .int 0, .int 0, .int (-1), .ref q9, .ref q10, .ref q11, .null])), (q1, .inl (c1, 60, .inl (fun _ => 0))), (q2, .inl (c2, 60, .inl (fun _ => 0))), (q3, .inl (c3, 60, .inl (fun _ => 0))), (q4, .inl (c4, 60, .inl (fun _ => 0))), (q5, .inl (c5, 480, .inl (fun _ => 0))), (q6, .inl (c6, 480, .inr (.inl (fun _ => 0)))), (q7, .inl (c7, 8, .inl (fun _ => 0))), (q8, .inl (c8, 8, .inl (fun _ => 0))), (q9, .inl (c9, 60, .inr (.inl (fun _ => 0)))), (q10, .inl (c10, 60, .inl (fun _ => 0))), (q11, .inl (c11, 8, .inl (fun _ => 0)))] H := hP
  have hD : va_D A [(h0, .inr (1, [.int 0, .ref q1, .ref q2, .ref q3, .ref q4, .ref q5, .ref q6, .ref q7, .ref q8, .int 0, .int 0, .int (-1), .ref q9, .ref q10, .ref q11, .null])), (q1, .inl (c1, 60, .inl (fun _ => 0))), (q2, .inl (c2, 60, .inl (fun _ => 0))), (q3, .inl (c3, 60, .inl (fun _ => 0))), (q4, .inl (c4, 60, .inl (fun _ => 0))), (q5, .inl (c5, 480, .inl (fun _ => 0))), (q6, .inl (c6, 480, .inr (.inl (fun _ => 0)))), (q7, .inl (c7, 8, .inl (fun _ => 0))), (q8, .inl (c8, 8, .inl (fun _ => 0))), (q9, .inl (c9, 60, .inr (.inl (fun _ => 0)))), (q10, .inl (c10, 60, .inl (fun _ => 0))), (q11, .inl (c11, 8, .inl (fun _ => 0)))] := hD
  refine lv_aload_n hx hb dX1_init_99 rfl (lv_at hl 0 rfl) ?_
  refine lv_bipush (v := 8) hx hb dX1_init_100 (by decide) ?_
  have h_c11 : 11 + 1 ≤ 12 := by decide
  have h_s11 : 1344 + 8 ≤ 1352 := by decide
  refine va_newa (atype := .long) (ty := .long) (N' := 8) (a0 := (8, .inr (.inl (fun _ => 0)))) hx hb (hts _ wa_long) rfl hK hP hD hS hA (fun _ => rfl) (by decide) (by decide) (by decide) h_c11 h_s11 dX1_init_102 (fun q12 c12 H hK hP hD hS => ?_)
  refine W.widen (k := 12) (n := 1352) (by omega) (by omega) ?_
  have hP : va_P D kC [(h0, .inr (1, [.int 0, .ref q1, .ref q2, .ref q3, .ref q4, .ref q5, .ref q6, .ref q7, .ref q8, .int 0, .int 0, .int (-1), .ref q9, .ref q10, .ref q11, .null])), (q1, .inl (c1, 60, .inl (fun _ => 0))), (q2, .inl (c2, 60, .inl (fun _ => 0))), (q3, .inl (c3, 60, .inl (fun _ => 0))), (q4, .inl (c4, 60, .inl (fun _ => 0))), (q5, .inl (c5, 480, .inl (fun _ => 0))), (q6, .inl (c6, 480, .inr (.inl (fun _ => 0)))), (q7, .inl (c7, 8, .inl (fun _ => 0))), (q8, .inl (c8, 8, .inl (fun _ => 0))), (q9, .inl (c9, 60, .inr (.inl (fun _ => 0)))), (q10, .inl (c10, 60, .inl (fun _ => 0))), (q11, .inl (c11, 8, .inl (fun _ => 0))), (q12, .inl (c12, 8, .inr (.inl (fun _ => 0))))] H := hP
  have hD : va_D A [(h0, .inr (1, [.int 0, .ref q1, .ref q2, .ref q3, .ref q4, .ref q5, .ref q6, .ref q7, .ref q8, .int 0, .int 0, .int (-1), .ref q9, .ref q10, .ref q11, .null])), (q1, .inl (c1, 60, .inl (fun _ => 0))), (q2, .inl (c2, 60, .inl (fun _ => 0))), (q3, .inl (c3, 60, .inl (fun _ => 0))), (q4, .inl (c4, 60, .inl (fun _ => 0))), (q5, .inl (c5, 480, .inl (fun _ => 0))), (q6, .inl (c6, 480, .inr (.inl (fun _ => 0)))), (q7, .inl (c7, 8, .inl (fun _ => 0))), (q8, .inl (c8, 8, .inl (fun _ => 0))), (q9, .inl (c9, 60, .inr (.inl (fun _ => 0)))), (q10, .inl (c10, 60, .inl (fun _ => 0))), (q11, .inl (c11, 8, .inl (fun _ => 0))), (q12, .inl (c12, 8, .inr (.inl (fun _ => 0))))] := hD
  have hK : va_K D kC [(c1, .int), (c2, .int), (c3, .int), (c4, .int), (c5, .int), (c6, .long), (c7, .int), (c8, .int), (c9, .long), (c10, .int), (c11, .int), (c12, .long)] s := hK
  refine va_putF (D := D) (ci := 1) (v := .ref q12) (ty := .array .long) (C := RX1) (T := TX1) (N := 16) hx hb hts wI_X1 tyX1 tyX1_ok nmX1 hown hK hP hD hS 0 rfl rfl 15 (by decide) (hts _ wf_X1_48) (fun _ h9 => h9) rfl hin rfl (by decide +kernel) rfl rfl (Nat.le_of_ble_eq_true rfl) dX1_init_104 (fun H locs hP hD hS => ?_)
  have hP : va_P D kC [(h0, .inr (1, [.int 0, .ref q1, .ref q2, .ref q3, .ref q4, .ref q5, .ref q6, .ref q7, .ref q8, .int 0, .int 0, .int (-1), .ref q9, .ref q10, .ref q11, .ref q12])), (q1, .inl (c1, 60, .inl (fun _ => 0))), (q2, .inl (c2, 60, .inl (fun _ => 0))), (q3, .inl (c3, 60, .inl (fun _ => 0))), (q4, .inl (c4, 60, .inl (fun _ => 0))), (q5, .inl (c5, 480, .inl (fun _ => 0))), (q6, .inl (c6, 480, .inr (.inl (fun _ => 0)))), (q7, .inl (c7, 8, .inl (fun _ => 0))), (q8, .inl (c8, 8, .inl (fun _ => 0))), (q9, .inl (c9, 60, .inr (.inl (fun _ => 0)))), (q10, .inl (c10, 60, .inl (fun _ => 0))), (q11, .inl (c11, 8, .inl (fun _ => 0))), (q12, .inl (c12, 8, .inr (.inl (fun _ => 0))))] H := hP
  have hD : va_D A [(h0, .inr (1, [.int 0, .ref q1, .ref q2, .ref q3, .ref q4, .ref q5, .ref q6, .ref q7, .ref q8, .int 0, .int 0, .int (-1), .ref q9, .ref q10, .ref q11, .ref q12])), (q1, .inl (c1, 60, .inl (fun _ => 0))), (q2, .inl (c2, 60, .inl (fun _ => 0))), (q3, .inl (c3, 60, .inl (fun _ => 0))), (q4, .inl (c4, 60, .inl (fun _ => 0))), (q5, .inl (c5, 480, .inl (fun _ => 0))), (q6, .inl (c6, 480, .inr (.inl (fun _ => 0)))), (q7, .inl (c7, 8, .inl (fun _ => 0))), (q8, .inl (c8, 8, .inl (fun _ => 0))), (q9, .inl (c9, 60, .inr (.inl (fun _ => 0)))), (q10, .inl (c10, 60, .inl (fun _ => 0))), (q11, .inl (c11, 8, .inl (fun _ => 0))), (q12, .inl (c12, 8, .inr (.inl (fun _ => 0))))] := hD
  exact W.vret hx hb hr (fun t ht hW => ⟨⟨(fun j => [h0, q1, q2, q3, q4, q5, q6, q7, q8, q9, q10, q11, q12].getD j 0, fun j => [c1, c1, c2, c3, c4, c5, c6, c7, c8, c9, c10, c11, c12].getD j c1), rfl, rfl, show va_P D kC [(h0, .inr (1, [.int 0, .ref q1, .ref q2, .ref q3, .ref q4, .ref q5, .ref q6, .ref q7, .ref q8, .int 0, .int 0, .int (-1), .ref q9, .ref q10, .ref q11, .ref q12])), (q1, .inl (c1, 60, .inl (fun _ => 0))), (q2, .inl (c2, 60, .inl (fun _ => 0))), (q3, .inl (c3, 60, .inl (fun _ => 0))), (q4, .inl (c4, 60, .inl (fun _ => 0))), (q5, .inl (c5, 480, .inl (fun _ => 0))), (q6, .inl (c6, 480, .inr (.inl (fun _ => 0)))), (q7, .inl (c7, 8, .inl (fun _ => 0))), (q8, .inl (c8, 8, .inl (fun _ => 0))), (q9, .inl (c9, 60, .inr (.inl (fun _ => 0)))), (q10, .inl (c10, 60, .inl (fun _ => 0))), (q11, .inl (c11, 8, .inl (fun _ => 0))), (q12, .inl (c12, 8, .inr (.inl (fun _ => 0))))] t.heap by rw [ht]; exact hP, va_K.moved hW.alike hK, hD⟩, hS.F ht⟩) hS.2.2 dX1_init_107
