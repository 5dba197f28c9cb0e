/-! THE CLAIM OUT OF ONE WALK OF THE LAW'S BODY. Your part is whole_start (and what it stands on); all else here is the same for every law, but numbers. -/
def R_law : String := "DepotTraysLaw"
def lw_P (b : Addr) (xs : List Int32) (args : Array Value) (s : State) : Prop := args = #[.ref b] ∧ s.IntsAt b xs ∧ xs.length ≤ 3072 ∧ (Jvm.Cond.and given_1 narrow_1).before args s = true
def lw_Q (_ : Array Value) (s : State) (o : Outcome) (t : State) : Prop := o = .returned (some (.int 1)) ∧ Framed s o t [] 600000 7302249
def lw_Z (below : List Frame) (a : Array Value) (s : State) : State → Prop := fun t => ∃ o, t.status = .running ∧ Ended t below o ∧ lw_Q a s o t
/-- the law's own end, with 1 on the stack, nothing written that was there before, its room as the claim has it -/
theorem lw_ret {p : Program} {l : Launch} {e : Env} {s : State} {m : MethodId} {below : List Frame} {meth : Method} {c : Code} {b : Nat} (hx : p.tables.exec = Jvm.exec) (hb : c.code = code) (hr : meth.sig.returnType = ret) (hlocks : meth.locks = false) {pc : Nat} {H : Heap} {ls : Array Slot} (hdg : decode code pc = .ok (.ireturn, 1)) : W p l e room_1 s m #[Value.ref b] below meth c H [] 600000 7302249 (lw_Z below #[Value.ref b] s) (F0 m pc ls [.int 1]) := by
  intro T hT X
  obtain ⟨fs, hret, hrun, hended, hW, hframe⟩ := X.leave (v := some (.int 1)) (hlocks := hlocks) (fun h => by rw [hr] at h; cases h)
  have hmeth' : T.vm.method? m = some meth := X.method'
  refine ⟨T.setFrames fs, ?_, .returned (some (.int 1)), hrun, hended, rfl, ⟨_, rfl⟩, hW, hframe⟩
  jvm_step X.here [X.here.top, hx, hb, hdg, hmeth', hr, ret, narrow_b1]
  (try refine ⟨rfl, ?_⟩); (try refine ⟨rfl, ?_⟩)
  first | (intro acts; rw [hret _ acts rfl rfl rfl]) | rw [hret _ _ rfl rfl rfl]
  exact Steps.refl _
/-- what holds at the law's entry: the machine, the code, the tables' words (any of lw_tbl by 'hts w (by decide +kernel)'), the script of L ints xs at the cell b, what the Statement gives of the start (any of its parts by flat_of_before) -/
def lw_At (p : Program) (s : State) (m : MethodId) (meth : Method) (c : Code) (b L : Nat) (xs : Nat → Int32) : Prop :=
  p.tables.exec = Jvm.exec ∧ c.code = code ∧ meth.sig.returnType = ret ∧ c.maxLocals = 4 ∧ s.vm.findClass R_law = some m.cls ∧ (∀ w ∈ lw_tbl, w.before #[Value.ref b] s = true) ∧ va_X b L xs s s.heap ∧ b < s.heap.size ∧ meth.locks = false ∧ (Jvm.Cond.and given_1 narrow_1).before #[Value.ref b] s = true
/-! the law's own world: both objects -/
def AL (s : State) : Nat → Prop := fun q => s.heap.size ≤ q
def wL (ad : Nat → Nat) (ca : Nat → ClassId) (bd : Nat → Nat) (cb : Nat → ClassId) (u : XS) (v : MS) : va_W := wX ad ca u ++ wM bd cb v
def SL (D : va_G) (ad : Nat → Nat) (ca : Nat → ClassId) (bd : Nat → Nat) (cb : Nat → ClassId) (s : State) (u : XS) (v : MS) (H : Heap) (locs : List Loc) : Prop := va_P D kC (wL ad ca bd cb u v) H ∧ va_D (AL s) (wL ad ca bd cb u v) ∧ va_S (AL s) s.heap H locs
def EnL (p : Program) (s : State) (m : MethodId) (c : Code) (b L : Nat) (xs : Nat → Int32) (D : va_G) (ca cb : Nat → ClassId) (g : Nat) : Prop :=
  CallFix p m c code 4 s #[Value.ref b] kT RL ∧ va_K D kC (tX ca ++ tM cb) s ∧ zX g (AL s) s s.heap ∧ va_X b L xs s s.heap ∧ b < s.heap.size
section LawRows
variable {p : Program} {l : Launch} {e : Env} {s : State} {m : MethodId} {below : List Frame} {meth : Method} {c : Code} {H : Heap} {locs : List Loc} {cells slots : Nat} {Q : State → Prop}
variable {pc : Nat} {ls : Array Slot} {D : va_G} {ad : Nat → Nat} {ca : Nat → ClassId} {bd : Nat → Nat} {cb : Nat → ClassId} {g b L : Nat} {xs : Nat → Int32} {u : XS} {v : MS}
theorem AL_A {s : State} : ∀ q : Nat, s.heap.size ≤ q → AL s q := fun _ h => h
theorem EnL.callXi {y : MethodName} {cc2 : ByteArray} {nL2 j idx : Nat} {rt2 : FieldType} {r : Int32} {u2 : XS} {st : List Value} (E : EnL p s m c b L xs D ca cb g) (S : SL D ad ca bd cb s u v H locs) (As rest : List Value) (hM : CiX l y cc2 nL2 rt2 j D ad ca g As u (r, u2)) (hG : GoodIn kT (wsV RL idx RX0 y (kW y cc2 nL2 (some rt2))))
    (hd : y.cls = RX0 ∧ y.cls ≠ "java/lang/invoke/MethodHandle" ∧ y.cls ≠ "java/lang/invoke/VarHandle" ∧ (parseMethodDescriptor y.desc).map (fun d => d.parameters.length) = some As.length) (hR : (rk j).frames + 1 ≤ room_1.frames ∧ 8 + (nL2 + 11) + (rk j).locals ≤ room_1.locals) (hst : st = As.reverse ++ .ref (ad 0) :: rest) (hsize : ls.size = 4) (hroom : (rest.map fun v => v.category).sum ≤ 8) (hc : cells ≤ room_1.cells ∧ slots ≤ room_1.slots) (hdg : decode code pc = .ok (.invokevirtual idx, 3))
    (kk : ∀ (H1 : Heap) (locs1 : List Loc), SL D ad ca bd cb s u2 v H1 locs1 → W p l e room_1 s m #[Value.ref b] below meth c H1 locs1 cells slots Q (F0 m (pc + 3) ls (.int r :: rest))) : W p l e room_1 s m #[Value.ref b] below meth c H locs cells slots Q (F0 m pc ls st) := by
  obtain ⟨hP, hD, hS⟩ := S
  have hPc := hP.sub (ws' := wX ad ca u) [0, 1, 2, 3, 4, 5, 6, 7] rfl
  have hDc := hD.sub (ws' := wX ad ca u) [0, 1, 2, 3, 4, 5, 6, 7] (by decide) rfl
  have hKc := E.2.1.sub (tys' := tX ca) [0, 1, 2, 3, 4, 5, 6] rfl
  have hFc := va_free (wc := wX ad ca u) hD hS AL_A [0, 1, 2, 3, 4, 5, 6, 7] rfl
  refine va_calli (va_runV (As := As) (rest := rest) E.1 (hM H.size) (cwV As.length E.1.2.2.2.2 hG rfl rfl rfl hd hR) ⟨fun a U g mk q => ?_, va_recv hKc hPc (ci := 0) (q0 := 0) rfl rfl, fun U hU hW => ⟨rfl, by rw [hU], by rw [hU]; exact hPc, va_K.moved hW.alike hKc, hDc.weaken (fun _ _ _ _ => trivial), by rw [hU]; exact ((E.2.2.1.kept hS.2.1).narrow hFc).moved hW.alike⟩⟩ rfl rfl hsize hst (lv_room hroom) hdg hc) hS (fun q _ h => hFc q h) hFc (fun r1 w t H1 locs1 ht hvm hw hB hz1 hk1 hS1 => ?_)
  · obtain ⟨q0, q1, qP, qK, qD, qZ⟩ := q
    exact ⟨q0, q1, qP, va_K.moved (u := U) (U := U.calling g mk a) (Vm.Alike.refl U.vm) qK, qD, zX.moved (u := U) (U := U.calling g mk a) (Vm.Alike.refl U.vm) qZ⟩
  · obtain ⟨e1, e2⟩ := Prod.mk.inj hw
    rw [e2] at hB
    rw [e1]
    have hP1 : va_P D kC (wX ad ca u2) H1 := by rw [← ht]; exact hB
    have hD1 : va_D (va_A (wX ad ca u) H.size) (wX ad ca u2) := dd_same (wX_same ad ca u u2) hDc.self
    obtain ⟨hPj, hDj⟩ := va_join (wr := wM bd cb v) (w1 := wX ad ca u2) hP hD [0, 1, 2, 3, 4, 5, 6, 7] [8, 9, 10, 11, 12, 13, 14, 15, 16, 17, 18, 19, 20] rfl rfl (by decide) (by decide) hk1 hFc hP1 hD1
    exact kk H1 locs1 ⟨hPj.sub [13, 14, 15, 16, 17, 18, 19, 20, 0, 1, 2, 3, 4, 5, 6, 7, 8, 9, 10, 11, 12] rfl, hDj.sub [13, 14, 15, 16, 17, 18, 19, 20, 0, 1, 2, 3, 4, 5, 6, 7, 8, 9, 10, 11, 12] (by decide) rfl, hS1⟩
theorem EnL.callXl {y : MethodName} {cc2 : ByteArray} {nL2 j idx : Nat} {r : Int64} {u2 : XS} {st : List Value} (E : EnL p s m c b L xs D ca cb g) (S : SL D ad ca bd cb s u v H locs) (As rest : List Value) (hM : ClX l y cc2 nL2 j D ad ca g As u (r, u2)) (hG : GoodIn kT (wsV RL idx RX0 y (kW y cc2 nL2 (some .long))))
    (hd : y.cls = RX0 ∧ y.cls ≠ "java/lang/invoke/MethodHandle" ∧ y.cls ≠ "java/lang/invoke/VarHandle" ∧ (parseMethodDescriptor y.desc).map (fun d => d.parameters.length) = some As.length) (hR : (rk j).frames + 1 ≤ room_1.frames ∧ 8 + (nL2 + 11) + (rk j).locals ≤ room_1.locals) (hst : st = As.reverse ++ .ref (ad 0) :: rest) (hsize : ls.size = 4) (hroom : (rest.map fun v => v.category).sum ≤ 8) (hc : cells ≤ room_1.cells ∧ slots ≤ room_1.slots) (hdg : decode code pc = .ok (.invokevirtual idx, 3))
    (kk : ∀ (H1 : Heap) (locs1 : List Loc), SL D ad ca bd cb s u2 v H1 locs1 → W p l e room_1 s m #[Value.ref b] below meth c H1 locs1 cells slots Q (F0 m (pc + 3) ls (.long r :: rest))) : W p l e room_1 s m #[Value.ref b] below meth c H locs cells slots Q (F0 m pc ls st) := by
  obtain ⟨hP, hD, hS⟩ := S
  have hPc := hP.sub (ws' := wX ad ca u) [0, 1, 2, 3, 4, 5, 6, 7] rfl
  have hDc := hD.sub (ws' := wX ad ca u) [0, 1, 2, 3, 4, 5, 6, 7] (by decide) rfl
  have hKc := E.2.1.sub (tys' := tX ca) [0, 1, 2, 3, 4, 5, 6] rfl
  have hFc := va_free (wc := wX ad ca u) hD hS AL_A [0, 1, 2, 3, 4, 5, 6, 7] rfl
  refine va_calll (va_runV (As := As) (rest := rest) E.1 (hM H.size) (cwV As.length E.1.2.2.2.2 hG rfl rfl rfl hd hR) ⟨fun a U g mk q => ?_, va_recv hKc hPc (ci := 0) (q0 := 0) rfl rfl, fun U hU hW => ⟨rfl, by rw [hU], by rw [hU]; exact hPc, va_K.moved hW.alike hKc, hDc.weaken (fun _ _ _ _ => trivial), by rw [hU]; exact ((E.2.2.1.kept hS.2.1).narrow hFc).moved hW.alike⟩⟩ rfl rfl hsize hst (lv_room hroom) hdg hc) hS (fun q _ h => hFc q h) hFc (fun r1 w t H1 locs1 ht hvm hw hB hz1 hk1 hS1 => ?_)
  · obtain ⟨q0, q1, qP, qK, qD, qZ⟩ := q
    exact ⟨q0, q1, qP, va_K.moved (u := U) (U := U.calling g mk a) (Vm.Alike.refl U.vm) qK, qD, zX.moved (u := U) (U := U.calling g mk a) (Vm.Alike.refl U.vm) qZ⟩
  · obtain ⟨e1, e2⟩ := Prod.mk.inj hw
    rw [e2] at hB
    rw [e1]
    have hP1 : va_P D kC (wX ad ca u2) H1 := by rw [← ht]; exact hB
    have hD1 : va_D (va_A (wX ad ca u) H.size) (wX ad ca u2) := dd_same (wX_same ad ca u u2) hDc.self
    obtain ⟨hPj, hDj⟩ := va_join (wr := wM bd cb v) (w1 := wX ad ca u2) hP hD [0, 1, 2, 3, 4, 5, 6, 7] [8, 9, 10, 11, 12, 13, 14, 15, 16, 17, 18, 19, 20] rfl rfl (by decide) (by decide) hk1 hFc hP1 hD1
    exact kk H1 locs1 ⟨hPj.sub [13, 14, 15, 16, 17, 18, 19, 20, 0, 1, 2, 3, 4, 5, 6, 7, 8, 9, 10, 11, 12] rfl, hDj.sub [13, 14, 15, 16, 17, 18, 19, 20, 0, 1, 2, 3, 4, 5, 6, 7, 8, 9, 10, 11, 12] (by decide) rfl, hS1⟩
theorem EnL.callMi {y : MethodName} {cc2 : ByteArray} {nL2 j idx : Nat} {rt2 : FieldType} {r : Int32} {v2 : MS} {st : List Value} (E : EnL p s m c b L xs D ca cb g) (S : SL D ad ca bd cb s u v H locs) (As rest : List Value) (hM : CiM l y cc2 nL2 rt2 j D bd cb g As v (r, v2)) (hG : GoodIn kT (wsV RL idx RX1 y (kW y cc2 nL2 (some rt2))))
    (hd : y.cls = RX1 ∧ y.cls ≠ "java/lang/invoke/MethodHandle" ∧ y.cls ≠ "java/lang/invoke/VarHandle" ∧ (parseMethodDescriptor y.desc).map (fun d => d.parameters.length) = some As.length) (hR : (rk j).frames + 1 ≤ room_1.frames ∧ 8 + (nL2 + 11) + (rk j).locals ≤ room_1.locals) (hst : st = As.reverse ++ .ref (bd 0) :: rest) (hsize : ls.size = 4) (hroom : (rest.map fun v => v.category).sum ≤ 8) (hc : cells ≤ room_1.cells ∧ slots ≤ room_1.slots) (hdg : decode code pc = .ok (.invokevirtual idx, 3))
    (kk : ∀ (H1 : Heap) (locs1 : List Loc), SL D ad ca bd cb s u v2 H1 locs1 → W p l e room_1 s m #[Value.ref b] below meth c H1 locs1 cells slots Q (F0 m (pc + 3) ls (.int r :: rest))) : W p l e room_1 s m #[Value.ref b] below meth c H locs cells slots Q (F0 m pc ls st) := by
  obtain ⟨hP, hD, hS⟩ := S
  have hPc := hP.sub (ws' := wM bd cb v) [8, 9, 10, 11, 12, 13, 14, 15, 16, 17, 18, 19, 20] rfl
  have hDc := hD.sub (ws' := wM bd cb v) [8, 9, 10, 11, 12, 13, 14, 15, 16, 17, 18, 19, 20] (by decide) rfl
  have hKc := E.2.1.sub (tys' := tM cb) [7, 8, 9, 10, 11, 12, 13, 14, 15, 16, 17, 18] rfl
  have hFc := va_free (wc := wM bd cb v) hD hS AL_A [8, 9, 10, 11, 12, 13, 14, 15, 16, 17, 18, 19, 20] rfl
  refine va_calli (va_runV (As := As) (rest := rest) E.1 (hM H.size) (cwV As.length E.1.2.2.2.2 hG rfl rfl rfl hd hR) ⟨fun a U g mk q => ?_, va_recv hKc hPc (ci := 1) (q0 := 0) rfl rfl, fun U hU hW => ⟨rfl, by rw [hU], by rw [hU]; exact hPc, va_K.moved hW.alike hKc, hDc.weaken (fun _ _ _ _ => trivial), trivial⟩⟩ rfl rfl hsize hst (lv_room hroom) hdg hc) hS (fun q _ h => hFc q h) hFc (fun r1 w t H1 locs1 ht hvm hw hB hz1 hk1 hS1 => ?_)
  · obtain ⟨q0, q1, qP, qK, qD, qZ⟩ := q
    exact ⟨q0, q1, qP, va_K.moved (u := U) (U := U.calling g mk a) (Vm.Alike.refl U.vm) qK, qD, zM.moved (u := U) (U := U.calling g mk a) (Vm.Alike.refl U.vm) qZ⟩
  · obtain ⟨e1, e2⟩ := Prod.mk.inj hw
    rw [e2] at hB
    rw [e1]
    have hP1 : va_P D kC (wM bd cb v2) H1 := by rw [← ht]; exact hB
    have hD1 : va_D (va_A (wM bd cb v) H.size) (wM bd cb v2) := dd_same (wM_same bd cb v v2) hDc.self
    obtain ⟨hPj, hDj⟩ := va_join (wr := wX ad ca u) (w1 := wM bd cb v2) hP hD [8, 9, 10, 11, 12, 13, 14, 15, 16, 17, 18, 19, 20] [0, 1, 2, 3, 4, 5, 6, 7] rfl rfl (by decide) (by decide) hk1 hFc hP1 hD1
    exact kk H1 locs1 ⟨hPj, hDj, hS1⟩
theorem EnL.callMl {y : MethodName} {cc2 : ByteArray} {nL2 j idx : Nat} {r : Int64} {v2 : MS} {st : List Value} (E : EnL p s m c b L xs D ca cb g) (S : SL D ad ca bd cb s u v H locs) (As rest : List Value) (hM : ClM l y cc2 nL2 j D bd cb g As v (r, v2)) (hG : GoodIn kT (wsV RL idx RX1 y (kW y cc2 nL2 (some .long))))
    (hd : y.cls = RX1 ∧ y.cls ≠ "java/lang/invoke/MethodHandle" ∧ y.cls ≠ "java/lang/invoke/VarHandle" ∧ (parseMethodDescriptor y.desc).map (fun d => d.parameters.length) = some As.length) (hR : (rk j).frames + 1 ≤ room_1.frames ∧ 8 + (nL2 + 11) + (rk j).locals ≤ room_1.locals) (hst : st = As.reverse ++ .ref (bd 0) :: rest) (hsize : ls.size = 4) (hroom : (rest.map fun v => v.category).sum ≤ 8) (hc : cells ≤ room_1.cells ∧ slots ≤ room_1.slots) (hdg : decode code pc = .ok (.invokevirtual idx, 3))
    (kk : ∀ (H1 : Heap) (locs1 : List Loc), SL D ad ca bd cb s u v2 H1 locs1 → W p l e room_1 s m #[Value.ref b] below meth c H1 locs1 cells slots Q (F0 m (pc + 3) ls (.long r :: rest))) : W p l e room_1 s m #[Value.ref b] below meth c H locs cells slots Q (F0 m pc ls st) := by
  obtain ⟨hP, hD, hS⟩ := S
  have hPc := hP.sub (ws' := wM bd cb v) [8, 9, 10, 11, 12, 13, 14, 15, 16, 17, 18, 19, 20] rfl
  have hDc := hD.sub (ws' := wM bd cb v) [8, 9, 10, 11, 12, 13, 14, 15, 16, 17, 18, 19, 20] (by decide) rfl
  have hKc := E.2.1.sub (tys' := tM cb) [7, 8, 9, 10, 11, 12, 13, 14, 15, 16, 17, 18] rfl
  have hFc := va_free (wc := wM bd cb v) hD hS AL_A [8, 9, 10, 11, 12, 13, 14, 15, 16, 17, 18, 19, 20] rfl
  refine va_calll (va_runV (As := As) (rest := rest) E.1 (hM H.size) (cwV As.length E.1.2.2.2.2 hG rfl rfl rfl hd hR) ⟨fun a U g mk q => ?_, va_recv hKc hPc (ci := 1) (q0 := 0) rfl rfl, fun U hU hW => ⟨rfl, by rw [hU], by rw [hU]; exact hPc, va_K.moved hW.alike hKc, hDc.weaken (fun _ _ _ _ => trivial), trivial⟩⟩ rfl rfl hsize hst (lv_room hroom) hdg hc) hS (fun q _ h => hFc q h) hFc (fun r1 w t H1 locs1 ht hvm hw hB hz1 hk1 hS1 => ?_)
  · obtain ⟨q0, q1, qP, qK, qD, qZ⟩ := q
    exact ⟨q0, q1, qP, va_K.moved (u := U) (U := U.calling g mk a) (Vm.Alike.refl U.vm) qK, qD, zM.moved (u := U) (U := U.calling g mk a) (Vm.Alike.refl U.vm) qZ⟩
  · obtain ⟨e1, e2⟩ := Prod.mk.inj hw
    rw [e2] at hB
    rw [e1]
    have hP1 : va_P D kC (wM bd cb v2) H1 := by rw [← ht]; exact hB
    have hD1 : va_D (va_A (wM bd cb v) H.size) (wM bd cb v2) := dd_same (wM_same bd cb v v2) hDc.self
    obtain ⟨hPj, hDj⟩ := va_join (wr := wX ad ca u) (w1 := wM bd cb v2) hP hD [8, 9, 10, 11, 12, 13, 14, 15, 16, 17, 18, 19, 20] [0, 1, 2, 3, 4, 5, 6, 7] rfl rfl (by decide) (by decide) hk1 hFc hP1 hD1
    exact kk H1 locs1 ⟨hPj, hDj, hS1⟩
end LawRows
set_option maxRecDepth 100000 in
set_option maxHeartbeats 4000000 in
theorem lc_124 {p : Program} {e : Env} {s : State} {m : MethodId} {below : List Frame} {meth : Method} {c : Code} {H : Heap} {locs : List Loc} {Q : State → Prop} {ls : Array Slot} {D : va_G} {ad : Nat → Nat} {ca : Nat → ClassId} {bd : Nat → Nat} {cb : Nat → ClassId} {g b L : Nat} {xs : Nat → Int32} {u : XS} {v : MS} {x3 : Int32} (l : Launch) (E : EnL p s m c b L xs D ca cb g) (R : RR u v) (hq : ∀ k : Int32, 0 ≤ k.toInt → k.toInt ≤ 5 → vp_in (x3 + k) L) (hS : SL D ad ca bd cb s u v H locs) (hl : lv_has ls 4 [(0, .ref b), (1, .ref (ad 0)), (2, .ref (bd 0)), (3, .int x3)]) (kk : ∀ (u2 : XS) (v2 : MS) (H : Heap) (locs : List Loc), RR u2 v2 → SL D ad ca bd cb s u2 v2 H locs → W p l e room_1 s m #[Value.ref b] below meth c H locs 600000 7302249 Q (F0 m 793 ls [])) : W p l e room_1 s m #[Value.ref b] below meth c H locs 600000 7302249 Q (F0 m 124 ls []) := by
  have hx := E.1.1
  have hb := E.1.2.1
  have hown := E.1.2.2.2.1
  have hts := E.1.2.2.2.2
  have hbA : ¬ AL s b := Nat.not_le.mpr E.2.2.2.2
  refine lv_aload_n hx hb dL_law_124 rfl (lv_at hl 1 rfl) ?_
  refine lv_aload_n hx hb dL_law_125 rfl (lv_at hl 0 rfl) ?_
  refine lv_iload_n hx hb dL_law_126 rfl (lv_at hl 3 rfl) ?_
  refine lv_iconst (v := 1) hx hb dL_law_127 (by decide) ?_
  refine lv_iadd hx hb dL_law_128 ?_
  refine va_sld hx hb E.2.2.2.1 E.2.2.2.2 hbA hS.2.2 (hq 1 (by decide) (by decide)) dL_law_129 ?_
  refine lv_aload_n hx hb dL_law_130 rfl (lv_at hl 0 rfl) ?_
  refine lv_iload_n hx hb dL_law_131 rfl (lv_at hl 3 rfl) ?_
  refine lv_iconst (v := 2) hx hb dL_law_132 (by decide) ?_
  refine lv_iadd hx hb dL_law_133 ?_
  refine va_sld hx hb E.2.2.2.1 E.2.2.2.2 hbA hS.2.2 (hq 2 (by decide) (by decide)) dL_law_134 ?_
  refine EnL.callXi (r := (fx_piece u (xs (x3 + 1).toNatClampNeg) (xs (x3 + 2).toNatClampNeg)).1) (u2 := (fx_piece u (xs (x3 + 1).toNatClampNeg) (xs (x3 + 2).toNatClampNeg)).2) E hS [.int (xs (x3 + 1).toNatClampNeg), .int (xs (x3 + 2).toNatClampNeg)] [] (kX0_piece l D ad ca g u (xs (x3 + 1).toNatClampNeg) (xs (x3 + 2).toNatClampNeg) R.xi) gc_L_13 hd_X0_piece ⟨Nat.le_of_ble_eq_true rfl, Nat.le_of_ble_eq_true rfl⟩ rfl hl.1 (Nat.le_of_ble_eq_true rfl) ⟨Nat.le_refl _, Nat.le_refl _⟩ dL_law_135 (fun H locs hS => ?_)
  refine lv_aload_n hx hb dL_law_138 rfl (lv_at hl 2 rfl) ?_
  refine lv_aload_n hx hb dL_law_139 rfl (lv_at hl 0 rfl) ?_
  refine lv_iload_n hx hb dL_law_140 rfl (lv_at hl 3 rfl) ?_
  refine lv_iconst (v := 1) hx hb dL_law_141 (by decide) ?_
  refine lv_iadd hx hb dL_law_142 ?_
  refine va_sld hx hb E.2.2.2.1 E.2.2.2.2 hbA hS.2.2 (hq 1 (by decide) (by decide)) dL_law_143 ?_
  refine lv_aload_n hx hb dL_law_144 rfl (lv_at hl 0 rfl) ?_
  refine lv_iload_n hx hb dL_law_145 rfl (lv_at hl 3 rfl) ?_
  refine lv_iconst (v := 2) hx hb dL_law_146 (by decide) ?_
  refine lv_iadd hx hb dL_law_147 ?_
  refine va_sld hx hb E.2.2.2.1 E.2.2.2.2 hbA hS.2.2 (hq 2 (by decide) (by decide)) dL_law_148 ?_
  refine EnL.callMi (r := (fm_piece v (xs (x3 + 1).toNatClampNeg) (xs (x3 + 2).toNatClampNeg)).1) (v2 := (fm_piece v (xs (x3 + 1).toNatClampNeg) (xs (x3 + 2).toNatClampNeg)).2) E hS [.int (xs (x3 + 1).toNatClampNeg), .int (xs (x3 + 2).toNatClampNeg)] [.int ((fx_piece u (xs (x3 + 1).toNatClampNeg) (xs (x3 + 2).toNatClampNeg)).1)] (kX1_piece l D bd cb g v (xs (x3 + 1).toNatClampNeg) (xs (x3 + 2).toNatClampNeg) R.mi) gc_L_17 hd_X1_piece ⟨Nat.le_of_ble_eq_true rfl, Nat.le_of_ble_eq_true rfl⟩ rfl hl.1 (Nat.le_of_ble_eq_true rfl) ⟨Nat.le_refl _, Nat.le_refl _⟩ dL_law_149 (fun H locs hS => ?_)
  refine lv_icmp_eq (tgt := 793) hx hb dL_law_152 (by decide) (fun h => ?_) (fun h => ?_)
  · exact kk _ _ H locs (sim_piece R (xs (x3 + 1).toNatClampNeg) (xs (x3 + 2).toNatClampNeg)).2 hS
  · exact absurd ((sim_piece R (xs (x3 + 1).toNatClampNeg) (xs (x3 + 2).toNatClampNeg)).1) h
set_option maxRecDepth 100000 in
set_option maxHeartbeats 4000000 in
theorem lc_157 {p : Program} {e : Env} {s : State} {m : MethodId} {below : List Frame} {meth : Method} {c : Code} {H : Heap} {locs : List Loc} {Q : State → Prop} {ls : Array Slot} {D : va_G} {ad : Nat → Nat} {ca : Nat → ClassId} {bd : Nat → Nat} {cb : Nat → ClassId} {g b L : Nat} {xs : Nat → Int32} {u : XS} {v : MS} {x3 : Int32} (l : Launch) (E : EnL p s m c b L xs D ca cb g) (R : RR u v) (hq : ∀ k : Int32, 0 ≤ k.toInt → k.toInt ≤ 5 → vp_in (x3 + k) L) (hS : SL D ad ca bd cb s u v H locs) (hl : lv_has ls 4 [(0, .ref b), (1, .ref (ad 0)), (2, .ref (bd 0)), (3, .int x3)]) (kk : ∀ (u2 : XS) (v2 : MS) (H : Heap) (locs : List Loc), RR u2 v2 → SL D ad ca bd cb s u2 v2 H locs → W p l e room_1 s m #[Value.ref b] below meth c H locs 600000 7302249 Q (F0 m 793 ls [])) : W p l e room_1 s m #[Value.ref b] below meth c H locs 600000 7302249 Q (F0 m 157 ls []) := by
  have hx := E.1.1
  have hb := E.1.2.1
  have hown := E.1.2.2.2.1
  have hts := E.1.2.2.2.2
  have hbA : ¬ AL s b := Nat.not_le.mpr E.2.2.2.2
  refine lv_aload_n hx hb dL_law_157 rfl (lv_at hl 1 rfl) ?_
  refine lv_aload_n hx hb dL_law_158 rfl (lv_at hl 0 rfl) ?_
  refine lv_iload_n hx hb dL_law_159 rfl (lv_at hl 3 rfl) ?_
  refine lv_iconst (v := 1) hx hb dL_law_160 (by decide) ?_
  refine lv_iadd hx hb dL_law_161 ?_
  refine va_sld hx hb E.2.2.2.1 E.2.2.2.2 hbA hS.2.2 (hq 1 (by decide) (by decide)) dL_law_162 ?_
  refine lv_aload_n hx hb dL_law_163 rfl (lv_at hl 0 rfl) ?_
  refine lv_iload_n hx hb dL_law_164 rfl (lv_at hl 3 rfl) ?_
  refine lv_iconst (v := 2) hx hb dL_law_165 (by decide) ?_
  refine lv_iadd hx hb dL_law_166 ?_
  refine va_sld hx hb E.2.2.2.1 E.2.2.2.2 hbA hS.2.2 (hq 2 (by decide) (by decide)) dL_law_167 ?_
  refine lv_aload_n hx hb dL_law_168 rfl (lv_at hl 0 rfl) ?_
  refine lv_iload_n hx hb dL_law_169 rfl (lv_at hl 3 rfl) ?_
  refine lv_iconst (v := 3) hx hb dL_law_170 (by decide) ?_
  refine lv_iadd hx hb dL_law_171 ?_
  refine va_sld hx hb E.2.2.2.1 E.2.2.2.2 hbA hS.2.2 (hq 3 (by decide) (by decide)) dL_law_172 ?_
  refine EnL.callXi (r := (fx_row u (xs (x3 + 1).toNatClampNeg) (xs (x3 + 2).toNatClampNeg) (xs (x3 + 3).toNatClampNeg)).1) (u2 := (fx_row u (xs (x3 + 1).toNatClampNeg) (xs (x3 + 2).toNatClampNeg) (xs (x3 + 3).toNatClampNeg)).2) E hS [.int (xs (x3 + 1).toNatClampNeg), .int (xs (x3 + 2).toNatClampNeg), .int (xs (x3 + 3).toNatClampNeg)] [] (kX0_row l D ad ca g u (xs (x3 + 1).toNatClampNeg) (xs (x3 + 2).toNatClampNeg) (xs (x3 + 3).toNatClampNeg) R.xi) gc_L_18 hd_X0_row ⟨Nat.le_of_ble_eq_true rfl, Nat.le_of_ble_eq_true rfl⟩ rfl hl.1 (Nat.le_of_ble_eq_true rfl) ⟨Nat.le_refl _, Nat.le_refl _⟩ dL_law_173 (fun H locs hS => ?_)
  refine lv_aload_n hx hb dL_law_176 rfl (lv_at hl 2 rfl) ?_
  refine lv_aload_n hx hb dL_law_177 rfl (lv_at hl 0 rfl) ?_
  refine lv_iload_n hx hb dL_law_178 rfl (lv_at hl 3 rfl) ?_
  refine lv_iconst (v := 1) hx hb dL_law_179 (by decide) ?_
  refine lv_iadd hx hb dL_law_180 ?_
  refine va_sld hx hb E.2.2.2.1 E.2.2.2.2 hbA hS.2.2 (hq 1 (by decide) (by decide)) dL_law_181 ?_
  refine lv_aload_n hx hb dL_law_182 rfl (lv_at hl 0 rfl) ?_
  refine lv_iload_n hx hb dL_law_183 rfl (lv_at hl 3 rfl) ?_
  refine lv_iconst (v := 2) hx hb dL_law_184 (by decide) ?_
  refine lv_iadd hx hb dL_law_185 ?_
  refine va_sld hx hb E.2.2.2.1 E.2.2.2.2 hbA hS.2.2 (hq 2 (by decide) (by decide)) dL_law_186 ?_
  refine lv_aload_n hx hb dL_law_187 rfl (lv_at hl 0 rfl) ?_
  refine lv_iload_n hx hb dL_law_188 rfl (lv_at hl 3 rfl) ?_
  refine lv_iconst (v := 3) hx hb dL_law_189 (by decide) ?_
  refine lv_iadd hx hb dL_law_190 ?_
  refine va_sld hx hb E.2.2.2.1 E.2.2.2.2 hbA hS.2.2 (hq 3 (by decide) (by decide)) dL_law_191 ?_
  refine EnL.callMi (r := (fm_row v (xs (x3 + 1).toNatClampNeg) (xs (x3 + 2).toNatClampNeg) (xs (x3 + 3).toNatClampNeg)).1) (v2 := (fm_row v (xs (x3 + 1).toNatClampNeg) (xs (x3 + 2).toNatClampNeg) (xs (x3 + 3).toNatClampNeg)).2) E hS [.int (xs (x3 + 1).toNatClampNeg), .int (xs (x3 + 2).toNatClampNeg), .int (xs (x3 + 3).toNatClampNeg)] [.int ((fx_row u (xs (x3 + 1).toNatClampNeg) (xs (x3 + 2).toNatClampNeg) (xs (x3 + 3).toNatClampNeg)).1)] (kX1_row l D bd cb g v (xs (x3 + 1).toNatClampNeg) (xs (x3 + 2).toNatClampNeg) (xs (x3 + 3).toNatClampNeg) R.mi) gc_L_22 hd_X1_row ⟨Nat.le_of_ble_eq_true rfl, Nat.le_of_ble_eq_true rfl⟩ rfl hl.1 (Nat.le_of_ble_eq_true rfl) ⟨Nat.le_refl _, Nat.le_refl _⟩ dL_law_192 (fun H locs hS => ?_)
  refine lv_icmp_eq (tgt := 793) hx hb dL_law_195 (by decide) (fun h => ?_) (fun h => ?_)
  · exact kk _ _ H locs (sim_row R (xs (x3 + 1).toNatClampNeg) (xs (x3 + 2).toNatClampNeg) (xs (x3 + 3).toNatClampNeg)).2 hS
  · exact absurd ((sim_row R (xs (x3 + 1).toNatClampNeg) (xs (x3 + 2).toNatClampNeg) (xs (x3 + 3).toNatClampNeg)).1) h
set_option maxRecDepth 100000 in
set_option maxHeartbeats 4000000 in
theorem lc_200 {p : Program} {e : Env} {s : State} {m : MethodId} {below : List Frame} {meth : Method} {c : Code} {H : Heap} {locs : List Loc} {Q : State → Prop} {ls : Array Slot} {D : va_G} {ad : Nat → Nat} {ca : Nat → ClassId} {bd : Nat → Nat} {cb : Nat → ClassId} {g b L : Nat} {xs : Nat → Int32} {u : XS} {v : MS} {x3 : Int32} (l : Launch) (E : EnL p s m c b L xs D ca cb g) (R : RR u v) (hq : ∀ k : Int32, 0 ≤ k.toInt → k.toInt ≤ 5 → vp_in (x3 + k) L) (hS : SL D ad ca bd cb s u v H locs) (hl : lv_has ls 4 [(0, .ref b), (1, .ref (ad 0)), (2, .ref (bd 0)), (3, .int x3)]) (kk : ∀ (u2 : XS) (v2 : MS) (H : Heap) (locs : List Loc), RR u2 v2 → SL D ad ca bd cb s u2 v2 H locs → W p l e room_1 s m #[Value.ref b] below meth c H locs 600000 7302249 Q (F0 m 793 ls [])) : W p l e room_1 s m #[Value.ref b] below meth c H locs 600000 7302249 Q (F0 m 200 ls []) := by
  have hx := E.1.1
  have hb := E.1.2.1
  have hown := E.1.2.2.2.1
  have hts := E.1.2.2.2.2
  have hbA : ¬ AL s b := Nat.not_le.mpr E.2.2.2.2
  refine lv_aload_n hx hb dL_law_200 rfl (lv_at hl 1 rfl) ?_
  refine lv_aload_n hx hb dL_law_201 rfl (lv_at hl 0 rfl) ?_
  refine lv_iload_n hx hb dL_law_202 rfl (lv_at hl 3 rfl) ?_
  refine lv_iconst (v := 1) hx hb dL_law_203 (by decide) ?_
  refine lv_iadd hx hb dL_law_204 ?_
  refine va_sld hx hb E.2.2.2.1 E.2.2.2.2 hbA hS.2.2 (hq 1 (by decide) (by decide)) dL_law_205 ?_
  refine lv_aload_n hx hb dL_law_206 rfl (lv_at hl 0 rfl) ?_
  refine lv_iload_n hx hb dL_law_207 rfl (lv_at hl 3 rfl) ?_
  refine lv_iconst (v := 2) hx hb dL_law_208 (by decide) ?_
  refine lv_iadd hx hb dL_law_209 ?_
  refine va_sld hx hb E.2.2.2.1 E.2.2.2.2 hbA hS.2.2 (hq 2 (by decide) (by decide)) dL_law_210 ?_
  refine lv_aload_n hx hb dL_law_211 rfl (lv_at hl 0 rfl) ?_
  refine lv_iload_n hx hb dL_law_212 rfl (lv_at hl 3 rfl) ?_
  refine lv_iconst (v := 3) hx hb dL_law_213 (by decide) ?_
  refine lv_iadd hx hb dL_law_214 ?_
  refine va_sld hx hb E.2.2.2.1 E.2.2.2.2 hbA hS.2.2 (hq 3 (by decide) (by decide)) dL_law_215 ?_
  refine EnL.callXi (r := (fx_grid u (xs (x3 + 1).toNatClampNeg) (xs (x3 + 2).toNatClampNeg) (xs (x3 + 3).toNatClampNeg)).1) (u2 := (fx_grid u (xs (x3 + 1).toNatClampNeg) (xs (x3 + 2).toNatClampNeg) (xs (x3 + 3).toNatClampNeg)).2) E hS [.int (xs (x3 + 1).toNatClampNeg), .int (xs (x3 + 2).toNatClampNeg), .int (xs (x3 + 3).toNatClampNeg)] [] (kX0_grid l D ad ca g u (xs (x3 + 1).toNatClampNeg) (xs (x3 + 2).toNatClampNeg) (xs (x3 + 3).toNatClampNeg) R.xi) gc_L_23 hd_X0_grid ⟨Nat.le_of_ble_eq_true rfl, Nat.le_of_ble_eq_true rfl⟩ rfl hl.1 (Nat.le_of_ble_eq_true rfl) ⟨Nat.le_refl _, Nat.le_refl _⟩ dL_law_216 (fun H locs hS => ?_)
  refine lv_aload_n hx hb dL_law_219 rfl (lv_at hl 2 rfl) ?_
  refine lv_aload_n hx hb dL_law_220 rfl (lv_at hl 0 rfl) ?_
  refine lv_iload_n hx hb dL_law_221 rfl (lv_at hl 3 rfl) ?_
  refine lv_iconst (v := 1) hx hb dL_law_222 (by decide) ?_
  refine lv_iadd hx hb dL_law_223 ?_
  refine va_sld hx hb E.2.2.2.1 E.2.2.2.2 hbA hS.2.2 (hq 1 (by decide) (by decide)) dL_law_224 ?_
  refine lv_aload_n hx hb dL_law_225 rfl (lv_at hl 0 rfl) ?_
  refine lv_iload_n hx hb dL_law_226 rfl (lv_at hl 3 rfl) ?_
  refine lv_iconst (v := 2) hx hb dL_law_227 (by decide) ?_
  refine lv_iadd hx hb dL_law_228 ?_
  refine va_sld hx hb E.2.2.2.1 E.2.2.2.2 hbA hS.2.2 (hq 2 (by decide) (by decide)) dL_law_229 ?_
  refine lv_aload_n hx hb dL_law_230 rfl (lv_at hl 0 rfl) ?_
  refine lv_iload_n hx hb dL_law_231 rfl (lv_at hl 3 rfl) ?_
  refine lv_iconst (v := 3) hx hb dL_law_232 (by decide) ?_
  refine lv_iadd hx hb dL_law_233 ?_
  refine va_sld hx hb E.2.2.2.1 E.2.2.2.2 hbA hS.2.2 (hq 3 (by decide) (by decide)) dL_law_234 ?_
  refine EnL.callMi (r := (fm_grid v (xs (x3 + 1).toNatClampNeg) (xs (x3 + 2).toNatClampNeg) (xs (x3 + 3).toNatClampNeg)).1) (v2 := (fm_grid v (xs (x3 + 1).toNatClampNeg) (xs (x3 + 2).toNatClampNeg) (xs (x3 + 3).toNatClampNeg)).2) E hS [.int (xs (x3 + 1).toNatClampNeg), .int (xs (x3 + 2).toNatClampNeg), .int (xs (x3 + 3).toNatClampNeg)] [.int ((fx_grid u (xs (x3 + 1).toNatClampNeg) (xs (x3 + 2).toNatClampNeg) (xs (x3 + 3).toNatClampNeg)).1)] (kX1_grid l D bd cb g v (xs (x3 + 1).toNatClampNeg) (xs (x3 + 2).toNatClampNeg) (xs (x3 + 3).toNatClampNeg) R.mi) gc_L_26 hd_X1_grid ⟨Nat.le_of_ble_eq_true rfl, Nat.le_of_ble_eq_true rfl⟩ rfl hl.1 (Nat.le_of_ble_eq_true rfl) ⟨Nat.le_refl _, Nat.le_refl _⟩ dL_law_235 (fun H locs hS => ?_)
  refine lv_icmp_eq (tgt := 793) hx hb dL_law_238 (by decide) (fun h => ?_) (fun h => ?_)
  · exact kk _ _ H locs (sim_grid R (xs (x3 + 1).toNatClampNeg) (xs (x3 + 2).toNatClampNeg) (xs (x3 + 3).toNatClampNeg)).2 hS
  · exact absurd ((sim_grid R (xs (x3 + 1).toNatClampNeg) (xs (x3 + 2).toNatClampNeg) (xs (x3 + 3).toNatClampNeg)).1) h
set_option maxRecDepth 100000 in
set_option maxHeartbeats 4000000 in
theorem lc_243 {p : Program} {e : Env} {s : State} {m : MethodId} {below : List Frame} {meth : Method} {c : Code} {H : Heap} {locs : List Loc} {Q : State → Prop} {ls : Array Slot} {D : va_G} {ad : Nat → Nat} {ca : Nat → ClassId} {bd : Nat → Nat} {cb : Nat → ClassId} {g b L : Nat} {xs : Nat → Int32} {u : XS} {v : MS} {x3 : Int32} (l : Launch) (E : EnL p s m c b L xs D ca cb g) (R : RR u v) (hq : ∀ k : Int32, 0 ≤ k.toInt → k.toInt ≤ 5 → vp_in (x3 + k) L) (hS : SL D ad ca bd cb s u v H locs) (hl : lv_has ls 4 [(0, .ref b), (1, .ref (ad 0)), (2, .ref (bd 0)), (3, .int x3)]) (kk : ∀ (u2 : XS) (v2 : MS) (H : Heap) (locs : List Loc), RR u2 v2 → SL D ad ca bd cb s u2 v2 H locs → W p l e room_1 s m #[Value.ref b] below meth c H locs 600000 7302249 Q (F0 m 793 ls [])) : W p l e room_1 s m #[Value.ref b] below meth c H locs 600000 7302249 Q (F0 m 243 ls []) := by
  have hx := E.1.1
  have hb := E.1.2.1
  have hown := E.1.2.2.2.1
  have hts := E.1.2.2.2.2
  have hbA : ¬ AL s b := Nat.not_le.mpr E.2.2.2.2
  refine lv_aload_n hx hb dL_law_243 rfl (lv_at hl 1 rfl) ?_
  refine lv_aload_n hx hb dL_law_244 rfl (lv_at hl 0 rfl) ?_
  refine lv_iload_n hx hb dL_law_245 rfl (lv_at hl 3 rfl) ?_
  refine lv_iconst (v := 1) hx hb dL_law_246 (by decide) ?_
  refine lv_iadd hx hb dL_law_247 ?_
  refine va_sld hx hb E.2.2.2.1 E.2.2.2.2 hbA hS.2.2 (hq 1 (by decide) (by decide)) dL_law_248 ?_
  refine lv_aload_n hx hb dL_law_249 rfl (lv_at hl 0 rfl) ?_
  refine lv_iload_n hx hb dL_law_250 rfl (lv_at hl 3 rfl) ?_
  refine lv_iconst (v := 2) hx hb dL_law_251 (by decide) ?_
  refine lv_iadd hx hb dL_law_252 ?_
  refine va_sld hx hb E.2.2.2.1 E.2.2.2.2 hbA hS.2.2 (hq 2 (by decide) (by decide)) dL_law_253 ?_
  refine lv_aload_n hx hb dL_law_254 rfl (lv_at hl 0 rfl) ?_
  refine lv_iload_n hx hb dL_law_255 rfl (lv_at hl 3 rfl) ?_
  refine lv_iconst (v := 3) hx hb dL_law_256 (by decide) ?_
  refine lv_iadd hx hb dL_law_257 ?_
  refine va_sld hx hb E.2.2.2.1 E.2.2.2.2 hbA hS.2.2 (hq 3 (by decide) (by decide)) dL_law_258 ?_
  refine EnL.callXi (r := (fx_put u (xs (x3 + 1).toNatClampNeg) (xs (x3 + 2).toNatClampNeg) (xs (x3 + 3).toNatClampNeg)).1) (u2 := (fx_put u (xs (x3 + 1).toNatClampNeg) (xs (x3 + 2).toNatClampNeg) (xs (x3 + 3).toNatClampNeg)).2) E hS [.int (xs (x3 + 1).toNatClampNeg), .int (xs (x3 + 2).toNatClampNeg), .int (xs (x3 + 3).toNatClampNeg)] [] (kX0_put l D ad ca g u (xs (x3 + 1).toNatClampNeg) (xs (x3 + 2).toNatClampNeg) (xs (x3 + 3).toNatClampNeg) R.xi) gc_L_27 hd_X0_put ⟨Nat.le_of_ble_eq_true rfl, Nat.le_of_ble_eq_true rfl⟩ rfl hl.1 (Nat.le_of_ble_eq_true rfl) ⟨Nat.le_refl _, Nat.le_refl _⟩ dL_law_259 (fun H locs hS => ?_)
  refine lv_aload_n hx hb dL_law_262 rfl (lv_at hl 2 rfl) ?_
  refine lv_aload_n hx hb dL_law_263 rfl (lv_at hl 0 rfl) ?_
  refine lv_iload_n hx hb dL_law_264 rfl (lv_at hl 3 rfl) ?_
  refine lv_iconst (v := 1) hx hb dL_law_265 (by decide) ?_
  refine lv_iadd hx hb dL_law_266 ?_
  refine va_sld hx hb E.2.2.2.1 E.2.2.2.2 hbA hS.2.2 (hq 1 (by decide) (by decide)) dL_law_267 ?_
  refine lv_aload_n hx hb dL_law_268 rfl (lv_at hl 0 rfl) ?_
  refine lv_iload_n hx hb dL_law_269 rfl (lv_at hl 3 rfl) ?_
  refine lv_iconst (v := 2) hx hb dL_law_270 (by decide) ?_
  refine lv_iadd hx hb dL_law_271 ?_
  refine va_sld hx hb E.2.2.2.1 E.2.2.2.2 hbA hS.2.2 (hq 2 (by decide) (by decide)) dL_law_272 ?_
  refine lv_aload_n hx hb dL_law_273 rfl (lv_at hl 0 rfl) ?_
  refine lv_iload_n hx hb dL_law_274 rfl (lv_at hl 3 rfl) ?_
  refine lv_iconst (v := 3) hx hb dL_law_275 (by decide) ?_
  refine lv_iadd hx hb dL_law_276 ?_
  refine va_sld hx hb E.2.2.2.1 E.2.2.2.2 hbA hS.2.2 (hq 3 (by decide) (by decide)) dL_law_277 ?_
  refine EnL.callMi (r := (fm_put v (xs (x3 + 1).toNatClampNeg) (xs (x3 + 2).toNatClampNeg) (xs (x3 + 3).toNatClampNeg)).1) (v2 := (fm_put v (xs (x3 + 1).toNatClampNeg) (xs (x3 + 2).toNatClampNeg) (xs (x3 + 3).toNatClampNeg)).2) E hS [.int (xs (x3 + 1).toNatClampNeg), .int (xs (x3 + 2).toNatClampNeg), .int (xs (x3 + 3).toNatClampNeg)] [.int ((fx_put u (xs (x3 + 1).toNatClampNeg) (xs (x3 + 2).toNatClampNeg) (xs (x3 + 3).toNatClampNeg)).1)] (kX1_put l D bd cb g v (xs (x3 + 1).toNatClampNeg) (xs (x3 + 2).toNatClampNeg) (xs (x3 + 3).toNatClampNeg) R.mi) gc_L_30 hd_X1_put ⟨Nat.le_of_ble_eq_true rfl, Nat.le_of_ble_eq_true rfl⟩ rfl hl.1 (Nat.le_of_ble_eq_true rfl) ⟨Nat.le_refl _, Nat.le_refl _⟩ dL_law_278 (fun H locs hS => ?_)
  refine lv_icmp_eq (tgt := 793) hx hb dL_law_281 (by decide) (fun h => ?_) (fun h => ?_)
  · exact kk _ _ H locs (sim_put R (xs (x3 + 1).toNatClampNeg) (xs (x3 + 2).toNatClampNeg) (xs (x3 + 3).toNatClampNeg)).2 hS
  · exact absurd ((sim_put R (xs (x3 + 1).toNatClampNeg) (xs (x3 + 2).toNatClampNeg) (xs (x3 + 3).toNatClampNeg)).1) h
set_option maxRecDepth 100000 in
set_option maxHeartbeats 4000000 in
theorem lc_286 {p : Program} {e : Env} {s : State} {m : MethodId} {below : List Frame} {meth : Method} {c : Code} {H : Heap} {locs : List Loc} {Q : State → Prop} {ls : Array Slot} {D : va_G} {ad : Nat → Nat} {ca : Nat → ClassId} {bd : Nat → Nat} {cb : Nat → ClassId} {g b L : Nat} {xs : Nat → Int32} {u : XS} {v : MS} {x3 : Int32} (l : Launch) (E : EnL p s m c b L xs D ca cb g) (R : RR u v) (hq : ∀ k : Int32, 0 ≤ k.toInt → k.toInt ≤ 5 → vp_in (x3 + k) L) (hS : SL D ad ca bd cb s u v H locs) (hl : lv_has ls 4 [(0, .ref b), (1, .ref (ad 0)), (2, .ref (bd 0)), (3, .int x3)]) (kk : ∀ (u2 : XS) (v2 : MS) (H : Heap) (locs : List Loc), RR u2 v2 → SL D ad ca bd cb s u2 v2 H locs → W p l e room_1 s m #[Value.ref b] below meth c H locs 600000 7302249 Q (F0 m 793 ls [])) : W p l e room_1 s m #[Value.ref b] below meth c H locs 600000 7302249 Q (F0 m 286 ls []) := by
  have hx := E.1.1
  have hb := E.1.2.1
  have hown := E.1.2.2.2.1
  have hts := E.1.2.2.2.2
  have hbA : ¬ AL s b := Nat.not_le.mpr E.2.2.2.2
  refine lv_aload_n hx hb dL_law_286 rfl (lv_at hl 1 rfl) ?_
  refine lv_aload_n hx hb dL_law_287 rfl (lv_at hl 0 rfl) ?_
  refine lv_iload_n hx hb dL_law_288 rfl (lv_at hl 3 rfl) ?_
  refine lv_iconst (v := 1) hx hb dL_law_289 (by decide) ?_
  refine lv_iadd hx hb dL_law_290 ?_
  refine va_sld hx hb E.2.2.2.1 E.2.2.2.2 hbA hS.2.2 (hq 1 (by decide) (by decide)) dL_law_291 ?_
  refine lv_aload_n hx hb dL_law_292 rfl (lv_at hl 0 rfl) ?_
  refine lv_iload_n hx hb dL_law_293 rfl (lv_at hl 3 rfl) ?_
  refine lv_iconst (v := 2) hx hb dL_law_294 (by decide) ?_
  refine lv_iadd hx hb dL_law_295 ?_
  refine va_sld hx hb E.2.2.2.1 E.2.2.2.2 hbA hS.2.2 (hq 2 (by decide) (by decide)) dL_law_296 ?_
  refine EnL.callXi (r := (fx_get u (xs (x3 + 1).toNatClampNeg) (xs (x3 + 2).toNatClampNeg)).1) (u2 := (fx_get u (xs (x3 + 1).toNatClampNeg) (xs (x3 + 2).toNatClampNeg)).2) E hS [.int (xs (x3 + 1).toNatClampNeg), .int (xs (x3 + 2).toNatClampNeg)] [] (kX0_get l D ad ca g u (xs (x3 + 1).toNatClampNeg) (xs (x3 + 2).toNatClampNeg) R.xi) gc_L_31 hd_X0_get ⟨Nat.le_of_ble_eq_true rfl, Nat.le_of_ble_eq_true rfl⟩ rfl hl.1 (Nat.le_of_ble_eq_true rfl) ⟨Nat.le_refl _, Nat.le_refl _⟩ dL_law_297 (fun H locs hS => ?_)
  refine lv_aload_n hx hb dL_law_300 rfl (lv_at hl 2 rfl) ?_
  refine lv_aload_n hx hb dL_law_301 rfl (lv_at hl 0 rfl) ?_
  refine lv_iload_n hx hb dL_law_302 rfl (lv_at hl 3 rfl) ?_
  refine lv_iconst (v := 1) hx hb dL_law_303 (by decide) ?_
  refine lv_iadd hx hb dL_law_304 ?_
  refine va_sld hx hb E.2.2.2.1 E.2.2.2.2 hbA hS.2.2 (hq 1 (by decide) (by decide)) dL_law_305 ?_
  refine lv_aload_n hx hb dL_law_306 rfl (lv_at hl 0 rfl) ?_
  refine lv_iload_n hx hb dL_law_307 rfl (lv_at hl 3 rfl) ?_
  refine lv_iconst (v := 2) hx hb dL_law_308 (by decide) ?_
  refine lv_iadd hx hb dL_law_309 ?_
  refine va_sld hx hb E.2.2.2.1 E.2.2.2.2 hbA hS.2.2 (hq 2 (by decide) (by decide)) dL_law_310 ?_
  refine EnL.callMi (r := (fm_get v (xs (x3 + 1).toNatClampNeg) (xs (x3 + 2).toNatClampNeg)).1) (v2 := (fm_get v (xs (x3 + 1).toNatClampNeg) (xs (x3 + 2).toNatClampNeg)).2) E hS [.int (xs (x3 + 1).toNatClampNeg), .int (xs (x3 + 2).toNatClampNeg)] [.int ((fx_get u (xs (x3 + 1).toNatClampNeg) (xs (x3 + 2).toNatClampNeg)).1)] (kX1_get l D bd cb g v (xs (x3 + 1).toNatClampNeg) (xs (x3 + 2).toNatClampNeg) R.mi) gc_L_34 hd_X1_get ⟨Nat.le_of_ble_eq_true rfl, Nat.le_of_ble_eq_true rfl⟩ rfl hl.1 (Nat.le_of_ble_eq_true rfl) ⟨Nat.le_refl _, Nat.le_refl _⟩ dL_law_311 (fun H locs hS => ?_)
  refine lv_icmp_eq (tgt := 793) hx hb dL_law_314 (by decide) (fun h => ?_) (fun h => ?_)
  · exact kk _ _ H locs (sim_get R (xs (x3 + 1).toNatClampNeg) (xs (x3 + 2).toNatClampNeg)).2 hS
  · exact absurd ((sim_get R (xs (x3 + 1).toNatClampNeg) (xs (x3 + 2).toNatClampNeg)).1) h
set_option maxRecDepth 100000 in
set_option maxHeartbeats 4000000 in
theorem lc_319 {p : Program} {e : Env} {s : State} {m : MethodId} {below : List Frame} {meth : Method} {c : Code} {H : Heap} {locs : List Loc} {Q : State → Prop} {ls : Array Slot} {D : va_G} {ad : Nat → Nat} {ca : Nat → ClassId} {bd : Nat → Nat} {cb : Nat → ClassId} {g b L : Nat} {xs : Nat → Int32} {u : XS} {v : MS} {x3 : Int32} (l : Launch) (E : EnL p s m c b L xs D ca cb g) (R : RR u v) (hq : ∀ k : Int32, 0 ≤ k.toInt → k.toInt ≤ 5 → vp_in (x3 + k) L) (hS : SL D ad ca bd cb s u v H locs) (hl : lv_has ls 4 [(0, .ref b), (1, .ref (ad 0)), (2, .ref (bd 0)), (3, .int x3)]) (kk : ∀ (u2 : XS) (v2 : MS) (H : Heap) (locs : List Loc), RR u2 v2 → SL D ad ca bd cb s u2 v2 H locs → W p l e room_1 s m #[Value.ref b] below meth c H locs 600000 7302249 Q (F0 m 793 ls [])) : W p l e room_1 s m #[Value.ref b] below meth c H locs 600000 7302249 Q (F0 m 319 ls []) := by
  have hx := E.1.1
  have hb := E.1.2.1
  have hown := E.1.2.2.2.1
  have hts := E.1.2.2.2.2
  have hbA : ¬ AL s b := Nat.not_le.mpr E.2.2.2.2
  refine lv_aload_n hx hb dL_law_319 rfl (lv_at hl 1 rfl) ?_
  refine lv_aload_n hx hb dL_law_320 rfl (lv_at hl 0 rfl) ?_
  refine lv_iload_n hx hb dL_law_321 rfl (lv_at hl 3 rfl) ?_
  refine lv_iconst (v := 1) hx hb dL_law_322 (by decide) ?_
  refine lv_iadd hx hb dL_law_323 ?_
  refine va_sld hx hb E.2.2.2.1 E.2.2.2.2 hbA hS.2.2 (hq 1 (by decide) (by decide)) dL_law_324 ?_
  refine lv_aload_n hx hb dL_law_325 rfl (lv_at hl 0 rfl) ?_
  refine lv_iload_n hx hb dL_law_326 rfl (lv_at hl 3 rfl) ?_
  refine lv_iconst (v := 2) hx hb dL_law_327 (by decide) ?_
  refine lv_iadd hx hb dL_law_328 ?_
  refine va_sld hx hb E.2.2.2.1 E.2.2.2.2 hbA hS.2.2 (hq 2 (by decide) (by decide)) dL_law_329 ?_
  refine lv_aload_n hx hb dL_law_330 rfl (lv_at hl 0 rfl) ?_
  refine lv_iload_n hx hb dL_law_331 rfl (lv_at hl 3 rfl) ?_
  refine lv_iconst (v := 3) hx hb dL_law_332 (by decide) ?_
  refine lv_iadd hx hb dL_law_333 ?_
  refine va_sld hx hb E.2.2.2.1 E.2.2.2.2 hbA hS.2.2 (hq 3 (by decide) (by decide)) dL_law_334 ?_
  refine lv_i2l (v := Int32.toInt64 (xs (x3 + 3).toNatClampNeg)) hx hb dL_law_335 rfl ?_
  refine lv_bipush (v := 32) hx hb dL_law_336 (by decide) ?_
  refine lv_lshl (v := (Int32.toInt64 (xs (x3 + 3).toNatClampNeg)) <<< ((32 : Int32).toInt64 &&& 63)) hx hb dL_law_338 rfl ?_
  refine lv_aload_n hx hb dL_law_339 rfl (lv_at hl 0 rfl) ?_
  refine lv_iload_n hx hb dL_law_340 rfl (lv_at hl 3 rfl) ?_
  refine lv_iconst (v := 4) hx hb dL_law_341 (by decide) ?_
  refine lv_iadd hx hb dL_law_342 ?_
  refine va_sld hx hb E.2.2.2.1 E.2.2.2.2 hbA hS.2.2 (hq 4 (by decide) (by decide)) dL_law_343 ?_
  refine lv_i2l (v := Int32.toInt64 (xs (x3 + 4).toNatClampNeg)) hx hb dL_law_344 rfl ?_
  refine lv_ldc2 (v := 4294967295) hx hb hown (hts _ wk_L_35) dL_law_345 ?_
  refine lv_land hx hb dL_law_348 ?_
  refine lv_lor hx hb dL_law_349 ?_
  refine EnL.callXi (r := (fx_set u (xs (x3 + 1).toNatClampNeg) (xs (x3 + 2).toNatClampNeg) (((Int32.toInt64 (xs (x3 + 3).toNatClampNeg)) <<< ((32 : Int32).toInt64 &&& 63)) ||| ((Int32.toInt64 (xs (x3 + 4).toNatClampNeg)) &&& 4294967295))).1) (u2 := (fx_set u (xs (x3 + 1).toNatClampNeg) (xs (x3 + 2).toNatClampNeg) (((Int32.toInt64 (xs (x3 + 3).toNatClampNeg)) <<< ((32 : Int32).toInt64 &&& 63)) ||| ((Int32.toInt64 (xs (x3 + 4).toNatClampNeg)) &&& 4294967295))).2) E hS [.int (xs (x3 + 1).toNatClampNeg), .int (xs (x3 + 2).toNatClampNeg), .long (((Int32.toInt64 (xs (x3 + 3).toNatClampNeg)) <<< ((32 : Int32).toInt64 &&& 63)) ||| ((Int32.toInt64 (xs (x3 + 4).toNatClampNeg)) &&& 4294967295))] [] (kX0_set l D ad ca g u (xs (x3 + 1).toNatClampNeg) (xs (x3 + 2).toNatClampNeg) (((Int32.toInt64 (xs (x3 + 3).toNatClampNeg)) <<< ((32 : Int32).toInt64 &&& 63)) ||| ((Int32.toInt64 (xs (x3 + 4).toNatClampNeg)) &&& 4294967295)) R.xi) gc_L_37 hd_X0_set ⟨Nat.le_of_ble_eq_true rfl, Nat.le_of_ble_eq_true rfl⟩ rfl hl.1 (Nat.le_of_ble_eq_true rfl) ⟨Nat.le_refl _, Nat.le_refl _⟩ dL_law_350 (fun H locs hS => ?_)
  refine lv_aload_n hx hb dL_law_353 rfl (lv_at hl 2 rfl) ?_
  refine lv_aload_n hx hb dL_law_354 rfl (lv_at hl 0 rfl) ?_
  refine lv_iload_n hx hb dL_law_355 rfl (lv_at hl 3 rfl) ?_
  refine lv_iconst (v := 1) hx hb dL_law_356 (by decide) ?_
  refine lv_iadd hx hb dL_law_357 ?_
  refine va_sld hx hb E.2.2.2.1 E.2.2.2.2 hbA hS.2.2 (hq 1 (by decide) (by decide)) dL_law_358 ?_
  refine lv_aload_n hx hb dL_law_359 rfl (lv_at hl 0 rfl) ?_
  refine lv_iload_n hx hb dL_law_360 rfl (lv_at hl 3 rfl) ?_
  refine lv_iconst (v := 2) hx hb dL_law_361 (by decide) ?_
  refine lv_iadd hx hb dL_law_362 ?_
  refine va_sld hx hb E.2.2.2.1 E.2.2.2.2 hbA hS.2.2 (hq 2 (by decide) (by decide)) dL_law_363 ?_
  refine lv_aload_n hx hb dL_law_364 rfl (lv_at hl 0 rfl) ?_
  refine lv_iload_n hx hb dL_law_365 rfl (lv_at hl 3 rfl) ?_
  refine lv_iconst (v := 3) hx hb dL_law_366 (by decide) ?_
  refine lv_iadd hx hb dL_law_367 ?_
  refine va_sld hx hb E.2.2.2.1 E.2.2.2.2 hbA hS.2.2 (hq 3 (by decide) (by decide)) dL_law_368 ?_
  refine lv_i2l (v := Int32.toInt64 (xs (x3 + 3).toNatClampNeg)) hx hb dL_law_369 rfl ?_
  refine lv_bipush (v := 32) hx hb dL_law_370 (by decide) ?_
  refine lv_lshl (v := (Int32.toInt64 (xs (x3 + 3).toNatClampNeg)) <<< ((32 : Int32).toInt64 &&& 63)) hx hb dL_law_372 rfl ?_
  refine lv_aload_n hx hb dL_law_373 rfl (lv_at hl 0 rfl) ?_
  refine lv_iload_n hx hb dL_law_374 rfl (lv_at hl 3 rfl) ?_
  refine lv_iconst (v := 4) hx hb dL_law_375 (by decide) ?_
  refine lv_iadd hx hb dL_law_376 ?_
  refine va_sld hx hb E.2.2.2.1 E.2.2.2.2 hbA hS.2.2 (hq 4 (by decide) (by decide)) dL_law_377 ?_
  refine lv_i2l (v := Int32.toInt64 (xs (x3 + 4).toNatClampNeg)) hx hb dL_law_378 rfl ?_
  refine lv_ldc2 (v := 4294967295) hx hb hown (hts _ wk_L_35) dL_law_379 ?_
  refine lv_land hx hb dL_law_382 ?_
  refine lv_lor hx hb dL_law_383 ?_
  refine EnL.callMi (r := (fm_set v (xs (x3 + 1).toNatClampNeg) (xs (x3 + 2).toNatClampNeg) (((Int32.toInt64 (xs (x3 + 3).toNatClampNeg)) <<< ((32 : Int32).toInt64 &&& 63)) ||| ((Int32.toInt64 (xs (x3 + 4).toNatClampNeg)) &&& 4294967295))).1) (v2 := (fm_set v (xs (x3 + 1).toNatClampNeg) (xs (x3 + 2).toNatClampNeg) (((Int32.toInt64 (xs (x3 + 3).toNatClampNeg)) <<< ((32 : Int32).toInt64 &&& 63)) ||| ((Int32.toInt64 (xs (x3 + 4).toNatClampNeg)) &&& 4294967295))).2) E hS [.int (xs (x3 + 1).toNatClampNeg), .int (xs (x3 + 2).toNatClampNeg), .long (((Int32.toInt64 (xs (x3 + 3).toNatClampNeg)) <<< ((32 : Int32).toInt64 &&& 63)) ||| ((Int32.toInt64 (xs (x3 + 4).toNatClampNeg)) &&& 4294967295))] [.int ((fx_set u (xs (x3 + 1).toNatClampNeg) (xs (x3 + 2).toNatClampNeg) (((Int32.toInt64 (xs (x3 + 3).toNatClampNeg)) <<< ((32 : Int32).toInt64 &&& 63)) ||| ((Int32.toInt64 (xs (x3 + 4).toNatClampNeg)) &&& 4294967295))).1)] (kX1_set l D bd cb g v (xs (x3 + 1).toNatClampNeg) (xs (x3 + 2).toNatClampNeg) (((Int32.toInt64 (xs (x3 + 3).toNatClampNeg)) <<< ((32 : Int32).toInt64 &&& 63)) ||| ((Int32.toInt64 (xs (x3 + 4).toNatClampNeg)) &&& 4294967295)) R.mi) gc_L_41 hd_X1_set ⟨Nat.le_of_ble_eq_true rfl, Nat.le_of_ble_eq_true rfl⟩ rfl hl.1 (Nat.le_of_ble_eq_true rfl) ⟨Nat.le_refl _, Nat.le_refl _⟩ dL_law_384 (fun H locs hS => ?_)
  refine lv_icmp_eq (tgt := 793) hx hb dL_law_387 (by decide) (fun h => ?_) (fun h => ?_)
  · exact kk _ _ H locs (sim_set R (xs (x3 + 1).toNatClampNeg) (xs (x3 + 2).toNatClampNeg) (((Int32.toInt64 (xs (x3 + 3).toNatClampNeg)) <<< ((32 : Int32).toInt64 &&& 63)) ||| ((Int32.toInt64 (xs (x3 + 4).toNatClampNeg)) &&& 4294967295))).2 hS
  · exact absurd ((sim_set R (xs (x3 + 1).toNatClampNeg) (xs (x3 + 2).toNatClampNeg) (((Int32.toInt64 (xs (x3 + 3).toNatClampNeg)) <<< ((32 : Int32).toInt64 &&& 63)) ||| ((Int32.toInt64 (xs (x3 + 4).toNatClampNeg)) &&& 4294967295))).1) h
set_option maxRecDepth 100000 in
set_option maxHeartbeats 4000000 in
theorem lc_392 {p : Program} {e : Env} {s : State} {m : MethodId} {below : List Frame} {meth : Method} {c : Code} {H : Heap} {locs : List Loc} {Q : State → Prop} {ls : Array Slot} {D : va_G} {ad : Nat → Nat} {ca : Nat → ClassId} {bd : Nat → Nat} {cb : Nat → ClassId} {g b L : Nat} {xs : Nat → Int32} {u : XS} {v : MS} {x3 : Int32} (l : Launch) (E : EnL p s m c b L xs D ca cb g) (R : RR u v) (hq : ∀ k : Int32, 0 ≤ k.toInt → k.toInt ≤ 5 → vp_in (x3 + k) L) (hS : SL D ad ca bd cb s u v H locs) (hl : lv_has ls 4 [(0, .ref b), (1, .ref (ad 0)), (2, .ref (bd 0)), (3, .int x3)]) (kk : ∀ (u2 : XS) (v2 : MS) (H : Heap) (locs : List Loc), RR u2 v2 → SL D ad ca bd cb s u2 v2 H locs → W p l e room_1 s m #[Value.ref b] below meth c H locs 600000 7302249 Q (F0 m 793 ls [])) : W p l e room_1 s m #[Value.ref b] below meth c H locs 600000 7302249 Q (F0 m 392 ls []) := by
  have hx := E.1.1
  have hb := E.1.2.1
  have hown := E.1.2.2.2.1
  have hts := E.1.2.2.2.2
  have hbA : ¬ AL s b := Nat.not_le.mpr E.2.2.2.2
  refine lv_aload_n hx hb dL_law_392 rfl (lv_at hl 1 rfl) ?_
  refine lv_aload_n hx hb dL_law_393 rfl (lv_at hl 0 rfl) ?_
  refine lv_iload_n hx hb dL_law_394 rfl (lv_at hl 3 rfl) ?_
  refine lv_iconst (v := 1) hx hb dL_law_395 (by decide) ?_
  refine lv_iadd hx hb dL_law_396 ?_
  refine va_sld hx hb E.2.2.2.1 E.2.2.2.2 hbA hS.2.2 (hq 1 (by decide) (by decide)) dL_law_397 ?_
  refine lv_aload_n hx hb dL_law_398 rfl (lv_at hl 0 rfl) ?_
  refine lv_iload_n hx hb dL_law_399 rfl (lv_at hl 3 rfl) ?_
  refine lv_iconst (v := 2) hx hb dL_law_400 (by decide) ?_
  refine lv_iadd hx hb dL_law_401 ?_
  refine va_sld hx hb E.2.2.2.1 E.2.2.2.2 hbA hS.2.2 (hq 2 (by decide) (by decide)) dL_law_402 ?_
  refine EnL.callXl (r := fx_number u (xs (x3 + 1).toNatClampNeg) (xs (x3 + 2).toNatClampNeg)) (u2 := u) E hS [.int (xs (x3 + 1).toNatClampNeg), .int (xs (x3 + 2).toNatClampNeg)] [] (kX0_number l D ad ca g u (xs (x3 + 1).toNatClampNeg) (xs (x3 + 2).toNatClampNeg) R.xi) gc_L_42 hd_X0_number ⟨Nat.le_of_ble_eq_true rfl, Nat.le_of_ble_eq_true rfl⟩ rfl hl.1 (Nat.le_of_ble_eq_true rfl) ⟨Nat.le_refl _, Nat.le_refl _⟩ dL_law_403 (fun H locs hS => ?_)
  refine lv_aload_n hx hb dL_law_406 rfl (lv_at hl 2 rfl) ?_
  refine lv_aload_n hx hb dL_law_407 rfl (lv_at hl 0 rfl) ?_
  refine lv_iload_n hx hb dL_law_408 rfl (lv_at hl 3 rfl) ?_
  refine lv_iconst (v := 1) hx hb dL_law_409 (by decide) ?_
  refine lv_iadd hx hb dL_law_410 ?_
  refine va_sld hx hb E.2.2.2.1 E.2.2.2.2 hbA hS.2.2 (hq 1 (by decide) (by decide)) dL_law_411 ?_
  refine lv_aload_n hx hb dL_law_412 rfl (lv_at hl 0 rfl) ?_
  refine lv_iload_n hx hb dL_law_413 rfl (lv_at hl 3 rfl) ?_
  refine lv_iconst (v := 2) hx hb dL_law_414 (by decide) ?_
  refine lv_iadd hx hb dL_law_415 ?_
  refine va_sld hx hb E.2.2.2.1 E.2.2.2.2 hbA hS.2.2 (hq 2 (by decide) (by decide)) dL_law_416 ?_
  refine EnL.callMl (r := fm_number v (xs (x3 + 1).toNatClampNeg) (xs (x3 + 2).toNatClampNeg)) (v2 := v) E hS [.int (xs (x3 + 1).toNatClampNeg), .int (xs (x3 + 2).toNatClampNeg)] [.long (fx_number u (xs (x3 + 1).toNatClampNeg) (xs (x3 + 2).toNatClampNeg))] (kX1_number l D bd cb g v (xs (x3 + 1).toNatClampNeg) (xs (x3 + 2).toNatClampNeg) R.mi) gc_L_46 hd_X1_number ⟨Nat.le_of_ble_eq_true rfl, Nat.le_of_ble_eq_true rfl⟩ rfl hl.1 (Nat.le_of_ble_eq_true rfl) ⟨Nat.le_refl _, Nat.le_refl _⟩ dL_law_417 (fun H locs hS => ?_)
  refine W.lcmp hx hb dL_law_420 ?_
  refine lv_if_eq (tgt := 793) hx hb dL_law_421 (by decide) (fun h => ?_) (fun h => ?_)
  · exact kk _ _ H locs R hS
  · exact absurd ((lg_cmp_eq _ _).mpr (sim_number R (xs (x3 + 1).toNatClampNeg) (xs (x3 + 2).toNatClampNeg))) h
set_option maxRecDepth 100000 in
set_option maxHeartbeats 4000000 in
theorem lc_426 {p : Program} {e : Env} {s : State} {m : MethodId} {below : List Frame} {meth : Method} {c : Code} {H : Heap} {locs : List Loc} {Q : State → Prop} {ls : Array Slot} {D : va_G} {ad : Nat → Nat} {ca : Nat → ClassId} {bd : Nat → Nat} {cb : Nat → ClassId} {g b L : Nat} {xs : Nat → Int32} {u : XS} {v : MS} {x3 : Int32} (l : Launch) (E : EnL p s m c b L xs D ca cb g) (R : RR u v) (hq : ∀ k : Int32, 0 ≤ k.toInt → k.toInt ≤ 5 → vp_in (x3 + k) L) (hS : SL D ad ca bd cb s u v H locs) (hl : lv_has ls 4 [(0, .ref b), (1, .ref (ad 0)), (2, .ref (bd 0)), (3, .int x3)]) (kk : ∀ (u2 : XS) (v2 : MS) (H : Heap) (locs : List Loc), RR u2 v2 → SL D ad ca bd cb s u2 v2 H locs → W p l e room_1 s m #[Value.ref b] below meth c H locs 600000 7302249 Q (F0 m 793 ls [])) : W p l e room_1 s m #[Value.ref b] below meth c H locs 600000 7302249 Q (F0 m 426 ls []) := by
  have hx := E.1.1
  have hb := E.1.2.1
  have hown := E.1.2.2.2.1
  have hts := E.1.2.2.2.2
  have hbA : ¬ AL s b := Nat.not_le.mpr E.2.2.2.2
  refine lv_aload_n hx hb dL_law_426 rfl (lv_at hl 1 rfl) ?_
  refine lv_aload_n hx hb dL_law_427 rfl (lv_at hl 0 rfl) ?_
  refine lv_iload_n hx hb dL_law_428 rfl (lv_at hl 3 rfl) ?_
  refine lv_iconst (v := 1) hx hb dL_law_429 (by decide) ?_
  refine lv_iadd hx hb dL_law_430 ?_
  refine va_sld hx hb E.2.2.2.1 E.2.2.2.2 hbA hS.2.2 (hq 1 (by decide) (by decide)) dL_law_431 ?_
  refine lv_aload_n hx hb dL_law_432 rfl (lv_at hl 0 rfl) ?_
  refine lv_iload_n hx hb dL_law_433 rfl (lv_at hl 3 rfl) ?_
  refine lv_iconst (v := 2) hx hb dL_law_434 (by decide) ?_
  refine lv_iadd hx hb dL_law_435 ?_
  refine va_sld hx hb E.2.2.2.1 E.2.2.2.2 hbA hS.2.2 (hq 2 (by decide) (by decide)) dL_law_436 ?_
  refine lv_aload_n hx hb dL_law_437 rfl (lv_at hl 0 rfl) ?_
  refine lv_iload_n hx hb dL_law_438 rfl (lv_at hl 3 rfl) ?_
  refine lv_iconst (v := 3) hx hb dL_law_439 (by decide) ?_
  refine lv_iadd hx hb dL_law_440 ?_
  refine va_sld hx hb E.2.2.2.1 E.2.2.2.2 hbA hS.2.2 (hq 3 (by decide) (by decide)) dL_law_441 ?_
  refine EnL.callXi (r := fx_is u (xs (x3 + 1).toNatClampNeg) (xs (x3 + 2).toNatClampNeg) (xs (x3 + 3).toNatClampNeg)) (u2 := u) E hS [.int (xs (x3 + 1).toNatClampNeg), .int (xs (x3 + 2).toNatClampNeg), .int (xs (x3 + 3).toNatClampNeg)] [] (kX0_is l D ad ca g u (xs (x3 + 1).toNatClampNeg) (xs (x3 + 2).toNatClampNeg) (xs (x3 + 3).toNatClampNeg) R.xi) gc_L_47 hd_X0_is ⟨Nat.le_of_ble_eq_true rfl, Nat.le_of_ble_eq_true rfl⟩ rfl hl.1 (Nat.le_of_ble_eq_true rfl) ⟨Nat.le_refl _, Nat.le_refl _⟩ dL_law_442 (fun H locs hS => ?_)
  refine lv_aload_n hx hb dL_law_445 rfl (lv_at hl 2 rfl) ?_
  refine lv_aload_n hx hb dL_law_446 rfl (lv_at hl 0 rfl) ?_
  refine lv_iload_n hx hb dL_law_447 rfl (lv_at hl 3 rfl) ?_
  refine lv_iconst (v := 1) hx hb dL_law_448 (by decide) ?_
  refine lv_iadd hx hb dL_law_449 ?_
  refine va_sld hx hb E.2.2.2.1 E.2.2.2.2 hbA hS.2.2 (hq 1 (by decide) (by decide)) dL_law_450 ?_
  refine lv_aload_n hx hb dL_law_451 rfl (lv_at hl 0 rfl) ?_
  refine lv_iload_n hx hb dL_law_452 rfl (lv_at hl 3 rfl) ?_
  refine lv_iconst (v := 2) hx hb dL_law_453 (by decide) ?_
  refine lv_iadd hx hb dL_law_454 ?_
  refine va_sld hx hb E.2.2.2.1 E.2.2.2.2 hbA hS.2.2 (hq 2 (by decide) (by decide)) dL_law_455 ?_
  refine lv_aload_n hx hb dL_law_456 rfl (lv_at hl 0 rfl) ?_
  refine lv_iload_n hx hb dL_law_457 rfl (lv_at hl 3 rfl) ?_
  refine lv_iconst (v := 3) hx hb dL_law_458 (by decide) ?_
  refine lv_iadd hx hb dL_law_459 ?_
  refine va_sld hx hb E.2.2.2.1 E.2.2.2.2 hbA hS.2.2 (hq 3 (by decide) (by decide)) dL_law_460 ?_
  refine EnL.callMi (r := fm_is v (xs (x3 + 1).toNatClampNeg) (xs (x3 + 2).toNatClampNeg) (xs (x3 + 3).toNatClampNeg)) (v2 := v) E hS [.int (xs (x3 + 1).toNatClampNeg), .int (xs (x3 + 2).toNatClampNeg), .int (xs (x3 + 3).toNatClampNeg)] [.int (fx_is u (xs (x3 + 1).toNatClampNeg) (xs (x3 + 2).toNatClampNeg) (xs (x3 + 3).toNatClampNeg))] (kX1_is l D bd cb g v (xs (x3 + 1).toNatClampNeg) (xs (x3 + 2).toNatClampNeg) (xs (x3 + 3).toNatClampNeg) R.mi) gc_L_50 hd_X1_is ⟨Nat.le_of_ble_eq_true rfl, Nat.le_of_ble_eq_true rfl⟩ rfl hl.1 (Nat.le_of_ble_eq_true rfl) ⟨Nat.le_refl _, Nat.le_refl _⟩ dL_law_461 (fun H locs hS => ?_)
  refine lv_icmp_eq (tgt := 793) hx hb dL_law_464 (by decide) (fun h => ?_) (fun h => ?_)
  · exact kk _ _ H locs R hS
  · exact absurd (sim_is R (xs (x3 + 1).toNatClampNeg) (xs (x3 + 2).toNatClampNeg) (xs (x3 + 3).toNatClampNeg)) h
set_option maxRecDepth 100000 in
set_option maxHeartbeats 4000000 in
theorem lc_469 {p : Program} {e : Env} {s : State} {m : MethodId} {below : List Frame} {meth : Method} {c : Code} {H : Heap} {locs : List Loc} {Q : State → Prop} {ls : Array Slot} {D : va_G} {ad : Nat → Nat} {ca : Nat → ClassId} {bd : Nat → Nat} {cb : Nat → ClassId} {g b L : Nat} {xs : Nat → Int32} {u : XS} {v : MS} {x3 : Int32} (l : Launch) (E : EnL p s m c b L xs D ca cb g) (R : RR u v) (hq : ∀ k : Int32, 0 ≤ k.toInt → k.toInt ≤ 5 → vp_in (x3 + k) L) (hS : SL D ad ca bd cb s u v H locs) (hl : lv_has ls 4 [(0, .ref b), (1, .ref (ad 0)), (2, .ref (bd 0)), (3, .int x3)]) (kk : ∀ (u2 : XS) (v2 : MS) (H : Heap) (locs : List Loc), RR u2 v2 → SL D ad ca bd cb s u2 v2 H locs → W p l e room_1 s m #[Value.ref b] below meth c H locs 600000 7302249 Q (F0 m 793 ls [])) : W p l e room_1 s m #[Value.ref b] below meth c H locs 600000 7302249 Q (F0 m 469 ls []) := by
  have hx := E.1.1
  have hb := E.1.2.1
  have hown := E.1.2.2.2.1
  have hts := E.1.2.2.2.2
  have hbA : ¬ AL s b := Nat.not_le.mpr E.2.2.2.2
  refine lv_aload_n hx hb dL_law_469 rfl (lv_at hl 1 rfl) ?_
  refine lv_aload_n hx hb dL_law_470 rfl (lv_at hl 0 rfl) ?_
  refine lv_iload_n hx hb dL_law_471 rfl (lv_at hl 3 rfl) ?_
  refine lv_iconst (v := 1) hx hb dL_law_472 (by decide) ?_
  refine lv_iadd hx hb dL_law_473 ?_
  refine va_sld hx hb E.2.2.2.1 E.2.2.2.2 hbA hS.2.2 (hq 1 (by decide) (by decide)) dL_law_474 ?_
  refine lv_aload_n hx hb dL_law_475 rfl (lv_at hl 0 rfl) ?_
  refine lv_iload_n hx hb dL_law_476 rfl (lv_at hl 3 rfl) ?_
  refine lv_iconst (v := 2) hx hb dL_law_477 (by decide) ?_
  refine lv_iadd hx hb dL_law_478 ?_
  refine va_sld hx hb E.2.2.2.1 E.2.2.2.2 hbA hS.2.2 (hq 2 (by decide) (by decide)) dL_law_479 ?_
  refine lv_aload_n hx hb dL_law_480 rfl (lv_at hl 0 rfl) ?_
  refine lv_iload_n hx hb dL_law_481 rfl (lv_at hl 3 rfl) ?_
  refine lv_iconst (v := 3) hx hb dL_law_482 (by decide) ?_
  refine lv_iadd hx hb dL_law_483 ?_
  refine va_sld hx hb E.2.2.2.1 E.2.2.2.2 hbA hS.2.2 (hq 3 (by decide) (by decide)) dL_law_484 ?_
  refine EnL.callXi (r := (fx_door u (xs (x3 + 1).toNatClampNeg) (xs (x3 + 2).toNatClampNeg) (xs (x3 + 3).toNatClampNeg)).1) (u2 := (fx_door u (xs (x3 + 1).toNatClampNeg) (xs (x3 + 2).toNatClampNeg) (xs (x3 + 3).toNatClampNeg)).2) E hS [.int (xs (x3 + 1).toNatClampNeg), .int (xs (x3 + 2).toNatClampNeg), .int (xs (x3 + 3).toNatClampNeg)] [] (kX0_door l D ad ca g u (xs (x3 + 1).toNatClampNeg) (xs (x3 + 2).toNatClampNeg) (xs (x3 + 3).toNatClampNeg) R.xi) gc_L_51 hd_X0_door ⟨Nat.le_of_ble_eq_true rfl, Nat.le_of_ble_eq_true rfl⟩ rfl hl.1 (Nat.le_of_ble_eq_true rfl) ⟨Nat.le_refl _, Nat.le_refl _⟩ dL_law_485 (fun H locs hS => ?_)
  refine lv_aload_n hx hb dL_law_488 rfl (lv_at hl 2 rfl) ?_
  refine lv_aload_n hx hb dL_law_489 rfl (lv_at hl 0 rfl) ?_
  refine lv_iload_n hx hb dL_law_490 rfl (lv_at hl 3 rfl) ?_
  refine lv_iconst (v := 1) hx hb dL_law_491 (by decide) ?_
  refine lv_iadd hx hb dL_law_492 ?_
  refine va_sld hx hb E.2.2.2.1 E.2.2.2.2 hbA hS.2.2 (hq 1 (by decide) (by decide)) dL_law_493 ?_
  refine lv_aload_n hx hb dL_law_494 rfl (lv_at hl 0 rfl) ?_
  refine lv_iload_n hx hb dL_law_495 rfl (lv_at hl 3 rfl) ?_
  refine lv_iconst (v := 2) hx hb dL_law_496 (by decide) ?_
  refine lv_iadd hx hb dL_law_497 ?_
  refine va_sld hx hb E.2.2.2.1 E.2.2.2.2 hbA hS.2.2 (hq 2 (by decide) (by decide)) dL_law_498 ?_
  refine lv_aload_n hx hb dL_law_499 rfl (lv_at hl 0 rfl) ?_
  refine lv_iload_n hx hb dL_law_500 rfl (lv_at hl 3 rfl) ?_
  refine lv_iconst (v := 3) hx hb dL_law_501 (by decide) ?_
  refine lv_iadd hx hb dL_law_502 ?_
  refine va_sld hx hb E.2.2.2.1 E.2.2.2.2 hbA hS.2.2 (hq 3 (by decide) (by decide)) dL_law_503 ?_
  refine EnL.callMi (r := (fm_door v (xs (x3 + 1).toNatClampNeg) (xs (x3 + 2).toNatClampNeg) (xs (x3 + 3).toNatClampNeg)).1) (v2 := (fm_door v (xs (x3 + 1).toNatClampNeg) (xs (x3 + 2).toNatClampNeg) (xs (x3 + 3).toNatClampNeg)).2) E hS [.int (xs (x3 + 1).toNatClampNeg), .int (xs (x3 + 2).toNatClampNeg), .int (xs (x3 + 3).toNatClampNeg)] [.int ((fx_door u (xs (x3 + 1).toNatClampNeg) (xs (x3 + 2).toNatClampNeg) (xs (x3 + 3).toNatClampNeg)).1)] (kX1_door l D bd cb g v (xs (x3 + 1).toNatClampNeg) (xs (x3 + 2).toNatClampNeg) (xs (x3 + 3).toNatClampNeg) R.mi) gc_L_54 hd_X1_door ⟨Nat.le_of_ble_eq_true rfl, Nat.le_of_ble_eq_true rfl⟩ rfl hl.1 (Nat.le_of_ble_eq_true rfl) ⟨Nat.le_refl _, Nat.le_refl _⟩ dL_law_504 (fun H locs hS => ?_)
  refine lv_icmp_eq (tgt := 793) hx hb dL_law_507 (by decide) (fun h => ?_) (fun h => ?_)
  · exact kk _ _ H locs (sim_door R (xs (x3 + 1).toNatClampNeg) (xs (x3 + 2).toNatClampNeg) (xs (x3 + 3).toNatClampNeg)).2 hS
  · exact absurd ((sim_door R (xs (x3 + 1).toNatClampNeg) (xs (x3 + 2).toNatClampNeg) (xs (x3 + 3).toNatClampNeg)).1) h
set_option maxRecDepth 100000 in
set_option maxHeartbeats 4000000 in
theorem lc_512 {p : Program} {e : Env} {s : State} {m : MethodId} {below : List Frame} {meth : Method} {c : Code} {H : Heap} {locs : List Loc} {Q : State → Prop} {ls : Array Slot} {D : va_G} {ad : Nat → Nat} {ca : Nat → ClassId} {bd : Nat → Nat} {cb : Nat → ClassId} {g b L : Nat} {xs : Nat → Int32} {u : XS} {v : MS} {x3 : Int32} (l : Launch) (E : EnL p s m c b L xs D ca cb g) (R : RR u v) (hq : ∀ k : Int32, 0 ≤ k.toInt → k.toInt ≤ 5 → vp_in (x3 + k) L) (hS : SL D ad ca bd cb s u v H locs) (hl : lv_has ls 4 [(0, .ref b), (1, .ref (ad 0)), (2, .ref (bd 0)), (3, .int x3)]) (kk : ∀ (u2 : XS) (v2 : MS) (H : Heap) (locs : List Loc), RR u2 v2 → SL D ad ca bd cb s u2 v2 H locs → W p l e room_1 s m #[Value.ref b] below meth c H locs 600000 7302249 Q (F0 m 793 ls [])) : W p l e room_1 s m #[Value.ref b] below meth c H locs 600000 7302249 Q (F0 m 512 ls []) := by
  have hx := E.1.1
  have hb := E.1.2.1
  have hown := E.1.2.2.2.1
  have hts := E.1.2.2.2.2
  have hbA : ¬ AL s b := Nat.not_le.mpr E.2.2.2.2
  refine lv_aload_n hx hb dL_law_512 rfl (lv_at hl 1 rfl) ?_
  refine lv_aload_n hx hb dL_law_513 rfl (lv_at hl 0 rfl) ?_
  refine lv_iload_n hx hb dL_law_514 rfl (lv_at hl 3 rfl) ?_
  refine lv_iconst (v := 1) hx hb dL_law_515 (by decide) ?_
  refine lv_iadd hx hb dL_law_516 ?_
  refine va_sld hx hb E.2.2.2.1 E.2.2.2.2 hbA hS.2.2 (hq 1 (by decide) (by decide)) dL_law_517 ?_
  refine lv_aload_n hx hb dL_law_518 rfl (lv_at hl 0 rfl) ?_
  refine lv_iload_n hx hb dL_law_519 rfl (lv_at hl 3 rfl) ?_
  refine lv_iconst (v := 2) hx hb dL_law_520 (by decide) ?_
  refine lv_iadd hx hb dL_law_521 ?_
  refine va_sld hx hb E.2.2.2.1 E.2.2.2.2 hbA hS.2.2 (hq 2 (by decide) (by decide)) dL_law_522 ?_
  refine lv_aload_n hx hb dL_law_523 rfl (lv_at hl 0 rfl) ?_
  refine lv_iload_n hx hb dL_law_524 rfl (lv_at hl 3 rfl) ?_
  refine lv_iconst (v := 3) hx hb dL_law_525 (by decide) ?_
  refine lv_iadd hx hb dL_law_526 ?_
  refine va_sld hx hb E.2.2.2.1 E.2.2.2.2 hbA hS.2.2 (hq 3 (by decide) (by decide)) dL_law_527 ?_
  refine EnL.callXi (r := (fx_through u (xs (x3 + 1).toNatClampNeg) (xs (x3 + 2).toNatClampNeg) (xs (x3 + 3).toNatClampNeg)).1) (u2 := (fx_through u (xs (x3 + 1).toNatClampNeg) (xs (x3 + 2).toNatClampNeg) (xs (x3 + 3).toNatClampNeg)).2) E hS [.int (xs (x3 + 1).toNatClampNeg), .int (xs (x3 + 2).toNatClampNeg), .int (xs (x3 + 3).toNatClampNeg)] [] (kX0_through l D ad ca g u (xs (x3 + 1).toNatClampNeg) (xs (x3 + 2).toNatClampNeg) (xs (x3 + 3).toNatClampNeg) R.xi) gc_L_55 hd_X0_through ⟨Nat.le_of_ble_eq_true rfl, Nat.le_of_ble_eq_true rfl⟩ rfl hl.1 (Nat.le_of_ble_eq_true rfl) ⟨Nat.le_refl _, Nat.le_refl _⟩ dL_law_528 (fun H locs hS => ?_)
  refine lv_aload_n hx hb dL_law_531 rfl (lv_at hl 2 rfl) ?_
  refine lv_aload_n hx hb dL_law_532 rfl (lv_at hl 0 rfl) ?_
  refine lv_iload_n hx hb dL_law_533 rfl (lv_at hl 3 rfl) ?_
  refine lv_iconst (v := 1) hx hb dL_law_534 (by decide) ?_
  refine lv_iadd hx hb dL_law_535 ?_
  refine va_sld hx hb E.2.2.2.1 E.2.2.2.2 hbA hS.2.2 (hq 1 (by decide) (by decide)) dL_law_536 ?_
  refine lv_aload_n hx hb dL_law_537 rfl (lv_at hl 0 rfl) ?_
  refine lv_iload_n hx hb dL_law_538 rfl (lv_at hl 3 rfl) ?_
  refine lv_iconst (v := 2) hx hb dL_law_539 (by decide) ?_
  refine lv_iadd hx hb dL_law_540 ?_
  refine va_sld hx hb E.2.2.2.1 E.2.2.2.2 hbA hS.2.2 (hq 2 (by decide) (by decide)) dL_law_541 ?_
  refine lv_aload_n hx hb dL_law_542 rfl (lv_at hl 0 rfl) ?_
  refine lv_iload_n hx hb dL_law_543 rfl (lv_at hl 3 rfl) ?_
  refine lv_iconst (v := 3) hx hb dL_law_544 (by decide) ?_
  refine lv_iadd hx hb dL_law_545 ?_
  refine va_sld hx hb E.2.2.2.1 E.2.2.2.2 hbA hS.2.2 (hq 3 (by decide) (by decide)) dL_law_546 ?_
  refine EnL.callMi (r := (fm_through v (xs (x3 + 1).toNatClampNeg) (xs (x3 + 2).toNatClampNeg) (xs (x3 + 3).toNatClampNeg)).1) (v2 := (fm_through v (xs (x3 + 1).toNatClampNeg) (xs (x3 + 2).toNatClampNeg) (xs (x3 + 3).toNatClampNeg)).2) E hS [.int (xs (x3 + 1).toNatClampNeg), .int (xs (x3 + 2).toNatClampNeg), .int (xs (x3 + 3).toNatClampNeg)] [.int ((fx_through u (xs (x3 + 1).toNatClampNeg) (xs (x3 + 2).toNatClampNeg) (xs (x3 + 3).toNatClampNeg)).1)] (kX1_through l D bd cb g v (xs (x3 + 1).toNatClampNeg) (xs (x3 + 2).toNatClampNeg) (xs (x3 + 3).toNatClampNeg) R.mi) gc_L_58 hd_X1_through ⟨Nat.le_of_ble_eq_true rfl, Nat.le_of_ble_eq_true rfl⟩ rfl hl.1 (Nat.le_of_ble_eq_true rfl) ⟨Nat.le_refl _, Nat.le_refl _⟩ dL_law_547 (fun H locs hS => ?_)
  refine lv_icmp_eq (tgt := 793) hx hb dL_law_550 (by decide) (fun h => ?_) (fun h => ?_)
  · exact kk _ _ H locs (sim_through R (xs (x3 + 1).toNatClampNeg) (xs (x3 + 2).toNatClampNeg) (xs (x3 + 3).toNatClampNeg)).2 hS
  · exact absurd ((sim_through R (xs (x3 + 1).toNatClampNeg) (xs (x3 + 2).toNatClampNeg) (xs (x3 + 3).toNatClampNeg)).1) h
set_option maxRecDepth 100000 in
set_option maxHeartbeats 4000000 in
theorem lc_555 {p : Program} {e : Env} {s : State} {m : MethodId} {below : List Frame} {meth : Method} {c : Code} {H : Heap} {locs : List Loc} {Q : State → Prop} {ls : Array Slot} {D : va_G} {ad : Nat → Nat} {ca : Nat → ClassId} {bd : Nat → Nat} {cb : Nat → ClassId} {g b L : Nat} {xs : Nat → Int32} {u : XS} {v : MS} {x3 : Int32} (l : Launch) (E : EnL p s m c b L xs D ca cb g) (R : RR u v) (hq : ∀ k : Int32, 0 ≤ k.toInt → k.toInt ≤ 5 → vp_in (x3 + k) L) (hS : SL D ad ca bd cb s u v H locs) (hl : lv_has ls 4 [(0, .ref b), (1, .ref (ad 0)), (2, .ref (bd 0)), (3, .int x3)]) (kk : ∀ (u2 : XS) (v2 : MS) (H : Heap) (locs : List Loc), RR u2 v2 → SL D ad ca bd cb s u2 v2 H locs → W p l e room_1 s m #[Value.ref b] below meth c H locs 600000 7302249 Q (F0 m 793 ls [])) : W p l e room_1 s m #[Value.ref b] below meth c H locs 600000 7302249 Q (F0 m 555 ls []) := by
  have hx := E.1.1
  have hb := E.1.2.1
  have hown := E.1.2.2.2.1
  have hts := E.1.2.2.2.2
  have hbA : ¬ AL s b := Nat.not_le.mpr E.2.2.2.2
  refine lv_aload_n hx hb dL_law_555 rfl (lv_at hl 1 rfl) ?_
  refine EnL.callXi (r := fx_lastDoor u) (u2 := u) E hS [] [] (kX0_lastDoor l D ad ca g u  ) gc_L_59 hd_X0_lastDoor ⟨Nat.le_of_ble_eq_true rfl, Nat.le_of_ble_eq_true rfl⟩ rfl hl.1 (Nat.le_of_ble_eq_true rfl) ⟨Nat.le_refl _, Nat.le_refl _⟩ dL_law_556 (fun H locs hS => ?_)
  refine lv_aload_n hx hb dL_law_559 rfl (lv_at hl 2 rfl) ?_
  refine EnL.callMi (r := fm_lastDoor v) (v2 := v) E hS [] [.int (fx_lastDoor u)] (kX1_lastDoor l D bd cb g v  ) gc_L_63 hd_X1_lastDoor ⟨Nat.le_of_ble_eq_true rfl, Nat.le_of_ble_eq_true rfl⟩ rfl hl.1 (Nat.le_of_ble_eq_true rfl) ⟨Nat.le_refl _, Nat.le_refl _⟩ dL_law_560 (fun H locs hS => ?_)
  refine lv_icmp_eq (tgt := 793) hx hb dL_law_563 (by decide) (fun h => ?_) (fun h => ?_)
  · exact kk _ _ H locs R hS
  · exact absurd (sim_lastDoor R) h
set_option maxRecDepth 100000 in
set_option maxHeartbeats 4000000 in
theorem lc_568 {p : Program} {e : Env} {s : State} {m : MethodId} {below : List Frame} {meth : Method} {c : Code} {H : Heap} {locs : List Loc} {Q : State → Prop} {ls : Array Slot} {D : va_G} {ad : Nat → Nat} {ca : Nat → ClassId} {bd : Nat → Nat} {cb : Nat → ClassId} {g b L : Nat} {xs : Nat → Int32} {u : XS} {v : MS} {x3 : Int32} (l : Launch) (E : EnL p s m c b L xs D ca cb g) (R : RR u v) (hq : ∀ k : Int32, 0 ≤ k.toInt → k.toInt ≤ 5 → vp_in (x3 + k) L) (hS : SL D ad ca bd cb s u v H locs) (hl : lv_has ls 4 [(0, .ref b), (1, .ref (ad 0)), (2, .ref (bd 0)), (3, .int x3)]) (kk : ∀ (u2 : XS) (v2 : MS) (H : Heap) (locs : List Loc), RR u2 v2 → SL D ad ca bd cb s u2 v2 H locs → W p l e room_1 s m #[Value.ref b] below meth c H locs 600000 7302249 Q (F0 m 793 ls [])) : W p l e room_1 s m #[Value.ref b] below meth c H locs 600000 7302249 Q (F0 m 568 ls []) := by
  have hx := E.1.1
  have hb := E.1.2.1
  have hown := E.1.2.2.2.1
  have hts := E.1.2.2.2.2
  have hbA : ¬ AL s b := Nat.not_le.mpr E.2.2.2.2
  refine lv_aload_n hx hb dL_law_568 rfl (lv_at hl 1 rfl) ?_
  refine lv_aload_n hx hb dL_law_569 rfl (lv_at hl 0 rfl) ?_
  refine lv_iload_n hx hb dL_law_570 rfl (lv_at hl 3 rfl) ?_
  refine lv_iconst (v := 1) hx hb dL_law_571 (by decide) ?_
  refine lv_iadd hx hb dL_law_572 ?_
  refine va_sld hx hb E.2.2.2.1 E.2.2.2.2 hbA hS.2.2 (hq 1 (by decide) (by decide)) dL_law_573 ?_
  refine EnL.callXl (r := fx_worth u (xs (x3 + 1).toNatClampNeg)) (u2 := u) E hS [.int (xs (x3 + 1).toNatClampNeg)] [] (kX0_worth l D ad ca g u (xs (x3 + 1).toNatClampNeg) R.xi) gc_L_64 hd_X0_worth ⟨Nat.le_of_ble_eq_true rfl, Nat.le_of_ble_eq_true rfl⟩ rfl hl.1 (Nat.le_of_ble_eq_true rfl) ⟨Nat.le_refl _, Nat.le_refl _⟩ dL_law_574 (fun H locs hS => ?_)
  refine lv_aload_n hx hb dL_law_577 rfl (lv_at hl 2 rfl) ?_
  refine lv_aload_n hx hb dL_law_578 rfl (lv_at hl 0 rfl) ?_
  refine lv_iload_n hx hb dL_law_579 rfl (lv_at hl 3 rfl) ?_
  refine lv_iconst (v := 1) hx hb dL_law_580 (by decide) ?_
  refine lv_iadd hx hb dL_law_581 ?_
  refine va_sld hx hb E.2.2.2.1 E.2.2.2.2 hbA hS.2.2 (hq 1 (by decide) (by decide)) dL_law_582 ?_
  refine EnL.callMl (r := (fm_worth v (xs (x3 + 1).toNatClampNeg)).1) (v2 := (fm_worth v (xs (x3 + 1).toNatClampNeg)).2) E hS [.int (xs (x3 + 1).toNatClampNeg)] [.long (fx_worth u (xs (x3 + 1).toNatClampNeg))] (kX1_worth l D bd cb g v (xs (x3 + 1).toNatClampNeg) R.mi) gc_L_68 hd_X1_worth ⟨Nat.le_of_ble_eq_true rfl, Nat.le_of_ble_eq_true rfl⟩ rfl hl.1 (Nat.le_of_ble_eq_true rfl) ⟨Nat.le_refl _, Nat.le_refl _⟩ dL_law_583 (fun H locs hS => ?_)
  refine W.lcmp hx hb dL_law_586 ?_
  refine lv_if_eq (tgt := 793) hx hb dL_law_587 (by decide) (fun h => ?_) (fun h => ?_)
  · exact kk _ _ H locs (sim_worth R (xs (x3 + 1).toNatClampNeg)).2 hS
  · exact absurd ((lg_cmp_eq _ _).mpr ((sim_worth R (xs (x3 + 1).toNatClampNeg)).1)) h
set_option maxRecDepth 100000 in
set_option maxHeartbeats 4000000 in
theorem lc_592 {p : Program} {e : Env} {s : State} {m : MethodId} {below : List Frame} {meth : Method} {c : Code} {H : Heap} {locs : List Loc} {Q : State → Prop} {ls : Array Slot} {D : va_G} {ad : Nat → Nat} {ca : Nat → ClassId} {bd : Nat → Nat} {cb : Nat → ClassId} {g b L : Nat} {xs : Nat → Int32} {u : XS} {v : MS} {x3 : Int32} (l : Launch) (E : EnL p s m c b L xs D ca cb g) (R : RR u v) (hq : ∀ k : Int32, 0 ≤ k.toInt → k.toInt ≤ 5 → vp_in (x3 + k) L) (hS : SL D ad ca bd cb s u v H locs) (hl : lv_has ls 4 [(0, .ref b), (1, .ref (ad 0)), (2, .ref (bd 0)), (3, .int x3)]) (kk : ∀ (u2 : XS) (v2 : MS) (H : Heap) (locs : List Loc), RR u2 v2 → SL D ad ca bd cb s u2 v2 H locs → W p l e room_1 s m #[Value.ref b] below meth c H locs 600000 7302249 Q (F0 m 793 ls [])) : W p l e room_1 s m #[Value.ref b] below meth c H locs 600000 7302249 Q (F0 m 592 ls []) := by
  have hx := E.1.1
  have hb := E.1.2.1
  have hown := E.1.2.2.2.1
  have hts := E.1.2.2.2.2
  have hbA : ¬ AL s b := Nat.not_le.mpr E.2.2.2.2
  refine lv_aload_n hx hb dL_law_592 rfl (lv_at hl 1 rfl) ?_
  refine lv_aload_n hx hb dL_law_593 rfl (lv_at hl 0 rfl) ?_
  refine lv_iload_n hx hb dL_law_594 rfl (lv_at hl 3 rfl) ?_
  refine lv_iconst (v := 1) hx hb dL_law_595 (by decide) ?_
  refine lv_iadd hx hb dL_law_596 ?_
  refine va_sld hx hb E.2.2.2.1 E.2.2.2.2 hbA hS.2.2 (hq 1 (by decide) (by decide)) dL_law_597 ?_
  refine EnL.callXi (r := (fx_copy u (xs (x3 + 1).toNatClampNeg)).1) (u2 := (fx_copy u (xs (x3 + 1).toNatClampNeg)).2) E hS [.int (xs (x3 + 1).toNatClampNeg)] [] (kX0_copy l D ad ca g u (xs (x3 + 1).toNatClampNeg) R.xi) gc_L_69 hd_X0_copy ⟨Nat.le_of_ble_eq_true rfl, Nat.le_of_ble_eq_true rfl⟩ rfl hl.1 (Nat.le_of_ble_eq_true rfl) ⟨Nat.le_refl _, Nat.le_refl _⟩ dL_law_598 (fun H locs hS => ?_)
  refine lv_aload_n hx hb dL_law_601 rfl (lv_at hl 2 rfl) ?_
  refine lv_aload_n hx hb dL_law_602 rfl (lv_at hl 0 rfl) ?_
  refine lv_iload_n hx hb dL_law_603 rfl (lv_at hl 3 rfl) ?_
  refine lv_iconst (v := 1) hx hb dL_law_604 (by decide) ?_
  refine lv_iadd hx hb dL_law_605 ?_
  refine va_sld hx hb E.2.2.2.1 E.2.2.2.2 hbA hS.2.2 (hq 1 (by decide) (by decide)) dL_law_606 ?_
  refine EnL.callMi (r := (fm_copy v (xs (x3 + 1).toNatClampNeg)).1) (v2 := (fm_copy v (xs (x3 + 1).toNatClampNeg)).2) E hS [.int (xs (x3 + 1).toNatClampNeg)] [.int ((fx_copy u (xs (x3 + 1).toNatClampNeg)).1)] (kX1_copy l D bd cb g v (xs (x3 + 1).toNatClampNeg) R.mi) gc_L_73 hd_X1_copy ⟨Nat.le_of_ble_eq_true rfl, Nat.le_of_ble_eq_true rfl⟩ rfl hl.1 (Nat.le_of_ble_eq_true rfl) ⟨Nat.le_refl _, Nat.le_refl _⟩ dL_law_607 (fun H locs hS => ?_)
  refine lv_icmp_eq (tgt := 793) hx hb dL_law_610 (by decide) (fun h => ?_) (fun h => ?_)
  · exact kk _ _ H locs (sim_copy R (xs (x3 + 1).toNatClampNeg)).2 hS
  · exact absurd ((sim_copy R (xs (x3 + 1).toNatClampNeg)).1) h
set_option maxRecDepth 100000 in
set_option maxHeartbeats 4000000 in
theorem lc_615 {p : Program} {e : Env} {s : State} {m : MethodId} {below : List Frame} {meth : Method} {c : Code} {H : Heap} {locs : List Loc} {Q : State → Prop} {ls : Array Slot} {D : va_G} {ad : Nat → Nat} {ca : Nat → ClassId} {bd : Nat → Nat} {cb : Nat → ClassId} {g b L : Nat} {xs : Nat → Int32} {u : XS} {v : MS} {x3 : Int32} (l : Launch) (E : EnL p s m c b L xs D ca cb g) (R : RR u v) (hq : ∀ k : Int32, 0 ≤ k.toInt → k.toInt ≤ 5 → vp_in (x3 + k) L) (hS : SL D ad ca bd cb s u v H locs) (hl : lv_has ls 4 [(0, .ref b), (1, .ref (ad 0)), (2, .ref (bd 0)), (3, .int x3)]) (kk : ∀ (u2 : XS) (v2 : MS) (H : Heap) (locs : List Loc), RR u2 v2 → SL D ad ca bd cb s u2 v2 H locs → W p l e room_1 s m #[Value.ref b] below meth c H locs 600000 7302249 Q (F0 m 793 ls [])) : W p l e room_1 s m #[Value.ref b] below meth c H locs 600000 7302249 Q (F0 m 615 ls []) := by
  have hx := E.1.1
  have hb := E.1.2.1
  have hown := E.1.2.2.2.1
  have hts := E.1.2.2.2.2
  have hbA : ¬ AL s b := Nat.not_le.mpr E.2.2.2.2
  refine lv_aload_n hx hb dL_law_615 rfl (lv_at hl 1 rfl) ?_
  refine lv_aload_n hx hb dL_law_616 rfl (lv_at hl 0 rfl) ?_
  refine lv_iload_n hx hb dL_law_617 rfl (lv_at hl 3 rfl) ?_
  refine lv_iconst (v := 1) hx hb dL_law_618 (by decide) ?_
  refine lv_iadd hx hb dL_law_619 ?_
  refine va_sld hx hb E.2.2.2.1 E.2.2.2.2 hbA hS.2.2 (hq 1 (by decide) (by decide)) dL_law_620 ?_
  refine lv_aload_n hx hb dL_law_621 rfl (lv_at hl 0 rfl) ?_
  refine lv_iload_n hx hb dL_law_622 rfl (lv_at hl 3 rfl) ?_
  refine lv_iconst (v := 2) hx hb dL_law_623 (by decide) ?_
  refine lv_iadd hx hb dL_law_624 ?_
  refine va_sld hx hb E.2.2.2.1 E.2.2.2.2 hbA hS.2.2 (hq 2 (by decide) (by decide)) dL_law_625 ?_
  refine lv_aload_n hx hb dL_law_626 rfl (lv_at hl 0 rfl) ?_
  refine lv_iload_n hx hb dL_law_627 rfl (lv_at hl 3 rfl) ?_
  refine lv_iconst (v := 3) hx hb dL_law_628 (by decide) ?_
  refine lv_iadd hx hb dL_law_629 ?_
  refine va_sld hx hb E.2.2.2.1 E.2.2.2.2 hbA hS.2.2 (hq 3 (by decide) (by decide)) dL_law_630 ?_
  refine lv_aload_n hx hb dL_law_631 rfl (lv_at hl 0 rfl) ?_
  refine lv_iload_n hx hb dL_law_632 rfl (lv_at hl 3 rfl) ?_
  refine lv_iconst (v := 4) hx hb dL_law_633 (by decide) ?_
  refine lv_iadd hx hb dL_law_634 ?_
  refine va_sld hx hb E.2.2.2.1 E.2.2.2.2 hbA hS.2.2 (hq 4 (by decide) (by decide)) dL_law_635 ?_
  refine lv_aload_n hx hb dL_law_636 rfl (lv_at hl 0 rfl) ?_
  refine lv_iload_n hx hb dL_law_637 rfl (lv_at hl 3 rfl) ?_
  refine lv_iconst (v := 5) hx hb dL_law_638 (by decide) ?_
  refine lv_iadd hx hb dL_law_639 ?_
  refine va_sld hx hb E.2.2.2.1 E.2.2.2.2 hbA hS.2.2 (hq 5 (by decide) (by decide)) dL_law_640 ?_
  refine EnL.callXi (r := (fx_carry u (xs (x3 + 1).toNatClampNeg) (xs (x3 + 2).toNatClampNeg) (xs (x3 + 3).toNatClampNeg) (xs (x3 + 4).toNatClampNeg) (xs (x3 + 5).toNatClampNeg)).1) (u2 := (fx_carry u (xs (x3 + 1).toNatClampNeg) (xs (x3 + 2).toNatClampNeg) (xs (x3 + 3).toNatClampNeg) (xs (x3 + 4).toNatClampNeg) (xs (x3 + 5).toNatClampNeg)).2) E hS [.int (xs (x3 + 1).toNatClampNeg), .int (xs (x3 + 2).toNatClampNeg), .int (xs (x3 + 3).toNatClampNeg), .int (xs (x3 + 4).toNatClampNeg), .int (xs (x3 + 5).toNatClampNeg)] [] (kX0_carry l D ad ca g u (xs (x3 + 1).toNatClampNeg) (xs (x3 + 2).toNatClampNeg) (xs (x3 + 3).toNatClampNeg) (xs (x3 + 4).toNatClampNeg) (xs (x3 + 5).toNatClampNeg) R.xi) gc_L_74 hd_X0_carry ⟨Nat.le_of_ble_eq_true rfl, Nat.le_of_ble_eq_true rfl⟩ rfl hl.1 (Nat.le_of_ble_eq_true rfl) ⟨Nat.le_refl _, Nat.le_refl _⟩ dL_law_641 (fun H locs hS => ?_)
  refine lv_aload_n hx hb dL_law_644 rfl (lv_at hl 2 rfl) ?_
  refine lv_aload_n hx hb dL_law_645 rfl (lv_at hl 0 rfl) ?_
  refine lv_iload_n hx hb dL_law_646 rfl (lv_at hl 3 rfl) ?_
  refine lv_iconst (v := 1) hx hb dL_law_647 (by decide) ?_
  refine lv_iadd hx hb dL_law_648 ?_
  refine va_sld hx hb E.2.2.2.1 E.2.2.2.2 hbA hS.2.2 (hq 1 (by decide) (by decide)) dL_law_649 ?_
  refine lv_aload_n hx hb dL_law_650 rfl (lv_at hl 0 rfl) ?_
  refine lv_iload_n hx hb dL_law_651 rfl (lv_at hl 3 rfl) ?_
  refine lv_iconst (v := 2) hx hb dL_law_652 (by decide) ?_
  refine lv_iadd hx hb dL_law_653 ?_
  refine va_sld hx hb E.2.2.2.1 E.2.2.2.2 hbA hS.2.2 (hq 2 (by decide) (by decide)) dL_law_654 ?_
  refine lv_aload_n hx hb dL_law_655 rfl (lv_at hl 0 rfl) ?_
  refine lv_iload_n hx hb dL_law_656 rfl (lv_at hl 3 rfl) ?_
  refine lv_iconst (v := 3) hx hb dL_law_657 (by decide) ?_
  refine lv_iadd hx hb dL_law_658 ?_
  refine va_sld hx hb E.2.2.2.1 E.2.2.2.2 hbA hS.2.2 (hq 3 (by decide) (by decide)) dL_law_659 ?_
  refine lv_aload_n hx hb dL_law_660 rfl (lv_at hl 0 rfl) ?_
  refine lv_iload_n hx hb dL_law_661 rfl (lv_at hl 3 rfl) ?_
  refine lv_iconst (v := 4) hx hb dL_law_662 (by decide) ?_
  refine lv_iadd hx hb dL_law_663 ?_
  refine va_sld hx hb E.2.2.2.1 E.2.2.2.2 hbA hS.2.2 (hq 4 (by decide) (by decide)) dL_law_664 ?_
  refine lv_aload_n hx hb dL_law_665 rfl (lv_at hl 0 rfl) ?_
  refine lv_iload_n hx hb dL_law_666 rfl (lv_at hl 3 rfl) ?_
  refine lv_iconst (v := 5) hx hb dL_law_667 (by decide) ?_
  refine lv_iadd hx hb dL_law_668 ?_
  refine va_sld hx hb E.2.2.2.1 E.2.2.2.2 hbA hS.2.2 (hq 5 (by decide) (by decide)) dL_law_669 ?_
  refine EnL.callMi (r := (fm_carry v (xs (x3 + 1).toNatClampNeg) (xs (x3 + 2).toNatClampNeg) (xs (x3 + 3).toNatClampNeg) (xs (x3 + 4).toNatClampNeg) (xs (x3 + 5).toNatClampNeg)).1) (v2 := (fm_carry v (xs (x3 + 1).toNatClampNeg) (xs (x3 + 2).toNatClampNeg) (xs (x3 + 3).toNatClampNeg) (xs (x3 + 4).toNatClampNeg) (xs (x3 + 5).toNatClampNeg)).2) E hS [.int (xs (x3 + 1).toNatClampNeg), .int (xs (x3 + 2).toNatClampNeg), .int (xs (x3 + 3).toNatClampNeg), .int (xs (x3 + 4).toNatClampNeg), .int (xs (x3 + 5).toNatClampNeg)] [.int ((fx_carry u (xs (x3 + 1).toNatClampNeg) (xs (x3 + 2).toNatClampNeg) (xs (x3 + 3).toNatClampNeg) (xs (x3 + 4).toNatClampNeg) (xs (x3 + 5).toNatClampNeg)).1)] (kX1_carry l D bd cb g v (xs (x3 + 1).toNatClampNeg) (xs (x3 + 2).toNatClampNeg) (xs (x3 + 3).toNatClampNeg) (xs (x3 + 4).toNatClampNeg) (xs (x3 + 5).toNatClampNeg) R.mi) gc_L_78 hd_X1_carry ⟨Nat.le_of_ble_eq_true rfl, Nat.le_of_ble_eq_true rfl⟩ rfl hl.1 (Nat.le_of_ble_eq_true rfl) ⟨Nat.le_refl _, Nat.le_refl _⟩ dL_law_670 (fun H locs hS => ?_)
  refine lv_icmp_eq (tgt := 793) hx hb dL_law_673 (by decide) (fun h => ?_) (fun h => ?_)
  · exact kk _ _ H locs (sim_carry R (xs (x3 + 1).toNatClampNeg) (xs (x3 + 2).toNatClampNeg) (xs (x3 + 3).toNatClampNeg) (xs (x3 + 4).toNatClampNeg) (xs (x3 + 5).toNatClampNeg)).2 hS
  · exact absurd ((sim_carry R (xs (x3 + 1).toNatClampNeg) (xs (x3 + 2).toNatClampNeg) (xs (x3 + 3).toNatClampNeg) (xs (x3 + 4).toNatClampNeg) (xs (x3 + 5).toNatClampNeg)).1) h
set_option maxRecDepth 100000 in
set_option maxHeartbeats 4000000 in
theorem lc_678 {p : Program} {e : Env} {s : State} {m : MethodId} {below : List Frame} {meth : Method} {c : Code} {H : Heap} {locs : List Loc} {Q : State → Prop} {ls : Array Slot} {D : va_G} {ad : Nat → Nat} {ca : Nat → ClassId} {bd : Nat → Nat} {cb : Nat → ClassId} {g b L : Nat} {xs : Nat → Int32} {u : XS} {v : MS} {x3 : Int32} (l : Launch) (E : EnL p s m c b L xs D ca cb g) (R : RR u v) (hq : ∀ k : Int32, 0 ≤ k.toInt → k.toInt ≤ 5 → vp_in (x3 + k) L) (hS : SL D ad ca bd cb s u v H locs) (hl : lv_has ls 4 [(0, .ref b), (1, .ref (ad 0)), (2, .ref (bd 0)), (3, .int x3)]) (kk : ∀ (u2 : XS) (v2 : MS) (H : Heap) (locs : List Loc), RR u2 v2 → SL D ad ca bd cb s u2 v2 H locs → W p l e room_1 s m #[Value.ref b] below meth c H locs 600000 7302249 Q (F0 m 793 ls [])) : W p l e room_1 s m #[Value.ref b] below meth c H locs 600000 7302249 Q (F0 m 678 ls []) := by
  have hx := E.1.1
  have hb := E.1.2.1
  have hown := E.1.2.2.2.1
  have hts := E.1.2.2.2.2
  have hbA : ¬ AL s b := Nat.not_le.mpr E.2.2.2.2
  refine lv_aload_n hx hb dL_law_678 rfl (lv_at hl 1 rfl) ?_
  refine lv_aload_n hx hb dL_law_679 rfl (lv_at hl 0 rfl) ?_
  refine lv_iload_n hx hb dL_law_680 rfl (lv_at hl 3 rfl) ?_
  refine lv_iconst (v := 1) hx hb dL_law_681 (by decide) ?_
  refine lv_iadd hx hb dL_law_682 ?_
  refine va_sld hx hb E.2.2.2.1 E.2.2.2.2 hbA hS.2.2 (hq 1 (by decide) (by decide)) dL_law_683 ?_
  refine EnL.callXi (r := (fx_frail u (xs (x3 + 1).toNatClampNeg)).1) (u2 := (fx_frail u (xs (x3 + 1).toNatClampNeg)).2) E hS [.int (xs (x3 + 1).toNatClampNeg)] [] (kX0_frail l D ad ca g u (xs (x3 + 1).toNatClampNeg) R.xi) gc_L_79 hd_X0_frail ⟨Nat.le_of_ble_eq_true rfl, Nat.le_of_ble_eq_true rfl⟩ rfl hl.1 (Nat.le_of_ble_eq_true rfl) ⟨Nat.le_refl _, Nat.le_refl _⟩ dL_law_684 (fun H locs hS => ?_)
  refine lv_aload_n hx hb dL_law_687 rfl (lv_at hl 2 rfl) ?_
  refine lv_aload_n hx hb dL_law_688 rfl (lv_at hl 0 rfl) ?_
  refine lv_iload_n hx hb dL_law_689 rfl (lv_at hl 3 rfl) ?_
  refine lv_iconst (v := 1) hx hb dL_law_690 (by decide) ?_
  refine lv_iadd hx hb dL_law_691 ?_
  refine va_sld hx hb E.2.2.2.1 E.2.2.2.2 hbA hS.2.2 (hq 1 (by decide) (by decide)) dL_law_692 ?_
  refine EnL.callMi (r := (fm_frail v (xs (x3 + 1).toNatClampNeg)).1) (v2 := (fm_frail v (xs (x3 + 1).toNatClampNeg)).2) E hS [.int (xs (x3 + 1).toNatClampNeg)] [.int ((fx_frail u (xs (x3 + 1).toNatClampNeg)).1)] (kX1_frail l D bd cb g v (xs (x3 + 1).toNatClampNeg) R.mi) gc_L_82 hd_X1_frail ⟨Nat.le_of_ble_eq_true rfl, Nat.le_of_ble_eq_true rfl⟩ rfl hl.1 (Nat.le_of_ble_eq_true rfl) ⟨Nat.le_refl _, Nat.le_refl _⟩ dL_law_693 (fun H locs hS => ?_)
  refine lv_icmp_eq (tgt := 793) hx hb dL_law_696 (by decide) (fun h => ?_) (fun h => ?_)
  · exact kk _ _ H locs (sim_frail R (xs (x3 + 1).toNatClampNeg)).2 hS
  · exact absurd ((sim_frail R (xs (x3 + 1).toNatClampNeg)).1) h
set_option maxRecDepth 100000 in
set_option maxHeartbeats 4000000 in
theorem lc_701 {p : Program} {e : Env} {s : State} {m : MethodId} {below : List Frame} {meth : Method} {c : Code} {H : Heap} {locs : List Loc} {Q : State → Prop} {ls : Array Slot} {D : va_G} {ad : Nat → Nat} {ca : Nat → ClassId} {bd : Nat → Nat} {cb : Nat → ClassId} {g b L : Nat} {xs : Nat → Int32} {u : XS} {v : MS} {x3 : Int32} (l : Launch) (E : EnL p s m c b L xs D ca cb g) (R : RR u v) (hq : ∀ k : Int32, 0 ≤ k.toInt → k.toInt ≤ 5 → vp_in (x3 + k) L) (hS : SL D ad ca bd cb s u v H locs) (hl : lv_has ls 4 [(0, .ref b), (1, .ref (ad 0)), (2, .ref (bd 0)), (3, .int x3)]) (kk : ∀ (u2 : XS) (v2 : MS) (H : Heap) (locs : List Loc), RR u2 v2 → SL D ad ca bd cb s u2 v2 H locs → W p l e room_1 s m #[Value.ref b] below meth c H locs 600000 7302249 Q (F0 m 793 ls [])) : W p l e room_1 s m #[Value.ref b] below meth c H locs 600000 7302249 Q (F0 m 701 ls []) := by
  have hx := E.1.1
  have hb := E.1.2.1
  have hown := E.1.2.2.2.1
  have hts := E.1.2.2.2.2
  have hbA : ¬ AL s b := Nat.not_le.mpr E.2.2.2.2
  refine lv_aload_n hx hb dL_law_701 rfl (lv_at hl 1 rfl) ?_
  refine lv_aload_n hx hb dL_law_702 rfl (lv_at hl 0 rfl) ?_
  refine lv_iload_n hx hb dL_law_703 rfl (lv_at hl 3 rfl) ?_
  refine lv_iconst (v := 1) hx hb dL_law_704 (by decide) ?_
  refine lv_iadd hx hb dL_law_705 ?_
  refine va_sld hx hb E.2.2.2.1 E.2.2.2.2 hbA hS.2.2 (hq 1 (by decide) (by decide)) dL_law_706 ?_
  refine lv_aload_n hx hb dL_law_707 rfl (lv_at hl 0 rfl) ?_
  refine lv_iload_n hx hb dL_law_708 rfl (lv_at hl 3 rfl) ?_
  refine lv_iconst (v := 2) hx hb dL_law_709 (by decide) ?_
  refine lv_iadd hx hb dL_law_710 ?_
  refine va_sld hx hb E.2.2.2.1 E.2.2.2.2 hbA hS.2.2 (hq 2 (by decide) (by decide)) dL_law_711 ?_
  refine EnL.callXi (r := fx_about u (xs (x3 + 1).toNatClampNeg) (xs (x3 + 2).toNatClampNeg)) (u2 := u) E hS [.int (xs (x3 + 1).toNatClampNeg), .int (xs (x3 + 2).toNatClampNeg)] [] (kX0_about l D ad ca g u (xs (x3 + 1).toNatClampNeg) (xs (x3 + 2).toNatClampNeg) R.xi) gc_L_83 hd_X0_about ⟨Nat.le_of_ble_eq_true rfl, Nat.le_of_ble_eq_true rfl⟩ rfl hl.1 (Nat.le_of_ble_eq_true rfl) ⟨Nat.le_refl _, Nat.le_refl _⟩ dL_law_712 (fun H locs hS => ?_)
  refine lv_aload_n hx hb dL_law_715 rfl (lv_at hl 2 rfl) ?_
  refine lv_aload_n hx hb dL_law_716 rfl (lv_at hl 0 rfl) ?_
  refine lv_iload_n hx hb dL_law_717 rfl (lv_at hl 3 rfl) ?_
  refine lv_iconst (v := 1) hx hb dL_law_718 (by decide) ?_
  refine lv_iadd hx hb dL_law_719 ?_
  refine va_sld hx hb E.2.2.2.1 E.2.2.2.2 hbA hS.2.2 (hq 1 (by decide) (by decide)) dL_law_720 ?_
  refine lv_aload_n hx hb dL_law_721 rfl (lv_at hl 0 rfl) ?_
  refine lv_iload_n hx hb dL_law_722 rfl (lv_at hl 3 rfl) ?_
  refine lv_iconst (v := 2) hx hb dL_law_723 (by decide) ?_
  refine lv_iadd hx hb dL_law_724 ?_
  refine va_sld hx hb E.2.2.2.1 E.2.2.2.2 hbA hS.2.2 (hq 2 (by decide) (by decide)) dL_law_725 ?_
  refine EnL.callMi (r := fm_about v (xs (x3 + 1).toNatClampNeg) (xs (x3 + 2).toNatClampNeg)) (v2 := v) E hS [.int (xs (x3 + 1).toNatClampNeg), .int (xs (x3 + 2).toNatClampNeg)] [.int (fx_about u (xs (x3 + 1).toNatClampNeg) (xs (x3 + 2).toNatClampNeg))] (kX1_about l D bd cb g v (xs (x3 + 1).toNatClampNeg) (xs (x3 + 2).toNatClampNeg) R.mi) gc_L_86 hd_X1_about ⟨Nat.le_of_ble_eq_true rfl, Nat.le_of_ble_eq_true rfl⟩ rfl hl.1 (Nat.le_of_ble_eq_true rfl) ⟨Nat.le_refl _, Nat.le_refl _⟩ dL_law_726 (fun H locs hS => ?_)
  refine lv_icmp_eq (tgt := 793) hx hb dL_law_729 (by decide) (fun h => ?_) (fun h => ?_)
  · exact kk _ _ H locs R hS
  · exact absurd (sim_about R (xs (x3 + 1).toNatClampNeg) (xs (x3 + 2).toNatClampNeg)) h
set_option maxRecDepth 100000 in
set_option maxHeartbeats 4000000 in
theorem lc_734 {p : Program} {e : Env} {s : State} {m : MethodId} {below : List Frame} {meth : Method} {c : Code} {H : Heap} {locs : List Loc} {Q : State → Prop} {ls : Array Slot} {D : va_G} {ad : Nat → Nat} {ca : Nat → ClassId} {bd : Nat → Nat} {cb : Nat → ClassId} {g b L : Nat} {xs : Nat → Int32} {u : XS} {v : MS} {x3 : Int32} (l : Launch) (E : EnL p s m c b L xs D ca cb g) (R : RR u v) (hq : ∀ k : Int32, 0 ≤ k.toInt → k.toInt ≤ 5 → vp_in (x3 + k) L) (hS : SL D ad ca bd cb s u v H locs) (hl : lv_has ls 4 [(0, .ref b), (1, .ref (ad 0)), (2, .ref (bd 0)), (3, .int x3)]) (kk : ∀ (u2 : XS) (v2 : MS) (H : Heap) (locs : List Loc), RR u2 v2 → SL D ad ca bd cb s u2 v2 H locs → W p l e room_1 s m #[Value.ref b] below meth c H locs 600000 7302249 Q (F0 m 793 ls [])) : W p l e room_1 s m #[Value.ref b] below meth c H locs 600000 7302249 Q (F0 m 734 ls []) := by
  have hx := E.1.1
  have hb := E.1.2.1
  have hown := E.1.2.2.2.1
  have hts := E.1.2.2.2.2
  have hbA : ¬ AL s b := Nat.not_le.mpr E.2.2.2.2
  refine lv_aload_n hx hb dL_law_734 rfl (lv_at hl 1 rfl) ?_
  refine lv_aload_n hx hb dL_law_735 rfl (lv_at hl 0 rfl) ?_
  refine lv_iload_n hx hb dL_law_736 rfl (lv_at hl 3 rfl) ?_
  refine lv_iconst (v := 1) hx hb dL_law_737 (by decide) ?_
  refine lv_iadd hx hb dL_law_738 ?_
  refine va_sld hx hb E.2.2.2.1 E.2.2.2.2 hbA hS.2.2 (hq 1 (by decide) (by decide)) dL_law_739 ?_
  refine EnL.callXi (r := fx_bases u (xs (x3 + 1).toNatClampNeg)) (u2 := u) E hS [.int (xs (x3 + 1).toNatClampNeg)] [] (kX0_bases l D ad ca g u (xs (x3 + 1).toNatClampNeg) R.xi) gc_L_87 hd_X0_bases ⟨Nat.le_of_ble_eq_true rfl, Nat.le_of_ble_eq_true rfl⟩ rfl hl.1 (Nat.le_of_ble_eq_true rfl) ⟨Nat.le_refl _, Nat.le_refl _⟩ dL_law_740 (fun H locs hS => ?_)
  refine lv_aload_n hx hb dL_law_743 rfl (lv_at hl 2 rfl) ?_
  refine lv_aload_n hx hb dL_law_744 rfl (lv_at hl 0 rfl) ?_
  refine lv_iload_n hx hb dL_law_745 rfl (lv_at hl 3 rfl) ?_
  refine lv_iconst (v := 1) hx hb dL_law_746 (by decide) ?_
  refine lv_iadd hx hb dL_law_747 ?_
  refine va_sld hx hb E.2.2.2.1 E.2.2.2.2 hbA hS.2.2 (hq 1 (by decide) (by decide)) dL_law_748 ?_
  refine EnL.callMi (r := fm_bases v (xs (x3 + 1).toNatClampNeg)) (v2 := v) E hS [.int (xs (x3 + 1).toNatClampNeg)] [.int (fx_bases u (xs (x3 + 1).toNatClampNeg))] (kX1_bases l D bd cb g v (xs (x3 + 1).toNatClampNeg) R.mi) gc_L_90 hd_X1_bases ⟨Nat.le_of_ble_eq_true rfl, Nat.le_of_ble_eq_true rfl⟩ rfl hl.1 (Nat.le_of_ble_eq_true rfl) ⟨Nat.le_refl _, Nat.le_refl _⟩ dL_law_749 (fun H locs hS => ?_)
  refine lv_icmp_eq (tgt := 793) hx hb dL_law_752 (by decide) (fun h => ?_) (fun h => ?_)
  · exact kk _ _ H locs R hS
  · exact absurd (sim_bases R (xs (x3 + 1).toNatClampNeg)) h
set_option maxRecDepth 100000 in
set_option maxHeartbeats 4000000 in
theorem lc_757 {p : Program} {e : Env} {s : State} {m : MethodId} {below : List Frame} {meth : Method} {c : Code} {H : Heap} {locs : List Loc} {Q : State → Prop} {ls : Array Slot} {D : va_G} {ad : Nat → Nat} {ca : Nat → ClassId} {bd : Nat → Nat} {cb : Nat → ClassId} {g b L : Nat} {xs : Nat → Int32} {u : XS} {v : MS} {x3 : Int32} (l : Launch) (E : EnL p s m c b L xs D ca cb g) (R : RR u v) (hq : ∀ k : Int32, 0 ≤ k.toInt → k.toInt ≤ 5 → vp_in (x3 + k) L) (hS : SL D ad ca bd cb s u v H locs) (hl : lv_has ls 4 [(0, .ref b), (1, .ref (ad 0)), (2, .ref (bd 0)), (3, .int x3)]) (kk : ∀ (u2 : XS) (v2 : MS) (H : Heap) (locs : List Loc), RR u2 v2 → SL D ad ca bd cb s u2 v2 H locs → W p l e room_1 s m #[Value.ref b] below meth c H locs 600000 7302249 Q (F0 m 793 ls [])) : W p l e room_1 s m #[Value.ref b] below meth c H locs 600000 7302249 Q (F0 m 757 ls []) := by
  have hx := E.1.1
  have hb := E.1.2.1
  have hown := E.1.2.2.2.1
  have hts := E.1.2.2.2.2
  have hbA : ¬ AL s b := Nat.not_le.mpr E.2.2.2.2
  refine lv_aload_n hx hb dL_law_757 rfl (lv_at hl 1 rfl) ?_
  refine lv_aload_n hx hb dL_law_758 rfl (lv_at hl 0 rfl) ?_
  refine lv_iload_n hx hb dL_law_759 rfl (lv_at hl 3 rfl) ?_
  refine lv_iconst (v := 1) hx hb dL_law_760 (by decide) ?_
  refine lv_iadd hx hb dL_law_761 ?_
  refine va_sld hx hb E.2.2.2.1 E.2.2.2.2 hbA hS.2.2 (hq 1 (by decide) (by decide)) dL_law_762 ?_
  refine EnL.callXi (r := fx_count u (xs (x3 + 1).toNatClampNeg)) (u2 := u) E hS [.int (xs (x3 + 1).toNatClampNeg)] [] (kX0_count l D ad ca g u (xs (x3 + 1).toNatClampNeg) ) gc_L_91 hd_X0_count ⟨Nat.le_of_ble_eq_true rfl, Nat.le_of_ble_eq_true rfl⟩ rfl hl.1 (Nat.le_of_ble_eq_true rfl) ⟨Nat.le_refl _, Nat.le_refl _⟩ dL_law_763 (fun H locs hS => ?_)
  refine lv_aload_n hx hb dL_law_766 rfl (lv_at hl 2 rfl) ?_
  refine lv_aload_n hx hb dL_law_767 rfl (lv_at hl 0 rfl) ?_
  refine lv_iload_n hx hb dL_law_768 rfl (lv_at hl 3 rfl) ?_
  refine lv_iconst (v := 1) hx hb dL_law_769 (by decide) ?_
  refine lv_iadd hx hb dL_law_770 ?_
  refine va_sld hx hb E.2.2.2.1 E.2.2.2.2 hbA hS.2.2 (hq 1 (by decide) (by decide)) dL_law_771 ?_
  refine EnL.callMi (r := fm_count v (xs (x3 + 1).toNatClampNeg)) (v2 := v) E hS [.int (xs (x3 + 1).toNatClampNeg)] [.int (fx_count u (xs (x3 + 1).toNatClampNeg))] (kX1_count l D bd cb g v (xs (x3 + 1).toNatClampNeg) ) gc_L_94 hd_X1_count ⟨Nat.le_of_ble_eq_true rfl, Nat.le_of_ble_eq_true rfl⟩ rfl hl.1 (Nat.le_of_ble_eq_true rfl) ⟨Nat.le_refl _, Nat.le_refl _⟩ dL_law_772 (fun H locs hS => ?_)
  refine lv_icmp_eq (tgt := 793) hx hb dL_law_775 (by decide) (fun h => ?_) (fun h => ?_)
  · exact kk _ _ H locs R hS
  · exact absurd (sim_count R (xs (x3 + 1).toNatClampNeg)) h
set_option maxRecDepth 100000 in
set_option maxHeartbeats 4000000 in
theorem lc_780 {p : Program} {e : Env} {s : State} {m : MethodId} {below : List Frame} {meth : Method} {c : Code} {H : Heap} {locs : List Loc} {Q : State → Prop} {ls : Array Slot} {D : va_G} {ad : Nat → Nat} {ca : Nat → ClassId} {bd : Nat → Nat} {cb : Nat → ClassId} {g b L : Nat} {xs : Nat → Int32} {u : XS} {v : MS} {x3 : Int32} (l : Launch) (E : EnL p s m c b L xs D ca cb g) (R : RR u v) (hq : ∀ k : Int32, 0 ≤ k.toInt → k.toInt ≤ 5 → vp_in (x3 + k) L) (hS : SL D ad ca bd cb s u v H locs) (hl : lv_has ls 4 [(0, .ref b), (1, .ref (ad 0)), (2, .ref (bd 0)), (3, .int x3)]) (kk : ∀ (u2 : XS) (v2 : MS) (H : Heap) (locs : List Loc), RR u2 v2 → SL D ad ca bd cb s u2 v2 H locs → W p l e room_1 s m #[Value.ref b] below meth c H locs 600000 7302249 Q (F0 m 793 ls [])) : W p l e room_1 s m #[Value.ref b] below meth c H locs 600000 7302249 Q (F0 m 780 ls []) := by
  have hx := E.1.1
  have hb := E.1.2.1
  have hown := E.1.2.2.2.1
  have hts := E.1.2.2.2.2
  have hbA : ¬ AL s b := Nat.not_le.mpr E.2.2.2.2
  refine lv_aload_n hx hb dL_law_780 rfl (lv_at hl 1 rfl) ?_
  refine EnL.callXi (r := (fx_clear u).1) (u2 := (fx_clear u).2) E hS [] [] (kX0_clear l D ad ca g u  ) gc_L_95 hd_X0_clear ⟨Nat.le_of_ble_eq_true rfl, Nat.le_of_ble_eq_true rfl⟩ rfl hl.1 (Nat.le_of_ble_eq_true rfl) ⟨Nat.le_refl _, Nat.le_refl _⟩ dL_law_781 (fun H locs hS => ?_)
  refine lv_aload_n hx hb dL_law_784 rfl (lv_at hl 2 rfl) ?_
  refine EnL.callMi (r := (fm_clear v).1) (v2 := (fm_clear v).2) E hS [] [.int ((fx_clear u).1)] (kX1_clear l D bd cb g v  ) gc_L_98 hd_X1_clear ⟨Nat.le_of_ble_eq_true rfl, Nat.le_of_ble_eq_true rfl⟩ rfl hl.1 (Nat.le_of_ble_eq_true rfl) ⟨Nat.le_refl _, Nat.le_refl _⟩ dL_law_785 (fun H locs hS => ?_)
  refine lv_icmp_eq (tgt := 793) hx hb dL_law_788 (by decide) (fun h => ?_) (fun h => ?_)
  · exact kk _ _ H locs (sim_clear R).2 hS
  · exact absurd ((sim_clear R).1) h
