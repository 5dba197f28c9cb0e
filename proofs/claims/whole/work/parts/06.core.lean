/-! own words: rooms, places, 0 and 1 -/
def rk (k : Nat) : Room := { frames := k, cells := 0, slots := 0, locals := 64 * k }
theorem dd_same {A : Nat → Prop} : ∀ {ws ws' : va_W}, ws.map (fun q => q.1) = ws'.map (fun q => q.1) → va_D A ws → va_D A ws' := by
  intro ws ws' h hD
  have key : ∀ (k : Nat) (q : Nat × va_E), ws'[k]? = some q → ∃ q', ws[k]? = some q' ∧ q'.1 = q.1 := by
    intro k q hq
    have h1 : (ws'.map (fun q => q.1))[k]? = some q.1 := by rw [List.getElem?_map, hq]; rfl
    rw [← h, List.getElem?_map] at h1
    cases hw : ws[k]? with
    | none => rw [hw] at h1; cases h1
    | some q' => rw [hw] at h1; exact ⟨q', rfl, Option.some.inj h1⟩
  refine ⟨fun i j p q hp hq e => ?_, fun k q hq => ?_⟩
  · obtain ⟨p', h1, h2⟩ := key i p hp
    obtain ⟨q', h3, h4⟩ := key j q hq
    exact hD.1 i j p' q' h1 h3 (by rw [h2, h4]; exact e)
  · obtain ⟨q', h1, h2⟩ := key k q hq
    rw [← h2]
    exact hD.2 k q' h1
def bi (b : Bool) : Int32 := if b = true then 1 else 0
theorem bi_n (b : Bool) : narrow .boolean (.int (bi b)) = .int (bi b) := by cases b <;> rfl
def ni (t : FieldType) (r : Int32) : Prop := narrow t (.int r) = .int r
theorem ni_i (r : Int32) : ni .int r := rfl
theorem ni_0 : ni .boolean 0 := by unfold ni; decide +kernel
theorem ni_1 : ni .boolean 1 := by unfold ni; decide +kernel
theorem ni_b {r : Int32} (h : r = 0 ∨ r = 1) : ni .boolean r := by rcases h with rfl | rfl; exact ni_0; exact ni_1
abbrev kC : List vw_C := [(RX0, TX0, 11), (RX1, TX1, 16)]
def gfT : Nat → Int32 := fun j => match j with
  | 0 => 1
  | 1 => 19
  | 2 => 5
  | 3 => 29
  | 4 => 16
  | 5 => 32
  | _ => 64
def gfV (j : Nat) : Value := .int (gfT j)
def zX (g : Nat) (A : Nat → Prop) (U : State) (H : Heap) : Prop := va_Z "DepotTrays" "GOES_FOR" "[I" (.ref g) A U H ∧ va_T .int g 7 gfV A U H
def zM (_ : Nat) (_ : Nat → Prop) (_ : State) (_ : Heap) : Prop := True
theorem zX.moved {g : Nat} {A : Nat → Prop} {u U : State} {H : Heap} (hvm : u.vm.Alike U.vm) (h : zX g A u H) : zX g A U H := ⟨va_Z.moved hvm h.1, va_T.moved hvm h.2⟩
theorem zX.kept {g : Nat} {A : Nat → Prop} {U : State} {H H1 : Heap} (h : zX g A U H) (hq : ∀ a : Nat, a < H.size → ¬ A a → H1[a]? = H[a]?) : zX g A U H1 := ⟨h.1.kept hq, h.2.kept hq⟩
theorem zX.narrow {g : Nat} {A B : Nat → Prop} {U : State} {H : Heap} (h : zX g A U H) (hAB : ∀ q, B q → A q) : zX g B U H := ⟨h.1.narrow hAB, h.2.narrow hAB⟩
theorem zM.moved {g : Nat} {A : Nat → Prop} {u U : State} {H : Heap} (_ : u.vm.Alike U.vm) (_ : zM g A u H) : zM g A U H := trivial
theorem zM.kept {g : Nat} {A : Nat → Prop} {U : State} {H H1 : Heap} (_ : zM g A U H) (_ : ∀ a : Nat, a < H.size → ¬ A a → H1[a]? = H[a]?) : zM g A U H1 := trivial
theorem zM.narrow {g : Nat} {A B : Nat → Prop} {U : State} {H : Heap} (_ : zM g A U H) (_ : ∀ q, B q → A q) : zM g B U H := trivial
/-! static methods: no cells of their own -/
def Cs (l : Launch) (y : MethodName) (cc : ByteArray) (nL : Nat) (rt : FieldType) (k : Nat) (Z : State → Prop) (As : List Value) (r : Int32) : Prop := Met l y (kW y cc nL (some rt)) (rk k) (va_Pc As Z) (va_Qi (fun r' (_ : Unit) => r' = r) (fun _ _ => True) (fun _ => False)) 0 0 (fun _ => False)
def EnS (p : Program) (s : State) (m : MethodId) (c : Code) (args : Array Value) (cc : ByteArray) (nL : Nat) (meth : Method) (rt : FieldType) (own : String) : Prop :=
  CallFix p m c cc nL s args kT own ∧ meth.sig.returnType = some rt ∧ meth.locks = false
def SS (s : State) (H : Heap) (locs : List Loc) : Prop := va_S (fun _ => False) s.heap H locs
section StaticRows
variable {p : Program} {l : Launch} {e : Env} {R : Room} {s : State} {m : MethodId} {args : Array Value} {below : List Frame} {meth : Method} {c : Code} {H : Heap} {locs : List Loc} {cells slots : Nat} {Q : State → Prop}
variable {cc : ByteArray} {pc nL : Nat} {rt : FieldType} {ls : Array Slot} {own : String}
theorem Cs.of {y : MethodName} {k : Nat} {Z : State → Prop} {As : List Value} {r : Int32} (hy : plainName y.cls = true) (hlen : (lg_sl As).length ≤ nL)
    (body : ∀ (p : Program) (e : Env) (s : State) (m : MethodId) (below : List Frame) (meth : Method) (c : Code) (ls : Array Slot), EnS p s m c As.toArray cc nL meth rt y.cls → Z s → SS s s.heap [] → lv_has ls nL (lv_args 0 As) → W p l e (rk k) s m As.toArray below meth c s.heap [] 0 0 (MQ below (va_Qi (fun r' (_ : Unit) => r' = r) (fun _ _ => True) (fun _ => False)) As.toArray s 0 0 (fun _ => False)) (F0 m 0 ls [])) : Cs l y cc nL rt k Z As r := by
  refine Met.ofW (cc := cc) (maxL := nL) (ret := some rt) hy rfl ?_
  intro p e s m args below meth c s₁ B hml hv
  obtain ⟨rfl, hZ⟩ := hv
  have hts := atoms_spec (ws := kW y cc nL (some rt)) B.pre
  have hown := findClass_of_methodNamed B.named
  have hl := lv_entry As (n := nL) hlen
  rw [lg_entry_eq]
  generalize (lg_sl As ++ List.replicate (nL - (lg_sl As).length) Slot.unset).toArray = ls at hl ⊢
  exact body p e s m below meth c ls ⟨⟨B.exec, B.bytes, hml, hown, fun w h => hts w (List.mem_cons_of_mem _ h)⟩, B.returns, B.notSynchronized⟩ hZ va_S.rf hl
theorem EnS.iret {r r' : Int32} (E : EnS p s m c args cc nL meth rt own) (S : SS s H locs) (hn : ni rt r') (h : r' = r) (hdg : decode cc pc = .ok (.ireturn, 1)) : W p l e R s m args below meth c H locs 0 0 (MQ below (va_Qi (fun r' (_ : Unit) => r' = r) (fun _ _ => True) (fun _ => False)) args s 0 0 (fun _ => False)) (F0 m pc ls [.int r']) :=
  W.zret E.1.1 E.1.2.1 E.2.1 hn (fun t ht _ => ⟨⟨r', (), rfl, h, trivial⟩, S.F ht⟩) S.2.2 hdg E.2.2
theorem EnS.sti {y : MethodName} {cc' : ByteArray} {nL' j idx : Nat} {rt' : FieldType} {Z : State → Prop} {r : Int32} {st : List Value} (E : EnS p s m c args cc nL meth rt own) (S : SS s H locs) (As rest : List Value) (hM : Cs l y cc' nL' rt' j Z As r) (hZb : ∀ (a : Array Value) (U : State) (g : JFrame) (mk : MethodId), Z U → Z (U.calling g mk a)) (hZ : ∀ U : State, U.heap = H → s.vm.Alike U.vm → Z U) (hG : GoodIn kT (va_wsS own idx y (kW y cc' nL' (some rt'))))
    (hd : y.cls ≠ "java/lang/invoke/MethodHandle" ∧ y.cls ≠ "java/lang/invoke/VarHandle" ∧ (parseMethodDescriptor y.desc).map (fun d => d.parameters.length) = some As.length) (hR : (rk j).frames + 1 ≤ R.frames ∧ 8 + (nL' + 11) + (rk j).locals ≤ R.locals) (hst : st = As.reverse ++ rest) (hsize : ls.size = nL) (hroom : (rest.map fun v => v.category).sum ≤ 8) (hc : cells ≤ R.cells ∧ slots ≤ R.slots) (hdg : decode cc pc = .ok (.invokestatic idx, 3))
    (kk : ∀ (H1 : Heap) (locs1 : List Loc), SS s H1 locs1 → W p l e R s m args below meth c H1 locs1 cells slots Q (F0 m (pc + 3) ls (.int r :: rest))) : W p l e R s m args below meth c H locs cells slots Q (F0 m pc ls st) := by
  refine va_calli (va_runS (As := As) (rest := rest) E.1 hM (va_cwS As.length E.1.2.2.2.2 hG rfl rfl rfl hd hR) ⟨fun a U g mk q => ⟨q.1, hZb a U g mk q.2⟩, fun U hU hW => ⟨rfl, hZ U hU hW.alike⟩⟩ rfl rfl hsize hst (lv_room hroom) hdg hc) S (fun q _ h => h) (fun q h => h) (fun r1 v t H1 locs1 ht hvm hw hB hz1 hk1 hS1 => ?_)
  subst hw
  exact kk H1 locs1 hS1
end StaticRows
/-! ===== DepotTrays: state, world, rows ===== -/
abbrev XS : Type := (Nat → Int32) × (Nat → Int32) × (Nat → Int32) × (Nat → Int32) × (Nat → Int64) × (Nat → Int32) × (Nat → Int32) × Int32 × Int32 × Int32 × Int32
def x_thingBase (u : XS) : (Nat → Int32) := u.1
def x_thingDepth (u : XS) : (Nat → Int32) := u.2.1
def x_thingSize (u : XS) : (Nat → Int32) := u.2.2.1
def x_pieceWorth (u : XS) : (Nat → Int32) := u.2.2.2.1
def x_places (u : XS) : (Nat → Int64) := u.2.2.2.2.1
def x_doorBase (u : XS) : (Nat → Int32) := u.2.2.2.2.2.1
def x_doorDepth (u : XS) : (Nat → Int32) := u.2.2.2.2.2.2.1
def x_thingCount (u : XS) : Int32 := u.2.2.2.2.2.2.2.1
def x_failureCount (u : XS) : Int32 := u.2.2.2.2.2.2.2.2.1
def x_latestFailure (u : XS) : Int32 := u.2.2.2.2.2.2.2.2.2.1
def x_closedDoor (u : XS) : Int32 := u.2.2.2.2.2.2.2.2.2.2
def xs_thingBase (u : XS) (v : (Nat → Int32)) : XS := (v, u.2)
def xs_thingDepth (u : XS) (v : (Nat → Int32)) : XS := (u.1, v, u.2.2)
def xs_thingSize (u : XS) (v : (Nat → Int32)) : XS := (u.1, u.2.1, v, u.2.2.2)
def xs_pieceWorth (u : XS) (v : (Nat → Int32)) : XS := (u.1, u.2.1, u.2.2.1, v, u.2.2.2.2)
def xs_places (u : XS) (v : (Nat → Int64)) : XS := (u.1, u.2.1, u.2.2.1, u.2.2.2.1, v, u.2.2.2.2.2)
def xs_doorBase (u : XS) (v : (Nat → Int32)) : XS := (u.1, u.2.1, u.2.2.1, u.2.2.2.1, u.2.2.2.2.1, v, u.2.2.2.2.2.2)
def xs_doorDepth (u : XS) (v : (Nat → Int32)) : XS := (u.1, u.2.1, u.2.2.1, u.2.2.2.1, u.2.2.2.2.1, u.2.2.2.2.2.1, v, u.2.2.2.2.2.2.2)
def xs_thingCount (u : XS) (v : Int32) : XS := (u.1, u.2.1, u.2.2.1, u.2.2.2.1, u.2.2.2.2.1, u.2.2.2.2.2.1, u.2.2.2.2.2.2.1, v, u.2.2.2.2.2.2.2.2)
def xs_failureCount (u : XS) (v : Int32) : XS := (u.1, u.2.1, u.2.2.1, u.2.2.2.1, u.2.2.2.2.1, u.2.2.2.2.2.1, u.2.2.2.2.2.2.1, u.2.2.2.2.2.2.2.1, v, u.2.2.2.2.2.2.2.2.2)
def xs_latestFailure (u : XS) (v : Int32) : XS := (u.1, u.2.1, u.2.2.1, u.2.2.2.1, u.2.2.2.2.1, u.2.2.2.2.2.1, u.2.2.2.2.2.2.1, u.2.2.2.2.2.2.2.1, u.2.2.2.2.2.2.2.2.1, v, u.2.2.2.2.2.2.2.2.2.2)
def xs_closedDoor (u : XS) (v : Int32) : XS := (u.1, u.2.1, u.2.2.1, u.2.2.2.1, u.2.2.2.2.1, u.2.2.2.2.2.1, u.2.2.2.2.2.2.1, u.2.2.2.2.2.2.2.1, u.2.2.2.2.2.2.2.2.1, u.2.2.2.2.2.2.2.2.2.1, v)
theorem x_thingBase_thingBase (u : XS) (v : (Nat → Int32)) : x_thingBase (xs_thingBase u v) = v := rfl
theorem x_thingBase_thingDepth (u : XS) (v : (Nat → Int32)) : x_thingBase (xs_thingDepth u v) = x_thingBase u := rfl
theorem x_thingBase_thingSize (u : XS) (v : (Nat → Int32)) : x_thingBase (xs_thingSize u v) = x_thingBase u := rfl
theorem x_thingBase_pieceWorth (u : XS) (v : (Nat → Int32)) : x_thingBase (xs_pieceWorth u v) = x_thingBase u := rfl
theorem x_thingBase_places (u : XS) (v : (Nat → Int64)) : x_thingBase (xs_places u v) = x_thingBase u := rfl
theorem x_thingBase_doorBase (u : XS) (v : (Nat → Int32)) : x_thingBase (xs_doorBase u v) = x_thingBase u := rfl
theorem x_thingBase_doorDepth (u : XS) (v : (Nat → Int32)) : x_thingBase (xs_doorDepth u v) = x_thingBase u := rfl
theorem x_thingBase_thingCount (u : XS) (v : Int32) : x_thingBase (xs_thingCount u v) = x_thingBase u := rfl
theorem x_thingBase_failureCount (u : XS) (v : Int32) : x_thingBase (xs_failureCount u v) = x_thingBase u := rfl
theorem x_thingBase_latestFailure (u : XS) (v : Int32) : x_thingBase (xs_latestFailure u v) = x_thingBase u := rfl
theorem x_thingBase_closedDoor (u : XS) (v : Int32) : x_thingBase (xs_closedDoor u v) = x_thingBase u := rfl
theorem x_thingDepth_thingBase (u : XS) (v : (Nat → Int32)) : x_thingDepth (xs_thingBase u v) = x_thingDepth u := rfl
theorem x_thingDepth_thingDepth (u : XS) (v : (Nat → Int32)) : x_thingDepth (xs_thingDepth u v) = v := rfl
theorem x_thingDepth_thingSize (u : XS) (v : (Nat → Int32)) : x_thingDepth (xs_thingSize u v) = x_thingDepth u := rfl
theorem x_thingDepth_pieceWorth (u : XS) (v : (Nat → Int32)) : x_thingDepth (xs_pieceWorth u v) = x_thingDepth u := rfl
theorem x_thingDepth_places (u : XS) (v : (Nat → Int64)) : x_thingDepth (xs_places u v) = x_thingDepth u := rfl
theorem x_thingDepth_doorBase (u : XS) (v : (Nat → Int32)) : x_thingDepth (xs_doorBase u v) = x_thingDepth u := rfl
theorem x_thingDepth_doorDepth (u : XS) (v : (Nat → Int32)) : x_thingDepth (xs_doorDepth u v) = x_thingDepth u := rfl
theorem x_thingDepth_thingCount (u : XS) (v : Int32) : x_thingDepth (xs_thingCount u v) = x_thingDepth u := rfl
theorem x_thingDepth_failureCount (u : XS) (v : Int32) : x_thingDepth (xs_failureCount u v) = x_thingDepth u := rfl
theorem x_thingDepth_latestFailure (u : XS) (v : Int32) : x_thingDepth (xs_latestFailure u v) = x_thingDepth u := rfl
theorem x_thingDepth_closedDoor (u : XS) (v : Int32) : x_thingDepth (xs_closedDoor u v) = x_thingDepth u := rfl
theorem x_thingSize_thingBase (u : XS) (v : (Nat → Int32)) : x_thingSize (xs_thingBase u v) = x_thingSize u := rfl
theorem x_thingSize_thingDepth (u : XS) (v : (Nat → Int32)) : x_thingSize (xs_thingDepth u v) = x_thingSize u := rfl
theorem x_thingSize_thingSize (u : XS) (v : (Nat → Int32)) : x_thingSize (xs_thingSize u v) = v := rfl
theorem x_thingSize_pieceWorth (u : XS) (v : (Nat → Int32)) : x_thingSize (xs_pieceWorth u v) = x_thingSize u := rfl
theorem x_thingSize_places (u : XS) (v : (Nat → Int64)) : x_thingSize (xs_places u v) = x_thingSize u := rfl
theorem x_thingSize_doorBase (u : XS) (v : (Nat → Int32)) : x_thingSize (xs_doorBase u v) = x_thingSize u := rfl
theorem x_thingSize_doorDepth (u : XS) (v : (Nat → Int32)) : x_thingSize (xs_doorDepth u v) = x_thingSize u := rfl
theorem x_thingSize_thingCount (u : XS) (v : Int32) : x_thingSize (xs_thingCount u v) = x_thingSize u := rfl
theorem x_thingSize_failureCount (u : XS) (v : Int32) : x_thingSize (xs_failureCount u v) = x_thingSize u := rfl
theorem x_thingSize_latestFailure (u : XS) (v : Int32) : x_thingSize (xs_latestFailure u v) = x_thingSize u := rfl
theorem x_thingSize_closedDoor (u : XS) (v : Int32) : x_thingSize (xs_closedDoor u v) = x_thingSize u := rfl
theorem x_pieceWorth_thingBase (u : XS) (v : (Nat → Int32)) : x_pieceWorth (xs_thingBase u v) = x_pieceWorth u := rfl
theorem x_pieceWorth_thingDepth (u : XS) (v : (Nat → Int32)) : x_pieceWorth (xs_thingDepth u v) = x_pieceWorth u := rfl
theorem x_pieceWorth_thingSize (u : XS) (v : (Nat → Int32)) : x_pieceWorth (xs_thingSize u v) = x_pieceWorth u := rfl
theorem x_pieceWorth_pieceWorth (u : XS) (v : (Nat → Int32)) : x_pieceWorth (xs_pieceWorth u v) = v := rfl
theorem x_pieceWorth_places (u : XS) (v : (Nat → Int64)) : x_pieceWorth (xs_places u v) = x_pieceWorth u := rfl
theorem x_pieceWorth_doorBase (u : XS) (v : (Nat → Int32)) : x_pieceWorth (xs_doorBase u v) = x_pieceWorth u := rfl
theorem x_pieceWorth_doorDepth (u : XS) (v : (Nat → Int32)) : x_pieceWorth (xs_doorDepth u v) = x_pieceWorth u := rfl
theorem x_pieceWorth_thingCount (u : XS) (v : Int32) : x_pieceWorth (xs_thingCount u v) = x_pieceWorth u := rfl
theorem x_pieceWorth_failureCount (u : XS) (v : Int32) : x_pieceWorth (xs_failureCount u v) = x_pieceWorth u := rfl
theorem x_pieceWorth_latestFailure (u : XS) (v : Int32) : x_pieceWorth (xs_latestFailure u v) = x_pieceWorth u := rfl
theorem x_pieceWorth_closedDoor (u : XS) (v : Int32) : x_pieceWorth (xs_closedDoor u v) = x_pieceWorth u := rfl
theorem x_places_thingBase (u : XS) (v : (Nat → Int32)) : x_places (xs_thingBase u v) = x_places u := rfl
theorem x_places_thingDepth (u : XS) (v : (Nat → Int32)) : x_places (xs_thingDepth u v) = x_places u := rfl
theorem x_places_thingSize (u : XS) (v : (Nat → Int32)) : x_places (xs_thingSize u v) = x_places u := rfl
theorem x_places_pieceWorth (u : XS) (v : (Nat → Int32)) : x_places (xs_pieceWorth u v) = x_places u := rfl
theorem x_places_places (u : XS) (v : (Nat → Int64)) : x_places (xs_places u v) = v := rfl
theorem x_places_doorBase (u : XS) (v : (Nat → Int32)) : x_places (xs_doorBase u v) = x_places u := rfl
theorem x_places_doorDepth (u : XS) (v : (Nat → Int32)) : x_places (xs_doorDepth u v) = x_places u := rfl
theorem x_places_thingCount (u : XS) (v : Int32) : x_places (xs_thingCount u v) = x_places u := rfl
theorem x_places_failureCount (u : XS) (v : Int32) : x_places (xs_failureCount u v) = x_places u := rfl
theorem x_places_latestFailure (u : XS) (v : Int32) : x_places (xs_latestFailure u v) = x_places u := rfl
theorem x_places_closedDoor (u : XS) (v : Int32) : x_places (xs_closedDoor u v) = x_places u := rfl
theorem x_doorBase_thingBase (u : XS) (v : (Nat → Int32)) : x_doorBase (xs_thingBase u v) = x_doorBase u := rfl
theorem x_doorBase_thingDepth (u : XS) (v : (Nat → Int32)) : x_doorBase (xs_thingDepth u v) = x_doorBase u := rfl
theorem x_doorBase_thingSize (u : XS) (v : (Nat → Int32)) : x_doorBase (xs_thingSize u v) = x_doorBase u := rfl
theorem x_doorBase_pieceWorth (u : XS) (v : (Nat → Int32)) : x_doorBase (xs_pieceWorth u v) = x_doorBase u := rfl
theorem x_doorBase_places (u : XS) (v : (Nat → Int64)) : x_doorBase (xs_places u v) = x_doorBase u := rfl
theorem x_doorBase_doorBase (u : XS) (v : (Nat → Int32)) : x_doorBase (xs_doorBase u v) = v := rfl
theorem x_doorBase_doorDepth (u : XS) (v : (Nat → Int32)) : x_doorBase (xs_doorDepth u v) = x_doorBase u := rfl
theorem x_doorBase_thingCount (u : XS) (v : Int32) : x_doorBase (xs_thingCount u v) = x_doorBase u := rfl
theorem x_doorBase_failureCount (u : XS) (v : Int32) : x_doorBase (xs_failureCount u v) = x_doorBase u := rfl
theorem x_doorBase_latestFailure (u : XS) (v : Int32) : x_doorBase (xs_latestFailure u v) = x_doorBase u := rfl
theorem x_doorBase_closedDoor (u : XS) (v : Int32) : x_doorBase (xs_closedDoor u v) = x_doorBase u := rfl
theorem x_doorDepth_thingBase (u : XS) (v : (Nat → Int32)) : x_doorDepth (xs_thingBase u v) = x_doorDepth u := rfl
theorem x_doorDepth_thingDepth (u : XS) (v : (Nat → Int32)) : x_doorDepth (xs_thingDepth u v) = x_doorDepth u := rfl
theorem x_doorDepth_thingSize (u : XS) (v : (Nat → Int32)) : x_doorDepth (xs_thingSize u v) = x_doorDepth u := rfl
theorem x_doorDepth_pieceWorth (u : XS) (v : (Nat → Int32)) : x_doorDepth (xs_pieceWorth u v) = x_doorDepth u := rfl
theorem x_doorDepth_places (u : XS) (v : (Nat → Int64)) : x_doorDepth (xs_places u v) = x_doorDepth u := rfl
theorem x_doorDepth_doorBase (u : XS) (v : (Nat → Int32)) : x_doorDepth (xs_doorBase u v) = x_doorDepth u := rfl
theorem x_doorDepth_doorDepth (u : XS) (v : (Nat → Int32)) : x_doorDepth (xs_doorDepth u v) = v := rfl
theorem x_doorDepth_thingCount (u : XS) (v : Int32) : x_doorDepth (xs_thingCount u v) = x_doorDepth u := rfl
theorem x_doorDepth_failureCount (u : XS) (v : Int32) : x_doorDepth (xs_failureCount u v) = x_doorDepth u := rfl
theorem x_doorDepth_latestFailure (u : XS) (v : Int32) : x_doorDepth (xs_latestFailure u v) = x_doorDepth u := rfl
theorem x_doorDepth_closedDoor (u : XS) (v : Int32) : x_doorDepth (xs_closedDoor u v) = x_doorDepth u := rfl
theorem x_thingCount_thingBase (u : XS) (v : (Nat → Int32)) : x_thingCount (xs_thingBase u v) = x_thingCount u := rfl
theorem x_thingCount_thingDepth (u : XS) (v : (Nat → Int32)) : x_thingCount (xs_thingDepth u v) = x_thingCount u := rfl
theorem x_thingCount_thingSize (u : XS) (v : (Nat → Int32)) : x_thingCount (xs_thingSize u v) = x_thingCount u := rfl
theorem x_thingCount_pieceWorth (u : XS) (v : (Nat → Int32)) : x_thingCount (xs_pieceWorth u v) = x_thingCount u := rfl
theorem x_thingCount_places (u : XS) (v : (Nat → Int64)) : x_thingCount (xs_places u v) = x_thingCount u := rfl
theorem x_thingCount_doorBase (u : XS) (v : (Nat → Int32)) : x_thingCount (xs_doorBase u v) = x_thingCount u := rfl
theorem x_thingCount_doorDepth (u : XS) (v : (Nat → Int32)) : x_thingCount (xs_doorDepth u v) = x_thingCount u := rfl
theorem x_thingCount_thingCount (u : XS) (v : Int32) : x_thingCount (xs_thingCount u v) = v := rfl
theorem x_thingCount_failureCount (u : XS) (v : Int32) : x_thingCount (xs_failureCount u v) = x_thingCount u := rfl
theorem x_thingCount_latestFailure (u : XS) (v : Int32) : x_thingCount (xs_latestFailure u v) = x_thingCount u := rfl
theorem x_thingCount_closedDoor (u : XS) (v : Int32) : x_thingCount (xs_closedDoor u v) = x_thingCount u := rfl
theorem x_failureCount_thingBase (u : XS) (v : (Nat → Int32)) : x_failureCount (xs_thingBase u v) = x_failureCount u := rfl
theorem x_failureCount_thingDepth (u : XS) (v : (Nat → Int32)) : x_failureCount (xs_thingDepth u v) = x_failureCount u := rfl
theorem x_failureCount_thingSize (u : XS) (v : (Nat → Int32)) : x_failureCount (xs_thingSize u v) = x_failureCount u := rfl
theorem x_failureCount_pieceWorth (u : XS) (v : (Nat → Int32)) : x_failureCount (xs_pieceWorth u v) = x_failureCount u := rfl
theorem x_failureCount_places (u : XS) (v : (Nat → Int64)) : x_failureCount (xs_places u v) = x_failureCount u := rfl
theorem x_failureCount_doorBase (u : XS) (v : (Nat → Int32)) : x_failureCount (xs_doorBase u v) = x_failureCount u := rfl
theorem x_failureCount_doorDepth (u : XS) (v : (Nat → Int32)) : x_failureCount (xs_doorDepth u v) = x_failureCount u := rfl
theorem x_failureCount_thingCount (u : XS) (v : Int32) : x_failureCount (xs_thingCount u v) = x_failureCount u := rfl
theorem x_failureCount_failureCount (u : XS) (v : Int32) : x_failureCount (xs_failureCount u v) = v := rfl
theorem x_failureCount_latestFailure (u : XS) (v : Int32) : x_failureCount (xs_latestFailure u v) = x_failureCount u := rfl
theorem x_failureCount_closedDoor (u : XS) (v : Int32) : x_failureCount (xs_closedDoor u v) = x_failureCount u := rfl
theorem x_latestFailure_thingBase (u : XS) (v : (Nat → Int32)) : x_latestFailure (xs_thingBase u v) = x_latestFailure u := rfl
theorem x_latestFailure_thingDepth (u : XS) (v : (Nat → Int32)) : x_latestFailure (xs_thingDepth u v) = x_latestFailure u := rfl
theorem x_latestFailure_thingSize (u : XS) (v : (Nat → Int32)) : x_latestFailure (xs_thingSize u v) = x_latestFailure u := rfl
theorem x_latestFailure_pieceWorth (u : XS) (v : (Nat → Int32)) : x_latestFailure (xs_pieceWorth u v) = x_latestFailure u := rfl
theorem x_latestFailure_places (u : XS) (v : (Nat → Int64)) : x_latestFailure (xs_places u v) = x_latestFailure u := rfl
theorem x_latestFailure_doorBase (u : XS) (v : (Nat → Int32)) : x_latestFailure (xs_doorBase u v) = x_latestFailure u := rfl
theorem x_latestFailure_doorDepth (u : XS) (v : (Nat → Int32)) : x_latestFailure (xs_doorDepth u v) = x_latestFailure u := rfl
theorem x_latestFailure_thingCount (u : XS) (v : Int32) : x_latestFailure (xs_thingCount u v) = x_latestFailure u := rfl
theorem x_latestFailure_failureCount (u : XS) (v : Int32) : x_latestFailure (xs_failureCount u v) = x_latestFailure u := rfl
theorem x_latestFailure_latestFailure (u : XS) (v : Int32) : x_latestFailure (xs_latestFailure u v) = v := rfl
theorem x_latestFailure_closedDoor (u : XS) (v : Int32) : x_latestFailure (xs_closedDoor u v) = x_latestFailure u := rfl
theorem x_closedDoor_thingBase (u : XS) (v : (Nat → Int32)) : x_closedDoor (xs_thingBase u v) = x_closedDoor u := rfl
theorem x_closedDoor_thingDepth (u : XS) (v : (Nat → Int32)) : x_closedDoor (xs_thingDepth u v) = x_closedDoor u := rfl
theorem x_closedDoor_thingSize (u : XS) (v : (Nat → Int32)) : x_closedDoor (xs_thingSize u v) = x_closedDoor u := rfl
theorem x_closedDoor_pieceWorth (u : XS) (v : (Nat → Int32)) : x_closedDoor (xs_pieceWorth u v) = x_closedDoor u := rfl
theorem x_closedDoor_places (u : XS) (v : (Nat → Int64)) : x_closedDoor (xs_places u v) = x_closedDoor u := rfl
theorem x_closedDoor_doorBase (u : XS) (v : (Nat → Int32)) : x_closedDoor (xs_doorBase u v) = x_closedDoor u := rfl
theorem x_closedDoor_doorDepth (u : XS) (v : (Nat → Int32)) : x_closedDoor (xs_doorDepth u v) = x_closedDoor u := rfl
theorem x_closedDoor_thingCount (u : XS) (v : Int32) : x_closedDoor (xs_thingCount u v) = x_closedDoor u := rfl
theorem x_closedDoor_failureCount (u : XS) (v : Int32) : x_closedDoor (xs_failureCount u v) = x_closedDoor u := rfl
theorem x_closedDoor_latestFailure (u : XS) (v : Int32) : x_closedDoor (xs_latestFailure u v) = x_closedDoor u := rfl
theorem x_closedDoor_closedDoor (u : XS) (v : Int32) : x_closedDoor (xs_closedDoor u v) = v := rfl
def fX (ad : Nat → Nat) (u : XS) : List Value := [.ref (ad 1), .ref (ad 2), .ref (ad 3), .ref (ad 4), .ref (ad 5), .ref (ad 6), .ref (ad 7), .int (x_thingCount u), .int (x_failureCount u), .int (x_latestFailure u), .int (x_closedDoor u)]
def wX (ad : Nat → Nat) (ca : Nat → ClassId) (u : XS) : va_W := [(ad 0, .inr (0, fX ad u)), (ad 1, .inl (ca 1, 60, .inl (x_thingBase u))), (ad 2, .inl (ca 2, 60, .inl (x_thingDepth u))), (ad 3, .inl (ca 3, 60, .inl (x_thingSize u))), (ad 4, .inl (ca 4, 60, .inl (x_pieceWorth u))), (ad 5, .inl (ca 5, 480, .inr (.inl (x_places u)))), (ad 6, .inl (ca 6, 8, .inl (x_doorBase u))), (ad 7, .inl (ca 7, 8, .inl (x_doorDepth u)))]
def tX (ca : Nat → ClassId) : List (ClassId × FieldType) := [(ca 1, .int), (ca 2, .int), (ca 3, .int), (ca 4, .int), (ca 5, .long), (ca 6, .int), (ca 7, .int)]
theorem wX_same (ad : Nat → Nat) (ca : Nat → ClassId) (u v : XS) : (wX ad ca u).map (fun q => q.1) = (wX ad ca v).map (fun q => q.1) := rfl
def EnX (p : Program) (s : State) (m : MethodId) (c : Code) (args : Array Value) (cc : ByteArray) (nL : Nat) (meth : Method) (rt : Option FieldType) (D : va_G) (ca : Nat → ClassId) (g : Nat) (A : Nat → Prop) : Prop :=
  CallFix p m c cc nL s args kT RX0 ∧ meth.sig.returnType = rt ∧ meth.locks = false ∧ va_K D kC (tX ca) s ∧ zX g A s s.heap ∧ (∀ q : Nat, s.heap.size ≤ q → A q)
def SX (D : va_G) (ad : Nat → Nat) (ca : Nat → ClassId) (A : Nat → Prop) (s : State) (u : XS) (H : Heap) (locs : List Loc) : Prop := va_P D kC (wX ad ca u) H ∧ va_D A (wX ad ca u) ∧ va_S A s.heap H locs
def PreX (D : va_G) (ad : Nat → Nat) (ca : Nat → ClassId) (g sz : Nat) (u : XS) (U : State) : Prop := U.heap.size = sz ∧ va_P D kC (wX ad ca u) U.heap ∧ va_K D kC (tX ca) U ∧ va_D (fun _ => True) (wX ad ca u) ∧ zX g (va_A (wX ad ca u) sz) U U.heap
def BkX (D : va_G) (ad : Nat → Nat) (ca : Nat → ClassId) (v : XS) (t : State) : Prop := va_P D kC (wX ad ca v) t.heap
/-- contracts: an int (or 0, 1), a long, nothing -/
def CiX (l : Launch) (y : MethodName) (cc : ByteArray) (nL : Nat) (rt : FieldType) (k : Nat) (D : va_G) (ad : Nat → Nat) (ca : Nat → ClassId) (g : Nat) (As : List Value) (u : XS) (rv : Int32 × XS) : Prop :=
  ∀ sz : Nat, Met l y (kW y cc nL (some rt)) (rk k) (va_Pc (.ref (ad 0) :: As) (PreX D ad ca g sz u)) (va_Qi (fun r' v => (r', v) = rv) (BkX D ad ca) (va_A (wX ad ca u) sz)) 0 0 (va_A (wX ad ca u) sz)
def ClX (l : Launch) (y : MethodName) (cc : ByteArray) (nL : Nat) (k : Nat) (D : va_G) (ad : Nat → Nat) (ca : Nat → ClassId) (g : Nat) (As : List Value) (u : XS) (rv : Int64 × XS) : Prop :=
  ∀ sz : Nat, Met l y (kW y cc nL (some .long)) (rk k) (va_Pc (.ref (ad 0) :: As) (PreX D ad ca g sz u)) (va_Ql (fun r' v => (r', v) = rv) (BkX D ad ca) (va_A (wX ad ca u) sz)) 0 0 (va_A (wX ad ca u) sz)
def CvX (l : Launch) (y : MethodName) (cc : ByteArray) (nL : Nat) (k : Nat) (D : va_G) (ad : Nat → Nat) (ca : Nat → ClassId) (g : Nat) (As : List Value) (u u' : XS) : Prop :=
  ∀ sz : Nat, Met l y (kW y cc nL none) (rk k) (va_Pc (.ref (ad 0) :: As) (PreX D ad ca g sz u)) (va_Qv (fun v => v = u') (BkX D ad ca) (va_A (wX ad ca u) sz)) 0 0 (va_A (wX ad ca u) sz)
section RowsX
variable {p : Program} {l : Launch} {e : Env} {R : Room} {s : State} {m : MethodId} {args : Array Value} {below : List Frame} {meth : Method} {c : Code} {H : Heap} {locs : List Loc} {cells slots : Nat} {Q : State → Prop}
variable {cc : ByteArray} {pc nL : Nat} {rt : Option FieldType} {ls : Array Slot} {D : va_G} {ad : Nat → Nat} {ca : Nat → ClassId} {g : Nat} {A : Nat → Prop} {u : XS}
theorem zX_at (E : EnX p s m c args cc nL meth rt D ca g A) (S : SX D ad ca A s u H locs) {B : Nat → Prop} (hB : ∀ q, B q → A q) {U : State} (hU : U.heap = H) (hvm : s.vm.Alike U.vm) : zX g B U U.heap := by
  rw [hU]
  exact ((E.2.2.2.2.1.kept S.2.2.2.1).narrow hB).moved hvm
theorem frX (E : EnX p s m c args cc nL meth rt D ca g A) (S : SX D ad ca A s u H locs) : ∀ q, va_A (wX ad ca u) H.size q → A q :=
  va_free (wc := wX ad ca u) S.2.1 S.2.2 E.2.2.2.2.2 [0, 1, 2, 3, 4, 5, 6, 7] rfl
theorem CiX.of {y : MethodName} {k : Nat} {As : List Value} {rv : Int32 × XS} {rt1 : FieldType} (hy : plainName y.cls = true) (hyc : y.cls = RX0) (hlen : (lg_sl (.ref (ad 0) :: As)).length ≤ nL)
    (body : ∀ (p : Program) (e : Env) (s : State) (m : MethodId) (below : List Frame) (meth : Method) (c : Code) (A : Nat → Prop) (ls : Array Slot), EnX p s m c (Value.ref (ad 0) :: As).toArray cc nL meth (some rt1) D ca g A → SX D ad ca A s u s.heap [] → lv_has ls nL (lv_args 0 (.ref (ad 0) :: As)) → W p l e (rk k) s m (Value.ref (ad 0) :: As).toArray below meth c s.heap [] 0 0 (MQ below (va_Qi (fun r' v => (r', v) = rv) (BkX D ad ca) A) (Value.ref (ad 0) :: As).toArray s 0 0 A) (F0 m 0 ls [])) : CiX l y cc nL rt1 k D ad ca g As u rv := by
  intro sz
  refine Met.ofW (cc := cc) (maxL := nL) (ret := (some rt1)) hy rfl ?_
  intro p e s m args below meth c s₁ B hml hv
  obtain ⟨rfl, hsz, hP, hK, hD0, hZ⟩ := hv
  have hts := atoms_spec (ws := kW y cc nL (some rt1)) B.pre
  have hown := findClass_of_methodNamed B.named
  rw [hyc] at hown
  subst hsz
  have hl := lv_entry (.ref (ad 0) :: As) (n := nL) hlen
  rw [lg_entry_eq]
  generalize (lg_sl (.ref (ad 0) :: As) ++ List.replicate (nL - (lg_sl (.ref (ad 0) :: As)).length) Slot.unset).toArray = ls at hl ⊢
  exact body p e s m below meth c _ ls ⟨⟨B.exec, B.bytes, hml, hown, fun w h => hts w (List.mem_cons_of_mem _ h)⟩, B.returns, B.notSynchronized, hK, hZ, fun q h => Or.inr h⟩ ⟨hP, hD0.self, va_S.rf⟩ hl
theorem EnX.iret {rt1 : FieldType} {r : Int32} {v : XS} {rv : Int32 × XS} (E : EnX p s m c args cc nL meth (some rt1) D ca g A) (S : SX D ad ca A s v H locs) (hn : ni rt1 r) (h : (r, v) = rv) (hdg : decode cc pc = .ok (.ireturn, 1)) : W p l e R s m args below meth c H locs 0 0 (MQ below (va_Qi (fun r' v => (r', v) = rv) (BkX D ad ca) A) args s 0 0 A) (F0 m pc ls [.int r]) :=
  W.zret E.1.1 E.1.2.1 E.2.1 hn (fun t ht _ => ⟨⟨r, v, rfl, h, show va_P D kC (wX ad ca v) t.heap by rw [ht]; exact S.1⟩, S.2.2.F ht⟩) S.2.2.2.2 hdg E.2.2.1
theorem EnX.calli {y : MethodName} {cc2 : ByteArray} {nL2 j idx : Nat} {rt2 : FieldType} {r : Int32} {u2 : XS} {st : List Value} (E : EnX p s m c args cc nL meth rt D ca g A) (S : SX D ad ca A s u H locs) (As rest : List Value) (hM : CiX l y cc2 nL2 rt2 j D ad ca g As u (r, u2)) (hG : GoodIn kT (wsV RX0 idx RX0 y (kW y cc2 nL2 (some rt2))))
    (hd : y.cls = RX0 ∧ y.cls ≠ "java/lang/invoke/MethodHandle" ∧ y.cls ≠ "java/lang/invoke/VarHandle" ∧ (parseMethodDescriptor y.desc).map (fun d => d.parameters.length) = some As.length) (hR : (rk j).frames + 1 ≤ R.frames ∧ 8 + (nL2 + 11) + (rk j).locals ≤ R.locals) (hst : st = As.reverse ++ .ref (ad 0) :: rest) (hsize : ls.size = nL) (hroom : (rest.map fun v => v.category).sum ≤ 8) (hc : cells ≤ R.cells ∧ slots ≤ R.slots) (hdg : decode cc pc = .ok (.invokevirtual idx, 3))
    (kk : ∀ (H1 : Heap) (locs1 : List Loc), SX D ad ca A s u2 H1 locs1 → W p l e R s m args below meth c H1 locs1 cells slots Q (F0 m (pc + 3) ls (.int r :: rest))) : W p l e R s m args below meth c H locs cells slots Q (F0 m pc ls st) := by
  have hF := frX E S
  refine va_calli (va_runV (As := As) (rest := rest) E.1 (hM H.size) (cwV As.length E.1.2.2.2.2 hG rfl rfl rfl hd hR) ⟨fun a U g mk q => ?_, va_recv E.2.2.2.1 S.1 (ci := 0) (q0 := 0) rfl rfl, fun U hU hW => ⟨rfl, by rw [hU], by rw [hU]; exact S.1, va_K.moved hW.alike E.2.2.2.1, S.2.1.weaken (fun _ _ _ _ => trivial), zX_at E S hF hU hW.alike⟩⟩ rfl rfl hsize hst (lv_room hroom) hdg hc) S.2.2 (fun q _ h => hF q h) hF (fun r1 v t H1 locs1 ht hvm hw hB hz1 hk1 hS1 => ?_)
  · obtain ⟨q0, q1, qP, qK, qD, qZ⟩ := q
    exact ⟨q0, q1, qP, va_K.moved (u := U) (U := U.calling g mk a) (Vm.Alike.refl U.vm) qK, qD, zX.moved (u := U) (U := U.calling g mk a) (Vm.Alike.refl U.vm) qZ⟩
  · obtain ⟨rfl, rfl⟩ := Prod.mk.inj hw
    refine kk H1 locs1 ⟨?_, dd_same (wX_same ad ca u _) S.2.1, hS1⟩
    rw [← ht]
    exact hB
theorem ClX.of {y : MethodName} {k : Nat} {As : List Value} {rv : Int64 × XS} (hy : plainName y.cls = true) (hyc : y.cls = RX0) (hlen : (lg_sl (.ref (ad 0) :: As)).length ≤ nL)
    (body : ∀ (p : Program) (e : Env) (s : State) (m : MethodId) (below : List Frame) (meth : Method) (c : Code) (A : Nat → Prop) (ls : Array Slot), EnX p s m c (Value.ref (ad 0) :: As).toArray cc nL meth (some .long) D ca g A → SX D ad ca A s u s.heap [] → lv_has ls nL (lv_args 0 (.ref (ad 0) :: As)) → W p l e (rk k) s m (Value.ref (ad 0) :: As).toArray below meth c s.heap [] 0 0 (MQ below (va_Ql (fun r' v => (r', v) = rv) (BkX D ad ca) A) (Value.ref (ad 0) :: As).toArray s 0 0 A) (F0 m 0 ls [])) : ClX l y cc nL k D ad ca g As u rv := by
  intro sz
  refine Met.ofW (cc := cc) (maxL := nL) (ret := (some .long)) hy rfl ?_
  intro p e s m args below meth c s₁ B hml hv
  obtain ⟨rfl, hsz, hP, hK, hD0, hZ⟩ := hv
  have hts := atoms_spec (ws := kW y cc nL (some .long)) B.pre
  have hown := findClass_of_methodNamed B.named
  rw [hyc] at hown
  subst hsz
  have hl := lv_entry (.ref (ad 0) :: As) (n := nL) hlen
  rw [lg_entry_eq]
  generalize (lg_sl (.ref (ad 0) :: As) ++ List.replicate (nL - (lg_sl (.ref (ad 0) :: As)).length) Slot.unset).toArray = ls at hl ⊢
  exact body p e s m below meth c _ ls ⟨⟨B.exec, B.bytes, hml, hown, fun w h => hts w (List.mem_cons_of_mem _ h)⟩, B.returns, B.notSynchronized, hK, hZ, fun q h => Or.inr h⟩ ⟨hP, hD0.self, va_S.rf⟩ hl
theorem EnX.lret {r : Int64} {v : XS} {rv : Int64 × XS} (E : EnX p s m c args cc nL meth (some .long) D ca g A) (S : SX D ad ca A s v H locs) (h : (r, v) = rv) (hdg : decode cc pc = .ok (.lreturn, 1)) : W p l e R s m args below meth c H locs 0 0 (MQ below (va_Ql (fun r' v => (r', v) = rv) (BkX D ad ca) A) args s 0 0 A) (F0 m pc ls [.long r]) :=
  W.lret E.1.1 E.1.2.1 E.2.1 (fun t ht _ => ⟨⟨r, v, rfl, h, show va_P D kC (wX ad ca v) t.heap by rw [ht]; exact S.1⟩, S.2.2.F ht⟩) S.2.2.2.2 hdg E.2.2.1
theorem EnX.calll {y : MethodName} {cc2 : ByteArray} {nL2 j idx : Nat} {r : Int64} {u2 : XS} {st : List Value} (E : EnX p s m c args cc nL meth rt D ca g A) (S : SX D ad ca A s u H locs) (As rest : List Value) (hM : ClX l y cc2 nL2 j D ad ca g As u (r, u2)) (hG : GoodIn kT (wsV RX0 idx RX0 y (kW y cc2 nL2 (some .long))))
    (hd : y.cls = RX0 ∧ y.cls ≠ "java/lang/invoke/MethodHandle" ∧ y.cls ≠ "java/lang/invoke/VarHandle" ∧ (parseMethodDescriptor y.desc).map (fun d => d.parameters.length) = some As.length) (hR : (rk j).frames + 1 ≤ R.frames ∧ 8 + (nL2 + 11) + (rk j).locals ≤ R.locals) (hst : st = As.reverse ++ .ref (ad 0) :: rest) (hsize : ls.size = nL) (hroom : (rest.map fun v => v.category).sum ≤ 8) (hc : cells ≤ R.cells ∧ slots ≤ R.slots) (hdg : decode cc pc = .ok (.invokevirtual idx, 3))
    (kk : ∀ (H1 : Heap) (locs1 : List Loc), SX D ad ca A s u2 H1 locs1 → W p l e R s m args below meth c H1 locs1 cells slots Q (F0 m (pc + 3) ls (.long r :: rest))) : W p l e R s m args below meth c H locs cells slots Q (F0 m pc ls st) := by
  have hF := frX E S
  refine va_calll (va_runV (As := As) (rest := rest) E.1 (hM H.size) (cwV As.length E.1.2.2.2.2 hG rfl rfl rfl hd hR) ⟨fun a U g mk q => ?_, va_recv E.2.2.2.1 S.1 (ci := 0) (q0 := 0) rfl rfl, fun U hU hW => ⟨rfl, by rw [hU], by rw [hU]; exact S.1, va_K.moved hW.alike E.2.2.2.1, S.2.1.weaken (fun _ _ _ _ => trivial), zX_at E S hF hU hW.alike⟩⟩ rfl rfl hsize hst (lv_room hroom) hdg hc) S.2.2 (fun q _ h => hF q h) hF (fun r1 v t H1 locs1 ht hvm hw hB hz1 hk1 hS1 => ?_)
  · obtain ⟨q0, q1, qP, qK, qD, qZ⟩ := q
    exact ⟨q0, q1, qP, va_K.moved (u := U) (U := U.calling g mk a) (Vm.Alike.refl U.vm) qK, qD, zX.moved (u := U) (U := U.calling g mk a) (Vm.Alike.refl U.vm) qZ⟩
  · obtain ⟨rfl, rfl⟩ := Prod.mk.inj hw
    refine kk H1 locs1 ⟨?_, dd_same (wX_same ad ca u _) S.2.1, hS1⟩
    rw [← ht]
    exact hB
theorem CvX.of {y : MethodName} {k : Nat} {As : List Value} {u2 : XS} (hy : plainName y.cls = true) (hyc : y.cls = RX0) (hlen : (lg_sl (.ref (ad 0) :: As)).length ≤ nL)
    (body : ∀ (p : Program) (e : Env) (s : State) (m : MethodId) (below : List Frame) (meth : Method) (c : Code) (A : Nat → Prop) (ls : Array Slot), EnX p s m c (Value.ref (ad 0) :: As).toArray cc nL meth none D ca g A → SX D ad ca A s u s.heap [] → lv_has ls nL (lv_args 0 (.ref (ad 0) :: As)) → W p l e (rk k) s m (Value.ref (ad 0) :: As).toArray below meth c s.heap [] 0 0 (MQ below (va_Qv (fun v => v = u2) (BkX D ad ca) A) (Value.ref (ad 0) :: As).toArray s 0 0 A) (F0 m 0 ls [])) : CvX l y cc nL k D ad ca g As u u2 := by
  intro sz
  refine Met.ofW (cc := cc) (maxL := nL) (ret := none) hy rfl ?_
  intro p e s m args below meth c s₁ B hml hv
  obtain ⟨rfl, hsz, hP, hK, hD0, hZ⟩ := hv
  have hts := atoms_spec (ws := kW y cc nL none) B.pre
  have hown := findClass_of_methodNamed B.named
  rw [hyc] at hown
  subst hsz
  have hl := lv_entry (.ref (ad 0) :: As) (n := nL) hlen
  rw [lg_entry_eq]
  generalize (lg_sl (.ref (ad 0) :: As) ++ List.replicate (nL - (lg_sl (.ref (ad 0) :: As)).length) Slot.unset).toArray = ls at hl ⊢
  exact body p e s m below meth c _ ls ⟨⟨B.exec, B.bytes, hml, hown, fun w h => hts w (List.mem_cons_of_mem _ h)⟩, B.returns, B.notSynchronized, hK, hZ, fun q h => Or.inr h⟩ ⟨hP, hD0.self, va_S.rf⟩ hl
theorem EnX.vret {v u2 : XS} (E : EnX p s m c args cc nL meth none D ca g A) (S : SX D ad ca A s v H locs) (h : v = u2) (hdg : decode cc pc = .ok (.return_, 1)) : W p l e R s m args below meth c H locs 0 0 (MQ below (va_Qv (fun v => v = u2) (BkX D ad ca) A) args s 0 0 A) (F0 m pc ls []) :=
  W.vret E.1.1 E.1.2.1 E.2.1 (fun t ht _ => ⟨⟨v, rfl, h, show va_P D kC (wX ad ca v) t.heap by rw [ht]; exact S.1⟩, S.2.2.F ht⟩) S.2.2.2.2 hdg E.2.2.1
theorem EnX.callv {y : MethodName} {cc2 : ByteArray} {nL2 j idx : Nat} {u2 : XS} {st : List Value} (E : EnX p s m c args cc nL meth rt D ca g A) (S : SX D ad ca A s u H locs) (As rest : List Value) (hM : CvX l y cc2 nL2 j D ad ca g As u u2) (hG : GoodIn kT (wsV RX0 idx RX0 y (kW y cc2 nL2 none)))
    (hd : y.cls = RX0 ∧ y.cls ≠ "java/lang/invoke/MethodHandle" ∧ y.cls ≠ "java/lang/invoke/VarHandle" ∧ (parseMethodDescriptor y.desc).map (fun d => d.parameters.length) = some As.length) (hR : (rk j).frames + 1 ≤ R.frames ∧ 8 + (nL2 + 11) + (rk j).locals ≤ R.locals) (hst : st = As.reverse ++ .ref (ad 0) :: rest) (hsize : ls.size = nL) (hroom : (rest.map fun v => v.category).sum ≤ 8) (hc : cells ≤ R.cells ∧ slots ≤ R.slots) (hdg : decode cc pc = .ok (.invokevirtual idx, 3))
    (kk : ∀ (H1 : Heap) (locs1 : List Loc), SX D ad ca A s u2 H1 locs1 → W p l e R s m args below meth c H1 locs1 cells slots Q (F0 m (pc + 3) ls (rest))) : W p l e R s m args below meth c H locs cells slots Q (F0 m pc ls st) := by
  have hF := frX E S
  refine va_callv (va_runV (As := As) (rest := rest) E.1 (hM H.size) (cwV As.length E.1.2.2.2.2 hG rfl rfl rfl hd hR) ⟨fun a U g mk q => ?_, va_recv E.2.2.2.1 S.1 (ci := 0) (q0 := 0) rfl rfl, fun U hU hW => ⟨rfl, by rw [hU], by rw [hU]; exact S.1, va_K.moved hW.alike E.2.2.2.1, S.2.1.weaken (fun _ _ _ _ => trivial), zX_at E S hF hU hW.alike⟩⟩ rfl rfl hsize hst (lv_room hroom) hdg hc) S.2.2 (fun q _ h => hF q h) hF (fun v t H1 locs1 ht hvm hw hB hz1 hk1 hS1 => ?_)
  · obtain ⟨q0, q1, qP, qK, qD, qZ⟩ := q
    exact ⟨q0, q1, qP, va_K.moved (u := U) (U := U.calling g mk a) (Vm.Alike.refl U.vm) qK, qD, zX.moved (u := U) (U := U.calling g mk a) (Vm.Alike.refl U.vm) qZ⟩
  · subst hw
    refine kk H1 locs1 ⟨?_, dd_same (wX_same ad ca u _) S.2.1, hS1⟩
    rw [← ht]
    exact hB
theorem EnX.sti {y : MethodName} {cc2 : ByteArray} {nL2 j idx : Nat} {rt2 : FieldType} {Z : State → Prop} {r : Int32} {st : List Value} (E : EnX p s m c args cc nL meth rt D ca g A) (S : SX D ad ca A s u H locs) (As rest : List Value) (hM : Cs l y cc2 nL2 rt2 j Z As r) (hZb : ∀ (a : Array Value) (U : State) (g : JFrame) (mk : MethodId), Z U → Z (U.calling g mk a)) (hZ : ∀ U : State, U.heap = H → s.vm.Alike U.vm → Z U) (hG : GoodIn kT (va_wsS RX0 idx y (kW y cc2 nL2 (some rt2))))
    (hd : y.cls ≠ "java/lang/invoke/MethodHandle" ∧ y.cls ≠ "java/lang/invoke/VarHandle" ∧ (parseMethodDescriptor y.desc).map (fun d => d.parameters.length) = some As.length) (hR : (rk j).frames + 1 ≤ R.frames ∧ 8 + (nL2 + 11) + (rk j).locals ≤ R.locals) (hst : st = As.reverse ++ rest) (hsize : ls.size = nL) (hroom : (rest.map fun v => v.category).sum ≤ 8) (hc : cells ≤ R.cells ∧ slots ≤ R.slots) (hdg : decode cc pc = .ok (.invokestatic idx, 3))
    (kk : ∀ (H1 : Heap) (locs1 : List Loc), SX D ad ca A s u H1 locs1 → W p l e R s m args below meth c H1 locs1 cells slots Q (F0 m (pc + 3) ls (.int r :: rest))) : W p l e R s m args below meth c H locs cells slots Q (F0 m pc ls st) := by
  refine va_calli (A0 := A) (va_runS (As := As) (rest := rest) E.1 hM (va_cwS As.length E.1.2.2.2.2 hG rfl rfl rfl hd hR) ⟨fun a U g mk q => ⟨q.1, hZb a U g mk q.2⟩, fun U hU hW => ⟨rfl, hZ U hU hW.alike⟩⟩ rfl rfl hsize hst (lv_room hroom) hdg hc) S.2.2 (fun q _ h => h.elim) (fun q h => h.elim) (fun r1 v t H1 locs1 ht hvm hw hB hz1 hk1 hS1 => ?_)
  subst hw
  exact kk H1 locs1 ⟨S.1.kept (fun k q hq => hk1 q.1 ((S.1 k q hq).lt) (fun h => h)), S.2.1, hS1⟩
theorem gX_thingBase {rest : List Value} (E : EnX p s m c args cc nL meth rt D ca g A) (S : SX D ad ca A s u H locs) (hdg : decode cc pc = .ok (.getfield 9, 3)) (kk : W p l e R s m args below meth c H locs cells slots Q (F0 m (pc + 3) ls (.ref (ad 1) :: rest))) : W p l e R s m args below meth c H locs cells slots Q (F0 m pc ls (.ref (ad 0) :: rest)) := by
  exact va_get (D := D) (ci := 0) (v := .ref (ad 1)) (C := RX0) (T := TX0) (N := 11) E.1.1 E.1.2.1 E.1.2.2.2.2 wI_X0 E.1.2.2.2.1 E.2.2.2.1 S.1 0 rfl rfl 0 (by decide) (E.1.2.2.2.2 _ wf_X0_9) (fun _ h9 => h9) rfl hdg kk
theorem lX_thingBase {i : Int32} {v : Int32} {rest : List Value} (E : EnX p s m c args cc nL meth rt D ca g A) (S : SX D ad ca A s u H locs) (hin : vp_in i 60) (hv : x_thingBase u i.toNatClampNeg = v) (hdg : decode cc pc = .ok (.iaload, 1)) (kk : W p l e R s m args below meth c H locs cells slots Q (F0 m (pc + 1) ls (.int v :: rest))) : W p l e R s m args below meth c H locs cells slots Q (F0 m pc ls (.int i :: .ref (ad 1) :: rest)) := by
  subst hv
  exact va_iald E.1.1 E.1.2.1 E.2.2.2.1 S.1 1 0 rfl rfl hin hdg kk
theorem sX_thingBase {i : Int32} {v : Int32} {rest : List Value} (E : EnX p s m c args cc nL meth rt D ca g A) (S : SX D ad ca A s u H locs) (hin : vp_in i 60) (hdg : decode cc pc = .ok (.iastore, 1)) (kk : ∀ (H1 : Heap) (locs1 : List Loc), SX D ad ca A s (xs_thingBase u (upd (x_thingBase u) i.toNatClampNeg v)) H1 locs1 → W p l e R s m args below meth c H1 locs1 cells slots Q (F0 m (pc + 1) ls rest)) : W p l e R s m args below meth c H locs cells slots Q (F0 m pc ls (.int v :: .int i :: .ref (ad 1) :: rest)) :=
  va_iast E.1.1 E.1.2.1 E.2.2.2.1 S.1 S.2.1 S.2.2 1 0 rfl rfl hin hdg (fun H1 locs1 hP hD hS => kk H1 locs1 ⟨hP, hD, hS⟩)
theorem gX_thingDepth {rest : List Value} (E : EnX p s m c args cc nL meth rt D ca g A) (S : SX D ad ca A s u H locs) (hdg : decode cc pc = .ok (.getfield 13, 3)) (kk : W p l e R s m args below meth c H locs cells slots Q (F0 m (pc + 3) ls (.ref (ad 2) :: rest))) : W p l e R s m args below meth c H locs cells slots Q (F0 m pc ls (.ref (ad 0) :: rest)) := by
  exact va_get (D := D) (ci := 0) (v := .ref (ad 2)) (C := RX0) (T := TX0) (N := 11) E.1.1 E.1.2.1 E.1.2.2.2.2 wI_X0 E.1.2.2.2.1 E.2.2.2.1 S.1 0 rfl rfl 1 (by decide) (E.1.2.2.2.2 _ wf_X0_13) (fun _ h9 => h9) rfl hdg kk
theorem lX_thingDepth {i : Int32} {v : Int32} {rest : List Value} (E : EnX p s m c args cc nL meth rt D ca g A) (S : SX D ad ca A s u H locs) (hin : vp_in i 60) (hv : x_thingDepth u i.toNatClampNeg = v) (hdg : decode cc pc = .ok (.iaload, 1)) (kk : W p l e R s m args below meth c H locs cells slots Q (F0 m (pc + 1) ls (.int v :: rest))) : W p l e R s m args below meth c H locs cells slots Q (F0 m pc ls (.int i :: .ref (ad 2) :: rest)) := by
  subst hv
  exact va_iald E.1.1 E.1.2.1 E.2.2.2.1 S.1 2 1 rfl rfl hin hdg kk
theorem sX_thingDepth {i : Int32} {v : Int32} {rest : List Value} (E : EnX p s m c args cc nL meth rt D ca g A) (S : SX D ad ca A s u H locs) (hin : vp_in i 60) (hdg : decode cc pc = .ok (.iastore, 1)) (kk : ∀ (H1 : Heap) (locs1 : List Loc), SX D ad ca A s (xs_thingDepth u (upd (x_thingDepth u) i.toNatClampNeg v)) H1 locs1 → W p l e R s m args below meth c H1 locs1 cells slots Q (F0 m (pc + 1) ls rest)) : W p l e R s m args below meth c H locs cells slots Q (F0 m pc ls (.int v :: .int i :: .ref (ad 2) :: rest)) :=
  va_iast E.1.1 E.1.2.1 E.2.2.2.1 S.1 S.2.1 S.2.2 2 1 rfl rfl hin hdg (fun H1 locs1 hP hD hS => kk H1 locs1 ⟨hP, hD, hS⟩)
theorem gX_thingSize {rest : List Value} (E : EnX p s m c args cc nL meth rt D ca g A) (S : SX D ad ca A s u H locs) (hdg : decode cc pc = .ok (.getfield 16, 3)) (kk : W p l e R s m args below meth c H locs cells slots Q (F0 m (pc + 3) ls (.ref (ad 3) :: rest))) : W p l e R s m args below meth c H locs cells slots Q (F0 m pc ls (.ref (ad 0) :: rest)) := by
  exact va_get (D := D) (ci := 0) (v := .ref (ad 3)) (C := RX0) (T := TX0) (N := 11) E.1.1 E.1.2.1 E.1.2.2.2.2 wI_X0 E.1.2.2.2.1 E.2.2.2.1 S.1 0 rfl rfl 2 (by decide) (E.1.2.2.2.2 _ wf_X0_16) (fun _ h9 => h9) rfl hdg kk
theorem lX_thingSize {i : Int32} {v : Int32} {rest : List Value} (E : EnX p s m c args cc nL meth rt D ca g A) (S : SX D ad ca A s u H locs) (hin : vp_in i 60) (hv : x_thingSize u i.toNatClampNeg = v) (hdg : decode cc pc = .ok (.iaload, 1)) (kk : W p l e R s m args below meth c H locs cells slots Q (F0 m (pc + 1) ls (.int v :: rest))) : W p l e R s m args below meth c H locs cells slots Q (F0 m pc ls (.int i :: .ref (ad 3) :: rest)) := by
  subst hv
  exact va_iald E.1.1 E.1.2.1 E.2.2.2.1 S.1 3 2 rfl rfl hin hdg kk
theorem sX_thingSize {i : Int32} {v : Int32} {rest : List Value} (E : EnX p s m c args cc nL meth rt D ca g A) (S : SX D ad ca A s u H locs) (hin : vp_in i 60) (hdg : decode cc pc = .ok (.iastore, 1)) (kk : ∀ (H1 : Heap) (locs1 : List Loc), SX D ad ca A s (xs_thingSize u (upd (x_thingSize u) i.toNatClampNeg v)) H1 locs1 → W p l e R s m args below meth c H1 locs1 cells slots Q (F0 m (pc + 1) ls rest)) : W p l e R s m args below meth c H locs cells slots Q (F0 m pc ls (.int v :: .int i :: .ref (ad 3) :: rest)) :=
  va_iast E.1.1 E.1.2.1 E.2.2.2.1 S.1 S.2.1 S.2.2 3 2 rfl rfl hin hdg (fun H1 locs1 hP hD hS => kk H1 locs1 ⟨hP, hD, hS⟩)
theorem gX_pieceWorth {rest : List Value} (E : EnX p s m c args cc nL meth rt D ca g A) (S : SX D ad ca A s u H locs) (hdg : decode cc pc = .ok (.getfield 19, 3)) (kk : W p l e R s m args below meth c H locs cells slots Q (F0 m (pc + 3) ls (.ref (ad 4) :: rest))) : W p l e R s m args below meth c H locs cells slots Q (F0 m pc ls (.ref (ad 0) :: rest)) := by
  exact va_get (D := D) (ci := 0) (v := .ref (ad 4)) (C := RX0) (T := TX0) (N := 11) E.1.1 E.1.2.1 E.1.2.2.2.2 wI_X0 E.1.2.2.2.1 E.2.2.2.1 S.1 0 rfl rfl 3 (by decide) (E.1.2.2.2.2 _ wf_X0_19) (fun _ h9 => h9) rfl hdg kk
theorem lX_pieceWorth {i : Int32} {v : Int32} {rest : List Value} (E : EnX p s m c args cc nL meth rt D ca g A) (S : SX D ad ca A s u H locs) (hin : vp_in i 60) (hv : x_pieceWorth u i.toNatClampNeg = v) (hdg : decode cc pc = .ok (.iaload, 1)) (kk : W p l e R s m args below meth c H locs cells slots Q (F0 m (pc + 1) ls (.int v :: rest))) : W p l e R s m args below meth c H locs cells slots Q (F0 m pc ls (.int i :: .ref (ad 4) :: rest)) := by
  subst hv
  exact va_iald E.1.1 E.1.2.1 E.2.2.2.1 S.1 4 3 rfl rfl hin hdg kk
theorem sX_pieceWorth {i : Int32} {v : Int32} {rest : List Value} (E : EnX p s m c args cc nL meth rt D ca g A) (S : SX D ad ca A s u H locs) (hin : vp_in i 60) (hdg : decode cc pc = .ok (.iastore, 1)) (kk : ∀ (H1 : Heap) (locs1 : List Loc), SX D ad ca A s (xs_pieceWorth u (upd (x_pieceWorth u) i.toNatClampNeg v)) H1 locs1 → W p l e R s m args below meth c H1 locs1 cells slots Q (F0 m (pc + 1) ls rest)) : W p l e R s m args below meth c H locs cells slots Q (F0 m pc ls (.int v :: .int i :: .ref (ad 4) :: rest)) :=
  va_iast E.1.1 E.1.2.1 E.2.2.2.1 S.1 S.2.1 S.2.2 4 3 rfl rfl hin hdg (fun H1 locs1 hP hD hS => kk H1 locs1 ⟨hP, hD, hS⟩)
theorem gX_places {rest : List Value} (E : EnX p s m c args cc nL meth rt D ca g A) (S : SX D ad ca A s u H locs) (hdg : decode cc pc = .ok (.getfield 22, 3)) (kk : W p l e R s m args below meth c H locs cells slots Q (F0 m (pc + 3) ls (.ref (ad 5) :: rest))) : W p l e R s m args below meth c H locs cells slots Q (F0 m pc ls (.ref (ad 0) :: rest)) := by
  exact va_get (D := D) (ci := 0) (v := .ref (ad 5)) (C := RX0) (T := TX0) (N := 11) E.1.1 E.1.2.1 E.1.2.2.2.2 wI_X0 E.1.2.2.2.1 E.2.2.2.1 S.1 0 rfl rfl 4 (by decide) (E.1.2.2.2.2 _ wf_X0_22) (fun _ h9 => h9) rfl hdg kk
theorem lX_places {i : Int32} {v : Int64} {rest : List Value} (E : EnX p s m c args cc nL meth rt D ca g A) (S : SX D ad ca A s u H locs) (hin : vp_in i 480) (hv : x_places u i.toNatClampNeg = v) (hdg : decode cc pc = .ok (.laload, 1)) (kk : W p l e R s m args below meth c H locs cells slots Q (F0 m (pc + 1) ls (.long v :: rest))) : W p l e R s m args below meth c H locs cells slots Q (F0 m pc ls (.int i :: .ref (ad 5) :: rest)) := by
  subst hv
  exact va_lald E.1.1 E.1.2.1 E.2.2.2.1 S.1 5 4 rfl rfl hin hdg kk
theorem sX_places {i : Int32} {v : Int64} {rest : List Value} (E : EnX p s m c args cc nL meth rt D ca g A) (S : SX D ad ca A s u H locs) (hin : vp_in i 480) (hdg : decode cc pc = .ok (.lastore, 1)) (kk : ∀ (H1 : Heap) (locs1 : List Loc), SX D ad ca A s (xs_places u (vp_updL (x_places u) i.toNatClampNeg v)) H1 locs1 → W p l e R s m args below meth c H1 locs1 cells slots Q (F0 m (pc + 1) ls rest)) : W p l e R s m args below meth c H locs cells slots Q (F0 m pc ls (.long v :: .int i :: .ref (ad 5) :: rest)) :=
  va_last E.1.1 E.1.2.1 E.2.2.2.1 S.1 S.2.1 S.2.2 5 4 rfl rfl hin hdg (fun H1 locs1 hP hD hS => kk H1 locs1 ⟨hP, hD, hS⟩)
theorem gX_doorBase {rest : List Value} (E : EnX p s m c args cc nL meth rt D ca g A) (S : SX D ad ca A s u H locs) (hdg : decode cc pc = .ok (.getfield 26, 3)) (kk : W p l e R s m args below meth c H locs cells slots Q (F0 m (pc + 3) ls (.ref (ad 6) :: rest))) : W p l e R s m args below meth c H locs cells slots Q (F0 m pc ls (.ref (ad 0) :: rest)) := by
  exact va_get (D := D) (ci := 0) (v := .ref (ad 6)) (C := RX0) (T := TX0) (N := 11) E.1.1 E.1.2.1 E.1.2.2.2.2 wI_X0 E.1.2.2.2.1 E.2.2.2.1 S.1 0 rfl rfl 5 (by decide) (E.1.2.2.2.2 _ wf_X0_26) (fun _ h9 => h9) rfl hdg kk
theorem lX_doorBase {i : Int32} {v : Int32} {rest : List Value} (E : EnX p s m c args cc nL meth rt D ca g A) (S : SX D ad ca A s u H locs) (hin : vp_in i 8) (hv : x_doorBase u i.toNatClampNeg = v) (hdg : decode cc pc = .ok (.iaload, 1)) (kk : W p l e R s m args below meth c H locs cells slots Q (F0 m (pc + 1) ls (.int v :: rest))) : W p l e R s m args below meth c H locs cells slots Q (F0 m pc ls (.int i :: .ref (ad 6) :: rest)) := by
  subst hv
  exact va_iald E.1.1 E.1.2.1 E.2.2.2.1 S.1 6 5 rfl rfl hin hdg kk
theorem sX_doorBase {i : Int32} {v : Int32} {rest : List Value} (E : EnX p s m c args cc nL meth rt D ca g A) (S : SX D ad ca A s u H locs) (hin : vp_in i 8) (hdg : decode cc pc = .ok (.iastore, 1)) (kk : ∀ (H1 : Heap) (locs1 : List Loc), SX D ad ca A s (xs_doorBase u (upd (x_doorBase u) i.toNatClampNeg v)) H1 locs1 → W p l e R s m args below meth c H1 locs1 cells slots Q (F0 m (pc + 1) ls rest)) : W p l e R s m args below meth c H locs cells slots Q (F0 m pc ls (.int v :: .int i :: .ref (ad 6) :: rest)) :=
  va_iast E.1.1 E.1.2.1 E.2.2.2.1 S.1 S.2.1 S.2.2 6 5 rfl rfl hin hdg (fun H1 locs1 hP hD hS => kk H1 locs1 ⟨hP, hD, hS⟩)
theorem gX_doorDepth {rest : List Value} (E : EnX p s m c args cc nL meth rt D ca g A) (S : SX D ad ca A s u H locs) (hdg : decode cc pc = .ok (.getfield 29, 3)) (kk : W p l e R s m args below meth c H locs cells slots Q (F0 m (pc + 3) ls (.ref (ad 7) :: rest))) : W p l e R s m args below meth c H locs cells slots Q (F0 m pc ls (.ref (ad 0) :: rest)) := by
  exact va_get (D := D) (ci := 0) (v := .ref (ad 7)) (C := RX0) (T := TX0) (N := 11) E.1.1 E.1.2.1 E.1.2.2.2.2 wI_X0 E.1.2.2.2.1 E.2.2.2.1 S.1 0 rfl rfl 6 (by decide) (E.1.2.2.2.2 _ wf_X0_29) (fun _ h9 => h9) rfl hdg kk
theorem lX_doorDepth {i : Int32} {v : Int32} {rest : List Value} (E : EnX p s m c args cc nL meth rt D ca g A) (S : SX D ad ca A s u H locs) (hin : vp_in i 8) (hv : x_doorDepth u i.toNatClampNeg = v) (hdg : decode cc pc = .ok (.iaload, 1)) (kk : W p l e R s m args below meth c H locs cells slots Q (F0 m (pc + 1) ls (.int v :: rest))) : W p l e R s m args below meth c H locs cells slots Q (F0 m pc ls (.int i :: .ref (ad 7) :: rest)) := by
  subst hv
  exact va_iald E.1.1 E.1.2.1 E.2.2.2.1 S.1 7 6 rfl rfl hin hdg kk
theorem sX_doorDepth {i : Int32} {v : Int32} {rest : List Value} (E : EnX p s m c args cc nL meth rt D ca g A) (S : SX D ad ca A s u H locs) (hin : vp_in i 8) (hdg : decode cc pc = .ok (.iastore, 1)) (kk : ∀ (H1 : Heap) (locs1 : List Loc), SX D ad ca A s (xs_doorDepth u (upd (x_doorDepth u) i.toNatClampNeg v)) H1 locs1 → W p l e R s m args below meth c H1 locs1 cells slots Q (F0 m (pc + 1) ls rest)) : W p l e R s m args below meth c H locs cells slots Q (F0 m pc ls (.int v :: .int i :: .ref (ad 7) :: rest)) :=
  va_iast E.1.1 E.1.2.1 E.2.2.2.1 S.1 S.2.1 S.2.2 7 6 rfl rfl hin hdg (fun H1 locs1 hP hD hS => kk H1 locs1 ⟨hP, hD, hS⟩)
theorem gX_thingCount {v : Int32} {rest : List Value} (E : EnX p s m c args cc nL meth rt D ca g A) (S : SX D ad ca A s u H locs) (hv : x_thingCount u = v) (hdg : decode cc pc = .ok (.getfield 32, 3)) (kk : W p l e R s m args below meth c H locs cells slots Q (F0 m (pc + 3) ls (.int v :: rest))) : W p l e R s m args below meth c H locs cells slots Q (F0 m pc ls (.ref (ad 0) :: rest)) := by
  subst hv
  exact va_get (D := D) (ci := 0) (v := .int (x_thingCount u)) (C := RX0) (T := TX0) (N := 11) E.1.1 E.1.2.1 E.1.2.2.2.2 wI_X0 E.1.2.2.2.1 E.2.2.2.1 S.1 0 rfl rfl 7 (by decide) (E.1.2.2.2.2 _ wf_X0_32) (fun _ h9 => h9) rfl hdg kk
theorem pX_thingCount {v : Int32} {rest : List Value} (E : EnX p s m c args cc nL meth rt D ca g A) (S : SX D ad ca A s u H locs) (hdg : decode cc pc = .ok (.putfield 32, 3)) (kk : ∀ (H1 : Heap) (locs1 : List Loc), SX D ad ca A s (xs_thingCount u v) H1 locs1 → W p l e R s m args below meth c H1 locs1 cells slots Q (F0 m (pc + 3) ls rest)) : W p l e R s m args below meth c H locs cells slots Q (F0 m pc ls (.int v :: .ref (ad 0) :: rest)) :=
  va_put (D := D) (ci := 0) (v := .int v) (ty := .int) (C := RX0) (T := TX0) (N := 11) E.1.1 E.1.2.1 E.1.2.2.2.2 wI_X0 tyX0 tyX0_ok nmX0 E.1.2.2.2.1 E.2.2.2.1 S.1 S.2.1 S.2.2 0 rfl rfl 7 (by decide) (E.1.2.2.2.2 _ wf_X0_32) (fun _ h9 => h9) rfl (by decide +kernel) rfl rfl (Nat.le_of_ble_eq_true rfl) hdg (fun H1 locs1 hP hD hS => kk H1 locs1 ⟨hP, hD, hS⟩)
theorem gX_failureCount {v : Int32} {rest : List Value} (E : EnX p s m c args cc nL meth rt D ca g A) (S : SX D ad ca A s u H locs) (hv : x_failureCount u = v) (hdg : decode cc pc = .ok (.getfield 36, 3)) (kk : W p l e R s m args below meth c H locs cells slots Q (F0 m (pc + 3) ls (.int v :: rest))) : W p l e R s m args below meth c H locs cells slots Q (F0 m pc ls (.ref (ad 0) :: rest)) := by
  subst hv
  exact va_get (D := D) (ci := 0) (v := .int (x_failureCount u)) (C := RX0) (T := TX0) (N := 11) E.1.1 E.1.2.1 E.1.2.2.2.2 wI_X0 E.1.2.2.2.1 E.2.2.2.1 S.1 0 rfl rfl 8 (by decide) (E.1.2.2.2.2 _ wf_X0_36) (fun _ h9 => h9) rfl hdg kk
theorem pX_failureCount {v : Int32} {rest : List Value} (E : EnX p s m c args cc nL meth rt D ca g A) (S : SX D ad ca A s u H locs) (hdg : decode cc pc = .ok (.putfield 36, 3)) (kk : ∀ (H1 : Heap) (locs1 : List Loc), SX D ad ca A s (xs_failureCount u v) H1 locs1 → W p l e R s m args below meth c H1 locs1 cells slots Q (F0 m (pc + 3) ls rest)) : W p l e R s m args below meth c H locs cells slots Q (F0 m pc ls (.int v :: .ref (ad 0) :: rest)) :=
  va_put (D := D) (ci := 0) (v := .int v) (ty := .int) (C := RX0) (T := TX0) (N := 11) E.1.1 E.1.2.1 E.1.2.2.2.2 wI_X0 tyX0 tyX0_ok nmX0 E.1.2.2.2.1 E.2.2.2.1 S.1 S.2.1 S.2.2 0 rfl rfl 8 (by decide) (E.1.2.2.2.2 _ wf_X0_36) (fun _ h9 => h9) rfl (by decide +kernel) rfl rfl (Nat.le_of_ble_eq_true rfl) hdg (fun H1 locs1 hP hD hS => kk H1 locs1 ⟨hP, hD, hS⟩)
theorem gX_latestFailure {v : Int32} {rest : List Value} (E : EnX p s m c args cc nL meth rt D ca g A) (S : SX D ad ca A s u H locs) (hv : x_latestFailure u = v) (hdg : decode cc pc = .ok (.getfield 39, 3)) (kk : W p l e R s m args below meth c H locs cells slots Q (F0 m (pc + 3) ls (.int v :: rest))) : W p l e R s m args below meth c H locs cells slots Q (F0 m pc ls (.ref (ad 0) :: rest)) := by
  subst hv
  exact va_get (D := D) (ci := 0) (v := .int (x_latestFailure u)) (C := RX0) (T := TX0) (N := 11) E.1.1 E.1.2.1 E.1.2.2.2.2 wI_X0 E.1.2.2.2.1 E.2.2.2.1 S.1 0 rfl rfl 9 (by decide) (E.1.2.2.2.2 _ wf_X0_39) (fun _ h9 => h9) rfl hdg kk
theorem pX_latestFailure {v : Int32} {rest : List Value} (E : EnX p s m c args cc nL meth rt D ca g A) (S : SX D ad ca A s u H locs) (hdg : decode cc pc = .ok (.putfield 39, 3)) (kk : ∀ (H1 : Heap) (locs1 : List Loc), SX D ad ca A s (xs_latestFailure u v) H1 locs1 → W p l e R s m args below meth c H1 locs1 cells slots Q (F0 m (pc + 3) ls rest)) : W p l e R s m args below meth c H locs cells slots Q (F0 m pc ls (.int v :: .ref (ad 0) :: rest)) :=
  va_put (D := D) (ci := 0) (v := .int v) (ty := .int) (C := RX0) (T := TX0) (N := 11) E.1.1 E.1.2.1 E.1.2.2.2.2 wI_X0 tyX0 tyX0_ok nmX0 E.1.2.2.2.1 E.2.2.2.1 S.1 S.2.1 S.2.2 0 rfl rfl 9 (by decide) (E.1.2.2.2.2 _ wf_X0_39) (fun _ h9 => h9) rfl (by decide +kernel) rfl rfl (Nat.le_of_ble_eq_true rfl) hdg (fun H1 locs1 hP hD hS => kk H1 locs1 ⟨hP, hD, hS⟩)
theorem gX_closedDoor {v : Int32} {rest : List Value} (E : EnX p s m c args cc nL meth rt D ca g A) (S : SX D ad ca A s u H locs) (hv : x_closedDoor u = v) (hdg : decode cc pc = .ok (.getfield 42, 3)) (kk : W p l e R s m args below meth c H locs cells slots Q (F0 m (pc + 3) ls (.int v :: rest))) : W p l e R s m args below meth c H locs cells slots Q (F0 m pc ls (.ref (ad 0) :: rest)) := by
  subst hv
  exact va_get (D := D) (ci := 0) (v := .int (x_closedDoor u)) (C := RX0) (T := TX0) (N := 11) E.1.1 E.1.2.1 E.1.2.2.2.2 wI_X0 E.1.2.2.2.1 E.2.2.2.1 S.1 0 rfl rfl 10 (by decide) (E.1.2.2.2.2 _ wf_X0_42) (fun _ h9 => h9) rfl hdg kk
theorem pX_closedDoor {v : Int32} {rest : List Value} (E : EnX p s m c args cc nL meth rt D ca g A) (S : SX D ad ca A s u H locs) (hdg : decode cc pc = .ok (.putfield 42, 3)) (kk : ∀ (H1 : Heap) (locs1 : List Loc), SX D ad ca A s (xs_closedDoor u v) H1 locs1 → W p l e R s m args below meth c H1 locs1 cells slots Q (F0 m (pc + 3) ls rest)) : W p l e R s m args below meth c H locs cells slots Q (F0 m pc ls (.int v :: .ref (ad 0) :: rest)) :=
  va_put (D := D) (ci := 0) (v := .int v) (ty := .int) (C := RX0) (T := TX0) (N := 11) E.1.1 E.1.2.1 E.1.2.2.2.2 wI_X0 tyX0 tyX0_ok nmX0 E.1.2.2.2.1 E.2.2.2.1 S.1 S.2.1 S.2.2 0 rfl rfl 10 (by decide) (E.1.2.2.2.2 _ wf_X0_42) (fun _ h9 => h9) rfl (by decide +kernel) rfl rfl (Nat.le_of_ble_eq_true rfl) hdg (fun H1 locs1 hP hD hS => kk H1 locs1 ⟨hP, hD, hS⟩)
end RowsX
/-! ===== DepotTraysModel: state, world, rows ===== -/
abbrev MS : Type := Int32 × (Nat → Int32) × (Nat → Int32) × (Nat → Int32) × (Nat → Int32) × (Nat → Int32) × (Nat → Int64) × (Nat → Int32) × (Nat → Int32) × Int32 × Int32 × Int32 × (Nat → Int64) × (Nat → Int32) × (Nat → Int32) × (Nat → Int64)
def m_things (u : MS) : Int32 := u.1
def m_bases (u : MS) : (Nat → Int32) := u.2.1
def m_depths (u : MS) : (Nat → Int32) := u.2.2.1
def m_sizes (u : MS) : (Nat → Int32) := u.2.2.2.1
def m_worths (u : MS) : (Nat → Int32) := u.2.2.2.2.1
def m_lies (u : MS) : (Nat → Int32) := u.2.2.2.2.2.1
def m_numbers (u : MS) : (Nat → Int64) := u.2.2.2.2.2.2.1
def m_doorBase (u : MS) : (Nat → Int32) := u.2.2.2.2.2.2.2.1
def m_doorDepth (u : MS) : (Nat → Int32) := u.2.2.2.2.2.2.2.2.1
def m_failures (u : MS) : Int32 := u.2.2.2.2.2.2.2.2.2.1
def m_latest (u : MS) : Int32 := u.2.2.2.2.2.2.2.2.2.2.1
def m_last (u : MS) : Int32 := u.2.2.2.2.2.2.2.2.2.2.2.1
def m_sums (u : MS) : (Nat → Int64) := u.2.2.2.2.2.2.2.2.2.2.2.2.1
def m_counts (u : MS) : (Nat → Int32) := u.2.2.2.2.2.2.2.2.2.2.2.2.2.1
def m_moved (u : MS) : (Nat → Int32) := u.2.2.2.2.2.2.2.2.2.2.2.2.2.2.1
def m_movedNumbers (u : MS) : (Nat → Int64) := u.2.2.2.2.2.2.2.2.2.2.2.2.2.2.2
def ms_things (u : MS) (v : Int32) : MS := (v, u.2)
def ms_bases (u : MS) (v : (Nat → Int32)) : MS := (u.1, v, u.2.2)
def ms_depths (u : MS) (v : (Nat → Int32)) : MS := (u.1, u.2.1, v, u.2.2.2)
def ms_sizes (u : MS) (v : (Nat → Int32)) : MS := (u.1, u.2.1, u.2.2.1, v, u.2.2.2.2)
def ms_worths (u : MS) (v : (Nat → Int32)) : MS := (u.1, u.2.1, u.2.2.1, u.2.2.2.1, v, u.2.2.2.2.2)
def ms_lies (u : MS) (v : (Nat → Int32)) : MS := (u.1, u.2.1, u.2.2.1, u.2.2.2.1, u.2.2.2.2.1, v, u.2.2.2.2.2.2)
def ms_numbers (u : MS) (v : (Nat → Int64)) : MS := (u.1, u.2.1, u.2.2.1, u.2.2.2.1, u.2.2.2.2.1, u.2.2.2.2.2.1, v, u.2.2.2.2.2.2.2)
def ms_doorBase (u : MS) (v : (Nat → Int32)) : MS := (u.1, u.2.1, u.2.2.1, u.2.2.2.1, u.2.2.2.2.1, u.2.2.2.2.2.1, u.2.2.2.2.2.2.1, v, u.2.2.2.2.2.2.2.2)
def ms_doorDepth (u : MS) (v : (Nat → Int32)) : MS := (u.1, u.2.1, u.2.2.1, u.2.2.2.1, u.2.2.2.2.1, u.2.2.2.2.2.1, u.2.2.2.2.2.2.1, u.2.2.2.2.2.2.2.1, v, u.2.2.2.2.2.2.2.2.2)
def ms_failures (u : MS) (v : Int32) : MS := (u.1, u.2.1, u.2.2.1, u.2.2.2.1, u.2.2.2.2.1, u.2.2.2.2.2.1, u.2.2.2.2.2.2.1, u.2.2.2.2.2.2.2.1, u.2.2.2.2.2.2.2.2.1, v, u.2.2.2.2.2.2.2.2.2.2)
def ms_latest (u : MS) (v : Int32) : MS := (u.1, u.2.1, u.2.2.1, u.2.2.2.1, u.2.2.2.2.1, u.2.2.2.2.2.1, u.2.2.2.2.2.2.1, u.2.2.2.2.2.2.2.1, u.2.2.2.2.2.2.2.2.1, u.2.2.2.2.2.2.2.2.2.1, v, u.2.2.2.2.2.2.2.2.2.2.2)
def ms_last (u : MS) (v : Int32) : MS := (u.1, u.2.1, u.2.2.1, u.2.2.2.1, u.2.2.2.2.1, u.2.2.2.2.2.1, u.2.2.2.2.2.2.1, u.2.2.2.2.2.2.2.1, u.2.2.2.2.2.2.2.2.1, u.2.2.2.2.2.2.2.2.2.1, u.2.2.2.2.2.2.2.2.2.2.1, v, u.2.2.2.2.2.2.2.2.2.2.2.2)
def ms_sums (u : MS) (v : (Nat → Int64)) : MS := (u.1, u.2.1, u.2.2.1, u.2.2.2.1, u.2.2.2.2.1, u.2.2.2.2.2.1, u.2.2.2.2.2.2.1, u.2.2.2.2.2.2.2.1, u.2.2.2.2.2.2.2.2.1, u.2.2.2.2.2.2.2.2.2.1, u.2.2.2.2.2.2.2.2.2.2.1, u.2.2.2.2.2.2.2.2.2.2.2.1, v, u.2.2.2.2.2.2.2.2.2.2.2.2.2)
def ms_counts (u : MS) (v : (Nat → Int32)) : MS := (u.1, u.2.1, u.2.2.1, u.2.2.2.1, u.2.2.2.2.1, u.2.2.2.2.2.1, u.2.2.2.2.2.2.1, u.2.2.2.2.2.2.2.1, u.2.2.2.2.2.2.2.2.1, u.2.2.2.2.2.2.2.2.2.1, u.2.2.2.2.2.2.2.2.2.2.1, u.2.2.2.2.2.2.2.2.2.2.2.1, u.2.2.2.2.2.2.2.2.2.2.2.2.1, v, u.2.2.2.2.2.2.2.2.2.2.2.2.2.2)
def ms_moved (u : MS) (v : (Nat → Int32)) : MS := (u.1, u.2.1, u.2.2.1, u.2.2.2.1, u.2.2.2.2.1, u.2.2.2.2.2.1, u.2.2.2.2.2.2.1, u.2.2.2.2.2.2.2.1, u.2.2.2.2.2.2.2.2.1, u.2.2.2.2.2.2.2.2.2.1, u.2.2.2.2.2.2.2.2.2.2.1, u.2.2.2.2.2.2.2.2.2.2.2.1, u.2.2.2.2.2.2.2.2.2.2.2.2.1, u.2.2.2.2.2.2.2.2.2.2.2.2.2.1, v, u.2.2.2.2.2.2.2.2.2.2.2.2.2.2.2)
def ms_movedNumbers (u : MS) (v : (Nat → Int64)) : MS := (u.1, u.2.1, u.2.2.1, u.2.2.2.1, u.2.2.2.2.1, u.2.2.2.2.2.1, u.2.2.2.2.2.2.1, u.2.2.2.2.2.2.2.1, u.2.2.2.2.2.2.2.2.1, u.2.2.2.2.2.2.2.2.2.1, u.2.2.2.2.2.2.2.2.2.2.1, u.2.2.2.2.2.2.2.2.2.2.2.1, u.2.2.2.2.2.2.2.2.2.2.2.2.1, u.2.2.2.2.2.2.2.2.2.2.2.2.2.1, u.2.2.2.2.2.2.2.2.2.2.2.2.2.2.1, v)
theorem m_things_things (u : MS) (v : Int32) : m_things (ms_things u v) = v := rfl
theorem m_things_bases (u : MS) (v : (Nat → Int32)) : m_things (ms_bases u v) = m_things u := rfl
theorem m_things_depths (u : MS) (v : (Nat → Int32)) : m_things (ms_depths u v) = m_things u := rfl
theorem m_things_sizes (u : MS) (v : (Nat → Int32)) : m_things (ms_sizes u v) = m_things u := rfl
theorem m_things_worths (u : MS) (v : (Nat → Int32)) : m_things (ms_worths u v) = m_things u := rfl
theorem m_things_lies (u : MS) (v : (Nat → Int32)) : m_things (ms_lies u v) = m_things u := rfl
theorem m_things_numbers (u : MS) (v : (Nat → Int64)) : m_things (ms_numbers u v) = m_things u := rfl
theorem m_things_doorBase (u : MS) (v : (Nat → Int32)) : m_things (ms_doorBase u v) = m_things u := rfl
theorem m_things_doorDepth (u : MS) (v : (Nat → Int32)) : m_things (ms_doorDepth u v) = m_things u := rfl
theorem m_things_failures (u : MS) (v : Int32) : m_things (ms_failures u v) = m_things u := rfl
theorem m_things_latest (u : MS) (v : Int32) : m_things (ms_latest u v) = m_things u := rfl
theorem m_things_last (u : MS) (v : Int32) : m_things (ms_last u v) = m_things u := rfl
theorem m_things_sums (u : MS) (v : (Nat → Int64)) : m_things (ms_sums u v) = m_things u := rfl
theorem m_things_counts (u : MS) (v : (Nat → Int32)) : m_things (ms_counts u v) = m_things u := rfl
theorem m_things_moved (u : MS) (v : (Nat → Int32)) : m_things (ms_moved u v) = m_things u := rfl
theorem m_things_movedNumbers (u : MS) (v : (Nat → Int64)) : m_things (ms_movedNumbers u v) = m_things u := rfl
theorem m_bases_things (u : MS) (v : Int32) : m_bases (ms_things u v) = m_bases u := rfl
theorem m_bases_bases (u : MS) (v : (Nat → Int32)) : m_bases (ms_bases u v) = v := rfl
theorem m_bases_depths (u : MS) (v : (Nat → Int32)) : m_bases (ms_depths u v) = m_bases u := rfl
theorem m_bases_sizes (u : MS) (v : (Nat → Int32)) : m_bases (ms_sizes u v) = m_bases u := rfl
theorem m_bases_worths (u : MS) (v : (Nat → Int32)) : m_bases (ms_worths u v) = m_bases u := rfl
theorem m_bases_lies (u : MS) (v : (Nat → Int32)) : m_bases (ms_lies u v) = m_bases u := rfl
theorem m_bases_numbers (u : MS) (v : (Nat → Int64)) : m_bases (ms_numbers u v) = m_bases u := rfl
theorem m_bases_doorBase (u : MS) (v : (Nat → Int32)) : m_bases (ms_doorBase u v) = m_bases u := rfl
theorem m_bases_doorDepth (u : MS) (v : (Nat → Int32)) : m_bases (ms_doorDepth u v) = m_bases u := rfl
theorem m_bases_failures (u : MS) (v : Int32) : m_bases (ms_failures u v) = m_bases u := rfl
theorem m_bases_latest (u : MS) (v : Int32) : m_bases (ms_latest u v) = m_bases u := rfl
theorem m_bases_last (u : MS) (v : Int32) : m_bases (ms_last u v) = m_bases u := rfl
theorem m_bases_sums (u : MS) (v : (Nat → Int64)) : m_bases (ms_sums u v) = m_bases u := rfl
theorem m_bases_counts (u : MS) (v : (Nat → Int32)) : m_bases (ms_counts u v) = m_bases u := rfl
theorem m_bases_moved (u : MS) (v : (Nat → Int32)) : m_bases (ms_moved u v) = m_bases u := rfl
theorem m_bases_movedNumbers (u : MS) (v : (Nat → Int64)) : m_bases (ms_movedNumbers u v) = m_bases u := rfl
theorem m_depths_things (u : MS) (v : Int32) : m_depths (ms_things u v) = m_depths u := rfl
theorem m_depths_bases (u : MS) (v : (Nat → Int32)) : m_depths (ms_bases u v) = m_depths u := rfl
theorem m_depths_depths (u : MS) (v : (Nat → Int32)) : m_depths (ms_depths u v) = v := rfl
theorem m_depths_sizes (u : MS) (v : (Nat → Int32)) : m_depths (ms_sizes u v) = m_depths u := rfl
theorem m_depths_worths (u : MS) (v : (Nat → Int32)) : m_depths (ms_worths u v) = m_depths u := rfl
theorem m_depths_lies (u : MS) (v : (Nat → Int32)) : m_depths (ms_lies u v) = m_depths u := rfl
theorem m_depths_numbers (u : MS) (v : (Nat → Int64)) : m_depths (ms_numbers u v) = m_depths u := rfl
theorem m_depths_doorBase (u : MS) (v : (Nat → Int32)) : m_depths (ms_doorBase u v) = m_depths u := rfl
theorem m_depths_doorDepth (u : MS) (v : (Nat → Int32)) : m_depths (ms_doorDepth u v) = m_depths u := rfl
theorem m_depths_failures (u : MS) (v : Int32) : m_depths (ms_failures u v) = m_depths u := rfl
theorem m_depths_latest (u : MS) (v : Int32) : m_depths (ms_latest u v) = m_depths u := rfl
theorem m_depths_last (u : MS) (v : Int32) : m_depths (ms_last u v) = m_depths u := rfl
theorem m_depths_sums (u : MS) (v : (Nat → Int64)) : m_depths (ms_sums u v) = m_depths u := rfl
theorem m_depths_counts (u : MS) (v : (Nat → Int32)) : m_depths (ms_counts u v) = m_depths u := rfl
theorem m_depths_moved (u : MS) (v : (Nat → Int32)) : m_depths (ms_moved u v) = m_depths u := rfl
theorem m_depths_movedNumbers (u : MS) (v : (Nat → Int64)) : m_depths (ms_movedNumbers u v) = m_depths u := rfl
theorem m_sizes_things (u : MS) (v : Int32) : m_sizes (ms_things u v) = m_sizes u := rfl
theorem m_sizes_bases (u : MS) (v : (Nat → Int32)) : m_sizes (ms_bases u v) = m_sizes u := rfl
theorem m_sizes_depths (u : MS) (v : (Nat → Int32)) : m_sizes (ms_depths u v) = m_sizes u := rfl
theorem m_sizes_sizes (u : MS) (v : (Nat → Int32)) : m_sizes (ms_sizes u v) = v := rfl
theorem m_sizes_worths (u : MS) (v : (Nat → Int32)) : m_sizes (ms_worths u v) = m_sizes u := rfl
theorem m_sizes_lies (u : MS) (v : (Nat → Int32)) : m_sizes (ms_lies u v) = m_sizes u := rfl
theorem m_sizes_numbers (u : MS) (v : (Nat → Int64)) : m_sizes (ms_numbers u v) = m_sizes u := rfl
theorem m_sizes_doorBase (u : MS) (v : (Nat → Int32)) : m_sizes (ms_doorBase u v) = m_sizes u := rfl
theorem m_sizes_doorDepth (u : MS) (v : (Nat → Int32)) : m_sizes (ms_doorDepth u v) = m_sizes u := rfl
theorem m_sizes_failures (u : MS) (v : Int32) : m_sizes (ms_failures u v) = m_sizes u := rfl
theorem m_sizes_latest (u : MS) (v : Int32) : m_sizes (ms_latest u v) = m_sizes u := rfl
theorem m_sizes_last (u : MS) (v : Int32) : m_sizes (ms_last u v) = m_sizes u := rfl
theorem m_sizes_sums (u : MS) (v : (Nat → Int64)) : m_sizes (ms_sums u v) = m_sizes u := rfl
theorem m_sizes_counts (u : MS) (v : (Nat → Int32)) : m_sizes (ms_counts u v) = m_sizes u := rfl
theorem m_sizes_moved (u : MS) (v : (Nat → Int32)) : m_sizes (ms_moved u v) = m_sizes u := rfl
theorem m_sizes_movedNumbers (u : MS) (v : (Nat → Int64)) : m_sizes (ms_movedNumbers u v) = m_sizes u := rfl
theorem m_worths_things (u : MS) (v : Int32) : m_worths (ms_things u v) = m_worths u := rfl
theorem m_worths_bases (u : MS) (v : (Nat → Int32)) : m_worths (ms_bases u v) = m_worths u := rfl
theorem m_worths_depths (u : MS) (v : (Nat → Int32)) : m_worths (ms_depths u v) = m_worths u := rfl
theorem m_worths_sizes (u : MS) (v : (Nat → Int32)) : m_worths (ms_sizes u v) = m_worths u := rfl
theorem m_worths_worths (u : MS) (v : (Nat → Int32)) : m_worths (ms_worths u v) = v := rfl
theorem m_worths_lies (u : MS) (v : (Nat → Int32)) : m_worths (ms_lies u v) = m_worths u := rfl
theorem m_worths_numbers (u : MS) (v : (Nat → Int64)) : m_worths (ms_numbers u v) = m_worths u := rfl
theorem m_worths_doorBase (u : MS) (v : (Nat → Int32)) : m_worths (ms_doorBase u v) = m_worths u := rfl
theorem m_worths_doorDepth (u : MS) (v : (Nat → Int32)) : m_worths (ms_doorDepth u v) = m_worths u := rfl
theorem m_worths_failures (u : MS) (v : Int32) : m_worths (ms_failures u v) = m_worths u := rfl
theorem m_worths_latest (u : MS) (v : Int32) : m_worths (ms_latest u v) = m_worths u := rfl
theorem m_worths_last (u : MS) (v : Int32) : m_worths (ms_last u v) = m_worths u := rfl
theorem m_worths_sums (u : MS) (v : (Nat → Int64)) : m_worths (ms_sums u v) = m_worths u := rfl
theorem m_worths_counts (u : MS) (v : (Nat → Int32)) : m_worths (ms_counts u v) = m_worths u := rfl
theorem m_worths_moved (u : MS) (v : (Nat → Int32)) : m_worths (ms_moved u v) = m_worths u := rfl
theorem m_worths_movedNumbers (u : MS) (v : (Nat → Int64)) : m_worths (ms_movedNumbers u v) = m_worths u := rfl
theorem m_lies_things (u : MS) (v : Int32) : m_lies (ms_things u v) = m_lies u := rfl
theorem m_lies_bases (u : MS) (v : (Nat → Int32)) : m_lies (ms_bases u v) = m_lies u := rfl
theorem m_lies_depths (u : MS) (v : (Nat → Int32)) : m_lies (ms_depths u v) = m_lies u := rfl
theorem m_lies_sizes (u : MS) (v : (Nat → Int32)) : m_lies (ms_sizes u v) = m_lies u := rfl
theorem m_lies_worths (u : MS) (v : (Nat → Int32)) : m_lies (ms_worths u v) = m_lies u := rfl
theorem m_lies_lies (u : MS) (v : (Nat → Int32)) : m_lies (ms_lies u v) = v := rfl
theorem m_lies_numbers (u : MS) (v : (Nat → Int64)) : m_lies (ms_numbers u v) = m_lies u := rfl
theorem m_lies_doorBase (u : MS) (v : (Nat → Int32)) : m_lies (ms_doorBase u v) = m_lies u := rfl
theorem m_lies_doorDepth (u : MS) (v : (Nat → Int32)) : m_lies (ms_doorDepth u v) = m_lies u := rfl
theorem m_lies_failures (u : MS) (v : Int32) : m_lies (ms_failures u v) = m_lies u := rfl
theorem m_lies_latest (u : MS) (v : Int32) : m_lies (ms_latest u v) = m_lies u := rfl
theorem m_lies_last (u : MS) (v : Int32) : m_lies (ms_last u v) = m_lies u := rfl
theorem m_lies_sums (u : MS) (v : (Nat → Int64)) : m_lies (ms_sums u v) = m_lies u := rfl
theorem m_lies_counts (u : MS) (v : (Nat → Int32)) : m_lies (ms_counts u v) = m_lies u := rfl
theorem m_lies_moved (u : MS) (v : (Nat → Int32)) : m_lies (ms_moved u v) = m_lies u := rfl
theorem m_lies_movedNumbers (u : MS) (v : (Nat → Int64)) : m_lies (ms_movedNumbers u v) = m_lies u := rfl
theorem m_numbers_things (u : MS) (v : Int32) : m_numbers (ms_things u v) = m_numbers u := rfl
theorem m_numbers_bases (u : MS) (v : (Nat → Int32)) : m_numbers (ms_bases u v) = m_numbers u := rfl
theorem m_numbers_depths (u : MS) (v : (Nat → Int32)) : m_numbers (ms_depths u v) = m_numbers u := rfl
theorem m_numbers_sizes (u : MS) (v : (Nat → Int32)) : m_numbers (ms_sizes u v) = m_numbers u := rfl
theorem m_numbers_worths (u : MS) (v : (Nat → Int32)) : m_numbers (ms_worths u v) = m_numbers u := rfl
theorem m_numbers_lies (u : MS) (v : (Nat → Int32)) : m_numbers (ms_lies u v) = m_numbers u := rfl
theorem m_numbers_numbers (u : MS) (v : (Nat → Int64)) : m_numbers (ms_numbers u v) = v := rfl
theorem m_numbers_doorBase (u : MS) (v : (Nat → Int32)) : m_numbers (ms_doorBase u v) = m_numbers u := rfl
theorem m_numbers_doorDepth (u : MS) (v : (Nat → Int32)) : m_numbers (ms_doorDepth u v) = m_numbers u := rfl
theorem m_numbers_failures (u : MS) (v : Int32) : m_numbers (ms_failures u v) = m_numbers u := rfl
theorem m_numbers_latest (u : MS) (v : Int32) : m_numbers (ms_latest u v) = m_numbers u := rfl
theorem m_numbers_last (u : MS) (v : Int32) : m_numbers (ms_last u v) = m_numbers u := rfl
theorem m_numbers_sums (u : MS) (v : (Nat → Int64)) : m_numbers (ms_sums u v) = m_numbers u := rfl
theorem m_numbers_counts (u : MS) (v : (Nat → Int32)) : m_numbers (ms_counts u v) = m_numbers u := rfl
theorem m_numbers_moved (u : MS) (v : (Nat → Int32)) : m_numbers (ms_moved u v) = m_numbers u := rfl
theorem m_numbers_movedNumbers (u : MS) (v : (Nat → Int64)) : m_numbers (ms_movedNumbers u v) = m_numbers u := rfl
theorem m_doorBase_things (u : MS) (v : Int32) : m_doorBase (ms_things u v) = m_doorBase u := rfl
theorem m_doorBase_bases (u : MS) (v : (Nat → Int32)) : m_doorBase (ms_bases u v) = m_doorBase u := rfl
theorem m_doorBase_depths (u : MS) (v : (Nat → Int32)) : m_doorBase (ms_depths u v) = m_doorBase u := rfl
theorem m_doorBase_sizes (u : MS) (v : (Nat → Int32)) : m_doorBase (ms_sizes u v) = m_doorBase u := rfl
theorem m_doorBase_worths (u : MS) (v : (Nat → Int32)) : m_doorBase (ms_worths u v) = m_doorBase u := rfl
theorem m_doorBase_lies (u : MS) (v : (Nat → Int32)) : m_doorBase (ms_lies u v) = m_doorBase u := rfl
theorem m_doorBase_numbers (u : MS) (v : (Nat → Int64)) : m_doorBase (ms_numbers u v) = m_doorBase u := rfl
theorem m_doorBase_doorBase (u : MS) (v : (Nat → Int32)) : m_doorBase (ms_doorBase u v) = v := rfl
theorem m_doorBase_doorDepth (u : MS) (v : (Nat → Int32)) : m_doorBase (ms_doorDepth u v) = m_doorBase u := rfl
theorem m_doorBase_failures (u : MS) (v : Int32) : m_doorBase (ms_failures u v) = m_doorBase u := rfl
theorem m_doorBase_latest (u : MS) (v : Int32) : m_doorBase (ms_latest u v) = m_doorBase u := rfl
theorem m_doorBase_last (u : MS) (v : Int32) : m_doorBase (ms_last u v) = m_doorBase u := rfl
theorem m_doorBase_sums (u : MS) (v : (Nat → Int64)) : m_doorBase (ms_sums u v) = m_doorBase u := rfl
theorem m_doorBase_counts (u : MS) (v : (Nat → Int32)) : m_doorBase (ms_counts u v) = m_doorBase u := rfl
theorem m_doorBase_moved (u : MS) (v : (Nat → Int32)) : m_doorBase (ms_moved u v) = m_doorBase u := rfl
theorem m_doorBase_movedNumbers (u : MS) (v : (Nat → Int64)) : m_doorBase (ms_movedNumbers u v) = m_doorBase u := rfl
theorem m_doorDepth_things (u : MS) (v : Int32) : m_doorDepth (ms_things u v) = m_doorDepth u := rfl
theorem m_doorDepth_bases (u : MS) (v : (Nat → Int32)) : m_doorDepth (ms_bases u v) = m_doorDepth u := rfl
theorem m_doorDepth_depths (u : MS) (v : (Nat → Int32)) : m_doorDepth (ms_depths u v) = m_doorDepth u := rfl
theorem m_doorDepth_sizes (u : MS) (v : (Nat → Int32)) : m_doorDepth (ms_sizes u v) = m_doorDepth u := rfl
theorem m_doorDepth_worths (u : MS) (v : (Nat → Int32)) : m_doorDepth (ms_worths u v) = m_doorDepth u := rfl
theorem m_doorDepth_lies (u : MS) (v : (Nat → Int32)) : m_doorDepth (ms_lies u v) = m_doorDepth u := rfl
theorem m_doorDepth_numbers (u : MS) (v : (Nat → Int64)) : m_doorDepth (ms_numbers u v) = m_doorDepth u := rfl
theorem m_doorDepth_doorBase (u : MS) (v : (Nat → Int32)) : m_doorDepth (ms_doorBase u v) = m_doorDepth u := rfl
theorem m_doorDepth_doorDepth (u : MS) (v : (Nat → Int32)) : m_doorDepth (ms_doorDepth u v) = v := rfl
theorem m_doorDepth_failures (u : MS) (v : Int32) : m_doorDepth (ms_failures u v) = m_doorDepth u := rfl
theorem m_doorDepth_latest (u : MS) (v : Int32) : m_doorDepth (ms_latest u v) = m_doorDepth u := rfl
theorem m_doorDepth_last (u : MS) (v : Int32) : m_doorDepth (ms_last u v) = m_doorDepth u := rfl
theorem m_doorDepth_sums (u : MS) (v : (Nat → Int64)) : m_doorDepth (ms_sums u v) = m_doorDepth u := rfl
theorem m_doorDepth_counts (u : MS) (v : (Nat → Int32)) : m_doorDepth (ms_counts u v) = m_doorDepth u := rfl
theorem m_doorDepth_moved (u : MS) (v : (Nat → Int32)) : m_doorDepth (ms_moved u v) = m_doorDepth u := rfl
theorem m_doorDepth_movedNumbers (u : MS) (v : (Nat → Int64)) : m_doorDepth (ms_movedNumbers u v) = m_doorDepth u := rfl
theorem m_failures_things (u : MS) (v : Int32) : m_failures (ms_things u v) = m_failures u := rfl
theorem m_failures_bases (u : MS) (v : (Nat → Int32)) : m_failures (ms_bases u v) = m_failures u := rfl
theorem m_failures_depths (u : MS) (v : (Nat → Int32)) : m_failures (ms_depths u v) = m_failures u := rfl
theorem m_failures_sizes (u : MS) (v : (Nat → Int32)) : m_failures (ms_sizes u v) = m_failures u := rfl
theorem m_failures_worths (u : MS) (v : (Nat → Int32)) : m_failures (ms_worths u v) = m_failures u := rfl
theorem m_failures_lies (u : MS) (v : (Nat → Int32)) : m_failures (ms_lies u v) = m_failures u := rfl
theorem m_failures_numbers (u : MS) (v : (Nat → Int64)) : m_failures (ms_numbers u v) = m_failures u := rfl
theorem m_failures_doorBase (u : MS) (v : (Nat → Int32)) : m_failures (ms_doorBase u v) = m_failures u := rfl
theorem m_failures_doorDepth (u : MS) (v : (Nat → Int32)) : m_failures (ms_doorDepth u v) = m_failures u := rfl
theorem m_failures_failures (u : MS) (v : Int32) : m_failures (ms_failures u v) = v := rfl
theorem m_failures_latest (u : MS) (v : Int32) : m_failures (ms_latest u v) = m_failures u := rfl
theorem m_failures_last (u : MS) (v : Int32) : m_failures (ms_last u v) = m_failures u := rfl
theorem m_failures_sums (u : MS) (v : (Nat → Int64)) : m_failures (ms_sums u v) = m_failures u := rfl
theorem m_failures_counts (u : MS) (v : (Nat → Int32)) : m_failures (ms_counts u v) = m_failures u := rfl
theorem m_failures_moved (u : MS) (v : (Nat → Int32)) : m_failures (ms_moved u v) = m_failures u := rfl
theorem m_failures_movedNumbers (u : MS) (v : (Nat → Int64)) : m_failures (ms_movedNumbers u v) = m_failures u := rfl
theorem m_latest_things (u : MS) (v : Int32) : m_latest (ms_things u v) = m_latest u := rfl
theorem m_latest_bases (u : MS) (v : (Nat → Int32)) : m_latest (ms_bases u v) = m_latest u := rfl
theorem m_latest_depths (u : MS) (v : (Nat → Int32)) : m_latest (ms_depths u v) = m_latest u := rfl
theorem m_latest_sizes (u : MS) (v : (Nat → Int32)) : m_latest (ms_sizes u v) = m_latest u := rfl
theorem m_latest_worths (u : MS) (v : (Nat → Int32)) : m_latest (ms_worths u v) = m_latest u := rfl
theorem m_latest_lies (u : MS) (v : (Nat → Int32)) : m_latest (ms_lies u v) = m_latest u := rfl
theorem m_latest_numbers (u : MS) (v : (Nat → Int64)) : m_latest (ms_numbers u v) = m_latest u := rfl
theorem m_latest_doorBase (u : MS) (v : (Nat → Int32)) : m_latest (ms_doorBase u v) = m_latest u := rfl
theorem m_latest_doorDepth (u : MS) (v : (Nat → Int32)) : m_latest (ms_doorDepth u v) = m_latest u := rfl
theorem m_latest_failures (u : MS) (v : Int32) : m_latest (ms_failures u v) = m_latest u := rfl
theorem m_latest_latest (u : MS) (v : Int32) : m_latest (ms_latest u v) = v := rfl
theorem m_latest_last (u : MS) (v : Int32) : m_latest (ms_last u v) = m_latest u := rfl
theorem m_latest_sums (u : MS) (v : (Nat → Int64)) : m_latest (ms_sums u v) = m_latest u := rfl
theorem m_latest_counts (u : MS) (v : (Nat → Int32)) : m_latest (ms_counts u v) = m_latest u := rfl
theorem m_latest_moved (u : MS) (v : (Nat → Int32)) : m_latest (ms_moved u v) = m_latest u := rfl
theorem m_latest_movedNumbers (u : MS) (v : (Nat → Int64)) : m_latest (ms_movedNumbers u v) = m_latest u := rfl
theorem m_last_things (u : MS) (v : Int32) : m_last (ms_things u v) = m_last u := rfl
theorem m_last_bases (u : MS) (v : (Nat → Int32)) : m_last (ms_bases u v) = m_last u := rfl
theorem m_last_depths (u : MS) (v : (Nat → Int32)) : m_last (ms_depths u v) = m_last u := rfl
theorem m_last_sizes (u : MS) (v : (Nat → Int32)) : m_last (ms_sizes u v) = m_last u := rfl
theorem m_last_worths (u : MS) (v : (Nat → Int32)) : m_last (ms_worths u v) = m_last u := rfl
theorem m_last_lies (u : MS) (v : (Nat → Int32)) : m_last (ms_lies u v) = m_last u := rfl
theorem m_last_numbers (u : MS) (v : (Nat → Int64)) : m_last (ms_numbers u v) = m_last u := rfl
theorem m_last_doorBase (u : MS) (v : (Nat → Int32)) : m_last (ms_doorBase u v) = m_last u := rfl
theorem m_last_doorDepth (u : MS) (v : (Nat → Int32)) : m_last (ms_doorDepth u v) = m_last u := rfl
theorem m_last_failures (u : MS) (v : Int32) : m_last (ms_failures u v) = m_last u := rfl
theorem m_last_latest (u : MS) (v : Int32) : m_last (ms_latest u v) = m_last u := rfl
theorem m_last_last (u : MS) (v : Int32) : m_last (ms_last u v) = v := rfl
theorem m_last_sums (u : MS) (v : (Nat → Int64)) : m_last (ms_sums u v) = m_last u := rfl
theorem m_last_counts (u : MS) (v : (Nat → Int32)) : m_last (ms_counts u v) = m_last u := rfl
theorem m_last_moved (u : MS) (v : (Nat → Int32)) : m_last (ms_moved u v) = m_last u := rfl
theorem m_last_movedNumbers (u : MS) (v : (Nat → Int64)) : m_last (ms_movedNumbers u v) = m_last u := rfl
theorem m_sums_things (u : MS) (v : Int32) : m_sums (ms_things u v) = m_sums u := rfl
theorem m_sums_bases (u : MS) (v : (Nat → Int32)) : m_sums (ms_bases u v) = m_sums u := rfl
theorem m_sums_depths (u : MS) (v : (Nat → Int32)) : m_sums (ms_depths u v) = m_sums u := rfl
theorem m_sums_sizes (u : MS) (v : (Nat → Int32)) : m_sums (ms_sizes u v) = m_sums u := rfl
theorem m_sums_worths (u : MS) (v : (Nat → Int32)) : m_sums (ms_worths u v) = m_sums u := rfl
theorem m_sums_lies (u : MS) (v : (Nat → Int32)) : m_sums (ms_lies u v) = m_sums u := rfl
theorem m_sums_numbers (u : MS) (v : (Nat → Int64)) : m_sums (ms_numbers u v) = m_sums u := rfl
theorem m_sums_doorBase (u : MS) (v : (Nat → Int32)) : m_sums (ms_doorBase u v) = m_sums u := rfl
theorem m_sums_doorDepth (u : MS) (v : (Nat → Int32)) : m_sums (ms_doorDepth u v) = m_sums u := rfl
theorem m_sums_failures (u : MS) (v : Int32) : m_sums (ms_failures u v) = m_sums u := rfl
theorem m_sums_latest (u : MS) (v : Int32) : m_sums (ms_latest u v) = m_sums u := rfl
theorem m_sums_last (u : MS) (v : Int32) : m_sums (ms_last u v) = m_sums u := rfl
theorem m_sums_sums (u : MS) (v : (Nat → Int64)) : m_sums (ms_sums u v) = v := rfl
theorem m_sums_counts (u : MS) (v : (Nat → Int32)) : m_sums (ms_counts u v) = m_sums u := rfl
theorem m_sums_moved (u : MS) (v : (Nat → Int32)) : m_sums (ms_moved u v) = m_sums u := rfl
theorem m_sums_movedNumbers (u : MS) (v : (Nat → Int64)) : m_sums (ms_movedNumbers u v) = m_sums u := rfl
theorem m_counts_things (u : MS) (v : Int32) : m_counts (ms_things u v) = m_counts u := rfl
theorem m_counts_bases (u : MS) (v : (Nat → Int32)) : m_counts (ms_bases u v) = m_counts u := rfl
theorem m_counts_depths (u : MS) (v : (Nat → Int32)) : m_counts (ms_depths u v) = m_counts u := rfl
theorem m_counts_sizes (u : MS) (v : (Nat → Int32)) : m_counts (ms_sizes u v) = m_counts u := rfl
theorem m_counts_worths (u : MS) (v : (Nat → Int32)) : m_counts (ms_worths u v) = m_counts u := rfl
theorem m_counts_lies (u : MS) (v : (Nat → Int32)) : m_counts (ms_lies u v) = m_counts u := rfl
theorem m_counts_numbers (u : MS) (v : (Nat → Int64)) : m_counts (ms_numbers u v) = m_counts u := rfl
theorem m_counts_doorBase (u : MS) (v : (Nat → Int32)) : m_counts (ms_doorBase u v) = m_counts u := rfl
theorem m_counts_doorDepth (u : MS) (v : (Nat → Int32)) : m_counts (ms_doorDepth u v) = m_counts u := rfl
theorem m_counts_failures (u : MS) (v : Int32) : m_counts (ms_failures u v) = m_counts u := rfl
theorem m_counts_latest (u : MS) (v : Int32) : m_counts (ms_latest u v) = m_counts u := rfl
theorem m_counts_last (u : MS) (v : Int32) : m_counts (ms_last u v) = m_counts u := rfl
theorem m_counts_sums (u : MS) (v : (Nat → Int64)) : m_counts (ms_sums u v) = m_counts u := rfl
theorem m_counts_counts (u : MS) (v : (Nat → Int32)) : m_counts (ms_counts u v) = v := rfl
theorem m_counts_moved (u : MS) (v : (Nat → Int32)) : m_counts (ms_moved u v) = m_counts u := rfl
theorem m_counts_movedNumbers (u : MS) (v : (Nat → Int64)) : m_counts (ms_movedNumbers u v) = m_counts u := rfl
theorem m_moved_things (u : MS) (v : Int32) : m_moved (ms_things u v) = m_moved u := rfl
theorem m_moved_bases (u : MS) (v : (Nat → Int32)) : m_moved (ms_bases u v) = m_moved u := rfl
theorem m_moved_depths (u : MS) (v : (Nat → Int32)) : m_moved (ms_depths u v) = m_moved u := rfl
theorem m_moved_sizes (u : MS) (v : (Nat → Int32)) : m_moved (ms_sizes u v) = m_moved u := rfl
theorem m_moved_worths (u : MS) (v : (Nat → Int32)) : m_moved (ms_worths u v) = m_moved u := rfl
theorem m_moved_lies (u : MS) (v : (Nat → Int32)) : m_moved (ms_lies u v) = m_moved u := rfl
theorem m_moved_numbers (u : MS) (v : (Nat → Int64)) : m_moved (ms_numbers u v) = m_moved u := rfl
theorem m_moved_doorBase (u : MS) (v : (Nat → Int32)) : m_moved (ms_doorBase u v) = m_moved u := rfl
theorem m_moved_doorDepth (u : MS) (v : (Nat → Int32)) : m_moved (ms_doorDepth u v) = m_moved u := rfl
theorem m_moved_failures (u : MS) (v : Int32) : m_moved (ms_failures u v) = m_moved u := rfl
theorem m_moved_latest (u : MS) (v : Int32) : m_moved (ms_latest u v) = m_moved u := rfl
theorem m_moved_last (u : MS) (v : Int32) : m_moved (ms_last u v) = m_moved u := rfl
theorem m_moved_sums (u : MS) (v : (Nat → Int64)) : m_moved (ms_sums u v) = m_moved u := rfl
theorem m_moved_counts (u : MS) (v : (Nat → Int32)) : m_moved (ms_counts u v) = m_moved u := rfl
theorem m_moved_moved (u : MS) (v : (Nat → Int32)) : m_moved (ms_moved u v) = v := rfl
theorem m_moved_movedNumbers (u : MS) (v : (Nat → Int64)) : m_moved (ms_movedNumbers u v) = m_moved u := rfl
theorem m_movedNumbers_things (u : MS) (v : Int32) : m_movedNumbers (ms_things u v) = m_movedNumbers u := rfl
theorem m_movedNumbers_bases (u : MS) (v : (Nat → Int32)) : m_movedNumbers (ms_bases u v) = m_movedNumbers u := rfl
theorem m_movedNumbers_depths (u : MS) (v : (Nat → Int32)) : m_movedNumbers (ms_depths u v) = m_movedNumbers u := rfl
theorem m_movedNumbers_sizes (u : MS) (v : (Nat → Int32)) : m_movedNumbers (ms_sizes u v) = m_movedNumbers u := rfl
theorem m_movedNumbers_worths (u : MS) (v : (Nat → Int32)) : m_movedNumbers (ms_worths u v) = m_movedNumbers u := rfl
theorem m_movedNumbers_lies (u : MS) (v : (Nat → Int32)) : m_movedNumbers (ms_lies u v) = m_movedNumbers u := rfl
theorem m_movedNumbers_numbers (u : MS) (v : (Nat → Int64)) : m_movedNumbers (ms_numbers u v) = m_movedNumbers u := rfl
theorem m_movedNumbers_doorBase (u : MS) (v : (Nat → Int32)) : m_movedNumbers (ms_doorBase u v) = m_movedNumbers u := rfl
theorem m_movedNumbers_doorDepth (u : MS) (v : (Nat → Int32)) : m_movedNumbers (ms_doorDepth u v) = m_movedNumbers u := rfl
theorem m_movedNumbers_failures (u : MS) (v : Int32) : m_movedNumbers (ms_failures u v) = m_movedNumbers u := rfl
theorem m_movedNumbers_latest (u : MS) (v : Int32) : m_movedNumbers (ms_latest u v) = m_movedNumbers u := rfl
theorem m_movedNumbers_last (u : MS) (v : Int32) : m_movedNumbers (ms_last u v) = m_movedNumbers u := rfl
theorem m_movedNumbers_sums (u : MS) (v : (Nat → Int64)) : m_movedNumbers (ms_sums u v) = m_movedNumbers u := rfl
theorem m_movedNumbers_counts (u : MS) (v : (Nat → Int32)) : m_movedNumbers (ms_counts u v) = m_movedNumbers u := rfl
theorem m_movedNumbers_moved (u : MS) (v : (Nat → Int32)) : m_movedNumbers (ms_moved u v) = m_movedNumbers u := rfl
theorem m_movedNumbers_movedNumbers (u : MS) (v : (Nat → Int64)) : m_movedNumbers (ms_movedNumbers u v) = v := rfl
def fM (ad : Nat → Nat) (u : MS) : List Value := [.int (m_things u), .ref (ad 1), .ref (ad 2), .ref (ad 3), .ref (ad 4), .ref (ad 5), .ref (ad 6), .ref (ad 7), .ref (ad 8), .int (m_failures u), .int (m_latest u), .int (m_last u), .ref (ad 9), .ref (ad 10), .ref (ad 11), .ref (ad 12)]
def wM (ad : Nat → Nat) (ca : Nat → ClassId) (u : MS) : va_W := [(ad 0, .inr (1, fM ad u)), (ad 1, .inl (ca 1, 60, .inl (m_bases u))), (ad 2, .inl (ca 2, 60, .inl (m_depths u))), (ad 3, .inl (ca 3, 60, .inl (m_sizes u))), (ad 4, .inl (ca 4, 60, .inl (m_worths u))), (ad 5, .inl (ca 5, 480, .inl (m_lies u))), (ad 6, .inl (ca 6, 480, .inr (.inl (m_numbers u)))), (ad 7, .inl (ca 7, 8, .inl (m_doorBase u))), (ad 8, .inl (ca 8, 8, .inl (m_doorDepth u))), (ad 9, .inl (ca 9, 60, .inr (.inl (m_sums u)))), (ad 10, .inl (ca 10, 60, .inl (m_counts u))), (ad 11, .inl (ca 11, 8, .inl (m_moved u))), (ad 12, .inl (ca 12, 8, .inr (.inl (m_movedNumbers u))))]
def tM (ca : Nat → ClassId) : List (ClassId × FieldType) := [(ca 1, .int), (ca 2, .int), (ca 3, .int), (ca 4, .int), (ca 5, .int), (ca 6, .long), (ca 7, .int), (ca 8, .int), (ca 9, .long), (ca 10, .int), (ca 11, .int), (ca 12, .long)]
theorem wM_same (ad : Nat → Nat) (ca : Nat → ClassId) (u v : MS) : (wM ad ca u).map (fun q => q.1) = (wM ad ca v).map (fun q => q.1) := rfl
def EnM (p : Program) (s : State) (m : MethodId) (c : Code) (args : Array Value) (cc : ByteArray) (nL : Nat) (meth : Method) (rt : Option FieldType) (D : va_G) (ca : Nat → ClassId) (g : Nat) (A : Nat → Prop) : Prop :=
  CallFix p m c cc nL s args kT RX1 ∧ meth.sig.returnType = rt ∧ meth.locks = false ∧ va_K D kC (tM ca) s ∧ zM g A s s.heap ∧ (∀ q : Nat, s.heap.size ≤ q → A q)
def SM (D : va_G) (ad : Nat → Nat) (ca : Nat → ClassId) (A : Nat → Prop) (s : State) (u : MS) (H : Heap) (locs : List Loc) : Prop := va_P D kC (wM ad ca u) H ∧ va_D A (wM ad ca u) ∧ va_S A s.heap H locs
def PreM (D : va_G) (ad : Nat → Nat) (ca : Nat → ClassId) (g sz : Nat) (u : MS) (U : State) : Prop := U.heap.size = sz ∧ va_P D kC (wM ad ca u) U.heap ∧ va_K D kC (tM ca) U ∧ va_D (fun _ => True) (wM ad ca u) ∧ zM g (va_A (wM ad ca u) sz) U U.heap
def BkM (D : va_G) (ad : Nat → Nat) (ca : Nat → ClassId) (v : MS) (t : State) : Prop := va_P D kC (wM ad ca v) t.heap
/-- contracts: an int (or 0, 1), a long, nothing -/
def CiM (l : Launch) (y : MethodName) (cc : ByteArray) (nL : Nat) (rt : FieldType) (k : Nat) (D : va_G) (ad : Nat → Nat) (ca : Nat → ClassId) (g : Nat) (As : List Value) (u : MS) (rv : Int32 × MS) : Prop :=
  ∀ sz : Nat, Met l y (kW y cc nL (some rt)) (rk k) (va_Pc (.ref (ad 0) :: As) (PreM D ad ca g sz u)) (va_Qi (fun r' v => (r', v) = rv) (BkM D ad ca) (va_A (wM ad ca u) sz)) 0 0 (va_A (wM ad ca u) sz)
def ClM (l : Launch) (y : MethodName) (cc : ByteArray) (nL : Nat) (k : Nat) (D : va_G) (ad : Nat → Nat) (ca : Nat → ClassId) (g : Nat) (As : List Value) (u : MS) (rv : Int64 × MS) : Prop :=
  ∀ sz : Nat, Met l y (kW y cc nL (some .long)) (rk k) (va_Pc (.ref (ad 0) :: As) (PreM D ad ca g sz u)) (va_Ql (fun r' v => (r', v) = rv) (BkM D ad ca) (va_A (wM ad ca u) sz)) 0 0 (va_A (wM ad ca u) sz)
def CvM (l : Launch) (y : MethodName) (cc : ByteArray) (nL : Nat) (k : Nat) (D : va_G) (ad : Nat → Nat) (ca : Nat → ClassId) (g : Nat) (As : List Value) (u u' : MS) : Prop :=
  ∀ sz : Nat, Met l y (kW y cc nL none) (rk k) (va_Pc (.ref (ad 0) :: As) (PreM D ad ca g sz u)) (va_Qv (fun v => v = u') (BkM D ad ca) (va_A (wM ad ca u) sz)) 0 0 (va_A (wM ad ca u) sz)
section RowsM
variable {p : Program} {l : Launch} {e : Env} {R : Room} {s : State} {m : MethodId} {args : Array Value} {below : List Frame} {meth : Method} {c : Code} {H : Heap} {locs : List Loc} {cells slots : Nat} {Q : State → Prop}
variable {cc : ByteArray} {pc nL : Nat} {rt : Option FieldType} {ls : Array Slot} {D : va_G} {ad : Nat → Nat} {ca : Nat → ClassId} {g : Nat} {A : Nat → Prop} {u : MS}
theorem zM_at (E : EnM p s m c args cc nL meth rt D ca g A) (S : SM D ad ca A s u H locs) {B : Nat → Prop} (hB : ∀ q, B q → A q) {U : State} (hU : U.heap = H) (hvm : s.vm.Alike U.vm) : zM g B U U.heap := by
  rw [hU]
  exact ((E.2.2.2.2.1.kept S.2.2.2.1).narrow hB).moved hvm
theorem frM (E : EnM p s m c args cc nL meth rt D ca g A) (S : SM D ad ca A s u H locs) : ∀ q, va_A (wM ad ca u) H.size q → A q :=
  va_free (wc := wM ad ca u) S.2.1 S.2.2 E.2.2.2.2.2 [0, 1, 2, 3, 4, 5, 6, 7, 8, 9, 10, 11, 12] rfl
theorem CiM.of {y : MethodName} {k : Nat} {As : List Value} {rv : Int32 × MS} {rt1 : FieldType} (hy : plainName y.cls = true) (hyc : y.cls = RX1) (hlen : (lg_sl (.ref (ad 0) :: As)).length ≤ nL)
    (body : ∀ (p : Program) (e : Env) (s : State) (m : MethodId) (below : List Frame) (meth : Method) (c : Code) (A : Nat → Prop) (ls : Array Slot), EnM p s m c (Value.ref (ad 0) :: As).toArray cc nL meth (some rt1) D ca g A → SM D ad ca A s u s.heap [] → lv_has ls nL (lv_args 0 (.ref (ad 0) :: As)) → W p l e (rk k) s m (Value.ref (ad 0) :: As).toArray below meth c s.heap [] 0 0 (MQ below (va_Qi (fun r' v => (r', v) = rv) (BkM D ad ca) A) (Value.ref (ad 0) :: As).toArray s 0 0 A) (F0 m 0 ls [])) : CiM l y cc nL rt1 k D ad ca g As u rv := by
  intro sz
  refine Met.ofW (cc := cc) (maxL := nL) (ret := (some rt1)) hy rfl ?_
  intro p e s m args below meth c s₁ B hml hv
  obtain ⟨rfl, hsz, hP, hK, hD0, hZ⟩ := hv
  have hts := atoms_spec (ws := kW y cc nL (some rt1)) B.pre
  have hown := findClass_of_methodNamed B.named
  rw [hyc] at hown
  subst hsz
  have hl := lv_entry (.ref (ad 0) :: As) (n := nL) hlen
  rw [lg_entry_eq]
  generalize (lg_sl (.ref (ad 0) :: As) ++ List.replicate (nL - (lg_sl (.ref (ad 0) :: As)).length) Slot.unset).toArray = ls at hl ⊢
  exact body p e s m below meth c _ ls ⟨⟨B.exec, B.bytes, hml, hown, fun w h => hts w (List.mem_cons_of_mem _ h)⟩, B.returns, B.notSynchronized, hK, hZ, fun q h => Or.inr h⟩ ⟨hP, hD0.self, va_S.rf⟩ hl
theorem EnM.iret {rt1 : FieldType} {r : Int32} {v : MS} {rv : Int32 × MS} (E : EnM p s m c args cc nL meth (some rt1) D ca g A) (S : SM D ad ca A s v H locs) (hn : ni rt1 r) (h : (r, v) = rv) (hdg : decode cc pc = .ok (.ireturn, 1)) : W p l e R s m args below meth c H locs 0 0 (MQ below (va_Qi (fun r' v => (r', v) = rv) (BkM D ad ca) A) args s 0 0 A) (F0 m pc ls [.int r]) :=
  W.zret E.1.1 E.1.2.1 E.2.1 hn (fun t ht _ => ⟨⟨r, v, rfl, h, show va_P D kC (wM ad ca v) t.heap by rw [ht]; exact S.1⟩, S.2.2.F ht⟩) S.2.2.2.2 hdg E.2.2.1
theorem EnM.calli {y : MethodName} {cc2 : ByteArray} {nL2 j idx : Nat} {rt2 : FieldType} {r : Int32} {u2 : MS} {st : List Value} (E : EnM p s m c args cc nL meth rt D ca g A) (S : SM D ad ca A s u H locs) (As rest : List Value) (hM : CiM l y cc2 nL2 rt2 j D ad ca g As u (r, u2)) (hG : GoodIn kT (wsV RX1 idx RX1 y (kW y cc2 nL2 (some rt2))))
    (hd : y.cls = RX1 ∧ y.cls ≠ "java/lang/invoke/MethodHandle" ∧ y.cls ≠ "java/lang/invoke/VarHandle" ∧ (parseMethodDescriptor y.desc).map (fun d => d.parameters.length) = some As.length) (hR : (rk j).frames + 1 ≤ R.frames ∧ 8 + (nL2 + 11) + (rk j).locals ≤ R.locals) (hst : st = As.reverse ++ .ref (ad 0) :: rest) (hsize : ls.size = nL) (hroom : (rest.map fun v => v.category).sum ≤ 8) (hc : cells ≤ R.cells ∧ slots ≤ R.slots) (hdg : decode cc pc = .ok (.invokevirtual idx, 3))
    (kk : ∀ (H1 : Heap) (locs1 : List Loc), SM D ad ca A s u2 H1 locs1 → W p l e R s m args below meth c H1 locs1 cells slots Q (F0 m (pc + 3) ls (.int r :: rest))) : W p l e R s m args below meth c H locs cells slots Q (F0 m pc ls st) := by
  have hF := frM E S
  refine va_calli (va_runV (As := As) (rest := rest) E.1 (hM H.size) (cwV As.length E.1.2.2.2.2 hG rfl rfl rfl hd hR) ⟨fun a U g mk q => ?_, va_recv E.2.2.2.1 S.1 (ci := 1) (q0 := 0) rfl rfl, fun U hU hW => ⟨rfl, by rw [hU], by rw [hU]; exact S.1, va_K.moved hW.alike E.2.2.2.1, S.2.1.weaken (fun _ _ _ _ => trivial), zM_at E S hF hU hW.alike⟩⟩ rfl rfl hsize hst (lv_room hroom) hdg hc) S.2.2 (fun q _ h => hF q h) hF (fun r1 v t H1 locs1 ht hvm hw hB hz1 hk1 hS1 => ?_)
  · obtain ⟨q0, q1, qP, qK, qD, qZ⟩ := q
    exact ⟨q0, q1, qP, va_K.moved (u := U) (U := U.calling g mk a) (Vm.Alike.refl U.vm) qK, qD, zM.moved (u := U) (U := U.calling g mk a) (Vm.Alike.refl U.vm) qZ⟩
  · obtain ⟨rfl, rfl⟩ := Prod.mk.inj hw
    refine kk H1 locs1 ⟨?_, dd_same (wM_same ad ca u _) S.2.1, hS1⟩
    rw [← ht]
    exact hB
theorem ClM.of {y : MethodName} {k : Nat} {As : List Value} {rv : Int64 × MS} (hy : plainName y.cls = true) (hyc : y.cls = RX1) (hlen : (lg_sl (.ref (ad 0) :: As)).length ≤ nL)
    (body : ∀ (p : Program) (e : Env) (s : State) (m : MethodId) (below : List Frame) (meth : Method) (c : Code) (A : Nat → Prop) (ls : Array Slot), EnM p s m c (Value.ref (ad 0) :: As).toArray cc nL meth (some .long) D ca g A → SM D ad ca A s u s.heap [] → lv_has ls nL (lv_args 0 (.ref (ad 0) :: As)) → W p l e (rk k) s m (Value.ref (ad 0) :: As).toArray below meth c s.heap [] 0 0 (MQ below (va_Ql (fun r' v => (r', v) = rv) (BkM D ad ca) A) (Value.ref (ad 0) :: As).toArray s 0 0 A) (F0 m 0 ls [])) : ClM l y cc nL k D ad ca g As u rv := by
  intro sz
  refine Met.ofW (cc := cc) (maxL := nL) (ret := (some .long)) hy rfl ?_
  intro p e s m args below meth c s₁ B hml hv
  obtain ⟨rfl, hsz, hP, hK, hD0, hZ⟩ := hv
  have hts := atoms_spec (ws := kW y cc nL (some .long)) B.pre
  have hown := findClass_of_methodNamed B.named
  rw [hyc] at hown
  subst hsz
  have hl := lv_entry (.ref (ad 0) :: As) (n := nL) hlen
  rw [lg_entry_eq]
  generalize (lg_sl (.ref (ad 0) :: As) ++ List.replicate (nL - (lg_sl (.ref (ad 0) :: As)).length) Slot.unset).toArray = ls at hl ⊢
  exact body p e s m below meth c _ ls ⟨⟨B.exec, B.bytes, hml, hown, fun w h => hts w (List.mem_cons_of_mem _ h)⟩, B.returns, B.notSynchronized, hK, hZ, fun q h => Or.inr h⟩ ⟨hP, hD0.self, va_S.rf⟩ hl
theorem EnM.lret {r : Int64} {v : MS} {rv : Int64 × MS} (E : EnM p s m c args cc nL meth (some .long) D ca g A) (S : SM D ad ca A s v H locs) (h : (r, v) = rv) (hdg : decode cc pc = .ok (.lreturn, 1)) : W p l e R s m args below meth c H locs 0 0 (MQ below (va_Ql (fun r' v => (r', v) = rv) (BkM D ad ca) A) args s 0 0 A) (F0 m pc ls [.long r]) :=
  W.lret E.1.1 E.1.2.1 E.2.1 (fun t ht _ => ⟨⟨r, v, rfl, h, show va_P D kC (wM ad ca v) t.heap by rw [ht]; exact S.1⟩, S.2.2.F ht⟩) S.2.2.2.2 hdg E.2.2.1
theorem EnM.calll {y : MethodName} {cc2 : ByteArray} {nL2 j idx : Nat} {r : Int64} {u2 : MS} {st : List Value} (E : EnM p s m c args cc nL meth rt D ca g A) (S : SM D ad ca A s u H locs) (As rest : List Value) (hM : ClM l y cc2 nL2 j D ad ca g As u (r, u2)) (hG : GoodIn kT (wsV RX1 idx RX1 y (kW y cc2 nL2 (some .long))))
    (hd : y.cls = RX1 ∧ y.cls ≠ "java/lang/invoke/MethodHandle" ∧ y.cls ≠ "java/lang/invoke/VarHandle" ∧ (parseMethodDescriptor y.desc).map (fun d => d.parameters.length) = some As.length) (hR : (rk j).frames + 1 ≤ R.frames ∧ 8 + (nL2 + 11) + (rk j).locals ≤ R.locals) (hst : st = As.reverse ++ .ref (ad 0) :: rest) (hsize : ls.size = nL) (hroom : (rest.map fun v => v.category).sum ≤ 8) (hc : cells ≤ R.cells ∧ slots ≤ R.slots) (hdg : decode cc pc = .ok (.invokevirtual idx, 3))
    (kk : ∀ (H1 : Heap) (locs1 : List Loc), SM D ad ca A s u2 H1 locs1 → W p l e R s m args below meth c H1 locs1 cells slots Q (F0 m (pc + 3) ls (.long r :: rest))) : W p l e R s m args below meth c H locs cells slots Q (F0 m pc ls st) := by
  have hF := frM E S
  refine va_calll (va_runV (As := As) (rest := rest) E.1 (hM H.size) (cwV As.length E.1.2.2.2.2 hG rfl rfl rfl hd hR) ⟨fun a U g mk q => ?_, va_recv E.2.2.2.1 S.1 (ci := 1) (q0 := 0) rfl rfl, fun U hU hW => ⟨rfl, by rw [hU], by rw [hU]; exact S.1, va_K.moved hW.alike E.2.2.2.1, S.2.1.weaken (fun _ _ _ _ => trivial), zM_at E S hF hU hW.alike⟩⟩ rfl rfl hsize hst (lv_room hroom) hdg hc) S.2.2 (fun q _ h => hF q h) hF (fun r1 v t H1 locs1 ht hvm hw hB hz1 hk1 hS1 => ?_)
  · obtain ⟨q0, q1, qP, qK, qD, qZ⟩ := q
    exact ⟨q0, q1, qP, va_K.moved (u := U) (U := U.calling g mk a) (Vm.Alike.refl U.vm) qK, qD, zM.moved (u := U) (U := U.calling g mk a) (Vm.Alike.refl U.vm) qZ⟩
  · obtain ⟨rfl, rfl⟩ := Prod.mk.inj hw
    refine kk H1 locs1 ⟨?_, dd_same (wM_same ad ca u _) S.2.1, hS1⟩
    rw [← ht]
    exact hB
theorem CvM.of {y : MethodName} {k : Nat} {As : List Value} {u2 : MS} (hy : plainName y.cls = true) (hyc : y.cls = RX1) (hlen : (lg_sl (.ref (ad 0) :: As)).length ≤ nL)
    (body : ∀ (p : Program) (e : Env) (s : State) (m : MethodId) (below : List Frame) (meth : Method) (c : Code) (A : Nat → Prop) (ls : Array Slot), EnM p s m c (Value.ref (ad 0) :: As).toArray cc nL meth none D ca g A → SM D ad ca A s u s.heap [] → lv_has ls nL (lv_args 0 (.ref (ad 0) :: As)) → W p l e (rk k) s m (Value.ref (ad 0) :: As).toArray below meth c s.heap [] 0 0 (MQ below (va_Qv (fun v => v = u2) (BkM D ad ca) A) (Value.ref (ad 0) :: As).toArray s 0 0 A) (F0 m 0 ls [])) : CvM l y cc nL k D ad ca g As u u2 := by
  intro sz
  refine Met.ofW (cc := cc) (maxL := nL) (ret := none) hy rfl ?_
  intro p e s m args below meth c s₁ B hml hv
  obtain ⟨rfl, hsz, hP, hK, hD0, hZ⟩ := hv
  have hts := atoms_spec (ws := kW y cc nL none) B.pre
  have hown := findClass_of_methodNamed B.named
  rw [hyc] at hown
  subst hsz
  have hl := lv_entry (.ref (ad 0) :: As) (n := nL) hlen
  rw [lg_entry_eq]
  generalize (lg_sl (.ref (ad 0) :: As) ++ List.replicate (nL - (lg_sl (.ref (ad 0) :: As)).length) Slot.unset).toArray = ls at hl ⊢
  exact body p e s m below meth c _ ls ⟨⟨B.exec, B.bytes, hml, hown, fun w h => hts w (List.mem_cons_of_mem _ h)⟩, B.returns, B.notSynchronized, hK, hZ, fun q h => Or.inr h⟩ ⟨hP, hD0.self, va_S.rf⟩ hl
theorem EnM.vret {v u2 : MS} (E : EnM p s m c args cc nL meth none D ca g A) (S : SM D ad ca A s v H locs) (h : v = u2) (hdg : decode cc pc = .ok (.return_, 1)) : W p l e R s m args below meth c H locs 0 0 (MQ below (va_Qv (fun v => v = u2) (BkM D ad ca) A) args s 0 0 A) (F0 m pc ls []) :=
  W.vret E.1.1 E.1.2.1 E.2.1 (fun t ht _ => ⟨⟨v, rfl, h, show va_P D kC (wM ad ca v) t.heap by rw [ht]; exact S.1⟩, S.2.2.F ht⟩) S.2.2.2.2 hdg E.2.2.1
theorem EnM.callv {y : MethodName} {cc2 : ByteArray} {nL2 j idx : Nat} {u2 : MS} {st : List Value} (E : EnM p s m c args cc nL meth rt D ca g A) (S : SM D ad ca A s u H locs) (As rest : List Value) (hM : CvM l y cc2 nL2 j D ad ca g As u u2) (hG : GoodIn kT (wsV RX1 idx RX1 y (kW y cc2 nL2 none)))
    (hd : y.cls = RX1 ∧ y.cls ≠ "java/lang/invoke/MethodHandle" ∧ y.cls ≠ "java/lang/invoke/VarHandle" ∧ (parseMethodDescriptor y.desc).map (fun d => d.parameters.length) = some As.length) (hR : (rk j).frames + 1 ≤ R.frames ∧ 8 + (nL2 + 11) + (rk j).locals ≤ R.locals) (hst : st = As.reverse ++ .ref (ad 0) :: rest) (hsize : ls.size = nL) (hroom : (rest.map fun v => v.category).sum ≤ 8) (hc : cells ≤ R.cells ∧ slots ≤ R.slots) (hdg : decode cc pc = .ok (.invokevirtual idx, 3))
    (kk : ∀ (H1 : Heap) (locs1 : List Loc), SM D ad ca A s u2 H1 locs1 → W p l e R s m args below meth c H1 locs1 cells slots Q (F0 m (pc + 3) ls (rest))) : W p l e R s m args below meth c H locs cells slots Q (F0 m pc ls st) := by
  have hF := frM E S
  refine va_callv (va_runV (As := As) (rest := rest) E.1 (hM H.size) (cwV As.length E.1.2.2.2.2 hG rfl rfl rfl hd hR) ⟨fun a U g mk q => ?_, va_recv E.2.2.2.1 S.1 (ci := 1) (q0 := 0) rfl rfl, fun U hU hW => ⟨rfl, by rw [hU], by rw [hU]; exact S.1, va_K.moved hW.alike E.2.2.2.1, S.2.1.weaken (fun _ _ _ _ => trivial), zM_at E S hF hU hW.alike⟩⟩ rfl rfl hsize hst (lv_room hroom) hdg hc) S.2.2 (fun q _ h => hF q h) hF (fun v t H1 locs1 ht hvm hw hB hz1 hk1 hS1 => ?_)
  · obtain ⟨q0, q1, qP, qK, qD, qZ⟩ := q
    exact ⟨q0, q1, qP, va_K.moved (u := U) (U := U.calling g mk a) (Vm.Alike.refl U.vm) qK, qD, zM.moved (u := U) (U := U.calling g mk a) (Vm.Alike.refl U.vm) qZ⟩
  · subst hw
    refine kk H1 locs1 ⟨?_, dd_same (wM_same ad ca u _) S.2.1, hS1⟩
    rw [← ht]
    exact hB
theorem EnM.sti {y : MethodName} {cc2 : ByteArray} {nL2 j idx : Nat} {rt2 : FieldType} {Z : State → Prop} {r : Int32} {st : List Value} (E : EnM p s m c args cc nL meth rt D ca g A) (S : SM D ad ca A s u H locs) (As rest : List Value) (hM : Cs l y cc2 nL2 rt2 j Z As r) (hZb : ∀ (a : Array Value) (U : State) (g : JFrame) (mk : MethodId), Z U → Z (U.calling g mk a)) (hZ : ∀ U : State, U.heap = H → s.vm.Alike U.vm → Z U) (hG : GoodIn kT (va_wsS RX1 idx y (kW y cc2 nL2 (some rt2))))
    (hd : y.cls ≠ "java/lang/invoke/MethodHandle" ∧ y.cls ≠ "java/lang/invoke/VarHandle" ∧ (parseMethodDescriptor y.desc).map (fun d => d.parameters.length) = some As.length) (hR : (rk j).frames + 1 ≤ R.frames ∧ 8 + (nL2 + 11) + (rk j).locals ≤ R.locals) (hst : st = As.reverse ++ rest) (hsize : ls.size = nL) (hroom : (rest.map fun v => v.category).sum ≤ 8) (hc : cells ≤ R.cells ∧ slots ≤ R.slots) (hdg : decode cc pc = .ok (.invokestatic idx, 3))
    (kk : ∀ (H1 : Heap) (locs1 : List Loc), SM D ad ca A s u H1 locs1 → W p l e R s m args below meth c H1 locs1 cells slots Q (F0 m (pc + 3) ls (.int r :: rest))) : W p l e R s m args below meth c H locs cells slots Q (F0 m pc ls st) := by
  refine va_calli (A0 := A) (va_runS (As := As) (rest := rest) E.1 hM (va_cwS As.length E.1.2.2.2.2 hG rfl rfl rfl hd hR) ⟨fun a U g mk q => ⟨q.1, hZb a U g mk q.2⟩, fun U hU hW => ⟨rfl, hZ U hU hW.alike⟩⟩ rfl rfl hsize hst (lv_room hroom) hdg hc) S.2.2 (fun q _ h => h.elim) (fun q h => h.elim) (fun r1 v t H1 locs1 ht hvm hw hB hz1 hk1 hS1 => ?_)
  subst hw
  exact kk H1 locs1 ⟨S.1.kept (fun k q hq => hk1 q.1 ((S.1 k q hq).lt) (fun h => h)), S.2.1, hS1⟩
theorem gM_things {v : Int32} {rest : List Value} (E : EnM p s m c args cc nL meth rt D ca g A) (S : SM D ad ca A s u H locs) (hv : m_things u = v) (hdg : decode cc pc = .ok (.getfield 57, 3)) (kk : W p l e R s m args below meth c H locs cells slots Q (F0 m (pc + 3) ls (.int v :: rest))) : W p l e R s m args below meth c H locs cells slots Q (F0 m pc ls (.ref (ad 0) :: rest)) := by
  subst hv
  exact va_get (D := D) (ci := 1) (v := .int (m_things u)) (C := RX1) (T := TX1) (N := 16) E.1.1 E.1.2.1 E.1.2.2.2.2 wI_X1 E.1.2.2.2.1 E.2.2.2.1 S.1 0 rfl rfl 0 (by decide) (E.1.2.2.2.2 _ wf_X1_57) (fun _ h9 => h9) rfl hdg kk
theorem pM_things {v : Int32} {rest : List Value} (E : EnM p s m c args cc nL meth rt D ca g A) (S : SM D ad ca A s u H locs) (hdg : decode cc pc = .ok (.putfield 57, 3)) (kk : ∀ (H1 : Heap) (locs1 : List Loc), SM D ad ca A s (ms_things u v) H1 locs1 → W p l e R s m args below meth c H1 locs1 cells slots Q (F0 m (pc + 3) ls rest)) : W p l e R s m args below meth c H locs cells slots Q (F0 m pc ls (.int v :: .ref (ad 0) :: rest)) :=
  va_put (D := D) (ci := 1) (v := .int v) (ty := .int) (C := RX1) (T := TX1) (N := 16) E.1.1 E.1.2.1 E.1.2.2.2.2 wI_X1 tyX1 tyX1_ok nmX1 E.1.2.2.2.1 E.2.2.2.1 S.1 S.2.1 S.2.2 0 rfl rfl 0 (by decide) (E.1.2.2.2.2 _ wf_X1_57) (fun _ h9 => h9) rfl (by decide +kernel) rfl rfl (Nat.le_of_ble_eq_true rfl) hdg (fun H1 locs1 hP hD hS => kk H1 locs1 ⟨hP, hD, hS⟩)
theorem gM_bases {rest : List Value} (E : EnM p s m c args cc nL meth rt D ca g A) (S : SM D ad ca A s u H locs) (hdg : decode cc pc = .ok (.getfield 7, 3)) (kk : W p l e R s m args below meth c H locs cells slots Q (F0 m (pc + 3) ls (.ref (ad 1) :: rest))) : W p l e R s m args below meth c H locs cells slots Q (F0 m pc ls (.ref (ad 0) :: rest)) := by
  exact va_get (D := D) (ci := 1) (v := .ref (ad 1)) (C := RX1) (T := TX1) (N := 16) E.1.1 E.1.2.1 E.1.2.2.2.2 wI_X1 E.1.2.2.2.1 E.2.2.2.1 S.1 0 rfl rfl 1 (by decide) (E.1.2.2.2.2 _ wf_X1_7) (fun _ h9 => h9) rfl hdg kk
theorem lM_bases {i : Int32} {v : Int32} {rest : List Value} (E : EnM p s m c args cc nL meth rt D ca g A) (S : SM D ad ca A s u H locs) (hin : vp_in i 60) (hv : m_bases u i.toNatClampNeg = v) (hdg : decode cc pc = .ok (.iaload, 1)) (kk : W p l e R s m args below meth c H locs cells slots Q (F0 m (pc + 1) ls (.int v :: rest))) : W p l e R s m args below meth c H locs cells slots Q (F0 m pc ls (.int i :: .ref (ad 1) :: rest)) := by
  subst hv
  exact va_iald E.1.1 E.1.2.1 E.2.2.2.1 S.1 1 0 rfl rfl hin hdg kk
theorem sM_bases {i : Int32} {v : Int32} {rest : List Value} (E : EnM p s m c args cc nL meth rt D ca g A) (S : SM D ad ca A s u H locs) (hin : vp_in i 60) (hdg : decode cc pc = .ok (.iastore, 1)) (kk : ∀ (H1 : Heap) (locs1 : List Loc), SM D ad ca A s (ms_bases u (upd (m_bases u) i.toNatClampNeg v)) H1 locs1 → W p l e R s m args below meth c H1 locs1 cells slots Q (F0 m (pc + 1) ls rest)) : W p l e R s m args below meth c H locs cells slots Q (F0 m pc ls (.int v :: .int i :: .ref (ad 1) :: rest)) :=
  va_iast E.1.1 E.1.2.1 E.2.2.2.1 S.1 S.2.1 S.2.2 1 0 rfl rfl hin hdg (fun H1 locs1 hP hD hS => kk H1 locs1 ⟨hP, hD, hS⟩)
theorem gM_depths {rest : List Value} (E : EnM p s m c args cc nL meth rt D ca g A) (S : SM D ad ca A s u H locs) (hdg : decode cc pc = .ok (.getfield 13, 3)) (kk : W p l e R s m args below meth c H locs cells slots Q (F0 m (pc + 3) ls (.ref (ad 2) :: rest))) : W p l e R s m args below meth c H locs cells slots Q (F0 m pc ls (.ref (ad 0) :: rest)) := by
  exact va_get (D := D) (ci := 1) (v := .ref (ad 2)) (C := RX1) (T := TX1) (N := 16) E.1.1 E.1.2.1 E.1.2.2.2.2 wI_X1 E.1.2.2.2.1 E.2.2.2.1 S.1 0 rfl rfl 2 (by decide) (E.1.2.2.2.2 _ wf_X1_13) (fun _ h9 => h9) rfl hdg kk
theorem lM_depths {i : Int32} {v : Int32} {rest : List Value} (E : EnM p s m c args cc nL meth rt D ca g A) (S : SM D ad ca A s u H locs) (hin : vp_in i 60) (hv : m_depths u i.toNatClampNeg = v) (hdg : decode cc pc = .ok (.iaload, 1)) (kk : W p l e R s m args below meth c H locs cells slots Q (F0 m (pc + 1) ls (.int v :: rest))) : W p l e R s m args below meth c H locs cells slots Q (F0 m pc ls (.int i :: .ref (ad 2) :: rest)) := by
  subst hv
  exact va_iald E.1.1 E.1.2.1 E.2.2.2.1 S.1 2 1 rfl rfl hin hdg kk
theorem sM_depths {i : Int32} {v : Int32} {rest : List Value} (E : EnM p s m c args cc nL meth rt D ca g A) (S : SM D ad ca A s u H locs) (hin : vp_in i 60) (hdg : decode cc pc = .ok (.iastore, 1)) (kk : ∀ (H1 : Heap) (locs1 : List Loc), SM D ad ca A s (ms_depths u (upd (m_depths u) i.toNatClampNeg v)) H1 locs1 → W p l e R s m args below meth c H1 locs1 cells slots Q (F0 m (pc + 1) ls rest)) : W p l e R s m args below meth c H locs cells slots Q (F0 m pc ls (.int v :: .int i :: .ref (ad 2) :: rest)) :=
  va_iast E.1.1 E.1.2.1 E.2.2.2.1 S.1 S.2.1 S.2.2 2 1 rfl rfl hin hdg (fun H1 locs1 hP hD hS => kk H1 locs1 ⟨hP, hD, hS⟩)
theorem gM_sizes {rest : List Value} (E : EnM p s m c args cc nL meth rt D ca g A) (S : SM D ad ca A s u H locs) (hdg : decode cc pc = .ok (.getfield 16, 3)) (kk : W p l e R s m args below meth c H locs cells slots Q (F0 m (pc + 3) ls (.ref (ad 3) :: rest))) : W p l e R s m args below meth c H locs cells slots Q (F0 m pc ls (.ref (ad 0) :: rest)) := by
  exact va_get (D := D) (ci := 1) (v := .ref (ad 3)) (C := RX1) (T := TX1) (N := 16) E.1.1 E.1.2.1 E.1.2.2.2.2 wI_X1 E.1.2.2.2.1 E.2.2.2.1 S.1 0 rfl rfl 3 (by decide) (E.1.2.2.2.2 _ wf_X1_16) (fun _ h9 => h9) rfl hdg kk
theorem lM_sizes {i : Int32} {v : Int32} {rest : List Value} (E : EnM p s m c args cc nL meth rt D ca g A) (S : SM D ad ca A s u H locs) (hin : vp_in i 60) (hv : m_sizes u i.toNatClampNeg = v) (hdg : decode cc pc = .ok (.iaload, 1)) (kk : W p l e R s m args below meth c H locs cells slots Q (F0 m (pc + 1) ls (.int v :: rest))) : W p l e R s m args below meth c H locs cells slots Q (F0 m pc ls (.int i :: .ref (ad 3) :: rest)) := by
  subst hv
  exact va_iald E.1.1 E.1.2.1 E.2.2.2.1 S.1 3 2 rfl rfl hin hdg kk
theorem sM_sizes {i : Int32} {v : Int32} {rest : List Value} (E : EnM p s m c args cc nL meth rt D ca g A) (S : SM D ad ca A s u H locs) (hin : vp_in i 60) (hdg : decode cc pc = .ok (.iastore, 1)) (kk : ∀ (H1 : Heap) (locs1 : List Loc), SM D ad ca A s (ms_sizes u (upd (m_sizes u) i.toNatClampNeg v)) H1 locs1 → W p l e R s m args below meth c H1 locs1 cells slots Q (F0 m (pc + 1) ls rest)) : W p l e R s m args below meth c H locs cells slots Q (F0 m pc ls (.int v :: .int i :: .ref (ad 3) :: rest)) :=
  va_iast E.1.1 E.1.2.1 E.2.2.2.1 S.1 S.2.1 S.2.2 3 2 rfl rfl hin hdg (fun H1 locs1 hP hD hS => kk H1 locs1 ⟨hP, hD, hS⟩)
theorem gM_worths {rest : List Value} (E : EnM p s m c args cc nL meth rt D ca g A) (S : SM D ad ca A s u H locs) (hdg : decode cc pc = .ok (.getfield 19, 3)) (kk : W p l e R s m args below meth c H locs cells slots Q (F0 m (pc + 3) ls (.ref (ad 4) :: rest))) : W p l e R s m args below meth c H locs cells slots Q (F0 m pc ls (.ref (ad 0) :: rest)) := by
  exact va_get (D := D) (ci := 1) (v := .ref (ad 4)) (C := RX1) (T := TX1) (N := 16) E.1.1 E.1.2.1 E.1.2.2.2.2 wI_X1 E.1.2.2.2.1 E.2.2.2.1 S.1 0 rfl rfl 4 (by decide) (E.1.2.2.2.2 _ wf_X1_19) (fun _ h9 => h9) rfl hdg kk
theorem lM_worths {i : Int32} {v : Int32} {rest : List Value} (E : EnM p s m c args cc nL meth rt D ca g A) (S : SM D ad ca A s u H locs) (hin : vp_in i 60) (hv : m_worths u i.toNatClampNeg = v) (hdg : decode cc pc = .ok (.iaload, 1)) (kk : W p l e R s m args below meth c H locs cells slots Q (F0 m (pc + 1) ls (.int v :: rest))) : W p l e R s m args below meth c H locs cells slots Q (F0 m pc ls (.int i :: .ref (ad 4) :: rest)) := by
  subst hv
  exact va_iald E.1.1 E.1.2.1 E.2.2.2.1 S.1 4 3 rfl rfl hin hdg kk
theorem sM_worths {i : Int32} {v : Int32} {rest : List Value} (E : EnM p s m c args cc nL meth rt D ca g A) (S : SM D ad ca A s u H locs) (hin : vp_in i 60) (hdg : decode cc pc = .ok (.iastore, 1)) (kk : ∀ (H1 : Heap) (locs1 : List Loc), SM D ad ca A s (ms_worths u (upd (m_worths u) i.toNatClampNeg v)) H1 locs1 → W p l e R s m args below meth c H1 locs1 cells slots Q (F0 m (pc + 1) ls rest)) : W p l e R s m args below meth c H locs cells slots Q (F0 m pc ls (.int v :: .int i :: .ref (ad 4) :: rest)) :=
  va_iast E.1.1 E.1.2.1 E.2.2.2.1 S.1 S.2.1 S.2.2 4 3 rfl rfl hin hdg (fun H1 locs1 hP hD hS => kk H1 locs1 ⟨hP, hD, hS⟩)
theorem gM_lies {rest : List Value} (E : EnM p s m c args cc nL meth rt D ca g A) (S : SM D ad ca A s u H locs) (hdg : decode cc pc = .ok (.getfield 22, 3)) (kk : W p l e R s m args below meth c H locs cells slots Q (F0 m (pc + 3) ls (.ref (ad 5) :: rest))) : W p l e R s m args below meth c H locs cells slots Q (F0 m pc ls (.ref (ad 0) :: rest)) := by
  exact va_get (D := D) (ci := 1) (v := .ref (ad 5)) (C := RX1) (T := TX1) (N := 16) E.1.1 E.1.2.1 E.1.2.2.2.2 wI_X1 E.1.2.2.2.1 E.2.2.2.1 S.1 0 rfl rfl 5 (by decide) (E.1.2.2.2.2 _ wf_X1_22) (fun _ h9 => h9) rfl hdg kk
theorem lM_lies {i : Int32} {v : Int32} {rest : List Value} (E : EnM p s m c args cc nL meth rt D ca g A) (S : SM D ad ca A s u H locs) (hin : vp_in i 480) (hv : m_lies u i.toNatClampNeg = v) (hdg : decode cc pc = .ok (.iaload, 1)) (kk : W p l e R s m args below meth c H locs cells slots Q (F0 m (pc + 1) ls (.int v :: rest))) : W p l e R s m args below meth c H locs cells slots Q (F0 m pc ls (.int i :: .ref (ad 5) :: rest)) := by
  subst hv
  exact va_iald E.1.1 E.1.2.1 E.2.2.2.1 S.1 5 4 rfl rfl hin hdg kk
theorem sM_lies {i : Int32} {v : Int32} {rest : List Value} (E : EnM p s m c args cc nL meth rt D ca g A) (S : SM D ad ca A s u H locs) (hin : vp_in i 480) (hdg : decode cc pc = .ok (.iastore, 1)) (kk : ∀ (H1 : Heap) (locs1 : List Loc), SM D ad ca A s (ms_lies u (upd (m_lies u) i.toNatClampNeg v)) H1 locs1 → W p l e R s m args below meth c H1 locs1 cells slots Q (F0 m (pc + 1) ls rest)) : W p l e R s m args below meth c H locs cells slots Q (F0 m pc ls (.int v :: .int i :: .ref (ad 5) :: rest)) :=
  va_iast E.1.1 E.1.2.1 E.2.2.2.1 S.1 S.2.1 S.2.2 5 4 rfl rfl hin hdg (fun H1 locs1 hP hD hS => kk H1 locs1 ⟨hP, hD, hS⟩)
theorem gM_numbers {rest : List Value} (E : EnM p s m c args cc nL meth rt D ca g A) (S : SM D ad ca A s u H locs) (hdg : decode cc pc = .ok (.getfield 25, 3)) (kk : W p l e R s m args below meth c H locs cells slots Q (F0 m (pc + 3) ls (.ref (ad 6) :: rest))) : W p l e R s m args below meth c H locs cells slots Q (F0 m pc ls (.ref (ad 0) :: rest)) := by
  exact va_get (D := D) (ci := 1) (v := .ref (ad 6)) (C := RX1) (T := TX1) (N := 16) E.1.1 E.1.2.1 E.1.2.2.2.2 wI_X1 E.1.2.2.2.1 E.2.2.2.1 S.1 0 rfl rfl 6 (by decide) (E.1.2.2.2.2 _ wf_X1_25) (fun _ h9 => h9) rfl hdg kk
theorem lM_numbers {i : Int32} {v : Int64} {rest : List Value} (E : EnM p s m c args cc nL meth rt D ca g A) (S : SM D ad ca A s u H locs) (hin : vp_in i 480) (hv : m_numbers u i.toNatClampNeg = v) (hdg : decode cc pc = .ok (.laload, 1)) (kk : W p l e R s m args below meth c H locs cells slots Q (F0 m (pc + 1) ls (.long v :: rest))) : W p l e R s m args below meth c H locs cells slots Q (F0 m pc ls (.int i :: .ref (ad 6) :: rest)) := by
  subst hv
  exact va_lald E.1.1 E.1.2.1 E.2.2.2.1 S.1 6 5 rfl rfl hin hdg kk
theorem sM_numbers {i : Int32} {v : Int64} {rest : List Value} (E : EnM p s m c args cc nL meth rt D ca g A) (S : SM D ad ca A s u H locs) (hin : vp_in i 480) (hdg : decode cc pc = .ok (.lastore, 1)) (kk : ∀ (H1 : Heap) (locs1 : List Loc), SM D ad ca A s (ms_numbers u (vp_updL (m_numbers u) i.toNatClampNeg v)) H1 locs1 → W p l e R s m args below meth c H1 locs1 cells slots Q (F0 m (pc + 1) ls rest)) : W p l e R s m args below meth c H locs cells slots Q (F0 m pc ls (.long v :: .int i :: .ref (ad 6) :: rest)) :=
  va_last E.1.1 E.1.2.1 E.2.2.2.1 S.1 S.2.1 S.2.2 6 5 rfl rfl hin hdg (fun H1 locs1 hP hD hS => kk H1 locs1 ⟨hP, hD, hS⟩)
theorem gM_doorBase {rest : List Value} (E : EnM p s m c args cc nL meth rt D ca g A) (S : SM D ad ca A s u H locs) (hdg : decode cc pc = .ok (.getfield 29, 3)) (kk : W p l e R s m args below meth c H locs cells slots Q (F0 m (pc + 3) ls (.ref (ad 7) :: rest))) : W p l e R s m args below meth c H locs cells slots Q (F0 m pc ls (.ref (ad 0) :: rest)) := by
  exact va_get (D := D) (ci := 1) (v := .ref (ad 7)) (C := RX1) (T := TX1) (N := 16) E.1.1 E.1.2.1 E.1.2.2.2.2 wI_X1 E.1.2.2.2.1 E.2.2.2.1 S.1 0 rfl rfl 7 (by decide) (E.1.2.2.2.2 _ wf_X1_29) (fun _ h9 => h9) rfl hdg kk
theorem lM_doorBase {i : Int32} {v : Int32} {rest : List Value} (E : EnM p s m c args cc nL meth rt D ca g A) (S : SM D ad ca A s u H locs) (hin : vp_in i 8) (hv : m_doorBase u i.toNatClampNeg = v) (hdg : decode cc pc = .ok (.iaload, 1)) (kk : W p l e R s m args below meth c H locs cells slots Q (F0 m (pc + 1) ls (.int v :: rest))) : W p l e R s m args below meth c H locs cells slots Q (F0 m pc ls (.int i :: .ref (ad 7) :: rest)) := by
  subst hv
  exact va_iald E.1.1 E.1.2.1 E.2.2.2.1 S.1 7 6 rfl rfl hin hdg kk
theorem sM_doorBase {i : Int32} {v : Int32} {rest : List Value} (E : EnM p s m c args cc nL meth rt D ca g A) (S : SM D ad ca A s u H locs) (hin : vp_in i 8) (hdg : decode cc pc = .ok (.iastore, 1)) (kk : ∀ (H1 : Heap) (locs1 : List Loc), SM D ad ca A s (ms_doorBase u (upd (m_doorBase u) i.toNatClampNeg v)) H1 locs1 → W p l e R s m args below meth c H1 locs1 cells slots Q (F0 m (pc + 1) ls rest)) : W p l e R s m args below meth c H locs cells slots Q (F0 m pc ls (.int v :: .int i :: .ref (ad 7) :: rest)) :=
  va_iast E.1.1 E.1.2.1 E.2.2.2.1 S.1 S.2.1 S.2.2 7 6 rfl rfl hin hdg (fun H1 locs1 hP hD hS => kk H1 locs1 ⟨hP, hD, hS⟩)
theorem gM_doorDepth {rest : List Value} (E : EnM p s m c args cc nL meth rt D ca g A) (S : SM D ad ca A s u H locs) (hdg : decode cc pc = .ok (.getfield 32, 3)) (kk : W p l e R s m args below meth c H locs cells slots Q (F0 m (pc + 3) ls (.ref (ad 8) :: rest))) : W p l e R s m args below meth c H locs cells slots Q (F0 m pc ls (.ref (ad 0) :: rest)) := by
  exact va_get (D := D) (ci := 1) (v := .ref (ad 8)) (C := RX1) (T := TX1) (N := 16) E.1.1 E.1.2.1 E.1.2.2.2.2 wI_X1 E.1.2.2.2.1 E.2.2.2.1 S.1 0 rfl rfl 8 (by decide) (E.1.2.2.2.2 _ wf_X1_32) (fun _ h9 => h9) rfl hdg kk
theorem lM_doorDepth {i : Int32} {v : Int32} {rest : List Value} (E : EnM p s m c args cc nL meth rt D ca g A) (S : SM D ad ca A s u H locs) (hin : vp_in i 8) (hv : m_doorDepth u i.toNatClampNeg = v) (hdg : decode cc pc = .ok (.iaload, 1)) (kk : W p l e R s m args below meth c H locs cells slots Q (F0 m (pc + 1) ls (.int v :: rest))) : W p l e R s m args below meth c H locs cells slots Q (F0 m pc ls (.int i :: .ref (ad 8) :: rest)) := by
  subst hv
  exact va_iald E.1.1 E.1.2.1 E.2.2.2.1 S.1 8 7 rfl rfl hin hdg kk
theorem sM_doorDepth {i : Int32} {v : Int32} {rest : List Value} (E : EnM p s m c args cc nL meth rt D ca g A) (S : SM D ad ca A s u H locs) (hin : vp_in i 8) (hdg : decode cc pc = .ok (.iastore, 1)) (kk : ∀ (H1 : Heap) (locs1 : List Loc), SM D ad ca A s (ms_doorDepth u (upd (m_doorDepth u) i.toNatClampNeg v)) H1 locs1 → W p l e R s m args below meth c H1 locs1 cells slots Q (F0 m (pc + 1) ls rest)) : W p l e R s m args below meth c H locs cells slots Q (F0 m pc ls (.int v :: .int i :: .ref (ad 8) :: rest)) :=
  va_iast E.1.1 E.1.2.1 E.2.2.2.1 S.1 S.2.1 S.2.2 8 7 rfl rfl hin hdg (fun H1 locs1 hP hD hS => kk H1 locs1 ⟨hP, hD, hS⟩)
theorem gM_failures {v : Int32} {rest : List Value} (E : EnM p s m c args cc nL meth rt D ca g A) (S : SM D ad ca A s u H locs) (hv : m_failures u = v) (hdg : decode cc pc = .ok (.getfield 51, 3)) (kk : W p l e R s m args below meth c H locs cells slots Q (F0 m (pc + 3) ls (.int v :: rest))) : W p l e R s m args below meth c H locs cells slots Q (F0 m pc ls (.ref (ad 0) :: rest)) := by
  subst hv
  exact va_get (D := D) (ci := 1) (v := .int (m_failures u)) (C := RX1) (T := TX1) (N := 16) E.1.1 E.1.2.1 E.1.2.2.2.2 wI_X1 E.1.2.2.2.1 E.2.2.2.1 S.1 0 rfl rfl 9 (by decide) (E.1.2.2.2.2 _ wf_X1_51) (fun _ h9 => h9) rfl hdg kk
theorem pM_failures {v : Int32} {rest : List Value} (E : EnM p s m c args cc nL meth rt D ca g A) (S : SM D ad ca A s u H locs) (hdg : decode cc pc = .ok (.putfield 51, 3)) (kk : ∀ (H1 : Heap) (locs1 : List Loc), SM D ad ca A s (ms_failures u v) H1 locs1 → W p l e R s m args below meth c H1 locs1 cells slots Q (F0 m (pc + 3) ls rest)) : W p l e R s m args below meth c H locs cells slots Q (F0 m pc ls (.int v :: .ref (ad 0) :: rest)) :=
  va_put (D := D) (ci := 1) (v := .int v) (ty := .int) (C := RX1) (T := TX1) (N := 16) E.1.1 E.1.2.1 E.1.2.2.2.2 wI_X1 tyX1 tyX1_ok nmX1 E.1.2.2.2.1 E.2.2.2.1 S.1 S.2.1 S.2.2 0 rfl rfl 9 (by decide) (E.1.2.2.2.2 _ wf_X1_51) (fun _ h9 => h9) rfl (by decide +kernel) rfl rfl (Nat.le_of_ble_eq_true rfl) hdg (fun H1 locs1 hP hD hS => kk H1 locs1 ⟨hP, hD, hS⟩)
theorem gM_latest {v : Int32} {rest : List Value} (E : EnM p s m c args cc nL meth rt D ca g A) (S : SM D ad ca A s u H locs) (hv : m_latest u = v) (hdg : decode cc pc = .ok (.getfield 54, 3)) (kk : W p l e R s m args below meth c H locs cells slots Q (F0 m (pc + 3) ls (.int v :: rest))) : W p l e R s m args below meth c H locs cells slots Q (F0 m pc ls (.ref (ad 0) :: rest)) := by
  subst hv
  exact va_get (D := D) (ci := 1) (v := .int (m_latest u)) (C := RX1) (T := TX1) (N := 16) E.1.1 E.1.2.1 E.1.2.2.2.2 wI_X1 E.1.2.2.2.1 E.2.2.2.1 S.1 0 rfl rfl 10 (by decide) (E.1.2.2.2.2 _ wf_X1_54) (fun _ h9 => h9) rfl hdg kk
theorem pM_latest {v : Int32} {rest : List Value} (E : EnM p s m c args cc nL meth rt D ca g A) (S : SM D ad ca A s u H locs) (hdg : decode cc pc = .ok (.putfield 54, 3)) (kk : ∀ (H1 : Heap) (locs1 : List Loc), SM D ad ca A s (ms_latest u v) H1 locs1 → W p l e R s m args below meth c H1 locs1 cells slots Q (F0 m (pc + 3) ls rest)) : W p l e R s m args below meth c H locs cells slots Q (F0 m pc ls (.int v :: .ref (ad 0) :: rest)) :=
  va_put (D := D) (ci := 1) (v := .int v) (ty := .int) (C := RX1) (T := TX1) (N := 16) E.1.1 E.1.2.1 E.1.2.2.2.2 wI_X1 tyX1 tyX1_ok nmX1 E.1.2.2.2.1 E.2.2.2.1 S.1 S.2.1 S.2.2 0 rfl rfl 10 (by decide) (E.1.2.2.2.2 _ wf_X1_54) (fun _ h9 => h9) rfl (by decide +kernel) rfl rfl (Nat.le_of_ble_eq_true rfl) hdg (fun H1 locs1 hP hD hS => kk H1 locs1 ⟨hP, hD, hS⟩)
theorem gM_last {v : Int32} {rest : List Value} (E : EnM p s m c args cc nL meth rt D ca g A) (S : SM D ad ca A s u H locs) (hv : m_last u = v) (hdg : decode cc pc = .ok (.getfield 35, 3)) (kk : W p l e R s m args below meth c H locs cells slots Q (F0 m (pc + 3) ls (.int v :: rest))) : W p l e R s m args below meth c H locs cells slots Q (F0 m pc ls (.ref (ad 0) :: rest)) := by
  subst hv
  exact va_get (D := D) (ci := 1) (v := .int (m_last u)) (C := RX1) (T := TX1) (N := 16) E.1.1 E.1.2.1 E.1.2.2.2.2 wI_X1 E.1.2.2.2.1 E.2.2.2.1 S.1 0 rfl rfl 11 (by decide) (E.1.2.2.2.2 _ wf_X1_35) (fun _ h9 => h9) rfl hdg kk
theorem pM_last {v : Int32} {rest : List Value} (E : EnM p s m c args cc nL meth rt D ca g A) (S : SM D ad ca A s u H locs) (hdg : decode cc pc = .ok (.putfield 35, 3)) (kk : ∀ (H1 : Heap) (locs1 : List Loc), SM D ad ca A s (ms_last u v) H1 locs1 → W p l e R s m args below meth c H1 locs1 cells slots Q (F0 m (pc + 3) ls rest)) : W p l e R s m args below meth c H locs cells slots Q (F0 m pc ls (.int v :: .ref (ad 0) :: rest)) :=
  va_put (D := D) (ci := 1) (v := .int v) (ty := .int) (C := RX1) (T := TX1) (N := 16) E.1.1 E.1.2.1 E.1.2.2.2.2 wI_X1 tyX1 tyX1_ok nmX1 E.1.2.2.2.1 E.2.2.2.1 S.1 S.2.1 S.2.2 0 rfl rfl 11 (by decide) (E.1.2.2.2.2 _ wf_X1_35) (fun _ h9 => h9) rfl (by decide +kernel) rfl rfl (Nat.le_of_ble_eq_true rfl) hdg (fun H1 locs1 hP hD hS => kk H1 locs1 ⟨hP, hD, hS⟩)
theorem gM_sums {rest : List Value} (E : EnM p s m c args cc nL meth rt D ca g A) (S : SM D ad ca A s u H locs) (hdg : decode cc pc = .ok (.getfield 39, 3)) (kk : W p l e R s m args below meth c H locs cells slots Q (F0 m (pc + 3) ls (.ref (ad 9) :: rest))) : W p l e R s m args below meth c H locs cells slots Q (F0 m pc ls (.ref (ad 0) :: rest)) := by
  exact va_get (D := D) (ci := 1) (v := .ref (ad 9)) (C := RX1) (T := TX1) (N := 16) E.1.1 E.1.2.1 E.1.2.2.2.2 wI_X1 E.1.2.2.2.1 E.2.2.2.1 S.1 0 rfl rfl 12 (by decide) (E.1.2.2.2.2 _ wf_X1_39) (fun _ h9 => h9) rfl hdg kk
theorem lM_sums {i : Int32} {v : Int64} {rest : List Value} (E : EnM p s m c args cc nL meth rt D ca g A) (S : SM D ad ca A s u H locs) (hin : vp_in i 60) (hv : m_sums u i.toNatClampNeg = v) (hdg : decode cc pc = .ok (.laload, 1)) (kk : W p l e R s m args below meth c H locs cells slots Q (F0 m (pc + 1) ls (.long v :: rest))) : W p l e R s m args below meth c H locs cells slots Q (F0 m pc ls (.int i :: .ref (ad 9) :: rest)) := by
  subst hv
  exact va_lald E.1.1 E.1.2.1 E.2.2.2.1 S.1 9 8 rfl rfl hin hdg kk
theorem sM_sums {i : Int32} {v : Int64} {rest : List Value} (E : EnM p s m c args cc nL meth rt D ca g A) (S : SM D ad ca A s u H locs) (hin : vp_in i 60) (hdg : decode cc pc = .ok (.lastore, 1)) (kk : ∀ (H1 : Heap) (locs1 : List Loc), SM D ad ca A s (ms_sums u (vp_updL (m_sums u) i.toNatClampNeg v)) H1 locs1 → W p l e R s m args below meth c H1 locs1 cells slots Q (F0 m (pc + 1) ls rest)) : W p l e R s m args below meth c H locs cells slots Q (F0 m pc ls (.long v :: .int i :: .ref (ad 9) :: rest)) :=
  va_last E.1.1 E.1.2.1 E.2.2.2.1 S.1 S.2.1 S.2.2 9 8 rfl rfl hin hdg (fun H1 locs1 hP hD hS => kk H1 locs1 ⟨hP, hD, hS⟩)
theorem gM_counts {rest : List Value} (E : EnM p s m c args cc nL meth rt D ca g A) (S : SM D ad ca A s u H locs) (hdg : decode cc pc = .ok (.getfield 42, 3)) (kk : W p l e R s m args below meth c H locs cells slots Q (F0 m (pc + 3) ls (.ref (ad 10) :: rest))) : W p l e R s m args below meth c H locs cells slots Q (F0 m pc ls (.ref (ad 0) :: rest)) := by
  exact va_get (D := D) (ci := 1) (v := .ref (ad 10)) (C := RX1) (T := TX1) (N := 16) E.1.1 E.1.2.1 E.1.2.2.2.2 wI_X1 E.1.2.2.2.1 E.2.2.2.1 S.1 0 rfl rfl 13 (by decide) (E.1.2.2.2.2 _ wf_X1_42) (fun _ h9 => h9) rfl hdg kk
theorem lM_counts {i : Int32} {v : Int32} {rest : List Value} (E : EnM p s m c args cc nL meth rt D ca g A) (S : SM D ad ca A s u H locs) (hin : vp_in i 60) (hv : m_counts u i.toNatClampNeg = v) (hdg : decode cc pc = .ok (.iaload, 1)) (kk : W p l e R s m args below meth c H locs cells slots Q (F0 m (pc + 1) ls (.int v :: rest))) : W p l e R s m args below meth c H locs cells slots Q (F0 m pc ls (.int i :: .ref (ad 10) :: rest)) := by
  subst hv
  exact va_iald E.1.1 E.1.2.1 E.2.2.2.1 S.1 10 9 rfl rfl hin hdg kk
theorem sM_counts {i : Int32} {v : Int32} {rest : List Value} (E : EnM p s m c args cc nL meth rt D ca g A) (S : SM D ad ca A s u H locs) (hin : vp_in i 60) (hdg : decode cc pc = .ok (.iastore, 1)) (kk : ∀ (H1 : Heap) (locs1 : List Loc), SM D ad ca A s (ms_counts u (upd (m_counts u) i.toNatClampNeg v)) H1 locs1 → W p l e R s m args below meth c H1 locs1 cells slots Q (F0 m (pc + 1) ls rest)) : W p l e R s m args below meth c H locs cells slots Q (F0 m pc ls (.int v :: .int i :: .ref (ad 10) :: rest)) :=
  va_iast E.1.1 E.1.2.1 E.2.2.2.1 S.1 S.2.1 S.2.2 10 9 rfl rfl hin hdg (fun H1 locs1 hP hD hS => kk H1 locs1 ⟨hP, hD, hS⟩)
theorem gM_moved {rest : List Value} (E : EnM p s m c args cc nL meth rt D ca g A) (S : SM D ad ca A s u H locs) (hdg : decode cc pc = .ok (.getfield 45, 3)) (kk : W p l e R s m args below meth c H locs cells slots Q (F0 m (pc + 3) ls (.ref (ad 11) :: rest))) : W p l e R s m args below meth c H locs cells slots Q (F0 m pc ls (.ref (ad 0) :: rest)) := by
  exact va_get (D := D) (ci := 1) (v := .ref (ad 11)) (C := RX1) (T := TX1) (N := 16) E.1.1 E.1.2.1 E.1.2.2.2.2 wI_X1 E.1.2.2.2.1 E.2.2.2.1 S.1 0 rfl rfl 14 (by decide) (E.1.2.2.2.2 _ wf_X1_45) (fun _ h9 => h9) rfl hdg kk
theorem lM_moved {i : Int32} {v : Int32} {rest : List Value} (E : EnM p s m c args cc nL meth rt D ca g A) (S : SM D ad ca A s u H locs) (hin : vp_in i 8) (hv : m_moved u i.toNatClampNeg = v) (hdg : decode cc pc = .ok (.iaload, 1)) (kk : W p l e R s m args below meth c H locs cells slots Q (F0 m (pc + 1) ls (.int v :: rest))) : W p l e R s m args below meth c H locs cells slots Q (F0 m pc ls (.int i :: .ref (ad 11) :: rest)) := by
  subst hv
  exact va_iald E.1.1 E.1.2.1 E.2.2.2.1 S.1 11 10 rfl rfl hin hdg kk
theorem sM_moved {i : Int32} {v : Int32} {rest : List Value} (E : EnM p s m c args cc nL meth rt D ca g A) (S : SM D ad ca A s u H locs) (hin : vp_in i 8) (hdg : decode cc pc = .ok (.iastore, 1)) (kk : ∀ (H1 : Heap) (locs1 : List Loc), SM D ad ca A s (ms_moved u (upd (m_moved u) i.toNatClampNeg v)) H1 locs1 → W p l e R s m args below meth c H1 locs1 cells slots Q (F0 m (pc + 1) ls rest)) : W p l e R s m args below meth c H locs cells slots Q (F0 m pc ls (.int v :: .int i :: .ref (ad 11) :: rest)) :=
  va_iast E.1.1 E.1.2.1 E.2.2.2.1 S.1 S.2.1 S.2.2 11 10 rfl rfl hin hdg (fun H1 locs1 hP hD hS => kk H1 locs1 ⟨hP, hD, hS⟩)
theorem gM_movedNumbers {rest : List Value} (E : EnM p s m c args cc nL meth rt D ca g A) (S : SM D ad ca A s u H locs) (hdg : decode cc pc = .ok (.getfield 48, 3)) (kk : W p l e R s m args below meth c H locs cells slots Q (F0 m (pc + 3) ls (.ref (ad 12) :: rest))) : W p l e R s m args below meth c H locs cells slots Q (F0 m pc ls (.ref (ad 0) :: rest)) := by
  exact va_get (D := D) (ci := 1) (v := .ref (ad 12)) (C := RX1) (T := TX1) (N := 16) E.1.1 E.1.2.1 E.1.2.2.2.2 wI_X1 E.1.2.2.2.1 E.2.2.2.1 S.1 0 rfl rfl 15 (by decide) (E.1.2.2.2.2 _ wf_X1_48) (fun _ h9 => h9) rfl hdg kk
theorem lM_movedNumbers {i : Int32} {v : Int64} {rest : List Value} (E : EnM p s m c args cc nL meth rt D ca g A) (S : SM D ad ca A s u H locs) (hin : vp_in i 8) (hv : m_movedNumbers u i.toNatClampNeg = v) (hdg : decode cc pc = .ok (.laload, 1)) (kk : W p l e R s m args below meth c H locs cells slots Q (F0 m (pc + 1) ls (.long v :: rest))) : W p l e R s m args below meth c H locs cells slots Q (F0 m pc ls (.int i :: .ref (ad 12) :: rest)) := by
  subst hv
  exact va_lald E.1.1 E.1.2.1 E.2.2.2.1 S.1 12 11 rfl rfl hin hdg kk
theorem sM_movedNumbers {i : Int32} {v : Int64} {rest : List Value} (E : EnM p s m c args cc nL meth rt D ca g A) (S : SM D ad ca A s u H locs) (hin : vp_in i 8) (hdg : decode cc pc = .ok (.lastore, 1)) (kk : ∀ (H1 : Heap) (locs1 : List Loc), SM D ad ca A s (ms_movedNumbers u (vp_updL (m_movedNumbers u) i.toNatClampNeg v)) H1 locs1 → W p l e R s m args below meth c H1 locs1 cells slots Q (F0 m (pc + 1) ls rest)) : W p l e R s m args below meth c H locs cells slots Q (F0 m pc ls (.long v :: .int i :: .ref (ad 12) :: rest)) :=
  va_last E.1.1 E.1.2.1 E.2.2.2.1 S.1 S.2.1 S.2.2 12 11 rfl rfl hin hdg (fun H1 locs1 hP hD hS => kk H1 locs1 ⟨hP, hD, hS⟩)
end RowsM
