/-! the law's loop, its start, the claim -/
set_option maxRecDepth 100000 in
set_option maxHeartbeats 4000000 in
theorem law_loop {p : Program} {e : Env} {s : State} {m : MethodId} {below : List Frame} {meth : Method} {c : Code} {D : va_G} {ad : Nat → Nat} {ca : Nat → ClassId} {bd : Nat → Nat} {cb : Nat → ClassId} {g b L : Nat} {xs : Nat → Int32} (l : Launch) (hL : L ≤ 3072) (E : EnL p s m c b L xs D ca cb g) (hr : meth.sig.returnType = ret) (hlocks : meth.locks = false) : ∀ (n i : Nat) (u : XS) (v : MS) (x3 : Int32), x3 = nI i → i ≤ L + 6 → L + 6 - i < n → RR u v → ∀ (H : Heap) (locs : List Loc) (ls : Array Slot), SL D ad ca bd cb s u v H locs → lv_has ls 4 [(0, .ref b), (1, .ref (ad 0)), (2, .ref (bd 0)), (3, .int x3)] → W p l e room_1 s m #[Value.ref b] below meth c H locs 600000 7302249 (lw_Z below #[Value.ref b] s) (F0 m 18 ls []) := by
  have hx := E.1.1
  have hb := E.1.2.1
  have hown := E.1.2.2.2.1
  have hts := E.1.2.2.2.2
  have hbA : ¬ AL s b := Nat.not_le.mpr E.2.2.2.2
  intro n
  induction n with
  | zero => intro i u v x3 hx3 hi hn; exfalso; omega
  | succ n ih =>
    intro i u v x3 hx3 hi hn R H locs ls hS hl
    have e3 : x3.toInt = (i : Int) := by rw [hx3]; exact nI_toInt (by omega)
    have eL : (Int32.ofNat L).toInt = (L : Int) := nI_toInt (n := L) (by omega)
    have e6 : (6 : Int32).toInt = 6 := by decide
    have eL6 : (Int32.ofNat L - 6).toInt = (L : Int) - 6 := by rw [ti_sub (by rw [e6]; omega) (by rw [e6]; omega), eL, e6]
    refine lv_iload_n hx hb dL_law_18 rfl (lv_at hl 3 rfl) ?_
    refine lv_aload_n hx hb dL_law_19 rfl (lv_at hl 0 rfl) ?_
    refine va_slen hx hb E.2.2.2.1 E.2.2.2.2 hbA hS.2.2 dL_law_20 ?_
    refine lv_bipush (v := 6) hx hb dL_law_21 (by decide) ?_
    refine lv_isub hx hb dL_law_23 ?_
    refine lv_icmp_gt (tgt := 799) hx hb dL_law_24 (by decide) (fun h24 => ?_) (fun h24 => ?_)
    · refine lv_iconst (v := 1) hx hb dL_law_799 (by decide) ?_
      refine va_forget (fun q hq => hS.2.2.2.2 q hq) ?_
      exact lw_ret hx hb hr hlocks dL_law_800
    · rw [lt_ti, eL6, e3] at h24
      have hq : ∀ k : Int32, 0 ≤ k.toInt → k.toInt ≤ 5 → vp_in (x3 + k) L := by
        intro k h0 h5
        rw [vp_in_iff, ti_add (by omega) (by omega), e3]
        omega
      have hq0 : vp_in x3 L := by rw [vp_in_iff, e3]; omega
      have kk : ∀ (u2 : XS) (v2 : MS) (H : Heap) (locs : List Loc), RR u2 v2 → SL D ad ca bd cb s u2 v2 H locs → W p l e room_1 s m #[Value.ref b] below meth c H locs 600000 7302249 (lw_Z below #[Value.ref b] s) (F0 m 793 ls []) := by
        intro u2 v2 H locs R hS
        refine lv_iinc (v := x3 + 6) (lv' := [(3, .int (x3 + 6)), (0, .ref b), (1, .ref (ad 0)), (2, .ref (bd 0))]) hx hb dL_law_793 hl (k := 3) rfl rfl (by decide) rfl (fun ls hl => ?_)
        refine lv_goto (tgt := 18) hx hb dL_law_796 (by decide) ?_
        exact ih (i + 6) u2 v2 (x3 + 6) (by rw [hx3]; exact nI_add i 6) (by omega) (by omega) R H locs ls hS (lv_sub hl [1, 2, 3, 0] rfl)
      refine lv_aload_n hx hb dL_law_27 rfl (lv_at hl 0 rfl) ?_
      refine lv_iload_n hx hb dL_law_28 rfl (lv_at hl 3 rfl) ?_
      refine va_sld hx hb E.2.2.2.1 E.2.2.2.2 hbA hS.2.2 hq0 dL_law_29 ?_
      refine lv_bipush (v := 31) hx hb dL_law_30 (by decide) ?_
      refine lv_iand hx hb dL_law_32 ?_
      by_cases h_0 : ((xs x3.toNatClampNeg) &&& 31) = 0
      · refine lv_tableIn (off := 91) (tgt := 124) hx hb dL_law_33 (by rw [h_0]; decide) (by rw [h_0]; decide) (by rw [h_0]; rfl) (by decide) ?_
        exact lc_124 l E R hq hS hl kk
      by_cases h_1 : ((xs x3.toNatClampNeg) &&& 31) = 1
      · refine lv_tableIn (off := 124) (tgt := 157) hx hb dL_law_33 (by rw [h_1]; decide) (by rw [h_1]; decide) (by rw [h_1]; rfl) (by decide) ?_
        exact lc_157 l E R hq hS hl kk
      by_cases h_2 : ((xs x3.toNatClampNeg) &&& 31) = 2
      · refine lv_tableIn (off := 167) (tgt := 200) hx hb dL_law_33 (by rw [h_2]; decide) (by rw [h_2]; decide) (by rw [h_2]; rfl) (by decide) ?_
        exact lc_200 l E R hq hS hl kk
      by_cases h_3 : ((xs x3.toNatClampNeg) &&& 31) = 3
      · refine lv_tableIn (off := 210) (tgt := 243) hx hb dL_law_33 (by rw [h_3]; decide) (by rw [h_3]; decide) (by rw [h_3]; rfl) (by decide) ?_
        exact lc_243 l E R hq hS hl kk
      by_cases h_4 : ((xs x3.toNatClampNeg) &&& 31) = 4
      · refine lv_tableIn (off := 253) (tgt := 286) hx hb dL_law_33 (by rw [h_4]; decide) (by rw [h_4]; decide) (by rw [h_4]; rfl) (by decide) ?_
        exact lc_286 l E R hq hS hl kk
      by_cases h_5 : ((xs x3.toNatClampNeg) &&& 31) = 5
      · refine lv_tableIn (off := 286) (tgt := 319) hx hb dL_law_33 (by rw [h_5]; decide) (by rw [h_5]; decide) (by rw [h_5]; rfl) (by decide) ?_
        exact lc_319 l E R hq hS hl kk
      by_cases h_6 : ((xs x3.toNatClampNeg) &&& 31) = 6
      · refine lv_tableIn (off := 359) (tgt := 392) hx hb dL_law_33 (by rw [h_6]; decide) (by rw [h_6]; decide) (by rw [h_6]; rfl) (by decide) ?_
        exact lc_392 l E R hq hS hl kk
      by_cases h_7 : ((xs x3.toNatClampNeg) &&& 31) = 7
      · refine lv_tableIn (off := 393) (tgt := 426) hx hb dL_law_33 (by rw [h_7]; decide) (by rw [h_7]; decide) (by rw [h_7]; rfl) (by decide) ?_
        exact lc_426 l E R hq hS hl kk
      by_cases h_8 : ((xs x3.toNatClampNeg) &&& 31) = 8
      · refine lv_tableIn (off := 436) (tgt := 469) hx hb dL_law_33 (by rw [h_8]; decide) (by rw [h_8]; decide) (by rw [h_8]; rfl) (by decide) ?_
        exact lc_469 l E R hq hS hl kk
      by_cases h_9 : ((xs x3.toNatClampNeg) &&& 31) = 9
      · refine lv_tableIn (off := 479) (tgt := 512) hx hb dL_law_33 (by rw [h_9]; decide) (by rw [h_9]; decide) (by rw [h_9]; rfl) (by decide) ?_
        exact lc_512 l E R hq hS hl kk
      by_cases h_10 : ((xs x3.toNatClampNeg) &&& 31) = 10
      · refine lv_tableIn (off := 522) (tgt := 555) hx hb dL_law_33 (by rw [h_10]; decide) (by rw [h_10]; decide) (by rw [h_10]; rfl) (by decide) ?_
        exact lc_555 l E R hq hS hl kk
      by_cases h_11 : ((xs x3.toNatClampNeg) &&& 31) = 11
      · refine lv_tableIn (off := 535) (tgt := 568) hx hb dL_law_33 (by rw [h_11]; decide) (by rw [h_11]; decide) (by rw [h_11]; rfl) (by decide) ?_
        exact lc_568 l E R hq hS hl kk
      by_cases h_12 : ((xs x3.toNatClampNeg) &&& 31) = 12
      · refine lv_tableIn (off := 559) (tgt := 592) hx hb dL_law_33 (by rw [h_12]; decide) (by rw [h_12]; decide) (by rw [h_12]; rfl) (by decide) ?_
        exact lc_592 l E R hq hS hl kk
      by_cases h_13 : ((xs x3.toNatClampNeg) &&& 31) = 13
      · refine lv_tableIn (off := 582) (tgt := 615) hx hb dL_law_33 (by rw [h_13]; decide) (by rw [h_13]; decide) (by rw [h_13]; rfl) (by decide) ?_
        exact lc_615 l E R hq hS hl kk
      by_cases h_14 : ((xs x3.toNatClampNeg) &&& 31) = 14
      · refine lv_tableIn (off := 645) (tgt := 678) hx hb dL_law_33 (by rw [h_14]; decide) (by rw [h_14]; decide) (by rw [h_14]; rfl) (by decide) ?_
        exact lc_678 l E R hq hS hl kk
      by_cases h_15 : ((xs x3.toNatClampNeg) &&& 31) = 15
      · refine lv_tableIn (off := 668) (tgt := 701) hx hb dL_law_33 (by rw [h_15]; decide) (by rw [h_15]; decide) (by rw [h_15]; rfl) (by decide) ?_
        exact lc_701 l E R hq hS hl kk
      by_cases h_16 : ((xs x3.toNatClampNeg) &&& 31) = 16
      · refine lv_tableIn (off := 701) (tgt := 734) hx hb dL_law_33 (by rw [h_16]; decide) (by rw [h_16]; decide) (by rw [h_16]; rfl) (by decide) ?_
        exact lc_734 l E R hq hS hl kk
      by_cases h_17 : ((xs x3.toNatClampNeg) &&& 31) = 17
      · refine lv_tableIn (off := 724) (tgt := 757) hx hb dL_law_33 (by rw [h_17]; decide) (by rw [h_17]; decide) (by rw [h_17]; rfl) (by decide) ?_
        exact lc_757 l E R hq hS hl kk
      by_cases h_18 : ((xs x3.toNatClampNeg) &&& 31) = 18
      · refine lv_tableIn (off := 747) (tgt := 780) hx hb dL_law_33 (by rw [h_18]; decide) (by rw [h_18]; decide) (by rw [h_18]; rfl) (by decide) ?_
        exact lc_780 l E R hq hS hl kk
      have n_0 := lv_neT h_0 (a := 0) (by decide)
      have n_1 := lv_neT h_1 (a := 1) (by decide)
      have n_2 := lv_neT h_2 (a := 2) (by decide)
      have n_3 := lv_neT h_3 (a := 3) (by decide)
      have n_4 := lv_neT h_4 (a := 4) (by decide)
      have n_5 := lv_neT h_5 (a := 5) (by decide)
      have n_6 := lv_neT h_6 (a := 6) (by decide)
      have n_7 := lv_neT h_7 (a := 7) (by decide)
      have n_8 := lv_neT h_8 (a := 8) (by decide)
      have n_9 := lv_neT h_9 (a := 9) (by decide)
      have n_10 := lv_neT h_10 (a := 10) (by decide)
      have n_11 := lv_neT h_11 (a := 11) (by decide)
      have n_12 := lv_neT h_12 (a := 12) (by decide)
      have n_13 := lv_neT h_13 (a := 13) (by decide)
      have n_14 := lv_neT h_14 (a := 14) (by decide)
      have n_15 := lv_neT h_15 (a := 15) (by decide)
      have n_16 := lv_neT h_16 (a := 16) (by decide)
      have n_17 := lv_neT h_17 (a := 17) (by decide)
      have n_18 := lv_neT h_18 (a := 18) (by decide)
      refine lv_tableOut (tgt := 793) hx hb dL_law_33 (by omega) (by decide) ?_
      exact kk _ _ _ _ R hS
theorem gf_z {s : State} {args : Array Value} (hts0 : ∀ w ∈ lw_tbl, w.before args s = true) (hgv : (Jvm.Cond.and given_1 narrow_1).before args s = true) : ∃ g : Nat, zX g (AL s) s s.heap := by
  have hs := flat_of_before _ hgv
  have hA : ∀ a : Nat, a < s.heap.size → ¬ AL s a := fun a h => Nat.not_le.mpr h
  have harr : (Cond.arrayOf (.static "DepotTrays" "GOES_FOR" "[I") .int).before args s = true := hs _ (by decide +kernel)
  have hlen := va_eqt (t := .length (.static "DepotTrays" "GOES_FOR" "[I")) (z := 7) (hs (Cond.eq (.length (.static "DepotTrays" "GOES_FOR" "[I")) (.int 7)) (by decide +kernel))
  have el0 := va_eqt (t := .elem (.static "DepotTrays" "GOES_FOR" "[I") (.int 0)) (z := 1) (hs (Cond.eq (.elem (.static "DepotTrays" "GOES_FOR" "[I") (.int 0)) (.int 1)) (by decide +kernel))
  have el1 := va_eqt (t := .elem (.static "DepotTrays" "GOES_FOR" "[I") (.int 1)) (z := 19) (hs (Cond.eq (.elem (.static "DepotTrays" "GOES_FOR" "[I") (.int 1)) (.int 19)) (by decide +kernel))
  have el2 := va_eqt (t := .elem (.static "DepotTrays" "GOES_FOR" "[I") (.int 2)) (z := 5) (hs (Cond.eq (.elem (.static "DepotTrays" "GOES_FOR" "[I") (.int 2)) (.int 5)) (by decide +kernel))
  have el3 := va_eqt (t := .elem (.static "DepotTrays" "GOES_FOR" "[I") (.int 3)) (z := 29) (hs (Cond.eq (.elem (.static "DepotTrays" "GOES_FOR" "[I") (.int 3)) (.int 29)) (by decide +kernel))
  have el4 := va_eqt (t := .elem (.static "DepotTrays" "GOES_FOR" "[I") (.int 4)) (z := 16) (hs (Cond.eq (.elem (.static "DepotTrays" "GOES_FOR" "[I") (.int 4)) (.int 16)) (by decide +kernel))
  have el5 := va_eqt (t := .elem (.static "DepotTrays" "GOES_FOR" "[I") (.int 5)) (z := 32) (hs (Cond.eq (.elem (.static "DepotTrays" "GOES_FOR" "[I") (.int 5)) (.int 32)) (by decide +kernel))
  have el6 := va_eqt (t := .elem (.static "DepotTrays" "GOES_FOR" "[I") (.int 6)) (z := 64) (hs (Cond.eq (.elem (.static "DepotTrays" "GOES_FOR" "[I") (.int 6)) (.int 64)) (by decide +kernel))
  obtain ⟨t, ht, hT⟩ := va_Tof (tm := .static "DepotTrays" "GOES_FOR" "[I") (ty := .int) (N := 7) (f := gfV) (A := AL s) (by decide) harr hlen (fun j hj => by
    match j, hj with
    | 0, _ => exact el0
    | 1, _ => exact el1
    | 2, _ => exact el2
    | 3, _ => exact el3
    | 4, _ => exact el4
    | 5, _ => exact el5
    | 6, _ => exact el6
    | k + 7, h => omega) hA
  exact ⟨t, va_Zref (hts0 _ wy_gf) (hts0 _ (kT_tb wn_X0)) ht hA, hT⟩
set_option maxRecDepth 100000 in
set_option maxHeartbeats 4000000 in
/-- THE LAW, from its entry -/
theorem whole_start {p : Program} {e : Env} {s : State} {m : MethodId} {below : List Frame} {meth : Method} {c : Code} (l : Launch) {b L : Nat} {xs : Nat → Int32} (hL : L ≤ 3072) (C0 : lw_At p s m meth c b L xs) : W p l e room_1 s m #[Value.ref b] below meth c s.heap [] 0 0 (lw_Z below #[Value.ref b] s) (entryFrame m ([Value.ref b] : List Value).toArray 4) := by
  obtain ⟨hx, hb, hr, hml, hown0, hts0, hX, hbl, hlocks, hgv⟩ := id C0
  have hown : s.vm.findClass RL = some m.cls := hown0
  have hts : ∀ w ∈ kT, w.before #[Value.ref b] s = true := fun w h => hts0 w (kT_tb h)
  obtain ⟨g, hZ⟩ := gf_z hts0 hgv
  have hA : ∀ q : Nat, s.heap.size ≤ q → AL s q := AL_A
  obtain ⟨k0, iS0, hKn0⟩ := u_known (C := RX0) (T := TX0) (N := 11) (n := 11) hts wI_X0 (hts _ wz_X0)
  obtain ⟨k1, iS1, hKn1⟩ := u_known (C := RX1) (T := TX1) (N := 16) (n := 16) hts wI_X1 (hts _ wz_X1)
  obtain ⟨D, hKc⟩ : ∃ D : va_G, ∀ (k : Nat) (q : vw_C), kC[k]? = some q → u_Kn s q.1 q.2.1 q.2.2 (D.1 k) (D.2 k) := by
    refine ⟨(fun k => if k = 0 then k0 else k1, fun k => if k = 0 then iS0 else iS1), ?_⟩
    intro k q hq
    match k, hq with
    | 0, hq => cases hq; exact hKn0
    | 1, hq => cases hq; exact hKn1
    | k + 2, hq => simp [kC] at hq
  have hS : va_S (AL s) s.heap s.heap [] := va_S.rf
  have hK : va_K D kC [] s := ⟨hKc, fun k q h => by simp at h⟩
  have hP : va_P D kC [] s.heap := fun k q h => by simp at h
  have hD : va_D (AL s) [] := ⟨fun i j p q h => by simp at h, fun k q h => by simp at h⟩
  have hl := lv_entry ([.ref b]) (n := 4) (Nat.le_of_ble_eq_true rfl)
  rw [lg_entry_eq]
  generalize (lg_sl ([.ref b]) ++ List.replicate (4 - (lg_sl ([.ref b])).length) Slot.unset).toArray = ls at hl ⊢
  have hl : lv_has ls 4 [(0, .ref b)] := hl
  refine va_new (ci := 0) (fs := [.null, .null, .null, .null, .null, .null, .null, .int 0, .int 0, .int 0, .int 0]) (C := RX0) (T := TX0) (N := 11) hx hb hts wI_X0 tyX0 tyX0_ok hown (hts _ wq_L_7) (hts _ wz_X0) (hts _ wn_X0) hK hP hD hS hA rfl (by decide +kernel) (Nat.le_of_ble_eq_true rfl) (Nat.le_of_ble_eq_true rfl) dL_law_0 (fun q0 H hP hD hS => ?_)
  have hP : va_P D kC [(q0, .inr (0, [.null, .null, .null, .null, .null, .null, .null, .int 0, .int 0, .int 0, .int 0]))] H := hP
  have hD : va_D (AL s) [(q0, .inr (0, [.null, .null, .null, .null, .null, .null, .null, .int 0, .int 0, .int 0, .int 0]))] := hD
  refine W.widen (k := 1) (n := 11) (by omega) (by omega) ?_
  refine lv_dup hx hb dL_law_3 rfl ?_
  have hFc := va_free (wc := [(q0, .inr (0, [.null, .null, .null, .null, .null, .null, .null, .int 0, .int 0, .int 0, .int 0]))]) hD hS hA [0] rfl
  refine va_callv (va_runI (As := []) (rest := [.ref q0]) ⟨hx, hb, hml, hown, hts⟩ (kX0_init l D q0 H.size) (cwI 0 hts (gdI wc_X0_init) rfl rfl rfl (hts _ wn_X0) (hts _ wl_L_9) (hts _ wm_X0_init) rfl hd_X0_init ⟨Nat.le_of_ble_eq_true rfl, Nat.le_of_ble_eq_true rfl⟩) ⟨fun a U g mk q => by obtain ⟨q0, q1, qP, qK, qD⟩ := q; exact ⟨q0, q1, qP, va_K.moved (u := U) (U := U.calling g mk a) (Vm.Alike.refl U.vm) qK, qD⟩, fun U hU hW => ⟨rfl, by rw [hU], by rw [hU]; exact hP, va_K.moved hW.alike hK, hD.weaken (fun _ _ _ _ => trivial)⟩⟩ rfl rfl hl.1 rfl (lv_room (Nat.le_of_ble_eq_true rfl)) dL_law_4 ⟨Nat.le_of_ble_eq_true rfl, Nat.le_of_ble_eq_true rfl⟩) hS (fun q _ h => hFc q h) hFc (fun qa t H1 locs ht hvm hw hB hz1 hk1 hS => ?_)
  obtain ⟨ad, ca⟩ := qa
  have hw : ad 0 = q0 := hw
  obtain ⟨hP1, hK1, hD1⟩ := hB
  have hP1 : va_P D kC (wX ad ca x0) t.heap := hP1
  have hK1 : va_K D kC (tX ca) t := hK1
  have hD1 : va_D (va_A [(q0, .inr (0, [.null, .null, .null, .null, .null, .null, .null, .int 0, .int 0, .int 0, .int 0]))] H.size) (wX ad ca x0) := hD1
  rw [ht] at hP1
  have hK := va_K.moved hvm.symm hK1
  obtain ⟨hP, hD⟩ := va_join (wr := []) (w1 := wX ad ca x0) hP hD [0] [] rfl rfl (by decide) (by decide) hk1 hFc hP1 hD1
  generalize H1 = H at hP hS ⊢
  have hP : va_P D kC (wX ad ca x0) H := hP
  have hD : va_D (AL s) (wX ad ca x0) := hD
  refine W.widen (k := 8) (n := 747) (by omega) (by omega) ?_
  rw [← hw]
  refine lv_astore_n (lv' := [(1, .ref (ad 0)), (0, .ref b)]) hx hb dL_law_7 rfl hl (by decide) rfl (fun ls hl => ?_)
  refine va_new (ci := 1) (fs := [.int 0, .null, .null, .null, .null, .null, .null, .null, .null, .int 0, .int 0, .int 0, .null, .null, .null, .null]) (C := RX1) (T := TX1) (N := 16) hx hb hts wI_X1 tyX1 tyX1_ok hown (hts _ wq_L_10) (hts _ wz_X1) (hts _ wn_X1) hK hP hD hS hA rfl (by decide +kernel) (Nat.le_of_ble_eq_true rfl) (Nat.le_of_ble_eq_true rfl) dL_law_8 (fun q1 H hP hD hS => ?_)
  refine W.widen (k := 9) (n := 763) (by omega) (by omega) ?_
  refine lv_dup hx hb dL_law_11 rfl ?_
  have hPc := hP.sub (ws' := [(q1, .inr (1, [.int 0, .null, .null, .null, .null, .null, .null, .null, .null, .int 0, .int 0, .int 0, .null, .null, .null, .null]))]) [8] rfl
  have hDc := hD.sub (ws' := [(q1, .inr (1, [.int 0, .null, .null, .null, .null, .null, .null, .null, .null, .int 0, .int 0, .int 0, .null, .null, .null, .null]))]) [8] (by decide) rfl
  have hKc := hK.sub (tys' := []) [] rfl
  have hFc := va_free (wc := [(q1, .inr (1, [.int 0, .null, .null, .null, .null, .null, .null, .null, .null, .int 0, .int 0, .int 0, .null, .null, .null, .null]))]) hD hS hA [8] rfl
  refine va_callv (va_runI (As := []) (rest := [.ref q1]) ⟨hx, hb, hml, hown, hts⟩ (kX1_init l D q1 H.size) (cwI 0 hts (gdI wc_X1_init) rfl rfl rfl (hts _ wn_X1) (hts _ wl_L_12) (hts _ wm_X1_init) rfl hd_X1_init ⟨Nat.le_of_ble_eq_true rfl, Nat.le_of_ble_eq_true rfl⟩) ⟨fun a U g mk q => by obtain ⟨q0, q1, qP, qK, qD⟩ := q; exact ⟨q0, q1, qP, va_K.moved (u := U) (U := U.calling g mk a) (Vm.Alike.refl U.vm) qK, qD⟩, fun U hU hW => ⟨rfl, by rw [hU], by rw [hU]; exact hPc, va_K.moved hW.alike hKc, hDc.weaken (fun _ _ _ _ => trivial)⟩⟩ rfl rfl hl.1 rfl (lv_room (Nat.le_of_ble_eq_true rfl)) dL_law_12 ⟨Nat.le_of_ble_eq_true rfl, Nat.le_of_ble_eq_true rfl⟩) hS (fun q _ h => hFc q h) hFc (fun qb t H1 locs ht hvm hw2 hB hz1 hk1 hS => ?_)
  obtain ⟨bd, cb⟩ := qb
  have hw2 : bd 0 = q1 := hw2
  obtain ⟨hP1, hK1, hD1⟩ := hB
  have hP1 : va_P D kC (wM bd cb m0) t.heap := hP1
  have hK1 : va_K D kC (tM cb) t := hK1
  have hD1 : va_D (va_A [(q1, .inr (1, [.int 0, .null, .null, .null, .null, .null, .null, .null, .null, .int 0, .int 0, .int 0, .null, .null, .null, .null]))] H.size) (wM bd cb m0) := hD1
  rw [ht] at hP1
  have hK := hK.app (va_K.moved hvm.symm hK1)
  obtain ⟨hP, hD⟩ := va_join (wr := wX ad ca x0) (w1 := wM bd cb m0) hP hD [8] [0, 1, 2, 3, 4, 5, 6, 7] rfl rfl (by decide) (by decide) hk1 hFc hP1 hD1
  generalize H1 = H at hP hS ⊢
  refine W.widen (k := 600000) (n := 7302249) (by omega) (by omega) ?_
  rw [← hw2]
  refine lv_astore_n (lv' := [(2, .ref (bd 0)), (1, .ref (ad 0)), (0, .ref b)]) hx hb dL_law_15 rfl hl (by decide) rfl (fun ls hl => ?_)
  refine lv_iconst (v := 0) hx hb dL_law_16 (by decide) ?_
  refine lv_istore_n (lv' := [(3, .int 0), (2, .ref (bd 0)), (1, .ref (ad 0)), (0, .ref b)]) hx hb dL_law_17 rfl hl (by decide) rfl (fun ls hl => ?_)
  exact law_loop l hL ⟨⟨hx, hb, hml, hown, hts⟩, hK, hZ, hX, hbl⟩ hr hlocks (L + 7) 0 x0 m0 0 nI_0.symm (by omega) (by omega) RR_0 H locs ls ⟨hP, hD, hS⟩ (lv_sub hl [3, 2, 1, 0] rfl)
