/-! worth and frail: the class's own side -/
def tXw (u : XS) (rec : Int32 → Int64) (x : Int32) (k : Nat) : Int64 := if fx_isLedger u x = 0 then rec (Int64.toInt32 (x_places u (8 * x.toNatClampNeg + k))) else x_places u (8 * x.toNatClampNeg + k)
def tXc (u : XS) (rec : Int32 → Int32) (x : Int32) (k : Nat) : Int32 := rec (Int64.toInt32 (x_places u (8 * x.toNatClampNeg + k)))
section SimWorth2
variable {u : XS} {v : MS}
theorem xw_L {rec : Int32 → Int64} {x : Int32} (hx : vp_in x 60) (hs : 0 ≤ (x_thingSize u x.toNatClampNeg).toInt ∧ (x_thingSize u x.toNatClampNeg).toInt ≤ 8) : ∀ (f K : Nat) (a : Int64) (k : Int32), k.toInt = (K : Int) → (K : Int) ≤ (x_thingSize u x.toNatClampNeg).toInt → (x_thingSize u x.toNatClampNeg).toInt - K < (f : Int) →
    fx_worthStep_L rec f u x a k = a + tl (tXw u rec x) K ((x_thingSize u x.toNatClampNeg).toNatClampNeg - K) := by
  intro f
  have es := cl_ti (a := x_thingSize u x.toNatClampNeg) (by omega)
  induction f with
  | zero => intro K a k hk hK hf; exfalso; omega
  | succ f ih =>
    intro K a k hk hK hf
    have ek := cl_ti (a := k) (by omega)
    have eK : k.toNatClampNeg = K := by omega
    rw [fx_worthStep_L]
    by_cases h : x_thingSize u x.toNatClampNeg ≤ k
    · rw [if_pos h]
      rw [le_ti] at h
      rw [show (x_thingSize u x.toNatClampNeg).toNatClampNeg - K = 0 by omega, tl, Int64.add_zero]
    · rw [if_neg h]
      rw [le_ti] at h
      have e7 : (k + 1).toInt = k.toInt + 1 := ti_inc (by omega) (by omega)
      have eS : (x_thingSize u x.toNatClampNeg).toNatClampNeg - K = ((x_thingSize u x.toNatClampNeg).toNatClampNeg - (K + 1)) + 1 := by omega
      have ih1 := fun a => ih (K + 1) a (k + 1) (by omega) (by omega) (by omega)
      have ep : (fx_placeIndex x k).toNatClampNeg = 8 * x.toNatClampNeg + K := by rw [pi_cl hx (by omega) (by omega), eK]
      rw [eS, tl, ← Int64.add_assoc]
      by_cases h2 : fx_isLedger u x = 0
      · have t1 : tXw u rec x K = rec (fx_thingAt u x k) := by unfold tXw fx_thingAt; rw [if_pos h2, ep]
        rw [if_pos h2, t1]
        exact ih1 _
      · have t1 : tXw u rec x K = x_places u (fx_placeIndex x k).toNatClampNeg := by unfold tXw; rw [if_neg h2, ep]
        rw [if_neg h2, t1]
        exact ih1 _
theorem xc_L {rec : Int32 → Int32} {x : Int32} (hx : vp_in x 60) (hs : 0 ≤ (x_thingSize u x.toNatClampNeg).toInt ∧ (x_thingSize u x.toNatClampNeg).toInt ≤ 8) : ∀ (f K : Nat) (a k : Int32), k.toInt = (K : Int) → (K : Int) ≤ (x_thingSize u x.toNatClampNeg).toInt → (x_thingSize u x.toNatClampNeg).toInt - K < (f : Int) →
    fx_frailStep_L rec f u x a k = a + tc (tXc u rec x) K ((x_thingSize u x.toNatClampNeg).toNatClampNeg - K) := by
  intro f
  have es := cl_ti (a := x_thingSize u x.toNatClampNeg) (by omega)
  induction f with
  | zero => intro K a k hk hK hf; exfalso; omega
  | succ f ih =>
    intro K a k hk hK hf
    have ek := cl_ti (a := k) (by omega)
    have eK : k.toNatClampNeg = K := by omega
    rw [fx_frailStep_L]
    by_cases h : x_thingSize u x.toNatClampNeg ≤ k
    · rw [if_pos h]
      rw [le_ti] at h
      rw [show (x_thingSize u x.toNatClampNeg).toNatClampNeg - K = 0 by omega, tc, Int32.add_zero]
    · rw [if_neg h]
      rw [le_ti] at h
      have e7 : (k + 1).toInt = k.toInt + 1 := ti_inc (by omega) (by omega)
      have eS : (x_thingSize u x.toNatClampNeg).toNatClampNeg - K = ((x_thingSize u x.toNatClampNeg).toNatClampNeg - (K + 1)) + 1 := by omega
      have ih1 := fun a => ih (K + 1) a (k + 1) (by omega) (by omega) (by omega)
      have ep : (fx_placeIndex x k).toNatClampNeg = 8 * x.toNatClampNeg + K := by rw [pi_cl hx (by omega) (by omega), eK]
      rw [eS, tc, ← Int32.add_assoc]
      have t1 : tXc u rec x K = rec (fx_thingAt u x k) := by unfold tXc fx_thingAt; rw [ep]
      rw [t1]
      exact ih1 _
theorem xw_none (n : Nat) (lev : Int32) {x : Int32} (h : fx_isThing u x = 0) : fx_worthRec n u x lev = 0 := by
  cases n with
  | zero => rfl
  | succ n => rw [fx_worthRec, fx_worthStep, if_pos h]
theorem xc_none (n : Nat) (lev : Int32) {x : Int32} (h : fx_isThing u x = 0) : fx_frailRec n u x lev = 0 := by
  cases n with
  | zero => rfl
  | succ n => rw [fx_frailRec, fx_frailStep, if_pos h]
theorem th_m1 : fx_isThing u (-1) = 0 := by unfold fx_isThing; rw [if_pos (by decide)]
theorem xw_eq (R : RR u v) : ∀ (d n : Nat) (x lev : Int32), 0 ≤ x.toInt ∧ x.toInt < (m_things v).toInt → (m_depths v x.toNatClampNeg).toInt = (d : Int) → (d : Int) ≤ lev.toInt → lev.toInt < (n : Int) → fx_worthRec (n + 1) u x lev = wv v d x.toNatClampNeg := by
  intro d
  have m0 := R.mi.1
  induction d with
  | zero =>
    intro n x lev hx hd hl hn
    have ex := cl_ti (a := x) (by omega)
    have ht : ¬ fx_isThing u x = 0 := xthing_iff.mpr (by rw [R.tc]; exact hx)
    have h0 : m_depths v x.toNatClampNeg = 0 := eq_ti.mpr (by rw [ti0]; omega)
    rw [fx_worthRec, fx_worthStep, if_neg ht, if_pos (by rw [le_ti, ti0]; omega), if_neg (fun q => (R.piece x).mp q h0)]
    unfold fx_worthOfPiece
    rw [wv]
    unfold pwM
    have h00 : m_depths v x.toNatClampNeg ≤ 0 := by rw [le_ti, ti0]; omega
    rw [if_pos h00, R.tb, R.wo x.toNatClampNeg (by omega) h0]
  | succ d ih =>
    intro n x lev hx hd hl hn
    have hlt := Int32.toInt_lt lev
    have ex := cl_ti (a := x) (by omega)
    have ht : ¬ fx_isThing u x = 0 := xthing_iff.mpr (by rw [R.tc]; exact hx)
    have h0 : ¬ m_depths v x.toNatClampNeg = 0 := by rw [eq_ti, ti0]; omega
    have z := R.mi.2.1 x.toNatClampNeg
    have ez := cl_ti (a := m_sizes v x.toNatClampNeg) (by omega)
    have hv : vp_in x 60 := by rw [vp_in_iff]; omega
    have e1 : (lev - 1).toInt = lev.toInt - 1 := by rw [ti_sub (by rw [ti1]; omega) (by rw [ti1]; omega), ti1]
    obtain ⟨m, hm⟩ : ∃ m, n = m + 1 := ⟨n - 1, by omega⟩
    rw [fx_worthRec, fx_worthStep, if_neg ht, if_pos (by rw [le_ti, ti0]; omega), if_pos ((R.piece x).mpr h0)]
    rw [xw_L hv (by rw [R.ts]; exact z) 9 0 0 0 ti0 (by rw [R.ts]; omega) (by rw [R.ts]; omega), Int64.zero_add, R.ts, Nat.sub_zero, wv]
    refine tl_congr _ 0 (fun k h3 h4 => ?_)
    have hp := R.pl x.toNatClampNeg k (by omega) (by omega)
    unfold tXw tW
    rw [R.led]
    by_cases hL : fm_isLedger v x = 0
    · rw [if_pos hL]
      have g := hp.2 (fun q => (mled_iff x).mpr q hL)
      rw [g.1, i64_i32, g.2.1, Int64.zero_add]
      rcases g.2.2 with q | ⟨g1, g2, g3, g4⟩
      · rw [if_pos q, q]; exact xw_none _ _ th_m1
      · have hn1 : ¬ m_lies v (8 * x.toNatClampNeg + k) = (-1) := by rw [ne_m1]; omega
        rw [if_neg hn1, hm]
        exact ih m (m_lies v (8 * x.toNatClampNeg + k)) (lev - 1) ⟨g1, g2⟩ (by omega) (by omega) (by omega)
    · rw [if_neg hL]
      have g := hp.1 ((mled_iff x).mp hL)
      rw [g.1, if_pos g.2, Int64.add_zero]
theorem xc_eq (R : RR u v) : ∀ (d n : Nat) (x lev : Int32), 0 ≤ x.toInt ∧ x.toInt < (m_things v).toInt → (m_bases v x.toNatClampNeg).toInt ≤ 4 → (m_depths v x.toNatClampNeg).toInt = (d : Int) → (d : Int) ≤ lev.toInt → lev.toInt < (n : Int) → fx_frailRec (n + 1) u x lev = cv v d x.toNatClampNeg := by
  intro d
  have m0 := R.mi.1
  induction d with
  | zero =>
    intro n x lev hx hb hd hl hn
    have ex := cl_ti (a := x) (by omega)
    have ht : ¬ fx_isThing u x = 0 := xthing_iff.mpr (by rw [R.tc]; exact hx)
    have h0 : m_depths v x.toNatClampNeg = 0 := eq_ti.mpr (by rw [ti0]; omega)
    rw [fx_frailRec, fx_frailStep, if_neg ht, if_pos (by rw [le_ti, ti0]; omega), if_neg (fun q => (R.piece x).mp q h0)]
    rw [cv]
    unfold pcM
    rw [if_pos h0, R.tb, gf_eq (R.ty.1 _) (by rw [ti4]; omega)]
  | succ d ih =>
    intro n x lev hx hb hd hl hn
    have hlt := Int32.toInt_lt lev
    have ex := cl_ti (a := x) (by omega)
    have ht : ¬ fx_isThing u x = 0 := xthing_iff.mpr (by rw [R.tc]; exact hx)
    have h0 : ¬ m_depths v x.toNatClampNeg = 0 := by rw [eq_ti, ti0]; omega
    have z := R.mi.2.1 x.toNatClampNeg
    have ez := cl_ti (a := m_sizes v x.toNatClampNeg) (by omega)
    have hv : vp_in x 60 := by rw [vp_in_iff]; omega
    have e1 : (lev - 1).toInt = lev.toInt - 1 := by rw [ti_sub (by rw [ti1]; omega) (by rw [ti1]; omega), ti1]
    obtain ⟨m, hm⟩ : ∃ m, n = m + 1 := ⟨n - 1, by omega⟩
    have hnl : ¬ led v x.toNatClampNeg := fun q => by have := q.2; omega
    rw [fx_frailRec, fx_frailStep, if_neg ht, if_pos (by rw [le_ti, ti0]; omega), if_pos ((R.piece x).mpr h0)]
    rw [xc_L hv (by rw [R.ts]; exact z) 9 0 0 0 ti0 (by rw [R.ts]; omega) (by rw [R.ts]; omega), Int32.zero_add, R.ts, Nat.sub_zero, cv]
    refine tc_congr _ 0 (fun k h3 h4 => ?_)
    have hp := R.pl x.toNatClampNeg k (by omega) (by omega)
    unfold tXc tC
    have g := hp.2 hnl
    rw [g.1, i64_i32]
    rcases g.2.2 with q | ⟨g1, g2, g3, g4⟩
    · rw [if_pos q, q]; exact xc_none _ _ th_m1
    · have hn1 : ¬ m_lies v (8 * x.toNatClampNeg + k) = (-1) := by rw [ne_m1]; omega
      rw [if_neg hn1, hm]
      exact ih m (m_lies v (8 * x.toNatClampNeg + k)) (lev - 1) ⟨g1, g2⟩ (g4 hb) (by omega) (by omega) (by omega)
theorem sim_worth (R : RR u v) (x : Int32) : fx_worth u x = (fm_worth v x).1 ∧ RR u (fm_worth v x).2 := by
  have hx := R.thing x
  unfold fx_worth fx_worthWithin fm_worth
  by_cases h : fm_isThing v x = 0
  · rw [if_pos h]
    exact ⟨xw_none 5 3 (by rw [hx]; exact h), R⟩
  · rw [if_neg h]
    have ht := (mthing_iff R.mi).mp h
    have ex := cl_ti (a := x) (by omega)
    have d1 := R.ty.2.1 x.toNatClampNeg
    have ed := cl_ti (a := m_depths v x.toNatClampNeg) (by omega)
    obtain ⟨s, c, e, hsc⟩ := up_eq R
    have hy := hsc x.toNatClampNeg (by omega)
    rw [e]
    refine ⟨?_, R.sc s c⟩
    show _ = s x.toNatClampNeg
    rw [hy.1]
    exact xw_eq R (m_depths v x.toNatClampNeg).toNatClampNeg 4 x 3 ht (by omega) (by rw [ti3]; omega) (by rw [ti3]; omega)
theorem sim_frail (R : RR u v) (x : Int32) : SR (fx_frail u x) (fm_frail v x) := by
  unfold fx_frail fm_frail fx_frailWithin
  rw [R.ton, R.tb]
  by_cases h1 : fm_mayBe v x = 0
  · rw [if_pos h1, if_pos h1]; exact sr_k R _
  rw [if_neg h1, if_neg h1]
  by_cases h2 : x = (-1)
  · rw [if_pos h2, if_pos h2]; exact sr_f R 1
  rw [if_neg h2, if_neg h2]
  have hn := nb_iff (R.ty.1 x.toNatClampNeg)
  have m1 := (mmay_iff R.mi).mp h1
  have h2t := ne_m1.mp h2
  by_cases h3 : m_bases v x.toNatClampNeg ≤ 4
  · rw [if_pos h3]
    rw [le_ti, ti4] at h3
    have h4 : fx_isNumberBase (m_bases v x.toNatClampNeg) = 0 := by
      by_cases q : fx_isNumberBase (m_bases v x.toNatClampNeg) = 0
      · exact q
      · have := hn.mp q; omega
    rw [if_pos h4]
    have ex := cl_ti (a := x) (by omega)
    have d1 := R.ty.2.1 x.toNatClampNeg
    have ed := cl_ti (a := m_depths v x.toNatClampNeg) (by omega)
    obtain ⟨s, c, e, hsc⟩ := up_eq R
    have hy := hsc x.toNatClampNeg (by omega)
    rw [e]
    refine ⟨?_, R.sc s c⟩
    show _ = c x.toNatClampNeg
    rw [hy.2]
    exact xc_eq R (m_depths v x.toNatClampNeg).toNatClampNeg 4 x 3 (by omega) h3 (by omega) (by rw [ti3]; omega) (by rw [ti3]; omega)
  · rw [if_neg h3]
    rw [le_ti, ti4] at h3
    rw [if_neg (hn.mpr (by omega))]
    exact sr_f R 2
/-- the start -/
theorem RR_0 : RR x0 m0 := by
  refine ⟨⟨rfl, rfl, rfl, rfl, rfl, rfl, rfl, rfl, rfl⟩, ⟨by decide, fun _ => by show 0 ≤ (0 : Int32).toInt ∧ (0 : Int32).toInt ≤ 8; decide, fun _ => by show -1 ≤ (0 : Int32).toInt ∧ (0 : Int32).toInt < 60; decide, fun _ => by show (0 : Int32).toInt < 60; decide⟩, ⟨fun _ => by show 0 ≤ (0 : Int32).toInt ∧ (0 : Int32).toInt ≤ 6; decide, fun _ => by show 0 ≤ (0 : Int32).toInt ∧ (0 : Int32).toInt ≤ 3; decide, fun _ _ => by show (0 : Int32).toInt ≤ 3 ∧ (0 : Int32).toInt = 0; decide, fun _ => by show 0 ≤ (0 : Int32).toInt ∧ (0 : Int32).toInt ≤ 6; decide⟩, ?_, ?_⟩
  · intro i hi
    have hi : (i : Int) < (0 : Int32).toInt := hi
    rw [ti0] at hi
    omega
  · intro i k hi
    have hi : (i : Int) < (0 : Int32).toInt := hi
    rw [ti0] at hi
    omega
end SimWorth2
