/-! command by command: easy ones -/
section SimEasy
variable {u : XS} {v : MS}
theorem pix {r i : Int32} (hr : vp_in r 60) (h0 : 0 ≤ i.toInt) (h8 : i.toInt ≤ 8) : (fx_placeIndex r i).toNatClampNeg = ((8 * r) + i).toNatClampNeg := by
  rw [pi_cl hr h0 h8, mi_cl hr h0 h8]
/-- a place of row r, by its number -/
theorem RR.at (R : RR u v) {r i : Int32} (hr : ¬ fm_mayBe v r = 0) (hr2 : ¬ r = (-1)) (h : ¬ fm_isIn i 0 (m_sizes v r.toNatClampNeg - 1) = 0) : PLa u v r.toNatClampNeg ((8 * r) + i).toNatClampNeg := by
  have h1 := (mp_iff R.mi).mp h
  have h2 := R.mi.2.1 r.toNatClampNeg
  have hv := mn_in R.mi hr hr2
  have h3 := (mmay_iff R.mi).mp hr
  have hv2 := vp_in_iff.mp hv
  have e1 := cl_ti (a := r) (by omega)
  have e2 := cl_ti (a := i) (by omega)
  rw [mi_cl hv (by omega) (by omega)]
  exact R.pl _ _ (by omega) (by omega)
theorem i64_i32 (x : Int32) : x.toInt64.toInt32 = x := by simp
theorem sim_get (R : RR u v) (r i : Int32) : SR (fx_get u r i) (fm_get v r i) := by
  unfold fx_get fm_get
  rw [R.ton]
  by_cases h1 : fm_mayBe v r = 0
  · rw [if_pos h1, if_pos h1]; exact sr_k R _
  rw [if_neg h1, if_neg h1]
  by_cases h2 : r = (-1)
  · rw [if_pos h2, if_pos h2]; exact sr_f R _
  rw [if_neg h2, if_neg h2]
  have hh := R.holds r
  by_cases h3 : m_depths v r.toNatClampNeg = 0
  · rw [if_pos (hh.mpr (Or.inl h3)), if_pos h3]; exact sr_f R _
  rw [if_neg h3]
  by_cases h4 : fm_isLedger v r = 0
  · rw [if_neg (fun q => (hh.mp q).elim h3 (fun z => z h4)), if_pos h4, R.place]
    by_cases h5 : fm_isIn i 0 (m_sizes v r.toNatClampNeg - 1) = 0
    · rw [if_pos h5, if_pos h5]; exact sr_f R _
    rw [if_neg h5, if_neg h5]
    have hp := R.at h1 h2 h5
    have hn : ¬ led v r.toNatClampNeg := fun q => (mled_iff r).mpr q h4
    refine ⟨?_, R⟩
    show (x_places u (fx_placeIndex r i).toNatClampNeg).toInt32 = _
    have b := (mp_iff R.mi).mp h5
    have z := R.mi.2.1 r.toNatClampNeg
    rw [pix (mn_in R.mi h1 h2) (by omega) (by omega), (hp.2 hn).1, i64_i32]
  · rw [if_pos (hh.mpr (Or.inr h4)), if_neg h4]; exact sr_f R _
theorem mr_le_iff (r i : Int32) : fm_refused v r i ≤ 0 ↔ fm_refused v r i = 0 := ⟨mr_le, fun h => by rw [h]; decide⟩
theorem MI_num (h : MI v) (f : Nat → Int64) : MI (ms_numbers v f) := h
theorem sim_set (R : RR u v) (r i : Int32) (x : Int64) : SR (fx_set u r i x) (fm_set v r i x) := by
  unfold fx_set fm_set
  rw [R.ton, R.refu, R.tb]
  by_cases h1 : fm_mayBe v r = 0
  · rw [if_pos h1, if_pos h1]; exact sr_k R _
  rw [if_neg h1, if_neg h1]
  by_cases h2 : fm_refused v r i = 0
  · rw [if_pos h2, if_pos ((mr_le_iff r i).mpr h2)]
    obtain ⟨k1, k2, k3⟩ := mr_0 h2
    have hv := mn_in R.mi h1 k1
    have b := (mp_iff R.mi).mp k3
    have z := R.mi.2.1 r.toNatClampNeg
    have hl := (mled_iff r).mp k2
    have hv2 := vp_in_iff.mp hv
    have m1 := (mmay_iff R.mi).mp h1
    have e1 := cl_ti (a := r) (by omega)
    have e2 := cl_ti (a := i) (by omega)
    have key : ∀ y : Int64, SR (1, xs_places u (vp_updL (x_places u) (fx_placeIndex r i).toNatClampNeg y)) (1, ms_numbers v (vp_updL (m_numbers v) ((8 * r) + i).toNatClampNeg y)) := by
      intro y
      rw [pix hv (by omega) (by omega), mi_cl hv (by omega) (by omega)]
      refine ⟨rfl, ⟨R.1, R.mi, R.ty, R.wo, ?_⟩⟩
      intro j k hj hk
      have hj : (j : Int) < (m_things v).toInt := hj
      have hk : (k : Int) < (m_sizes v j).toInt := hk
      have hp := R.pl j k hj hk
      refine ⟨fun q => ?_, fun q => ?_⟩
      · have hp1 := hp.1 q
        refine ⟨?_, hp1.2⟩
        show vp_updL (x_places u) _ y (8 * j + k) = vp_updL (m_numbers v) _ y (8 * j + k)
        unfold vp_updL
        rw [hp1.1]
      · have hp2 := hp.2 q
        have zj := R.mi.2.1 j
        have hne : ¬ 8 * j + k = 8 * r.toNatClampNeg + i.toNatClampNeg := by
          intro e
          have e3 : j = r.toNatClampNeg := by omega
          exact q (by rw [e3]; exact hl)
        refine ⟨?_, ?_, hp2.2.2⟩
        · show vp_updL (x_places u) _ y (8 * j + k) = _
          unfold vp_updL
          rw [if_neg hne, hp2.1]
          rfl
        · show vp_updL (m_numbers v) _ y (8 * j + k) = _
          unfold vp_updL
          rw [if_neg hne, hp2.2.1]
    by_cases h3 : m_bases v r.toNatClampNeg = 5
    · rw [if_pos h3, if_pos h3]; exact key _
    · rw [if_neg h3, if_neg h3]; exact key _
  · rw [if_neg h2, if_neg (fun q => h2 ((mr_le_iff r i).mp q))]; exact sr_f R _
theorem sim_number (R : RR u v) (r i : Int32) : fx_number u r i = fm_number v r i := by
  unfold fx_number fm_number
  rw [R.ton, R.refu]
  by_cases h1 : fm_mayBe v r = 0
  · rw [if_pos h1, if_pos h1]
  rw [if_neg h1, if_neg h1]
  by_cases h2 : fm_refused v r i = 0
  · rw [if_pos h2, if_pos h2]
    obtain ⟨k1, k2, k3⟩ := mr_0 h2
    have hv := mn_in R.mi h1 k1
    have b := (mp_iff R.mi).mp k3
    have z := R.mi.2.1 r.toNatClampNeg
    have hp := R.at h1 k1 k3
    rw [pix hv (by omega) (by omega), (hp.1 ((mled_iff r).mp k2)).1]
  · rw [if_neg h2, if_neg h2]
theorem sim_is (R : RR u v) (x b d : Int32) : fx_is u x b d = fm_is v x b d := by
  unfold fx_is fm_is
  rw [R.ton, isKind_eq]
  by_cases h1 : fm_mayBe v x = 0
  · rw [if_pos h1, if_pos h1]
  rw [if_neg h1, if_neg h1]
  by_cases h2 : fm_isAsked b d = 0
  · rw [if_pos h2, if_pos h2]
  rw [if_neg h2, if_neg h2]
  have hb := (isAsked_iff b d).mp h2
  rw [R.such h1 (by omega)]
theorem sim_door (R : RR u v) (k b d : Int32) : SR (fx_door u k b d) (fm_door v k b d) := by
  unfold fx_door fm_door
  rw [isDoor_eq, isKind_eq]
  by_cases h1 : fm_isIn k 0 7 = 0
  · rw [if_pos h1, if_pos h1]; exact sr_k R _
  rw [if_neg h1, if_neg h1]
  by_cases h2 : fm_isAsked b d = 0
  · rw [if_pos h2, if_pos h2]; exact sr_k R _
  rw [if_neg h2, if_neg h2]
  have hb := (isAsked_iff b d).mp h2
  refine ⟨rfl, ⟨?_, R.mi, ?_, R.wo, R.pl⟩⟩
  · refine ⟨R.tc, R.tb, R.td, R.ts, ?_, ?_, R.fc, R.lf, R.cd⟩
    · show upd (x_doorBase u) _ b = upd (m_doorBase v) _ b
      rw [R.db]
    · show upd (x_doorDepth u) _ d = upd (m_doorDepth v) _ d
      rw [R.dd]
  · refine ⟨R.ty.1, R.ty.2.1, R.ty.2.2.1, ?_⟩
    intro j
    show 0 ≤ (upd (m_doorBase v) _ b j).toInt ∧ (upd (m_doorBase v) _ b j).toInt ≤ 6
    unfold upd
    split
    · omega
    · exact R.ty.2.2.2 j
theorem sim_lastDoor (R : RR u v) : fx_lastDoor u = fm_lastDoor v := R.cd
theorem sim_about (R : RR u v) (x w : Int32) : fx_about u x w = fm_about v x w := by
  unfold fx_about fm_about
  rw [R.thing, R.tb, R.td, R.ts]
  by_cases h1 : fm_isThing v x = 0
  · rw [if_pos h1, if_pos h1]
  rw [if_neg h1, if_neg h1]
  have i1 := isIn_iff (a := w) (b := 0) (c := 2)
  rw [ti0, ti2] at i1
  have hp := R.piece x
  by_cases h2 : w = 0
  · rw [if_pos h2, if_neg (i1.mpr (by rw [h2, ti0]; omega)), if_pos h2]
  rw [if_neg h2]
  by_cases h3 : w = 1
  · rw [if_pos h3, if_neg (i1.mpr (by rw [h3, ti1]; omega)), if_neg h2, if_pos h3]
  rw [if_neg h3]
  by_cases h4 : w = 2
  · rw [if_pos h4, if_neg (i1.mpr (by rw [h4, ti2]; omega)), if_neg h2, if_neg h3]
    by_cases h5 : m_depths v x.toNatClampNeg = 0
    · rw [if_pos h5, if_neg (fun q => hp.mp q h5)]
    · rw [if_neg h5, if_pos (hp.mpr h5)]
  · rw [if_neg h4]
    rw [eq_ti, ti0] at h2
    rw [eq_ti, ti1] at h3
    rw [eq_ti, ti2] at h4
    by_cases h5 : fm_isIn w 0 2 = 0
    · rw [if_pos h5]
    · have := i1.mp h5; omega
theorem sim_count (R : RR u v) (w : Int32) : fx_count u w = fm_count v w := by
  unfold fx_count fm_count
  rw [R.tc, R.fc, R.lf]
def bsL (b : Int32) : Nat → Int32 → Int32 → Int32
  | 0, _, _ => 0
  | f + 1, s, k => if 7 ≤ k then s else (if fm_goesFor b k = 0 then bsL b f (s ||| 0) (k + 1) else bsL b f (s ||| (1 <<< (k &&& 31))) (k + 1))
theorem bs_eq (x : Int32) : ∀ (f : Nat) (s k : Int32), fm_bases_L f v x s k = bsL (m_bases v x.toNatClampNeg) f s k := by
  intro f
  induction f with
  | zero => intro s k; rfl
  | succ f ih =>
    intro s k
    rw [fm_bases_L, bsL]
    rw [ih, ih]
theorem bs_all : ∀ a : Fin 7, bsL (nI a.val) 8 0 0 = gfT (nI a.val).toNatClampNeg := by decide +kernel
theorem sim_bases (R : RR u v) (x : Int32) : fx_bases u x = fm_bases v x := by
  unfold fx_bases fm_bases
  rw [R.thing, R.tb]
  by_cases h1 : fm_isThing v x = 0
  · rw [if_pos h1, if_pos h1]
  rw [if_neg h1, if_neg h1, bs_eq]
  obtain ⟨j, hj⟩ := nI_7 (R.ty.1 x.toNatClampNeg)
  rw [hj, bs_all j]
theorem sim_clearL : ∀ (f : Nat) (u : XS) (v : MS) (a k : Int32), RR u v → SR (fx_clear_L f u a k) (fm_clear_L f v a k) := by
  intro f
  induction f with
  | zero => intro u v a k R; exact ⟨rfl, R⟩
  | succ f ih =>
    intro u v a k R
    rw [fx_clear_L, fm_clear_L]
    by_cases h : 8 ≤ k
    · rw [if_pos h, if_pos h]; exact ⟨rfl, R⟩
    rw [if_neg h, if_neg h]
    refine ih _ _ a (k + 1) ⟨?_, R.mi, ?_, R.wo, R.pl⟩
    · refine ⟨R.tc, R.tb, R.td, R.ts, ?_, ?_, R.fc, R.lf, R.cd⟩
      · show upd (x_doorBase u) _ 0 = upd (m_doorBase v) _ 0
        rw [R.db]
      · show upd (x_doorDepth u) _ 0 = upd (m_doorDepth v) _ 0
        rw [R.dd]
    · refine ⟨R.ty.1, R.ty.2.1, R.ty.2.2.1, ?_⟩
      intro j
      show 0 ≤ (upd (m_doorBase v) _ 0 j).toInt ∧ (upd (m_doorBase v) _ 0 j).toInt ≤ 6
      unfold upd
      split
      · rw [ti0]; omega
      · exact R.ty.2.2.2 j
theorem sim_clear (R : RR u v) : SR (fx_clear u) (fm_clear v) := by
  unfold fx_clear fm_clear
  rw [R.tc]
  refine sim_clearL 9 _ _ _ 0 ⟨⟨rfl, R.tb, R.td, R.ts, R.db, R.dd, R.fc, R.lf, R.cd⟩, ⟨?_, R.mi.2⟩, R.ty, ?_, ?_⟩
  · show 0 ≤ (0 : Int32).toInt ∧ (0 : Int32).toInt ≤ 60
    decide
  · intro i hi
    have hi : (i : Int) < (0 : Int32).toInt := hi
    rw [ti0] at hi
    omega
  · intro i k hi
    have hi : (i : Int) < (0 : Int32).toInt := hi
    rw [ti0] at hi
    omega
theorem tl_stop {w : MS} {x k n d : Int32} (h : ¬ m_last w = (-1)) : ∀ f : Nat, 0 < f → fm_through_L f w x k n d = fm_fails w 2 := by
  intro f hf
  obtain ⟨f, rfl⟩ : ∃ g, f = g + 1 := ⟨f - 1, by omega⟩
  rw [fm_through_L]
  simp only [if_neg h]
  split <;> rfl
theorem sim_throughL (R : RR u v) (x k n : Int32) (hx : ¬ fm_mayBe v x = 0) (hkn : 0 ≤ k.toInt ∧ 0 ≤ n.toInt ∧ k.toInt + n.toInt ≤ 8) : ∀ (f : Nat) (d : Int32), 0 ≤ d.toInt ∧ k.toInt ≤ d.toInt ∧ d.toInt ≤ k.toInt + n.toInt → k.toInt + n.toInt - d.toInt < (f : Int) →
    ((fx_firstClosedDoor_L f u x k n d = (-1) → fm_through_L (f + 1) (ms_last v (-1)) x k n d = (1, ms_last v (-1))) ∧ (¬ fx_firstClosedDoor_L f u x k n d = (-1) → fm_through_L (f + 1) (ms_last v (-1)) x k n d = fm_fails (ms_last v (fx_firstClosedDoor_L f u x k n d)) 2)) := by
  intro f
  induction f with
  | zero => intro d hd hf; exfalso; omega
  | succ f ih =>
    intro d hd hf
    rw [fx_firstClosedDoor_L, fm_through_L]
    have hl : m_last (ms_last v (-1)) = (-1) := rfl
    simp only [if_pos hl]
    have ek : (k + n).toInt = k.toInt + n.toInt := ti_add (by omega) (by omega)
    by_cases h1 : k + n ≤ d
    · simp only [if_pos h1]
      exact ⟨fun _ => trivial, fun q => absurd trivial q⟩
    simp only [if_neg h1]
    rw [le_ti, ek] at h1
    have ed : (d + 1).toInt = d.toInt + 1 := ti_inc (by omega) (by omega)
    have hp := R.pass (x := x) (b := x_doorBase u d.toNatClampNeg) (d := x_doorDepth u d.toNatClampNeg) hx (by rw [R.db]; exact R.ty.2.2.2 _)
    have ih1 := ih (d + 1) (by omega) (by omega)
    have e1 : ms_last (ms_last v (-1)) (-1) = ms_last v (-1) := rfl
    have e2 : ms_last (ms_last v (-1)) d = ms_last v d := rfl
    have e3 : fm_isSuch (ms_last v (-1)) x (m_doorBase (ms_last v (-1)) d.toNatClampNeg) (m_doorDepth (ms_last v (-1)) d.toNatClampNeg) = fm_isSuch v x (x_doorBase u d.toNatClampNeg) (x_doorDepth u d.toNatClampNeg) := by
      rw [R.db, R.dd]; rfl
    rw [e1, e2, e3]
    by_cases h2 : x = (-1)
    · have h3 : ¬ fx_mayPass u x (x_doorBase u d.toNatClampNeg) (x_doorDepth u d.toNatClampNeg) = 0 := fun q => (hp.mp q).1 h2
      simp only [if_neg h3, if_pos h2]
      exact ih1
    · simp only [if_neg h2]
      by_cases h4 : fm_isSuch v x (x_doorBase u d.toNatClampNeg) (x_doorDepth u d.toNatClampNeg) = 0
      · have h3 : fx_mayPass u x (x_doorBase u d.toNatClampNeg) (x_doorDepth u d.toNatClampNeg) = 0 := hp.mpr ⟨h2, h4⟩
        simp only [if_pos h3, if_pos h4]
        have hd1 : ¬ d = (-1) := by rw [ne_m1]; omega
        refine ⟨fun q => absurd q hd1, fun _ => ?_⟩
        exact tl_stop (w := ms_last v d) hd1 _ (by omega)
      · have h3 : ¬ fx_mayPass u x (x_doorBase u d.toNatClampNeg) (x_doorDepth u d.toNatClampNeg) = 0 := fun q => h4 (hp.mp q).2
        simp only [if_neg h3, if_neg h4]
        exact ih1
theorem tl_fuel {w : MS} {x k n : Int32} (hkn : 0 ≤ k.toInt ∧ 0 ≤ n.toInt ∧ k.toInt + n.toInt ≤ 8) : ∀ (f : Nat) (w : MS) (d : Int32), 0 ≤ d.toInt ∧ k.toInt ≤ d.toInt ∧ d.toInt ≤ k.toInt + n.toInt → k.toInt + n.toInt - d.toInt < (f : Int) → fm_through_L (f + 1) w x k n d = fm_through_L f w x k n d := by
  intro f
  induction f with
  | zero => intro w d hd hf; exfalso; omega
  | succ f ih =>
    intro w d hd hf
    have ek : (k + n).toInt = k.toInt + n.toInt := ti_add (by omega) (by omega)
    conv => lhs; rw [fm_through_L]
    conv => rhs; rw [fm_through_L]
    by_cases h1 : k + n ≤ d
    · rw [if_pos h1, if_pos h1]
    rw [if_neg h1, if_neg h1]
    rw [le_ti, ek] at h1
    have ed : (d + 1).toInt = d.toInt + 1 := ti_inc (by omega) (by omega)
    simp only [ih _ (d + 1) (show 0 ≤ (d + 1).toInt ∧ k.toInt ≤ (d + 1).toInt ∧ (d + 1).toInt ≤ k.toInt + n.toInt by omega) (show k.toInt + n.toInt - (d + 1).toInt < (f : Int) by omega)]
theorem RR.last (R : RR u v) (d : Int32) : RR (xs_closedDoor u d) (ms_last v d) := ⟨⟨R.tc, R.tb, R.td, R.ts, R.db, R.dd, R.fc, R.lf, rfl⟩, R.mi, R.ty, R.wo, R.pl⟩
theorem sim_through (R : RR u v) (x k n : Int32) : SR (fx_through u x k n) (fm_through v x k n) := by
  unfold fx_through fm_through
  rw [R.ton, isDoor_eq]
  by_cases h1 : fm_mayBe v x = 0
  · rw [if_pos h1, if_pos h1]; exact sr_k R _
  rw [if_neg h1, if_neg h1]
  by_cases h2 : fm_isIn k 0 7 = 0
  · rw [if_pos h2, if_pos h2]; exact sr_k R _
  rw [if_neg h2, if_neg h2]
  have hk8 := md_in h2
  have i1 := isIn_iff (a := n) (b := 0) (c := 8 - k)
  rw [xk8 hk8, ti0] at i1
  have hk9 := vp_in_iff.mp hk8
  by_cases h3 : n < 0
  · rw [if_pos h3]
    rw [lt_ti, ti0] at h3
    by_cases h4 : fm_isIn n 0 (8 - k) = 0
    · rw [if_pos h4]; exact sr_k R _
    · have := i1.mp h4; omega
  rw [if_neg h3]
  rw [lt_ti, ti0] at h3
  by_cases h5 : n ≤ 8 - k
  · rw [if_pos h5]
    rw [le_ti, xk8 hk8] at h5
    rw [if_neg (i1.mpr (by omega))]
    have hL := sim_throughL R x k n h1 (by omega) 9 k (by omega) (by omega)
    rw [tl_fuel (w := v) (by omega) 9 _ k (by omega) (by omega)] at hL
    unfold fx_firstClosedDoor
    by_cases h6 : fx_firstClosedDoor_L 9 u x k n k = (-1)
    · rw [if_pos h6, hL.1 h6, h6]; exact ⟨rfl, R.last _⟩
    · rw [if_neg h6, hL.2 h6]; exact sr_f (R.last _) 2
  · rw [if_neg h5]
    rw [le_ti, xk8 hk8] at h5
    by_cases h4 : fm_isIn n 0 (8 - k) = 0
    · rw [if_pos h4]; exact sr_k R _
    · have := i1.mp h4; omega
end SimEasy
