/-! command by command: put, piece, row, copy -/
section SimPut
variable {u : XS} {v : MS}
theorem such_ok (T : TY v) (hI : MI v) {x b : Int32} {r : Nat} (hx : ¬ fm_mayBe v x = 0) (hb : b = m_bases v r) (h : x = (-1) ∨ ¬ fm_isSuch v x b (m_depths v r - 1) = 0) : OKL v r x := by
  rcases h with h | h
  · exact Or.inl h
  · right
    have m1 := (mmay_iff hI).mp hx
    unfold fm_isSuch at h
    by_cases h1 : x < 0
    · rw [if_pos h1] at h; exact absurd rfl h
    rw [if_neg h1] at h
    by_cases h2 : m_depths v x.toNatClampNeg = m_depths v r - 1
    · rw [if_pos h2] at h
      by_cases h3 : fm_goesFor (m_bases v x.toNatClampNeg) b = 0
      · rw [if_pos h3] at h; exact absurd rfl h
      · rw [lt_ti, ti0] at h1
        have d1 := T.2.1 r
        have d2 := T.2.1 x.toNatClampNeg
        have e : (m_depths v r - 1).toInt = (m_depths v r).toInt - 1 := by
          rw [ti_sub (by rw [ti1]; omega) (by rw [ti1]; omega), ti1]
        rw [eq_ti, e] at h2
        refine ⟨by omega, m1.2, by omega, fun h4 => ?_⟩
        rw [hb] at h3
        exact gf_low (T.1 _) (T.1 _) h3 h4
    · rw [if_neg h2] at h; exact absurd rfl h
/-- one place of a row that is no ledger gets x -/
theorem put_rel (R : RR u v) {r i : Nat} {x : Int32} (hr : (r : Int) < (m_things v).toInt) (hi : (i : Int) < (m_sizes v r).toInt) (hl : ¬ led v r) (hx : -1 ≤ x.toInt ∧ x.toInt < 60) (hO : OKL v r x) : RR (xs_places u (vp_updL (x_places u) (8 * r + i) x.toInt64)) (ms_lies v (upd (m_lies v) (8 * r + i) x)) := by
  refine ⟨R.1, ⟨R.mi.1, R.mi.2.1, ?_, R.mi.2.2.2⟩, R.ty, R.wo, ?_⟩
  · intro q
    show -1 ≤ (upd (m_lies v) (8 * r + i) x q).toInt ∧ (upd (m_lies v) (8 * r + i) x q).toInt < 60
    unfold upd
    split
    · exact hx
    · exact R.mi.2.2.1 q
  · intro j k hj hk
    have hj : (j : Int) < (m_things v).toInt := hj
    have hk : (k : Int) < (m_sizes v j).toInt := hk
    have hp := R.pl j k hj hk
    have z1 := R.mi.2.1 j
    have z2 := R.mi.2.1 r
    refine ⟨fun q => ?_, fun q => ?_⟩
    · have q : led v j := q
      have hne : ¬ 8 * j + k = 8 * r + i := by
        intro e
        have e3 : j = r := by omega
        exact hl (by rw [← e3]; exact q)
      have hp1 := hp.1 q
      refine ⟨?_, ?_⟩
      · show vp_updL (x_places u) _ _ (8 * j + k) = m_numbers v (8 * j + k)
        unfold vp_updL
        rw [if_neg hne, hp1.1]
      · show upd (m_lies v) _ _ (8 * j + k) = _
        unfold upd
        rw [if_neg hne, hp1.2]
    · have q : ¬ led v j := q
      have hp2 := hp.2 q
      by_cases e : 8 * j + k = 8 * r + i
      · have e3 : j = r := by omega
        refine ⟨?_, hp2.2.1, ?_⟩
        · show vp_updL (x_places u) _ _ (8 * j + k) = (upd (m_lies v) _ _ (8 * j + k)).toInt64
          unfold vp_updL upd
          rw [if_pos e, if_pos e]
        · show OKL v j (upd (m_lies v) _ _ (8 * j + k))
          unfold upd
          rw [if_pos e, e3]
          exact hO
      · refine ⟨?_, hp2.2.1, ?_⟩
        · show vp_updL (x_places u) _ _ (8 * j + k) = (upd (m_lies v) _ _ (8 * j + k)).toInt64
          unfold vp_updL upd
          rw [if_neg e, if_neg e, hp2.1]
        · show OKL v j (upd (m_lies v) _ _ (8 * j + k))
          unfold upd
          rw [if_neg e]
          exact hp2.2.2
def pt (v : MS) (r i x a : Int32) : Int32 × MS := if x = (-1) then (if (fm_isIn i 0 ((m_sizes v (r).toNatClampNeg) - 1)) = 0 then ((fm_fails v 3).1, (fm_fails v 3).2) else (if x = (-1) then (1, ms_lies v (upd (m_lies v) ((8 * r) + i).toNatClampNeg x)) else (if (fm_isSuch v x (m_bases v (r).toNatClampNeg) ((m_depths v (r).toNatClampNeg) - 1)) = 0 then ((fm_fails v 4).1, (fm_fails v 4).2) else (1, ms_lies v (upd (m_lies v) ((8 * r) + i).toNatClampNeg x))))) else (if (fm_isSuch v x a ((m_depths v (r).toNatClampNeg) - 1)) = 0 then ((fm_fails v 2).1, (fm_fails v 2).2) else (if (fm_isIn i 0 ((m_sizes v (r).toNatClampNeg) - 1)) = 0 then ((fm_fails v 3).1, (fm_fails v 3).2) else (if x = (-1) then (1, ms_lies v (upd (m_lies v) ((8 * r) + i).toNatClampNeg x)) else (if (fm_isSuch v x (m_bases v (r).toNatClampNeg) ((m_depths v (r).toNatClampNeg) - 1)) = 0 then ((fm_fails v 4).1, (fm_fails v 4).2) else (1, ms_lies v (upd (m_lies v) ((8 * r) + i).toNatClampNeg x))))))
theorem put_end (R : RR u v) {r i x : Int32} (h1 : ¬ fm_mayBe v r = 0) (h2 : ¬ r = (-1)) (hx : ¬ fm_mayBe v x = 0) (hl : fm_isLedger v r = 0) (hp : ¬ fm_isIn i 0 (m_sizes v r.toNatClampNeg - 1) = 0) (hs : x = (-1) ∨ ¬ fm_isSuch v x (m_bases v r.toNatClampNeg) (m_depths v r.toNatClampNeg - 1) = 0) : SR (1, xs_places u (vp_updL (x_places u) (fx_placeIndex r i).toNatClampNeg (Int32.toInt64 x))) (1, ms_lies v (upd (m_lies v) ((8 * r) + i).toNatClampNeg x)) := by
  have hv := mn_in R.mi h1 h2
  have b := (mp_iff R.mi).mp hp
  have z := R.mi.2.1 r.toNatClampNeg
  have m1 := (mmay_iff R.mi).mp h1
  have m2 := (mmay_iff R.mi).mp hx
  have m3 := R.mi.1
  have hv2 := vp_in_iff.mp hv
  have e1 := cl_ti (a := r) (by omega)
  have e2 := cl_ti (a := i) (by omega)
  rw [pix hv (by omega) (by omega), mi_cl hv (by omega) (by omega)]
  exact ⟨rfl, put_rel R (by omega) (by omega) (fun q => (mled_iff r).mpr q hl) (by omega) (such_ok R.ty R.mi hx rfl hs)⟩
theorem pt_sim (R : RR u v) {r i x a : Int32} (h1 : ¬ fm_mayBe v r = 0) (h2 : ¬ r = (-1)) (hx : ¬ fm_mayBe v x = 0) (hl : fm_isLedger v r = 0) (ha : 0 ≤ a.toInt ∧ a.toInt ≤ 6) :
    SR (if (fx_mayPass u x a ((x_thingDepth u (r).toNatClampNeg) - 1)) = 0 then ((fx_fail u 2).1, (fx_fail u 2).2) else (if (fx_hasPlace u r i) = 0 then ((fx_fail u 3).1, (fx_fail u 3).2) else (if (fx_goesInto u x r) = 0 then ((fx_fail u 4).1, (fx_fail u 4).2) else (1, xs_places u (vp_updL (x_places u) (fx_placeIndex r i).toNatClampNeg (Int32.toInt64 x)))))) (pt v r i x a) := by
  unfold pt fx_goesInto
  rw [R.td, R.tb, R.place]
  have p1 := R.pass (x := x) (b := a) (d := m_depths v r.toNatClampNeg - 1) hx ha
  have p2 := R.pass (x := x) (b := m_bases v r.toNatClampNeg) (d := m_depths v r.toNatClampNeg - 1) hx (R.ty.1 _)
  by_cases h3 : x = (-1)
  · rw [if_neg (fun q => (p1.mp q).1 h3), if_pos h3]
    by_cases h4 : fm_isIn i 0 (m_sizes v r.toNatClampNeg - 1) = 0
    · rw [if_pos h4, if_pos h4]; exact sr_f R 3
    rw [if_neg h4, if_neg h4, if_pos h3, if_neg (fun q => (p2.mp q).1 h3)]
    exact put_end R h1 h2 hx hl h4 (Or.inl h3)
  rw [if_neg h3]
  by_cases h5 : fm_isSuch v x a (m_depths v r.toNatClampNeg - 1) = 0
  · rw [if_pos (p1.mpr ⟨h3, h5⟩), if_pos h5]; exact sr_f R 2
  rw [if_neg (fun q => h5 (p1.mp q).2), if_neg h5]
  by_cases h4 : fm_isIn i 0 (m_sizes v r.toNatClampNeg - 1) = 0
  · rw [if_pos h4, if_pos h4]; exact sr_f R 3
  rw [if_neg h4, if_neg h4, if_neg h3]
  by_cases h6 : fm_isSuch v x (m_bases v r.toNatClampNeg) (m_depths v r.toNatClampNeg - 1) = 0
  · rw [if_pos (p2.mpr ⟨h3, h6⟩), if_pos h6]; exact sr_f R 4
  rw [if_neg (fun q => h6 (p2.mp q).2), if_neg h6]
  exact put_end R h1 h2 hx hl h4 (Or.inr h6)
theorem wb_all : ∀ a : Fin 7, (if fx_goesFor (nI a.val) 0 = 0 then nI a.val else 0) = (if 4 ≤ nI a.val then nI a.val else (0 : Int32)) := by decide +kernel
theorem RR.widest (R : RR u v) (r : Int32) : fx_widestBase u r = if 4 ≤ m_bases v r.toNatClampNeg then m_bases v r.toNatClampNeg else 0 := by
  unfold fx_widestBase
  rw [R.tb]
  obtain ⟨j, hj⟩ := nI_7 (R.ty.1 r.toNatClampNeg)
  rw [hj, wb_all j]
theorem sim_put (R : RR u v) (r i x : Int32) : SR (fx_put u r i x) (fm_put v r i x) := by
  unfold fx_put
  rw [R.ton, R.ton]
  have e : fm_put v r i x = if (fm_mayBe v r) = 0 then ((-2), v) else (if (fm_mayBe v x) = 0 then ((-2), v) else (if r = (-1) then (if x = (-1) then ((fm_fails v 1).1, (fm_fails v 1).2) else (if (fm_isSuch v x 0 0) = 0 then ((fm_fails v 2).1, (fm_fails v 2).2) else ((fm_fails v 1).1, (fm_fails v 1).2))) else (if (m_depths v (r).toNatClampNeg) = 0 then ((fm_fails v 2).1, (fm_fails v 2).2) else (if (fm_isLedger v r) = 0 then (if 4 ≤ (m_bases v (r).toNatClampNeg) then pt v r i x (m_bases v (r).toNatClampNeg) else pt v r i x 0) else ((fm_fails v 2).1, (fm_fails v 2).2))))) := rfl
  rw [e]
  by_cases h1 : fm_mayBe v r = 0
  · rw [if_pos h1, if_pos h1]; exact sr_k R _
  rw [if_neg h1, if_neg h1]
  by_cases h2 : fm_mayBe v x = 0
  · rw [if_pos h2, if_pos h2]; exact sr_k R _
  rw [if_neg h2, if_neg h2]
  by_cases h3 : r = (-1)
  · rw [if_pos h3, if_pos h3]
    have p := R.pass (x := x) (b := 0) (d := 0) h2 (by rw [ti0]; omega)
    by_cases h4 : x = (-1)
    · rw [if_neg (fun q => (p.mp q).1 h4), if_pos h4]; exact sr_f R 1
    rw [if_neg h4]
    by_cases h5 : fm_isSuch v x 0 0 = 0
    · rw [if_pos (p.mpr ⟨h4, h5⟩), if_pos h5]; exact sr_f R 2
    · rw [if_neg (fun q => h5 (p.mp q).2), if_neg h5]; exact sr_f R 1
  rw [if_neg h3, if_neg h3]
  have hh := R.holds r
  by_cases h4 : m_depths v r.toNatClampNeg = 0
  · rw [if_pos (hh.mpr (Or.inl h4)), if_pos h4]; exact sr_f R 2
  rw [if_neg h4]
  by_cases h5 : fm_isLedger v r = 0
  · rw [if_neg (fun q => (hh.mp q).elim h4 (fun z => z h5)), if_pos h5, R.widest]
    by_cases h6 : 4 ≤ m_bases v r.toNatClampNeg
    · rw [if_pos h6, if_pos h6]
      exact pt_sim R h1 h3 h2 h5 (R.ty.1 _)
    · rw [if_neg h6, if_neg h6]
      exact pt_sim R h1 h3 h2 h5 (by rw [ti0]; omega)
  · rw [if_pos (hh.mpr (Or.inr h5)), if_neg h5]; exact sr_f R 2
/-- one thing more -/
theorem add_rel (R : RR u v) {N : Nat} (hN : (N : Int) = (m_things v).toInt) (h60 : (m_things v).toInt < 60) {b d n wo : Int32} (hb : 0 ≤ b.toInt ∧ b.toInt ≤ 6) (hd : 0 ≤ d.toInt ∧ d.toInt ≤ 3) (hn : 0 ≤ n.toInt ∧ n.toInt ≤ 8) (h0 : d = 0 → b.toInt ≤ 3 ∧ n.toInt = 0)
    {u' : XS} {v' : MS} (he : EQ u' v') (h1 : m_things v' = m_things v + 1) (h2 : m_bases v' = upd (m_bases v) N b) (h3 : m_depths v' = upd (m_depths v) N d) (h4 : m_sizes v' = upd (m_sizes v) N n) (h5 : m_worths v' = upd (m_worths v) N wo) (h6 : m_doorBase v' = m_doorBase v) (h7 : m_moved v' = m_moved v)
    (hw : ∀ i : Nat, i < N → x_pieceWorth u' i = x_pieceWorth u i) (hw2 : d = 0 → x_pieceWorth u' N = wo)
    (hpo : ∀ q : Nat, q < 8 * N → x_places u' q = x_places u q ∧ m_lies v' q = m_lies v q ∧ m_numbers v' q = m_numbers v q)
    (hll : ∀ q : Nat, -1 ≤ (m_lies v' q).toInt ∧ (m_lies v' q).toInt < 60)
    (hpn : ∀ k : Nat, (k : Int) < n.toInt → PLa u' v' N (8 * N + k)) : RR u' v' := by
  have m0 := R.mi.1
  have et : (m_things v + 1).toInt = (m_things v).toInt + 1 := ti_inc (by omega) (by omega)
  have d_o : ∀ i : Nat, i < N → m_depths v' i = m_depths v i := fun i hi => by rw [h3]; unfold upd; rw [if_neg (by omega)]
  have b_o : ∀ i : Nat, i < N → m_bases v' i = m_bases v i := fun i hi => by rw [h2]; unfold upd; rw [if_neg (by omega)]
  have s_o : ∀ i : Nat, i < N → m_sizes v' i = m_sizes v i := fun i hi => by rw [h4]; unfold upd; rw [if_neg (by omega)]
  have d_n : m_depths v' N = d := by rw [h3]; unfold upd; rw [if_pos rfl]
  have b_n : m_bases v' N = b := by rw [h2]; unfold upd; rw [if_pos rfl]
  have s_n : m_sizes v' N = n := by rw [h4]; unfold upd; rw [if_pos rfl]
  refine ⟨he, ⟨?_, ?_, hll, ?_⟩, ⟨?_, ?_, ?_, ?_⟩, ?_, ?_⟩
  · rw [h1, et]; omega
  · intro i
    rw [h4]; unfold upd
    split
    · exact hn
    · exact R.mi.2.1 i
  · rw [h7]; exact R.mi.2.2.2
  · intro i
    rw [h2]; unfold upd
    split
    · exact hb
    · exact R.ty.1 i
  · intro i
    rw [h3]; unfold upd
    split
    · exact hd
    · exact R.ty.2.1 i
  · intro i
    rw [h2, h3, h4]; unfold upd
    by_cases q : i = N
    · rw [if_pos q, if_pos q, if_pos q]; exact h0
    · rw [if_neg q, if_neg q, if_neg q]; exact R.ty.2.2.1 i
  · rw [h6]; exact R.ty.2.2.2
  · intro i hi hz
    rw [h1, et] at hi
    by_cases q : i = N
    · subst q
      rw [d_n] at hz
      rw [hw2 hz, h5]; unfold upd; rw [if_pos rfl]
    · rw [d_o i (by omega)] at hz
      rw [hw i (by omega), R.wo i (by omega) hz, h5]; unfold upd; rw [if_neg q]
  · intro i k hi hk
    rw [h1, et] at hi
    by_cases q : i = N
    · subst q
      rw [s_n] at hk
      exact hpn k hk
    · have hi2 : i < N := by omega
      rw [s_o i hi2] at hk
      have z := R.mi.2.1 i
      have hp := R.pl i k (by omega) hk
      obtain ⟨p1, p2, p3⟩ := hpo (8 * i + k) (by omega)
      have el : led v' i ↔ led v i := by unfold led; rw [d_o i hi2, b_o i hi2]
      refine ⟨fun a => ?_, fun a => ?_⟩
      · rw [p1, p2, p3]; exact hp.1 (el.mp a)
      · have h9 := hp.2 (fun z => a (el.mpr z))
        rw [p1, p2, p3]
        refine ⟨h9.1, h9.2.1, ?_⟩
        rcases h9.2.2 with h | ⟨g1, g2, g3, g4⟩
        · exact Or.inl h
        · right
          have ec := cl_ti (a := m_lies v (8 * i + k)) g1
          refine ⟨g1, by rw [h1, et]; omega, ?_, ?_⟩
          · rw [d_o _ (by omega), d_o i hi2]; exact g3
          · rw [b_o i hi2, b_o _ (by omega)]; exact g4
theorem RR.N (R : RR u v) : ((m_things v).toNatClampNeg : Int) = (m_things v).toInt := cl_ti R.mi.1.1
theorem lt60 (R : RR u v) (h : ¬ m_things v = 60) : (m_things v).toInt < 60 := (vp_in_iff.mp (m6_in R.mi h)).2
theorem fI_out {f : Nat → Int32} {a b q : Nat} {e : Int32} (h : q < a) : rowFillI f a b e q = f q := by unfold rowFillI; rw [if_neg (by omega)]
theorem f_out {f : Nat → Int64} {a b q : Nat} {e : Int64} (h : q < a) : rowFill f a b e q = f q := by unfold rowFill; rw [if_neg (by omega)]
theorem fI_in {f : Nat → Int32} {a b q : Nat} {e : Int32} (h : a ≤ q) (h2 : q < b) : rowFillI f a b e q = e := by unfold rowFillI; rw [if_pos ⟨h, h2⟩]
theorem f_in {f : Nat → Int64} {a b q : Nat} {e : Int64} (h : a ≤ q) (h2 : q < b) : rowFill f a b e q = e := by unfold rowFill; rw [if_pos ⟨h, h2⟩]
theorem fI_rng {f : Nat → Int32} {a b : Nat} (h : ∀ q : Nat, -1 ≤ (f q).toInt ∧ (f q).toInt < 60) (q : Nat) : -1 ≤ (rowFillI f a b (-1) q).toInt ∧ (rowFillI f a b (-1) q).toInt < 60 := by
  unfold rowFillI
  split
  · rw [tim1]; omega
  · exact h q
/-- addThing beside make: the numbers that both write -/
theorem add_EQ (R : RR u v) {b d n wo : Int32} {p : Nat → Int64} {q : Nat → Int32} {r : Nat → Int64} {w : Nat → Int32} : EQ (xs_pieceWorth (xs_places (fx_addThing u b d n).2 p) w) (ms_numbers (ms_lies (mAdd v b d n wo) q) r) := by
  refine ⟨?_, ?_, ?_, ?_, R.db, R.dd, R.fc, R.lf, R.cd⟩
  · show x_thingCount u + 1 = m_things v + 1
    rw [R.tc]
  · show upd (x_thingBase u) (x_thingCount u).toNatClampNeg b = upd (m_bases v) (m_things v).toNatClampNeg b
    rw [R.tc, R.tb]
  · show upd (x_thingDepth u) (x_thingCount u).toNatClampNeg d = upd (m_depths v) (m_things v).toNatClampNeg d
    rw [R.tc, R.td]
  · show upd (x_thingSize u) (x_thingCount u).toNatClampNeg n = upd (m_sizes v) (m_things v).toNatClampNeg n
    rw [R.tc, R.ts]
theorem sim_piece (R : RR u v) (b wo : Int32) : SR (fx_piece u b wo) (fm_piece v b wo) := by
  unfold fx_piece fm_piece
  have i1 := isIn_iff (a := b) (b := 0) (c := 3)
  rw [ti0, ti3] at i1
  by_cases h1 : b < 0
  · rw [if_pos h1]
    rw [lt_ti, ti0] at h1
    by_cases h2 : fm_isIn b 0 3 = 0
    · rw [if_pos h2]; exact sr_k R _
    · have := i1.mp h2; omega
  rw [if_neg h1]
  rw [lt_ti, ti0] at h1
  by_cases h2 : b ≤ 3
  · rw [if_pos h2]
    rw [le_ti, ti3] at h2
    rw [if_neg (i1.mpr (by omega))]
    by_cases h3 : m_things v = 60
    · rw [if_pos (R.room.mpr h3), if_pos h3]; exact sr_k R _
    rw [if_neg (fun q => h3 (R.room.mp q)), if_neg h3]
    have htc := m6_in R.mi h3
    rw [mk_eq htc]
    refine ⟨R.tc, ?_⟩
    have hN := R.N
    refine add_rel R hN (lt60 R h3) (b := b) (d := 0) (n := 0) (wo := wo) (by omega) (by rw [ti0]; omega) (by rw [ti0]; omega) (fun _ => by rw [ti0]; omega) (add_EQ R (p := x_places u)) rfl rfl rfl rfl rfl rfl rfl ?_ ?_ ?_ ?_ ?_
    · intro i hi
      show upd (x_pieceWorth u) (x_thingCount u).toNatClampNeg wo i = _
      unfold upd
      rw [if_neg (by rw [R.tc]; omega)]
    · intro _
      show upd (x_pieceWorth u) (x_thingCount u).toNatClampNeg wo _ = _
      unfold upd
      rw [if_pos (by rw [R.tc])]
    · intro q hq
      exact ⟨rfl, fI_out hq, f_out hq⟩
    · exact fI_rng R.mi.2.2.1
    · intro k hk
      rw [ti0] at hk; omega
  · rw [if_neg h2]
    rw [le_ti, ti3] at h2
    by_cases h3 : fm_isIn b 0 3 = 0
    · rw [if_pos h3]; exact sr_k R _
    · have := i1.mp h3; omega
theorem row_rel (R : RR u v) {b d n : Int32} (h3 : ¬ m_things v = 60) (hb : 0 ≤ b.toInt ∧ b.toInt ≤ 6) (hd : 1 ≤ d.toInt ∧ d.toInt ≤ 3) (hn : 0 ≤ n.toInt ∧ n.toInt ≤ 8) : SR (fx_addRow u b d n) (fm_make v b d n 0) := by
  have htc := m6_in R.mi h3
  have hN := R.N
  rw [mk_eq htc, ar_eq (by rw [R.tc]; exact htc) hn]
  refine ⟨R.tc, ?_⟩
  have dn0 : ¬ d = 0 := by rw [eq_ti, ti0]; omega
  have hd1 : x_thingDepth (fx_addThing u b d n).2 (x_thingCount u).toNatClampNeg = d := by
    show upd (x_thingDepth u) (x_thingCount u).toNatClampNeg d _ = d
    unfold upd; rw [if_pos rfl]
  have hb1 : x_thingBase (fx_addThing u b d n).2 (x_thingCount u).toNatClampNeg = b := by
    show upd (x_thingBase u) (x_thingCount u).toNatClampNeg b _ = b
    unfold upd; rw [if_pos rfl]
  have hL : ¬ fx_isLedger (fx_addThing u b d n).2 (x_thingCount u) = 0 ↔ (d = 1 ∧ 4 < b.toInt) := by
    unfold fx_isLedger
    rw [hd1, hb1]
    have hq := nb_iff hb
    by_cases q1 : d = 1
    · rw [if_pos q1]
      by_cases q2 : fx_isNumberBase b = 0
      · rw [if_pos q2]
        constructor
        · intro z; exact absurd rfl z
        · intro z; exact absurd q2 (hq.mpr z.2)
      · rw [if_neg q2]
        constructor
        · intro _; exact ⟨q1, hq.mp q2⟩
        · intro _; decide
    · rw [if_neg q1]
      constructor
      · intro z; exact absurd rfl z
      · intro z; exact absurd z.1 q1
  have h := add_rel R hN (lt60 R h3) (b := b) (d := d) (n := n) (wo := 0) hb (by omega) hn (fun q => absurd q dn0) (add_EQ R (b := b) (d := d) (n := n) (wo := 0) (p := rowFill (x_places u) (8 * (x_thingCount u).toNatClampNeg) (8 * (x_thingCount u).toNatClampNeg + n.toNatClampNeg) (if fx_isLedger (fx_addThing u b d n).2 (x_thingCount u) = 0 then -1 else 0)) (q := rowFillI (m_lies v) (8 * (m_things v).toNatClampNeg) (8 * (m_things v).toNatClampNeg + 8) (-1)) (r := rowFill (m_numbers v) (8 * (m_things v).toNatClampNeg) (8 * (m_things v).toNatClampNeg + 8) 0) (w := x_pieceWorth u)) rfl rfl rfl rfl rfl rfl rfl (fun _ _ => rfl) (fun q => absurd q dn0) ?_ ?_ ?_
  · exact h
  · intro q hq
    refine ⟨?_, fI_out hq, f_out hq⟩
    show rowFill (x_places u) _ _ _ q = x_places u q
    rw [R.tc]
    exact f_out hq
  · exact fI_rng R.mi.2.2.1
  · intro k hk
    have en := cl_ti (a := n) (by omega)
    have x1 : rowFill (x_places u) (8 * (x_thingCount u).toNatClampNeg) (8 * (x_thingCount u).toNatClampNeg + n.toNatClampNeg) (if fx_isLedger (fx_addThing u b d n).2 (x_thingCount u) = 0 then -1 else 0) (8 * (m_things v).toNatClampNeg + k) = (if fx_isLedger (fx_addThing u b d n).2 (x_thingCount u) = 0 then -1 else 0) := by
      rw [R.tc]
      exact f_in (by omega) (by omega)
    have x2 : rowFillI (m_lies v) (8 * (m_things v).toNatClampNeg) (8 * (m_things v).toNatClampNeg + 8) (-1) (8 * (m_things v).toNatClampNeg + k) = (-1) := fI_in (by omega) (by omega)
    have x3 : rowFill (m_numbers v) (8 * (m_things v).toNatClampNeg) (8 * (m_things v).toNatClampNeg + 8) 0 (8 * (m_things v).toNatClampNeg + k) = 0 := f_in (by omega) (by omega)
    have d_n : upd (m_depths v) (m_things v).toNatClampNeg d (m_things v).toNatClampNeg = d := by unfold upd; rw [if_pos rfl]
    have b_n : upd (m_bases v) (m_things v).toNatClampNeg b (m_things v).toNatClampNeg = b := by unfold upd; rw [if_pos rfl]
    refine ⟨fun q => ?_, fun q => ?_⟩
    · obtain ⟨q1, q2⟩ := q
      have q1 : upd (m_depths v) (m_things v).toNatClampNeg d (m_things v).toNatClampNeg = 1 := q1
      have q2 : 4 < (upd (m_bases v) (m_things v).toNatClampNeg b (m_things v).toNatClampNeg).toInt := q2
      rw [d_n] at q1
      rw [b_n] at q2
      refine ⟨?_, x2⟩
      refine x1.trans (Eq.trans ?_ x3.symm)
      rw [if_neg (hL.mpr ⟨q1, q2⟩)]
    · have q3 : ¬ (d = 1 ∧ 4 < b.toInt) := by
        intro z
        refine q ⟨?_, ?_⟩
        · show upd (m_depths v) (m_things v).toNatClampNeg d (m_things v).toNatClampNeg = 1
          rw [d_n]; exact z.1
        · show 4 < (upd (m_bases v) (m_things v).toNatClampNeg b (m_things v).toNatClampNeg).toInt
          rw [b_n]; exact z.2
      have q4 : fx_isLedger (fx_addThing u b d n).2 (x_thingCount u) = 0 := by
        by_cases z : fx_isLedger (fx_addThing u b d n).2 (x_thingCount u) = 0
        · exact z
        · exact absurd (hL.mp z) q3
      refine ⟨?_, x3, ?_⟩
      · refine x1.trans ?_
        rw [if_pos q4]
        show (-1 : Int64) = (rowFillI (m_lies v) _ _ (-1) (8 * (m_things v).toNatClampNeg + k)).toInt64
        rw [x2]
        decide
      · left
        exact x2
theorem sim_row (R : RR u v) (b d n : Int32) : SR (fx_row u b d n) (fm_row v b d n) := by
  unfold fx_row fm_row
  have k1 := isKind_iff b d
  have k2 := isShape_iff b d
  by_cases h1 : fm_isShape b d = 0
  · rw [if_pos h1]
    by_cases h2 : fx_isKind b d = 0
    · rw [if_pos h2]; exact sr_k R _
    rw [if_neg h2]
    have h3 := k1.mp h2
    have h4 : ¬ (0 ≤ b.toInt ∧ b.toInt ≤ 6 ∧ 1 ≤ d.toInt ∧ d.toInt ≤ 3 ∧ (4 < b.toInt → d.toInt = 1 ∨ d.toInt = 2)) := fun q => k2.mpr q h1
    rw [if_pos (by rw [lt_ti, ti1]; omega)]
    exact sr_k R _
  rw [if_neg h1]
  have h2 := k2.mp h1
  rw [if_neg (k1.mpr (by omega)), if_neg (by rw [lt_ti, ti1]; omega)]
  by_cases h3 : n ≤ 8
  · rw [if_pos h3, if_pos h3]
    rw [le_ti, ti8] at h3
    by_cases h4 : m_things v = 60
    · rw [if_pos (R.room.mpr h4), if_pos h4]; exact sr_k R _
    rw [if_neg (fun q => h4 (R.room.mp q)), if_neg h4]
    by_cases h5 : 0 ≤ n
    · rw [if_pos h5, if_pos h5]
      rw [le_ti, ti0] at h5
      exact row_rel R h4 (by omega) (by omega) (by omega)
    · rw [if_neg h5, if_neg h5]; exact sr_f R 5
  · rw [if_neg h3, if_neg h3]; exact sr_k R _
end SimPut
