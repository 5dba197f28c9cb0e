/-! carry, closed -/
section SimCarry2
variable {u : XS} {v : MS}
theorem goM_mMv (mv : Nat → Int32) (w : MS) (F : Nat → Int32) (G : Nat → Int64) (s n : Int32) : ∀ (f : Nat) (k : Int32), goM mv (mMv w F G) s n f k = goM mv w s n f k := by
  intro f
  have e1 : ∀ x b d, fm_isSuch (mMv w F G) x b d = fm_isSuch w x b d := fun _ _ _ => rfl
  have e2 : m_bases (mMv w F G) = m_bases w := rfl
  have e3 : m_depths (mMv w F G) = m_depths w := rfl
  induction f with
  | zero => intro k; rfl
  | succ f ih =>
    intro k
    rw [goM, goM, ih, e1, e2, e3]
theorem carry_tail (R : RR u v) {r i s j n : Int32} (h1 : ¬ fm_mayBe v r = 0) (h2 : ¬ fm_mayBe v s = 0) (h3 : ¬ r = (-1)) (h4 : ¬ s = (-1)) (hl : fm_isLedger v r = fm_isLedger v s) :
    SR (if (fx_hasPlaces u r i n) = 0 then ((fx_fail u 3).1, (fx_fail u 3).2) else (if (fx_hasPlaces u s j n) = 0 then ((fx_fail u 3).1, (fx_fail u 3).2) else (if (fx_isLedger u s) = 0 then (if (fx_countGoing u r i s n) = n then (1, fx_movePlaces u r i s j (fx_countGoing u r i s n)) else ((fx_fail (fx_movePlaces u r i s j (fx_countGoing u r i s n)) 4).1, (fx_fail (fx_movePlaces u r i s j (fx_countGoing u r i s n)) 4).2)) else (if n = n then (1, fx_movePlaces u r i s j n) else ((fx_fail (fx_movePlaces u r i s j n) 4).1, (fx_fail (fx_movePlaces u r i s j n) 4).2)))))
      (if (fm_isSpan i n (m_sizes v (r).toNatClampNeg)) = 0 then ((fm_fails v 3).1, (fm_fails v 3).2) else (if (fm_isSpan j n (m_sizes v (s).toNatClampNeg)) = 0 then ((fm_fails v 3).1, (fm_fails v 3).2) else fm_carry_A 9 v r i s j n 0)) := by
  rw [R.span, R.span, R.led]
  by_cases h5 : fm_isSpan i n (m_sizes v r.toNatClampNeg) = 0
  · rw [if_pos h5, if_pos h5]; exact sr_f R 3
  rw [if_neg h5, if_neg h5]
  by_cases h6 : fm_isSpan j n (m_sizes v s.toNatClampNeg) = 0
  · rw [if_pos h6, if_pos h6]; exact sr_f R 3
  rw [if_neg h6, if_neg h6]
  have zr := R.mi.2.1 r.toNatClampNeg
  have zs := R.mi.2.1 s.toNatClampNeg
  have b1 := (sp_iff zr).mp h5
  have b2 := (sp_iff zs).mp h6
  have hr := mn_in R.mi h1 h3
  have hs := mn_in R.mi h2 h4
  have hr2 := vp_in_iff.mp hr
  have hs2 := vp_in_iff.mp hs
  have m1 := (mmay_iff R.mi).mp h1
  have m2 := (mmay_iff R.mi).mp h2
  have er := cl_ti (a := r) (by omega)
  have es := cl_ti (a := s) (by omega)
  have ei := cl_ti (a := i) (by omega)
  have ej := cl_ti (a := j) (by omega)
  have en := cl_ti (a := n) (by omega)
  have e0 : (0 : Int32).toNatClampNeg = 0 := by decide
  have hll : led v r.toNatClampNeg ↔ led v s.toNatClampNeg := by rw [← mled_iff, ← mled_iff, hl]
  -- the moved ones
  rw [caA hr (by omega) 9 v 0 (by rw [ti0]; omega) (by rw [ti0]; omega), e0, Nat.add_zero, Nat.sub_zero]
  generalize hF : va_cpy (m_lies v) (m_moved v) (8 * r.toNatClampNeg + i.toNatClampNeg) 0 n.toNatClampNeg = mv
  generalize hG : va_cpy (m_numbers v) (m_movedNumbers v) (8 * r.toNatClampNeg + i.toNatClampNeg) 0 n.toNatClampNeg = mn
  have hmv : ∀ t : Nat, (t : Int) < n.toInt → mv t = m_lies v (8 * r.toNatClampNeg + i.toNatClampNeg + t) := by
    intro t ht
    rw [← hF, pk_cpy_in (by omega) (by omega), Nat.sub_zero]
  have hmn : ∀ t : Nat, (t : Int) < n.toInt → mn t = m_numbers v (8 * r.toNatClampNeg + i.toNatClampNeg + t) := by
    intro t ht
    rw [← hG, pk_cpy_in (by omega) (by omega), Nat.sub_zero]
  have hm60 : ∀ q : Nat, (mv q).toInt < 60 := by
    intro q
    rw [← hF]
    unfold va_cpy
    split
    · exact (R.mi.2.2.1 _).2
    · exact R.mi.2.2.2 q
  rw [caB hs (by omega) 9 (mMv v mv mn) 0 (by rw [ti0]; omega) (by rw [ti0]; omega), mMv_m, mMv_k, mMv_l, mMv_n, goM_mMv, e0, Nat.add_zero, Nat.sub_zero]
  have gb := goM_b (mv := mv) (w := v) (s := s) (n := n) (by omega) 9 0 (by rw [ti0]; omega) (by rw [ti0]; omega)
  rw [ti0] at gb
  have gok := goM_ok (mv := mv) (w := v) (s := s) (n := n) (by omega) 9 0 (by rw [ti0]; omega) (by rw [ti0]; omega)
  rw [ti0] at gok
  have key : ∀ g : Int32, g = goM mv v s n 9 0 → RR (fx_movePlaces u r i s j g) (ms_numbers (ms_lies (mMv v mv mn) (va_cpy mv (m_lies v) 0 (8 * s.toNatClampNeg + j.toNatClampNeg) g.toNatClampNeg)) (va_cpy mn (m_numbers v) 0 (8 * s.toNatClampNeg + j.toNatClampNeg) g.toNatClampNeg)) := by
    intro g hg
    have eg := cl_ti (a := g) (by rw [hg]; omega)
    have g2 : g.toInt ≤ n.toInt := by rw [hg]; omega
    unfold fx_movePlaces
    rw [pi_cl hr (by omega) (by omega), pi_cl hs (by omega) (by omega)]
    refine carry_rel R (by omega) (by omega) (by omega) (by omega) hll hm60 (fun t ht => hmv t (by omega)) (fun t ht => hmn t (by omega)) ?_
    intro c t ht
    have c2 : ¬ led v r.toNatClampNeg := fun z => c (hll.mp z)
    have hp := R.pl r.toNatClampNeg (i.toNatClampNeg + t) (by omega) (by omega)
    rw [show 8 * r.toNatClampNeg + (i.toNatClampNeg + t) = 8 * r.toNatClampNeg + i.toNatClampNeg + t by omega] at hp
    have hO := (hp.2 c2).2.2
    rw [← hmv t (by omega)] at hO
    exact such_ok R.ty R.mi (pl_may R hO) rfl (gok t (by omega) (by rw [← hg]; omega))
  by_cases h7 : fm_isLedger v s = 0
  · rw [if_pos h7]
    have hnl : ¬ led v r.toNatClampNeg := fun z => (mled_iff s).mpr (hll.mp z) h7
    have ee : fx_countGoing u r i s n = goM mv v s n 9 0 := (goM_eq R hr (by omega) hnl (by omega) hmv 9 0 (by rw [ti0]; omega)).symm
    rw [ee]
    by_cases h8 : goM mv v s n 9 0 = n
    · rw [if_pos h8, if_pos h8]
      exact ⟨rfl, key _ rfl⟩
    · rw [if_neg h8, if_neg h8]
      exact sr_f (key _ rfl) 4
  · rw [if_neg h7, if_pos rfl]
    have hle : led v r.toNatClampNeg := hll.mpr ((mled_iff s).mp h7)
    have h9 : goM mv v s n 9 0 = n := by
      refine goM_led (by omega) ?_ 9 0 (by rw [ti0]; omega) (by rw [ti0]; omega)
      intro t ht
      have hp := R.pl r.toNatClampNeg (i.toNatClampNeg + t) (by omega) (by omega)
      rw [show 8 * r.toNatClampNeg + (i.toNatClampNeg + t) = 8 * r.toNatClampNeg + i.toNatClampNeg + t by omega] at hp
      rw [hmv t ht]
      exact (hp.1 hle).2
    have k := key n h9.symm
    rw [if_pos h9, h9]
    exact ⟨rfl, k⟩
theorem sim_carry (R : RR u v) (r i s j n : Int32) : SR (fx_carry u r i s j n) (fm_carry v r i s j n) := by
  unfold fx_carry fm_carry
  rw [R.ton, R.ton]
  by_cases h1 : fm_mayBe v r = 0
  · rw [if_pos h1, if_pos h1]; exact sr_k R _
  rw [if_neg h1, if_neg h1]
  by_cases h2 : fm_mayBe v s = 0
  · rw [if_pos h2, if_pos h2]; exact sr_k R _
  rw [if_neg h2, if_neg h2]
  by_cases h3 : r = (-1)
  · rw [if_pos h3, if_pos h3]; exact sr_f R 1
  rw [if_neg h3, if_neg h3]
  by_cases h4 : s = (-1)
  · rw [if_pos h4, if_pos h4]; exact sr_f R 1
  rw [if_neg h4, if_neg h4]
  have pr := R.piece r
  have ps := R.piece s
  have ha : fx_areAlike u r s = if m_depths v r.toNatClampNeg = 0 then 0 else (if m_depths v s.toNatClampNeg = 0 then 0 else (if fm_isLedger v r = fm_isLedger v s then (if fm_isLedger v r = 0 then 1 else (if m_bases v r.toNatClampNeg = m_bases v s.toNatClampNeg then 1 else 0)) else 0)) := by
    unfold fx_areAlike
    rw [R.led, R.led, R.tb]
    by_cases q1 : m_depths v r.toNatClampNeg = 0
    · rw [if_pos q1, if_neg (fun z => pr.mp z q1)]
    rw [if_neg q1, if_pos (pr.mpr q1)]
    by_cases q2 : m_depths v s.toNatClampNeg = 0
    · rw [if_pos q2, if_neg (fun z => ps.mp z q2)]
    rw [if_neg q2, if_pos (ps.mpr q2)]
  rw [ha]
  by_cases h5 : m_depths v r.toNatClampNeg = 0
  · rw [if_pos h5, if_pos rfl, if_pos h5]; exact sr_f R 4
  rw [if_neg h5, if_neg h5]
  by_cases h6 : m_depths v s.toNatClampNeg = 0
  · rw [if_pos h6, if_pos rfl, if_pos h6]; exact sr_f R 4
  rw [if_neg h6, if_neg h6]
  by_cases h7 : fm_isLedger v r = fm_isLedger v s
  · rw [if_pos h7, if_pos h7]
    by_cases h8 : fm_isLedger v r = 0
    · rw [if_pos h8, if_neg (by decide), if_pos h8]
      exact carry_tail R h1 h2 h3 h4 h7
    · rw [if_neg h8, if_neg h8]
      by_cases h9 : m_bases v r.toNatClampNeg = m_bases v s.toNatClampNeg
      · rw [if_pos h9, if_neg (by decide), if_pos h9]
        exact carry_tail R h1 h2 h3 h4 h7
      · rw [if_neg h9, if_pos rfl, if_neg h9]; exact sr_f R 4
  · rw [if_neg h7, if_pos rfl, if_neg h7]; exact sr_f R 4
end SimCarry2
