/-! command by command: copy, grid -/
section SimCopy
variable {u : XS} {v : MS}
theorem cp_0 {α : Type} {f : Nat → α} {a b : Nat} : va_cpy f f a b 0 = f := by
  funext q; unfold va_cpy; rw [if_neg (by omega)]
theorem cpI_s {f : Nat → Int32} {a b n : Nat} (h : b < a ∨ a + n < b ∨ a + n < b + 1) (hd : a + (n + 1) ≤ b ∨ b + (n + 1) ≤ a) : va_cpy (upd f b (f a)) (upd f b (f a)) (a + 1) (b + 1) n = va_cpy f f a b (n + 1) := by
  funext q
  unfold va_cpy upd
  by_cases q1 : q = b
  · rw [if_neg (by omega), if_pos q1, if_pos (by omega), q1, show a + (b - b) = a by omega]
  · by_cases q2 : b ≤ q ∧ q < b + (n + 1)
    · rw [if_pos (by omega), if_pos q2, if_neg (by omega), show a + 1 + (q - (b + 1)) = a + (q - b) by omega]
    · rw [if_neg (by omega), if_neg q1, if_neg q2]
theorem cpJ_s {f : Nat → Int64} {a b n : Nat} (hd : a + (n + 1) ≤ b ∨ b + (n + 1) ≤ a) : va_cpy (vp_updL f b (f a)) (vp_updL f b (f a)) (a + 1) (b + 1) n = va_cpy f f a b (n + 1) := by
  funext q
  unfold va_cpy vp_updL
  by_cases q1 : q = b
  · rw [if_neg (by omega), if_pos q1, if_pos (by omega), q1, show a + (b - b) = a by omega]
  · by_cases q2 : b ≤ q ∧ q < b + (n + 1)
    · rw [if_pos (by omega), if_pos q2, if_neg (by omega), show a + 1 + (q - (b + 1)) = a + (q - b) by omega]
    · rw [if_neg (by omega), if_neg q1, if_neg q2]
theorem cpL : ∀ (f : Nat) (w : MS) (x y k : Int32), vp_in x 60 → vp_in y 60 → ¬ x.toNatClampNeg = y.toNatClampNeg → 0 ≤ k.toInt ∧ k.toInt ≤ 8 → 8 - k.toInt < (f : Int) →
    fm_copy_L f w x y k = (y, ms_numbers (ms_lies w (va_cpy (m_lies w) (m_lies w) (8 * x.toNatClampNeg + k.toNatClampNeg) (8 * y.toNatClampNeg + k.toNatClampNeg) (8 - k.toNatClampNeg))) (va_cpy (m_numbers w) (m_numbers w) (8 * x.toNatClampNeg + k.toNatClampNeg) (8 * y.toNatClampNeg + k.toNatClampNeg) (8 - k.toNatClampNeg))) := by
  intro f
  induction f with
  | zero => intro w x y k hx hy hxy hk hf; exfalso; omega
  | succ f ih =>
    intro w x y k hx hy hxy hk hf
    have e3 := cl_ti (a := k) (by omega)
    rw [fm_copy_L]
    by_cases h : 8 ≤ k
    · rw [if_pos h]
      rw [le_ti, ti8] at h
      rw [show 8 - k.toNatClampNeg = 0 by omega, cp_0, cp_0, mk_eta]
    · rw [if_neg h]
      rw [le_ti, ti8] at h
      have e7 : (k + 1).toInt = k.toInt + 1 := ti_inc (by omega) (by omega)
      have e5 := cl_ti (a := k + 1) (by omega)
      rw [ih _ x y (k + 1) hx hy hxy (by omega) (by omega), mk_pp, mk_l, mk_n, mi_cl hx (by omega) (by omega), mi_cl hy (by omega) (by omega)]
      have e6 : 8 * x.toNatClampNeg + (k + 1).toNatClampNeg = (8 * x.toNatClampNeg + k.toNatClampNeg) + 1 := by omega
      have e8 : 8 * y.toNatClampNeg + (k + 1).toNatClampNeg = (8 * y.toNatClampNeg + k.toNatClampNeg) + 1 := by omega
      have e9 : 8 - k.toNatClampNeg = (8 - (k + 1).toNatClampNeg) + 1 := by omega
      rw [e6, e8, e9, cpI_s (by omega) (by omega), cpJ_s (by omega)]
theorem sim_copy (R : RR u v) (x : Int32) : SR (fx_copy u x) (fm_copy v x) := by
  unfold fx_copy fm_copy
  rw [R.ton]
  by_cases h1 : fm_mayBe v x = 0
  · rw [if_pos h1, if_pos h1]; exact sr_k R _
  rw [if_neg h1, if_neg h1]
  by_cases h3 : m_things v = 60
  · rw [if_pos (R.room.mpr h3), if_pos h3]; exact sr_k R _
  rw [if_neg (fun q => h3 (R.room.mp q)), if_neg h3]
  by_cases h2 : x = (-1)
  · rw [if_pos h2, if_pos h2, if_pos h2]; exact sr_f R 1
  rw [if_neg h2, if_neg h2]
  have hp := R.piece x
  by_cases h4 : m_depths v x.toNatClampNeg = 0
  · rw [if_neg (fun q => hp.mp q h4), if_pos h4, if_neg h2]; exact sr_f R 2
  rw [if_pos (hp.mpr h4), if_neg h4]
  have htc := m6_in R.mi h3
  have hN := R.N
  have hv := mn_in R.mi h1 h2
  have hv2 := vp_in_iff.mp hv
  have m1 := (mmay_iff R.mi).mp h1
  have ex := cl_ti (a := x) (by omega)
  have z := R.mi.2.1 x.toNatClampNeg
  have en := cl_ti (a := m_sizes v x.toNatClampNeg) (by omega)
  have e0 : (0 : Int32).toNatClampNeg = 0 := by decide
  rw [mk_1 htc, cpL 9 _ x (m_things v) 0 hv htc (by omega) (by rw [ti0]; omega) (by rw [ti0]; omega), mk_eq htc, mk_l, mk_n, mk_pp, e0]
  rw [R.tb, R.td, R.ts]
  have es : x_thingSize (fx_addThing u (m_bases v x.toNatClampNeg) (m_depths v x.toNatClampNeg) (m_sizes v x.toNatClampNeg)).2 x.toNatClampNeg = m_sizes v x.toNatClampNeg := by
    show upd (x_thingSize u) (x_thingCount u).toNatClampNeg (m_sizes v x.toNatClampNeg) x.toNatClampNeg = _
    unfold upd
    rw [if_neg (by rw [R.tc]; omega), R.ts]
  rw [es]
  refine ⟨R.tc, ?_⟩
  have ep : ∀ {r : Int32}, vp_in r 60 → (fx_placeIndex r 0).toNatClampNeg = 8 * r.toNatClampNeg := fun h => by
    rw [pi_cl h (by rw [ti0]; omega) (by rw [ti0]; omega), e0]; rfl
  have hxp : fx_movePlaces (fx_addThing u (m_bases v x.toNatClampNeg) (m_depths v x.toNatClampNeg) (m_sizes v x.toNatClampNeg)).2 x 0 (fx_addThing u (m_bases v x.toNatClampNeg) (m_depths v x.toNatClampNeg) (m_sizes v x.toNatClampNeg)).1 0 (m_sizes v x.toNatClampNeg) = xs_places (fx_addThing u (m_bases v x.toNatClampNeg) (m_depths v x.toNatClampNeg) (m_sizes v x.toNatClampNeg)).2 (va_cpy (x_places u) (x_places u) (8 * x.toNatClampNeg) (8 * (m_things v).toNatClampNeg) (m_sizes v x.toNatClampNeg).toNatClampNeg) := by
    unfold fx_movePlaces
    rw [at_1, R.tc, ep hv, ep htc]
    rfl
  rw [hxp]
  have dn0 : ¬ m_depths v x.toNatClampNeg = 0 := h4
  have h := add_rel R hN (lt60 R h3) (b := m_bases v x.toNatClampNeg) (d := m_depths v x.toNatClampNeg) (n := m_sizes v x.toNatClampNeg) (wo := 0) (R.ty.1 _) (R.ty.2.1 _) z (fun q => absurd q dn0) (add_EQ R (b := m_bases v x.toNatClampNeg) (d := m_depths v x.toNatClampNeg) (n := m_sizes v x.toNatClampNeg) (wo := 0) (p := va_cpy (x_places u) (x_places u) (8 * x.toNatClampNeg) (8 * (m_things v).toNatClampNeg) (m_sizes v x.toNatClampNeg).toNatClampNeg)
      (q := va_cpy (rowFillI (m_lies v) (8 * (m_things v).toNatClampNeg) (8 * (m_things v).toNatClampNeg + 8) (-1)) (rowFillI (m_lies v) (8 * (m_things v).toNatClampNeg) (8 * (m_things v).toNatClampNeg + 8) (-1)) (8 * x.toNatClampNeg + 0) (8 * (m_things v).toNatClampNeg + 0) (8 - 0)) (r := va_cpy (rowFill (m_numbers v) (8 * (m_things v).toNatClampNeg) (8 * (m_things v).toNatClampNeg + 8) 0) (rowFill (m_numbers v) (8 * (m_things v).toNatClampNeg) (8 * (m_things v).toNatClampNeg + 8) 0) (8 * x.toNatClampNeg + 0) (8 * (m_things v).toNatClampNeg + 0) (8 - 0)) (w := x_pieceWorth u)) rfl rfl rfl rfl rfl rfl rfl (fun _ _ => rfl) (fun q => absurd q dn0) ?_ ?_ ?_
  · exact h
  · intro q hq
    refine ⟨pk_cpy_out (by omega), ?_, ?_⟩
    · exact (pk_cpy_out (by omega)).trans (fI_out hq)
    · exact (pk_cpy_out (by omega)).trans (f_out hq)
  · intro q
    show -1 ≤ (va_cpy _ _ _ _ _ q : Int32).toInt ∧ (va_cpy _ _ _ _ _ q : Int32).toInt < 60
    unfold va_cpy
    split
    · exact fI_rng R.mi.2.2.1 _
    · exact fI_rng R.mi.2.2.1 _
  · intro k hk
    have hpx := R.pl x.toNatClampNeg k (by omega) hk
    have x1 : va_cpy (x_places u) (x_places u) (8 * x.toNatClampNeg) (8 * (m_things v).toNatClampNeg) (m_sizes v x.toNatClampNeg).toNatClampNeg (8 * (m_things v).toNatClampNeg + k) = x_places u (8 * x.toNatClampNeg + k) := by
      rw [pk_cpy_in (by omega) (by omega), show 8 * x.toNatClampNeg + (8 * (m_things v).toNatClampNeg + k - 8 * (m_things v).toNatClampNeg) = 8 * x.toNatClampNeg + k by omega]
    have x2 : va_cpy (rowFillI (m_lies v) (8 * (m_things v).toNatClampNeg) (8 * (m_things v).toNatClampNeg + 8) (-1)) (rowFillI (m_lies v) (8 * (m_things v).toNatClampNeg) (8 * (m_things v).toNatClampNeg + 8) (-1)) (8 * x.toNatClampNeg + 0) (8 * (m_things v).toNatClampNeg + 0) (8 - 0) (8 * (m_things v).toNatClampNeg + k) = m_lies v (8 * x.toNatClampNeg + k) := by
      rw [pk_cpy_in (by omega) (by omega), show 8 * x.toNatClampNeg + 0 + (8 * (m_things v).toNatClampNeg + k - (8 * (m_things v).toNatClampNeg + 0)) = 8 * x.toNatClampNeg + k by omega]
      exact fI_out (by omega)
    have x3 : va_cpy (rowFill (m_numbers v) (8 * (m_things v).toNatClampNeg) (8 * (m_things v).toNatClampNeg + 8) 0) (rowFill (m_numbers v) (8 * (m_things v).toNatClampNeg) (8 * (m_things v).toNatClampNeg + 8) 0) (8 * x.toNatClampNeg + 0) (8 * (m_things v).toNatClampNeg + 0) (8 - 0) (8 * (m_things v).toNatClampNeg + k) = m_numbers v (8 * x.toNatClampNeg + k) := by
      rw [pk_cpy_in (by omega) (by omega), show 8 * x.toNatClampNeg + 0 + (8 * (m_things v).toNatClampNeg + k - (8 * (m_things v).toNatClampNeg + 0)) = 8 * x.toNatClampNeg + k by omega]
      exact f_out (by omega)
    have d_n : upd (m_depths v) (m_things v).toNatClampNeg (m_depths v x.toNatClampNeg) (m_things v).toNatClampNeg = m_depths v x.toNatClampNeg := by unfold upd; rw [if_pos rfl]
    have b_n : upd (m_bases v) (m_things v).toNatClampNeg (m_bases v x.toNatClampNeg) (m_things v).toNatClampNeg = m_bases v x.toNatClampNeg := by unfold upd; rw [if_pos rfl]
    refine ⟨fun q => ?_, fun q => ?_⟩
    · have ql : led v x.toNatClampNeg := by
        obtain ⟨q1, q2⟩ := q
        have q1 : upd (m_depths v) (m_things v).toNatClampNeg (m_depths v x.toNatClampNeg) (m_things v).toNatClampNeg = 1 := q1
        have q2 : 4 < (upd (m_bases v) (m_things v).toNatClampNeg (m_bases v x.toNatClampNeg) (m_things v).toNatClampNeg).toInt := q2
        rw [d_n] at q1
        rw [b_n] at q2
        exact ⟨q1, q2⟩
      have g := hpx.1 ql
      exact ⟨x1.trans (g.1.trans x3.symm), x2.trans g.2⟩
    · have ql : ¬ led v x.toNatClampNeg := by
        intro z
        refine q ⟨?_, ?_⟩
        · show upd (m_depths v) (m_things v).toNatClampNeg (m_depths v x.toNatClampNeg) (m_things v).toNatClampNeg = 1
          rw [d_n]; exact z.1
        · show 4 < (upd (m_bases v) (m_things v).toNatClampNeg (m_bases v x.toNatClampNeg) (m_things v).toNatClampNeg).toInt
          rw [b_n]; exact z.2
      have g := hpx.2 ql
      refine ⟨x1.trans (g.1.trans (congrArg Int32.toInt64 x2.symm)), x3.trans g.2.1, ?_⟩
      have hm : (m_things v + 1).toInt = (m_things v).toInt + 1 := ti_inc (by have := R.mi.1; omega) (by have := R.mi.1; omega)
      show OKL _ _ (va_cpy (rowFillI (m_lies v) _ _ (-1)) _ _ _ _ _)
      rw [x2]
      rcases g.2.2 with c | ⟨g1, g2, g3, g4⟩
      · exact Or.inl c
      · right
        have ec := cl_ti (a := m_lies v (8 * x.toNatClampNeg + k)) g1
        refine ⟨g1, ?_, ?_, ?_⟩
        · show _ < (m_things v + 1).toInt
          rw [hm]; omega
        · show (upd (m_depths v) _ _ (m_lies v (8 * x.toNatClampNeg + k)).toNatClampNeg).toInt + 1 = (upd (m_depths v) (m_things v).toNatClampNeg _ (m_things v).toNatClampNeg).toInt
          rw [d_n]
          unfold upd
          rw [if_neg (by omega)]; exact g3
        · show (upd (m_bases v) (m_things v).toNatClampNeg _ (m_things v).toNatClampNeg).toInt ≤ 4 → (upd (m_bases v) _ _ (m_lies v (8 * x.toNatClampNeg + k)).toNatClampNeg).toInt ≤ 4
          rw [b_n]
          unfold upd
          rw [if_neg (by omega)]; exact g4
/-! grid -/
theorem mk_acc {w : MS} {b d n : Int32} (h : vp_in (m_things w) 60) : m_depths (fm_make w b d n 0).2 = upd (m_depths w) (m_things w).toNatClampNeg d ∧ m_bases (fm_make w b d n 0).2 = upd (m_bases w) (m_things w).toNatClampNeg b ∧ m_sizes (fm_make w b d n 0).2 = upd (m_sizes w) (m_things w).toNatClampNeg n := by
  rw [mk_eq h]
  exact ⟨rfl, rfl, rfl⟩
theorem sim_gridL (b n k : Int32) (hb : 0 ≤ b.toInt ∧ b.toInt ≤ 6) (hn : 0 ≤ n.toInt ∧ n.toInt ≤ 8) (hk : 0 ≤ k.toInt ∧ k.toInt ≤ 8) (r : Int32) (hr : 0 ≤ r.toInt) : ∀ (f : Nat) (u : XS) (v : MS) (i : Int32), RR u v → r.toInt < (m_things v).toInt → m_depths v r.toNatClampNeg = 2 → m_bases v r.toNatClampNeg = b → m_sizes v r.toNatClampNeg = n → 0 ≤ i.toInt ∧ i.toInt ≤ n.toInt → (m_things v).toInt + (n.toInt - i.toInt) ≤ 60 → n.toInt - i.toInt < (f : Int) →
    SR (fx_grid_L f u b n k r i) (fm_grid_L f v b n k r i) := by
  intro f
  induction f with
  | zero => intro u v i R h1 h2 h3 h4 hi hm hf; exfalso; omega
  | succ f ih =>
    intro u v i R h1 h2 h3 h4 hi hm hf
    rw [fx_grid_L, fm_grid_L]
    by_cases h : n ≤ i
    · rw [if_pos h, if_pos h]; exact ⟨rfl, R⟩
    rw [if_neg h, if_neg h]
    rw [le_ti] at h
    have m0 := R.mi.1
    have h60 : ¬ m_things v = 60 := by rw [eq_ti, ti60]; omega
    have htc := m6_in R.mi h60
    have S := row_rel R (b := b) (d := 1) (n := k) h60 hb (by rw [ti1]; omega) hk
    obtain ⟨S1, S2⟩ := S
    obtain ⟨a1, a2, a3⟩ := mk_acc (b := b) (d := 1) (n := k) htc
    have at_ := mk_t (b := b) (d := 1) (n := k) (wo := 0) htc
    have am := mk_1 (b := b) (d := 1) (n := k) (wo := 0) htc
    have et : (m_things v + 1).toInt = (m_things v).toInt + 1 := ti_inc (by omega) (by omega)
    have hN := R.N
    have er := cl_ti hr
    have ei := cl_ti (a := i) (by omega)
    have hv : vp_in r 60 := by rw [vp_in_iff]; omega
    have hne : ¬ r.toNatClampNeg = (m_things v).toNatClampNeg := by omega
    have d_r : m_depths (fm_make v b 1 k 0).2 r.toNatClampNeg = 2 := by rw [a1]; unfold upd; rw [if_neg hne, h2]
    have b_r : m_bases (fm_make v b 1 k 0).2 r.toNatClampNeg = b := by rw [a2]; unfold upd; rw [if_neg hne, h3]
    have s_r : m_sizes (fm_make v b 1 k 0).2 r.toNatClampNeg = n := by rw [a3]; unfold upd; rw [if_neg hne, h4]
    have d_N : m_depths (fm_make v b 1 k 0).2 (m_things v).toNatClampNeg = 1 := by rw [a1]; unfold upd; rw [if_pos rfl]
    have b_N : m_bases (fm_make v b 1 k 0).2 (m_things v).toNatClampNeg = b := by rw [a2]; unfold upd; rw [if_pos rfl]
    have R2 := put_rel S2 (r := r.toNatClampNeg) (i := i.toNatClampNeg) (x := (fm_make v b 1 k 0).1) (by rw [at_, et]; omega) (by rw [s_r]; omega) (fun q => by
      have q1 := q.1
      rw [d_r] at q1
      exact absurd q1 (by decide)) (by rw [am]; omega) (Or.inr ⟨by rw [am]; omega, by rw [at_, et, am]; omega, by rw [am, d_N, d_r, ti1, ti2]; omega, by rw [am, b_N, b_r]; exact fun z => z⟩)
    have e7 : (i + 1).toInt = i.toInt + 1 := ti_inc (by omega) (by omega)
    rw [pix hv (by omega) (by omega), mi_cl hv (by omega) (by omega), S1]
    exact ih _ _ (i + 1) R2 (by rw [m_things_lies, at_, et]; omega) (by rw [m_depths_lies]; exact d_r) (by rw [m_bases_lies]; exact b_r) (by rw [m_sizes_lies]; exact s_r) (by omega) (by rw [m_things_lies, at_, et]; omega) (by omega)
theorem sim_grid (R : RR u v) (b n k : Int32) : SR (fx_grid u b n k) (fm_grid v b n k) := by
  unfold fx_grid fm_grid
  have k1 := isKind_iff b 2
  have i1 := isIn_iff (a := b) (b := 0) (c := 6)
  rw [ti0, ti6] at i1
  rw [ti2] at k1
  have m0 := R.mi.1
  by_cases h1 : fm_isIn b 0 6 = 0
  · rw [if_pos h1]
    by_cases h2 : fx_isKind b 2 = 0
    · rw [if_pos h2]; exact sr_k R _
    · exact absurd h1 (i1.mpr (by have := k1.mp h2; omega))
  rw [if_neg h1]
  have hb := i1.mp h1
  rw [if_neg (k1.mpr (by omega))]
  by_cases h2 : 8 < n
  · rw [if_pos h2, if_pos h2]; exact sr_k R _
  rw [if_neg h2, if_neg h2]
  rw [lt_ti, ti8] at h2
  by_cases h3 : k ≤ 8
  · rw [if_pos h3, if_pos h3]
    rw [le_ti, ti8] at h3
    have e1 : (m_things v + 1).toInt = (m_things v).toInt + 1 := ti_inc (by omega) (by omega)
    have g := gr_mx n (by omega)
    have gx : fx_hasRoomFor u (1 + (if n < 0 then 0 else n)) = 0 ↔ 60 < (m_things v).toInt + (1 + (if n < 0 then 0 else n) : Int32).toInt := by
      unfold fx_hasRoomFor
      rw [R.tc]
      have e : (m_things v + (1 + (if n < 0 then 0 else n))).toInt = (m_things v).toInt + (1 + (if n < 0 then 0 else n) : Int32).toInt := ti_add (by omega) (by omega)
      by_cases q : 60 < m_things v + (1 + (if n < 0 then 0 else n))
      · rw [if_pos q]; rw [lt_ti, e, ti60] at q; exact ⟨fun _ => q, fun _ => rfl⟩
      · rw [if_neg q]; rw [lt_ti, e, ti60] at q
        exact ⟨fun z => absurd z (by decide), fun z => absurd z q⟩
    by_cases h4 : 0 ≤ n
    · rw [if_pos h4]
      rw [le_ti, ti0] at h4
      have h4n : ¬ n < 0 := by rw [lt_ti, ti0]; omega
      have e2 : ((m_things v + 1) + n).toInt = (m_things v).toInt + 1 + n.toInt := by rw [ti_add (by omega) (by omega), e1]
      have g3 := g.2.2 h4
      by_cases h5 : (m_things v + 1) + n ≤ 60
      · rw [if_pos h5]
        rw [le_ti, e2, ti60] at h5
        rw [if_neg (fun q => by have := gx.mp q; omega), if_neg h4n, if_neg h4n]
        by_cases h6 : 0 ≤ k
        · rw [if_pos h6, if_pos h6]
          rw [le_ti, ti0] at h6
          have h60 : ¬ m_things v = 60 := by rw [eq_ti, ti60]; omega
          have htc := m6_in R.mi h60
          obtain ⟨S1, S2⟩ := row_rel R (b := b) (d := 2) (n := n) h60 hb (by rw [ti2]; omega) (by omega)
          obtain ⟨a1, a2, a3⟩ := mk_acc (b := b) (d := 2) (n := n) htc
          have at_ := mk_t (b := b) (d := 2) (n := n) (wo := 0) htc
          have am := mk_1 (b := b) (d := 2) (n := n) (wo := 0) htc
          rw [S1, am]
          refine sim_gridL b n k hb (by omega) (by omega) (m_things v) (by omega) 9 _ _ 0 S2 (by rw [at_, e1]; omega) ?_ ?_ ?_ (by rw [ti0]; omega) (by rw [at_, e1, ti0]; omega) (by rw [ti0]; omega)
          · rw [a1]; unfold upd; rw [if_pos rfl]
          · rw [a2]; unfold upd; rw [if_pos rfl]
          · rw [a3]; unfold upd; rw [if_pos rfl]
        · rw [if_neg h6, if_neg h6]; exact sr_f R 5
      · rw [if_neg h5]
        rw [le_ti, e2, ti60] at h5
        rw [if_pos (gx.mpr (by omega))]
        exact sr_k R _
    · rw [if_neg h4]
      rw [le_ti, ti0] at h4
      have h4n : n < 0 := by rw [lt_ti, ti0]; omega
      have e2 : ((m_things v + 1) + 0).toInt = (m_things v).toInt + 1 := by rw [ti_add (by rw [ti0]; omega) (by rw [ti0]; omega), e1, ti0]; omega
      have g4 : (1 + (if n < 0 then 0 else n) : Int32).toInt = 1 := by rw [if_pos h4n]; decide
      by_cases h5 : (m_things v + 1) + 0 ≤ 60
      · rw [if_pos h5]
        rw [le_ti, e2, ti60] at h5
        rw [if_neg (fun q => by have := gx.mp q; omega), if_pos h4n, if_pos h4n]
        exact sr_f R 5
      · rw [if_neg h5]
        rw [le_ti, e2, ti60] at h5
        rw [if_pos (gx.mpr (by omega))]
        exact sr_k R _
  · rw [if_neg h3, if_neg h3]; exact sr_k R _
end SimCopy
