/-! command by command: carry -/
section SimCarry
variable {u : XS} {v : MS}
theorem cp2_0 {α : Type} {f g : Nat → α} {a b : Nat} : va_cpy f g a b 0 = g := by
  funext q; unfold va_cpy; rw [if_neg (by omega)]
theorem cp2I {f g : Nat → Int32} {a b n : Nat} : va_cpy f (upd g b (f a)) (a + 1) (b + 1) n = va_cpy f g a b (n + 1) := by
  funext q
  unfold va_cpy upd
  by_cases q1 : q = b
  · rw [if_neg (by omega), if_pos q1, if_pos (by omega), q1, show a + (b - b) = a by omega]
  · by_cases q2 : b ≤ q ∧ q < b + (n + 1)
    · rw [if_pos (by omega), if_pos q2, show a + 1 + (q - (b + 1)) = a + (q - b) by omega]
    · rw [if_neg (by omega), if_neg q1, if_neg q2]
theorem cp2J {f g : Nat → Int64} {a b n : Nat} : va_cpy f (vp_updL g b (f a)) (a + 1) (b + 1) n = va_cpy f g a b (n + 1) := by
  funext q
  unfold va_cpy vp_updL
  by_cases q1 : q = b
  · rw [if_neg (by omega), if_pos q1, if_pos (by omega), q1, show a + (b - b) = a by omega]
  · by_cases q2 : b ≤ q ∧ q < b + (n + 1)
    · rw [if_pos (by omega), if_pos q2, show a + 1 + (q - (b + 1)) = a + (q - b) by omega]
    · rw [if_neg (by omega), if_neg q1, if_neg q2]
/-- the state with its two rows of the moved ones -/
def mMv (w : MS) (f : Nat → Int32) (g : Nat → Int64) : MS := ms_movedNumbers (ms_moved w f) g
theorem mMv_eta (w : MS) : mMv w (m_moved w) (m_movedNumbers w) = w := rfl
theorem mMv_mMv (w : MS) (f f2 : Nat → Int32) (g g2 : Nat → Int64) : mMv (mMv w f g) f2 g2 = mMv w f2 g2 := by simp only [mMv, ms_movedNumbers, ms_moved]
theorem mMv_l (w : MS) (f : Nat → Int32) (g : Nat → Int64) : m_lies (mMv w f g) = m_lies w := rfl
theorem mMv_n (w : MS) (f : Nat → Int32) (g : Nat → Int64) : m_numbers (mMv w f g) = m_numbers w := rfl
theorem mMv_m (w : MS) (f : Nat → Int32) (g : Nat → Int64) : m_moved (mMv w f g) = f := rfl
theorem mMv_k (w : MS) (f : Nat → Int32) (g : Nat → Int64) : m_movedNumbers (mMv w f g) = g := rfl
theorem caA {r i s j n : Int32} (hr : vp_in r 60) (hi : 0 ≤ i.toInt ∧ 0 ≤ n.toInt ∧ i.toInt + n.toInt ≤ 8) : ∀ (f : Nat) (w : MS) (k : Int32), 0 ≤ k.toInt ∧ k.toInt ≤ n.toInt → n.toInt - k.toInt < (f : Int) →
    fm_carry_A f w r i s j n k = fm_carry_B 9 (mMv w (va_cpy (m_lies w) (m_moved w) (8 * r.toNatClampNeg + i.toNatClampNeg + k.toNatClampNeg) k.toNatClampNeg (n.toNatClampNeg - k.toNatClampNeg)) (va_cpy (m_numbers w) (m_movedNumbers w) (8 * r.toNatClampNeg + i.toNatClampNeg + k.toNatClampNeg) k.toNatClampNeg (n.toNatClampNeg - k.toNatClampNeg))) r i s j n 0 := by
  intro f
  induction f with
  | zero => intro w k hk hf; exfalso; omega
  | succ f ih =>
    intro w k hk hf
    have ek := cl_ti (a := k) (by omega)
    have en := cl_ti (a := n) (by omega)
    rw [fm_carry_A]
    by_cases h : n ≤ k
    · rw [if_pos h]
      rw [le_ti] at h
      rw [show n.toNatClampNeg - k.toNatClampNeg = 0 by omega, cp2_0, cp2_0, mMv_eta]
    · rw [if_neg h]
      rw [le_ti] at h
      have e7 : (k + 1).toInt = k.toInt + 1 := ti_inc (by omega) (by omega)
      have e5 := cl_ti (a := k + 1) (by omega)
      have e0 : ms_movedNumbers (ms_moved w (upd (m_moved w) k.toNatClampNeg (m_lies w (((8 * r) + i) + k).toNatClampNeg))) (vp_updL (m_movedNumbers w) k.toNatClampNeg (m_numbers w (((8 * r) + i) + k).toNatClampNeg)) = mMv w (upd (m_moved w) k.toNatClampNeg (m_lies w (((8 * r) + i) + k).toNatClampNeg)) (vp_updL (m_movedNumbers w) k.toNatClampNeg (m_numbers w (((8 * r) + i) + k).toNatClampNeg)) := rfl
      rw [e0, ih _ (k + 1) (by omega) (by omega), mMv_mMv, mMv_l, mMv_n, mMv_m, mMv_k, mj_cl hr (by omega) (by omega) (by omega)]
      have e6 : 8 * r.toNatClampNeg + i.toNatClampNeg + (k + 1).toNatClampNeg = (8 * r.toNatClampNeg + i.toNatClampNeg + k.toNatClampNeg) + 1 := by omega
      have e8 : (k + 1).toNatClampNeg = k.toNatClampNeg + 1 := by omega
      have e9 : n.toNatClampNeg - k.toNatClampNeg = (n.toNatClampNeg - (k.toNatClampNeg + 1)) + 1 := by omega
      rw [e6, e8, e9, cp2I, cp2J]
/-- how many of the moved ones come -/
def goM (mv : Nat → Int32) (w : MS) (s n : Int32) : Nat → Int32 → Int32
  | 0, _ => 0
  | f + 1, k => if n ≤ k then k else (if mv k.toNatClampNeg = (-1) then goM mv w s n f (k + 1) else (if fm_isSuch w (mv k.toNatClampNeg) (m_bases w s.toNatClampNeg) (m_depths w s.toNatClampNeg - 1) = 0 then k else goM mv w s n f (k + 1)))
theorem goM_b {mv : Nat → Int32} {w : MS} {s n : Int32} (hn : 0 ≤ n.toInt ∧ n.toInt ≤ 8) : ∀ (f : Nat) (k : Int32), 0 ≤ k.toInt ∧ k.toInt ≤ n.toInt → n.toInt - k.toInt < (f : Int) → k.toInt ≤ (goM mv w s n f k).toInt ∧ (goM mv w s n f k).toInt ≤ n.toInt := by
  intro f
  induction f with
  | zero => intro k hk hf; exfalso; omega
  | succ f ih =>
    intro k hk hf
    rw [goM]
    by_cases h : n ≤ k
    · rw [if_pos h]; omega
    rw [if_neg h]
    rw [le_ti] at h
    have e7 : (k + 1).toInt = k.toInt + 1 := ti_inc (by omega) (by omega)
    have ih1 := ih (k + 1) (by omega) (by omega)
    by_cases h2 : mv k.toNatClampNeg = (-1)
    · rw [if_pos h2]; omega
    rw [if_neg h2]
    by_cases h3 : fm_isSuch w (mv k.toNatClampNeg) (m_bases w s.toNatClampNeg) (m_depths w s.toNatClampNeg - 1) = 0
    · rw [if_pos h3]; omega
    · rw [if_neg h3]; omega
/-- each that comes may lie there -/
theorem goM_ok {mv : Nat → Int32} {w : MS} {s n : Int32} (hn : 0 ≤ n.toInt ∧ n.toInt ≤ 8) : ∀ (f : Nat) (k : Int32), 0 ≤ k.toInt ∧ k.toInt ≤ n.toInt → n.toInt - k.toInt < (f : Int) → ∀ t : Nat, k.toInt ≤ (t : Int) → (t : Int) < (goM mv w s n f k).toInt → mv t = (-1) ∨ ¬ fm_isSuch w (mv t) (m_bases w s.toNatClampNeg) (m_depths w s.toNatClampNeg - 1) = 0 := by
  intro f
  induction f with
  | zero => intro k hk hf; exfalso; omega
  | succ f ih =>
    intro k hk hf t ht1 ht2
    have ek := cl_ti (a := k) (by omega)
    rw [goM] at ht2
    by_cases h : n ≤ k
    · rw [if_pos h] at ht2; omega
    rw [if_neg h] at ht2
    rw [le_ti] at h
    have e7 : (k + 1).toInt = k.toInt + 1 := ti_inc (by omega) (by omega)
    by_cases h2 : mv k.toNatClampNeg = (-1)
    · rw [if_pos h2] at ht2
      by_cases q : t = k.toNatClampNeg
      · left; rw [q]; exact h2
      · exact ih (k + 1) (by omega) (by omega) t (by omega) ht2
    rw [if_neg h2] at ht2
    by_cases h3 : fm_isSuch w (mv k.toNatClampNeg) (m_bases w s.toNatClampNeg) (m_depths w s.toNatClampNeg - 1) = 0
    · rw [if_pos h3] at ht2; omega
    · rw [if_neg h3] at ht2
      by_cases q : t = k.toNatClampNeg
      · right; rw [q]; exact h3
      · exact ih (k + 1) (by omega) (by omega) t (by omega) ht2
theorem mk_such (w : MS) (f : Nat → Int32) (g : Nat → Int64) (x b d : Int32) : fm_isSuch (ms_numbers (ms_lies w f) g) x b d = fm_isSuch w x b d := rfl
theorem goM_w (mv : Nat → Int32) (w : MS) (F : Nat → Int32) (G : Nat → Int64) (s n : Int32) : ∀ (f : Nat) (k : Int32), goM mv (ms_numbers (ms_lies w F) G) s n f k = goM mv w s n f k := by
  intro f
  induction f with
  | zero => intro k; rfl
  | succ f ih =>
    intro k
    rw [goM, goM, ih, mk_such]
    rfl
theorem caB {r i s j n : Int32} (hs : vp_in s 60) (hj : 0 ≤ j.toInt ∧ 0 ≤ n.toInt ∧ j.toInt + n.toInt ≤ 8) : ∀ (f : Nat) (w : MS) (k : Int32), 0 ≤ k.toInt ∧ k.toInt ≤ n.toInt → n.toInt - k.toInt < (f : Int) →
    fm_carry_B f w r i s j n k = (if goM (m_moved w) w s n f k = n then (1, ms_numbers (ms_lies w (va_cpy (m_moved w) (m_lies w) k.toNatClampNeg (8 * s.toNatClampNeg + j.toNatClampNeg + k.toNatClampNeg) ((goM (m_moved w) w s n f k).toNatClampNeg - k.toNatClampNeg))) (va_cpy (m_movedNumbers w) (m_numbers w) k.toNatClampNeg (8 * s.toNatClampNeg + j.toNatClampNeg + k.toNatClampNeg) ((goM (m_moved w) w s n f k).toNatClampNeg - k.toNatClampNeg)))
      else fm_fails (ms_numbers (ms_lies w (va_cpy (m_moved w) (m_lies w) k.toNatClampNeg (8 * s.toNatClampNeg + j.toNatClampNeg + k.toNatClampNeg) ((goM (m_moved w) w s n f k).toNatClampNeg - k.toNatClampNeg))) (va_cpy (m_movedNumbers w) (m_numbers w) k.toNatClampNeg (8 * s.toNatClampNeg + j.toNatClampNeg + k.toNatClampNeg) ((goM (m_moved w) w s n f k).toNatClampNeg - k.toNatClampNeg))) 4) := by
  intro f
  induction f with
  | zero => intro w k hk hf; exfalso; omega
  | succ f ih =>
    intro w k hk hf
    have ek := cl_ti (a := k) (by omega)
    have en := cl_ti (a := n) (by omega)
    rw [fm_carry_B, goM]
    by_cases h : n ≤ k
    · simp only [if_pos h]
      rw [le_ti] at h
      have e : k = n := eq_ti.mpr (by omega)
      rw [if_pos e, Nat.sub_self, cp2_0, cp2_0, mk_eta]
    simp only [if_neg h]
    rw [le_ti] at h
    have e7 : (k + 1).toInt = k.toInt + 1 := ti_inc (by omega) (by omega)
    have e5 := cl_ti (a := k + 1) (by omega)
    have e8 : (k + 1).toNatClampNeg = k.toNatClampNeg + 1 := by omega
    have go : fm_carry_B f (ms_numbers (ms_lies w (upd (m_lies w) (((8 * s) + j) + k).toNatClampNeg (m_moved w k.toNatClampNeg))) (vp_updL (m_numbers w) (((8 * s) + j) + k).toNatClampNeg (m_movedNumbers w k.toNatClampNeg))) r i s j n (k + 1) = (if goM (m_moved w) w s n f (k + 1) = n then (1, ms_numbers (ms_lies w (va_cpy (m_moved w) (m_lies w) k.toNatClampNeg (8 * s.toNatClampNeg + j.toNatClampNeg + k.toNatClampNeg) ((goM (m_moved w) w s n f (k + 1)).toNatClampNeg - k.toNatClampNeg))) (va_cpy (m_movedNumbers w) (m_numbers w) k.toNatClampNeg (8 * s.toNatClampNeg + j.toNatClampNeg + k.toNatClampNeg) ((goM (m_moved w) w s n f (k + 1)).toNatClampNeg - k.toNatClampNeg)))
      else fm_fails (ms_numbers (ms_lies w (va_cpy (m_moved w) (m_lies w) k.toNatClampNeg (8 * s.toNatClampNeg + j.toNatClampNeg + k.toNatClampNeg) ((goM (m_moved w) w s n f (k + 1)).toNatClampNeg - k.toNatClampNeg))) (va_cpy (m_movedNumbers w) (m_numbers w) k.toNatClampNeg (8 * s.toNatClampNeg + j.toNatClampNeg + k.toNatClampNeg) ((goM (m_moved w) w s n f (k + 1)).toNatClampNeg - k.toNatClampNeg))) 4) := by
      have hb := goM_b (mv := m_moved w) (w := w) (s := s) (n := n) (by omega) f (k + 1) (by omega) (by omega)
      have eg := cl_ti (a := goM (m_moved w) w s n f (k + 1)) (by omega)
      rw [ih _ (k + 1) (by omega) (by omega), mk_pp, mk_l, mk_n]
      have em : ∀ F G, m_moved (ms_numbers (ms_lies w F) G) = m_moved w := fun _ _ => rfl
      have ek2 : ∀ F G, m_movedNumbers (ms_numbers (ms_lies w F) G) = m_movedNumbers w := fun _ _ => rfl
      rw [em, ek2, goM_w, mj_cl hs (by omega) (by omega) (by omega), e8]
      have e6 : 8 * s.toNatClampNeg + j.toNatClampNeg + (k.toNatClampNeg + 1) = (8 * s.toNatClampNeg + j.toNatClampNeg + k.toNatClampNeg) + 1 := by omega
      have e9 : (goM (m_moved w) w s n f (k + 1)).toNatClampNeg - k.toNatClampNeg = ((goM (m_moved w) w s n f (k + 1)).toNatClampNeg - (k.toNatClampNeg + 1)) + 1 := by omega
      rw [e6, e9, cp2I, cp2J]
    by_cases h2 : m_moved w k.toNatClampNeg = (-1)
    · simp only [if_pos h2]
      exact go
    simp only [if_neg h2]
    by_cases h3 : fm_isSuch w (m_moved w k.toNatClampNeg) (m_bases w s.toNatClampNeg) (m_depths w s.toNatClampNeg - 1) = 0
    · simp only [if_pos h3]
      have e : ¬ k = n := by rw [eq_ti]; omega
      rw [if_neg e, Nat.sub_self, cp2_0, cp2_0, mk_eta]
    · simp only [if_neg h3]
      exact go
theorem pl_may (R : RR u v) {i : Nat} {y : Int32} (h : OKL v i y) : ¬ fm_mayBe v y = 0 := by
  have m0 := R.mi.1
  rw [mmay_iff R.mi]
  rcases h with h | h
  · rw [h, tim1]; omega
  · omega
/-- the row's count and the moved ones' -/
theorem goM_eq (R : RR u v) {r i s n : Int32} (hr : vp_in r 60) (hrt : r.toInt < (m_things v).toInt) (hl : ¬ led v r.toNatClampNeg) (hi : 0 ≤ i.toInt ∧ 0 ≤ n.toInt ∧ i.toInt + n.toInt ≤ (m_sizes v r.toNatClampNeg).toInt) {mv : Nat → Int32} (hmv : ∀ t : Nat, (t : Int) < n.toInt → mv t = m_lies v (8 * r.toNatClampNeg + i.toNatClampNeg + t)) : ∀ (f : Nat) (k : Int32), 0 ≤ k.toInt ∧ k.toInt ≤ n.toInt → goM mv v s n f k = fx_countGoing_L f u r i s n k := by
  intro f
  have z := R.mi.2.1 r.toNatClampNeg
  have hr2 := vp_in_iff.mp hr
  have er := cl_ti (a := r) (by omega)
  have eI := cl_ti (a := i) (by omega)
  induction f with
  | zero => intro k hk; rfl
  | succ f ih =>
    intro k hk
    have ek := cl_ti (a := k) (by omega)
    rw [goM, fx_countGoing_L]
    by_cases h : n ≤ k
    · rw [if_pos h, if_pos h]
    rw [if_neg h, if_neg h]
    rw [le_ti] at h
    have e7 : (k + 1).toInt = k.toInt + 1 := ti_inc (by omega) (by omega)
    have ei : (i + k).toInt = i.toInt + k.toInt := ti_add (by omega) (by omega)
    have ec := cl_ti (a := i + k) (by omega)
    have hp := R.pl r.toNatClampNeg (i.toNatClampNeg + k.toNatClampNeg) (by omega) (by omega)
    have hp2 := hp.2 hl
    have eq1 : 8 * r.toNatClampNeg + (i.toNatClampNeg + k.toNatClampNeg) = 8 * r.toNatClampNeg + i.toNatClampNeg + k.toNatClampNeg := by omega
    rw [eq1] at hp2
    have et : fx_thingAt u r (i + k) = mv k.toNatClampNeg := by
      unfold fx_thingAt
      rw [pi_cl hr (by omega) (by omega), show 8 * r.toNatClampNeg + (i + k).toNatClampNeg = 8 * r.toNatClampNeg + i.toNatClampNeg + k.toNatClampNeg by omega, hp2.1, i64_i32, hmv _ (by omega)]
    have hmay : ¬ fm_mayBe v (mv k.toNatClampNeg) = 0 := by
      rw [hmv _ (by omega)]
      exact pl_may R hp2.2.2
    have hg : fx_goesInto u (fx_thingAt u r (i + k)) s = 0 ↔ ¬ mv k.toNatClampNeg = (-1) ∧ fm_isSuch v (mv k.toNatClampNeg) (m_bases v s.toNatClampNeg) (m_depths v s.toNatClampNeg - 1) = 0 := by
      unfold fx_goesInto
      rw [et, R.tb, R.td]
      exact R.pass hmay (R.ty.1 _)
    rw [← ih (k + 1) (by omega)]
    by_cases h2 : mv k.toNatClampNeg = (-1)
    · rw [if_pos h2, if_neg (fun q => (hg.mp q).1 h2)]
    rw [if_neg h2]
    by_cases h3 : fm_isSuch v (mv k.toNatClampNeg) (m_bases v s.toNatClampNeg) (m_depths v s.toNatClampNeg - 1) = 0
    · rw [if_pos h3, if_pos (hg.mpr ⟨h2, h3⟩)]
    · rw [if_neg h3, if_neg (fun q => h3 (hg.mp q).2)]
theorem goM_led {mv : Nat → Int32} {w : MS} {s n : Int32} (hn : 0 ≤ n.toInt ∧ n.toInt ≤ 8) (hmv : ∀ t : Nat, (t : Int) < n.toInt → mv t = (-1)) : ∀ (f : Nat) (k : Int32), 0 ≤ k.toInt ∧ k.toInt ≤ n.toInt → n.toInt - k.toInt < (f : Int) → goM mv w s n f k = n := by
  intro f
  induction f with
  | zero => intro k hk hf; exfalso; omega
  | succ f ih =>
    intro k hk hf
    have ek := cl_ti (a := k) (by omega)
    rw [goM]
    by_cases h : n ≤ k
    · rw [if_pos h]; rw [le_ti] at h; exact eq_ti.mpr (by omega)
    rw [if_neg h]
    rw [le_ti] at h
    have e7 : (k + 1).toInt = k.toInt + 1 := ti_inc (by omega) (by omega)
    rw [if_pos (hmv _ (by omega)), ih (k + 1) (by omega) (by omega)]
theorem carry_rel (R : RR u v) {r s i j g : Nat} (hr : (r : Int) < (m_things v).toInt) (hs : (s : Int) < (m_things v).toInt) (hi : ((i + g : Nat) : Int) ≤ (m_sizes v r).toInt) (hj : ((j + g : Nat) : Int) ≤ (m_sizes v s).toInt) (hl : led v r ↔ led v s) {mv : Nat → Int32} {mn : Nat → Int64} (hm60 : ∀ q : Nat, (mv q).toInt < 60)
    (hmv : ∀ t : Nat, t < g → mv t = m_lies v (8 * r + i + t)) (hmn : ∀ t : Nat, t < g → mn t = m_numbers v (8 * r + i + t)) (hok : ¬ led v s → ∀ t : Nat, t < g → OKL v s (mv t)) :
    RR (xs_places u (va_cpy (x_places u) (x_places u) (8 * r + i) (8 * s + j) g)) (ms_numbers (ms_lies (mMv v mv mn) (va_cpy mv (m_lies v) 0 (8 * s + j) g)) (va_cpy mn (m_numbers v) 0 (8 * s + j) g)) := by
  have zr := R.mi.2.1 r
  have zs := R.mi.2.1 s
  refine ⟨R.1, ⟨R.mi.1, R.mi.2.1, ?_, hm60⟩, R.ty, R.wo, ?_⟩
  · intro q
    show -1 ≤ (va_cpy mv (m_lies v) 0 (8 * s + j) g q).toInt ∧ (va_cpy mv (m_lies v) 0 (8 * s + j) g q).toInt < 60
    unfold va_cpy
    split
    · rename_i h
      rw [hmv _ (by omega)]
      exact R.mi.2.2.1 _
    · exact R.mi.2.2.1 q
  · intro a k ha hk
    have ha : (a : Int) < (m_things v).toInt := ha
    have hk : (k : Int) < (m_sizes v a).toInt := hk
    have hp := R.pl a k ha hk
    have za := R.mi.2.1 a
    by_cases q : 8 * s + j ≤ 8 * a + k ∧ 8 * a + k < 8 * s + j + g
    · have e : a = s := by omega
      subst e
      have hp2 := R.pl r (i + (8 * a + k - (8 * a + j))) hr (by omega)
      have eq1 : 8 * r + (i + (8 * a + k - (8 * a + j))) = 8 * r + i + (8 * a + k - (8 * a + j)) := by omega
      rw [eq1] at hp2
      have x1 : va_cpy (x_places u) (x_places u) (8 * r + i) (8 * a + j) g (8 * a + k) = x_places u (8 * r + i + (8 * a + k - (8 * a + j))) := pk_cpy_in q.1 q.2
      have x2 : va_cpy mv (m_lies v) 0 (8 * a + j) g (8 * a + k) = m_lies v (8 * r + i + (8 * a + k - (8 * a + j))) := by
        rw [pk_cpy_in q.1 q.2, Nat.zero_add, hmv _ (by omega)]
      have x3 : va_cpy mn (m_numbers v) 0 (8 * a + j) g (8 * a + k) = m_numbers v (8 * r + i + (8 * a + k - (8 * a + j))) := by
        rw [pk_cpy_in q.1 q.2, Nat.zero_add, hmn _ (by omega)]
      refine ⟨fun c => ?_, fun c => ?_⟩
      · have c : led v a := c
        have g1 := hp2.1 (hl.mpr c)
        exact ⟨x1.trans (g1.1.trans x3.symm), x2.trans g1.2⟩
      · have c : ¬ led v a := c
        have g1 := hp2.2 (fun z => c (hl.mp z))
        refine ⟨x1.trans (g1.1.trans (congrArg Int32.toInt64 x2.symm)), x3.trans g1.2.1, ?_⟩
        show OKL v a (va_cpy mv (m_lies v) 0 (8 * a + j) g (8 * a + k))
        rw [pk_cpy_in q.1 q.2, Nat.zero_add]
        exact hok c _ (by omega)
    · have q2 : 8 * a + k < 8 * s + j ∨ 8 * s + j + g ≤ 8 * a + k := by omega
      have x1 : va_cpy (x_places u) (x_places u) (8 * r + i) (8 * s + j) g (8 * a + k) = x_places u (8 * a + k) := pk_cpy_out q2
      have x2 : va_cpy mv (m_lies v) 0 (8 * s + j) g (8 * a + k) = m_lies v (8 * a + k) := pk_cpy_out q2
      have x3 : va_cpy mn (m_numbers v) 0 (8 * s + j) g (8 * a + k) = m_numbers v (8 * a + k) := pk_cpy_out q2
      refine ⟨fun c => ?_, fun c => ?_⟩
      · have g1 := hp.1 c
        exact ⟨x1.trans (g1.1.trans x3.symm), x2.trans g1.2⟩
      · have g1 := hp.2 c
        refine ⟨x1.trans (g1.1.trans (congrArg Int32.toInt64 x2.symm)), x3.trans g1.2.1, ?_⟩
        show OKL v a (va_cpy mv (m_lies v) 0 (8 * s + j) g (8 * a + k))
        rw [x2]
        exact g1.2.2
end SimCarry
