/-! worth and frail: both sides are one number -/
def tl (t : Nat → Int64) : Nat → Nat → Int64
  | _, 0 => 0
  | k, n + 1 => t k + tl t (k + 1) n
def tc (t : Nat → Int32) : Nat → Nat → Int32
  | _, 0 => 0
  | k, n + 1 => t k + tc t (k + 1) n
theorem tl_congr {t t2 : Nat → Int64} : ∀ (n k : Nat), (∀ q, k ≤ q → q < k + n → t q = t2 q) → tl t k n = tl t2 k n := by
  intro n
  induction n with
  | zero => intro k h; rfl
  | succ n ih =>
    intro k h
    rw [tl, tl, h k (Nat.le_refl k) (by omega), ih (k + 1) (fun q h1 h2 => h q (by omega) (by omega))]
theorem tc_congr {t t2 : Nat → Int32} : ∀ (n k : Nat), (∀ q, k ≤ q → q < k + n → t q = t2 q) → tc t k n = tc t2 k n := by
  intro n
  induction n with
  | zero => intro k h; rfl
  | succ n ih =>
    intro k h
    rw [tc, tc, h k (Nat.le_refl k) (by omega), ih (k + 1) (fun q h1 h2 => h q (by omega) (by omega))]
def pwM (v : MS) (x : Nat) : Int64 := if m_depths v x ≤ 0 then (if m_bases v x = 1 then 2 * Int32.toInt64 (m_worths v x) else (if m_bases v x = 3 then Int32.toInt64 (m_worths v x) + 100 else Int32.toInt64 (m_worths v x))) else 0
def pcM (v : MS) (x : Nat) : Int32 := if m_depths v x = 0 then (if fm_goesFor (m_bases v x) 4 = 0 then 0 else 1) else 0
def tW (v : MS) (s : Nat → Int64) (x k : Nat) : Int64 := m_numbers v (8 * x + k) + (if m_lies v (8 * x + k) = (-1) then 0 else s (m_lies v (8 * x + k)).toNatClampNeg)
def tC (v : MS) (c : Nat → Int32) (x k : Nat) : Int32 := if m_lies v (8 * x + k) = (-1) then 0 else c (m_lies v (8 * x + k)).toNatClampNeg
/-- the numbers themselves, by depth -/
def wv (v : MS) : Nat → Nat → Int64
  | 0, x => pwM v x
  | d + 1, x => tl (tW v (wv v d) x) 0 (m_sizes v x).toNatClampNeg
def cv (v : MS) : Nat → Nat → Int32
  | 0, x => pcM v x
  | d + 1, x => tc (tC v (cv v d) x) 0 (m_sizes v x).toNatClampNeg
section SimWorth
variable {u : XS} {v : MS}
theorem ao_1 (w : MS) (x : Int32) : fm_addOne w x = fm_addOne_L 9 w x (pwM w x.toNatClampNeg) (pcM w x.toNatClampNeg) (8 * x) := by
  unfold fm_addOne pwM pcM
  by_cases h1 : m_depths w x.toNatClampNeg ≤ 0
  · simp only [if_pos h1]
    by_cases h2 : m_bases w x.toNatClampNeg = 1
    · simp only [if_pos h2]
      by_cases h4 : m_depths w x.toNatClampNeg = 0
      · simp only [if_pos h4]
        by_cases h5 : fm_goesFor (m_bases w x.toNatClampNeg) 4 = 0
        · simp only [if_pos h5]
        · simp only [if_neg h5]
      · simp only [if_neg h4]
    · simp only [if_neg h2]
      by_cases h3 : m_bases w x.toNatClampNeg = 3
      · simp only [if_pos h3]
        by_cases h4 : m_depths w x.toNatClampNeg = 0
        · simp only [if_pos h4]
          by_cases h5 : fm_goesFor (m_bases w x.toNatClampNeg) 4 = 0
          · simp only [if_pos h5]
          · simp only [if_neg h5]
        · simp only [if_neg h4]
      · simp only [if_neg h3]
        by_cases h4 : m_depths w x.toNatClampNeg = 0
        · simp only [if_pos h4]
          by_cases h5 : fm_goesFor (m_bases w x.toNatClampNeg) 4 = 0
          · simp only [if_pos h5]
          · simp only [if_neg h5]
        · simp only [if_neg h4]
  · simp only [if_neg h1]
    by_cases h4 : m_depths w x.toNatClampNeg = 0
    · simp only [if_pos h4]
      by_cases h5 : fm_goesFor (m_bases w x.toNatClampNeg) 4 = 0
      · simp only [if_pos h5]
      · simp only [if_neg h5]
    · simp only [if_neg h4]
theorem ao_2 {w : MS} {x : Int32} (hx : vp_in x 60) (hs : 0 ≤ (m_sizes w x.toNatClampNeg).toInt ∧ (m_sizes w x.toNatClampNeg).toInt ≤ 8) : ∀ (f K : Nat) (a : Int64) (c k : Int32), k.toInt = 8 * x.toInt + K → (K : Int) ≤ (m_sizes w x.toNatClampNeg).toInt → (m_sizes w x.toNatClampNeg).toInt - K < (f : Int) →
    fm_addOne_L f w x a c k = ms_counts (ms_sums w (vp_updL (m_sums w) x.toNatClampNeg (a + tl (tW w (m_sums w) x.toNatClampNeg) K ((m_sizes w x.toNatClampNeg).toNatClampNeg - K)))) (upd (m_counts w) x.toNatClampNeg (c + tc (tC w (m_counts w) x.toNatClampNeg) K ((m_sizes w x.toNatClampNeg).toNatClampNeg - K))) := by
  intro f
  have hx2 := vp_in_iff.mp hx
  have ex := cl_ti (a := x) (by omega)
  have es := cl_ti (a := m_sizes w x.toNatClampNeg) (by omega)
  induction f with
  | zero => intro K a c k hk hK hf; exfalso; omega
  | succ f ih =>
    intro K a c k hk hK hf
    have ek := cl_ti (a := k) (by omega)
    have e8 := mi_ti hx (i := m_sizes w x.toNatClampNeg) (by omega) (by omega)
    have eK : k.toNatClampNeg = 8 * x.toNatClampNeg + K := by omega
    rw [fm_addOne_L]
    by_cases h : (8 * x) + m_sizes w x.toNatClampNeg ≤ k
    · rw [if_pos h]
      rw [le_ti, e8] at h
      rw [show (m_sizes w x.toNatClampNeg).toNatClampNeg - K = 0 by omega, tl, tc, Int64.add_zero, Int32.add_zero]
    · rw [if_neg h]
      rw [le_ti, e8] at h
      have e7 : (k + 1).toInt = k.toInt + 1 := ti_inc (by omega) (by omega)
      have ih1 := fun a c => ih (K + 1) a c (k + 1) (by omega) (by omega) (by omega)
      have eS : (m_sizes w x.toNatClampNeg).toNatClampNeg - K = ((m_sizes w x.toNatClampNeg).toNatClampNeg - (K + 1)) + 1 := by omega
      rw [eS, tl, tc]
      rw [eK]
      by_cases h2 : m_lies w (8 * x.toNatClampNeg + K) = (-1)
      · have t1 : tW w (m_sums w) x.toNatClampNeg K = m_numbers w (8 * x.toNatClampNeg + K) + 0 := by unfold tW; rw [if_pos h2]
        have t2 : tC w (m_counts w) x.toNatClampNeg K = 0 := by unfold tC; rw [if_pos h2]
        rw [if_pos h2, if_pos h2, t1, t2]
        refine (ih1 _ _).trans ?_
        rw [Int64.add_assoc a, Int32.add_assoc c]
      · have t1 : tW w (m_sums w) x.toNatClampNeg K = m_numbers w (8 * x.toNatClampNeg + K) + m_sums w (m_lies w (8 * x.toNatClampNeg + K)).toNatClampNeg := by unfold tW; rw [if_neg h2]
        have t2 : tC w (m_counts w) x.toNatClampNeg K = m_counts w (m_lies w (8 * x.toNatClampNeg + K)).toNatClampNeg := by unfold tC; rw [if_neg h2]
        rw [if_neg h2, if_neg h2, t1, t2]
        refine (ih1 _ _).trans ?_
        rw [Int64.add_assoc a, Int32.add_assoc c]
/-- a state that differs from v in its sums and counts alone -/
def mSC (v : MS) (s : Nat → Int64) (c : Nat → Int32) : MS := ms_counts (ms_sums v s) c
theorem mSC_eta (v : MS) : mSC v (m_sums v) (m_counts v) = v := rfl
theorem mSC_s (v : MS) (s : Nat → Int64) (c : Nat → Int32) : m_sums (mSC v s c) = s := rfl
theorem mSC_c (v : MS) (s : Nat → Int64) (c : Nat → Int32) : m_counts (mSC v s c) = c := rfl
theorem mSC_mSC (v : MS) (s s2 : Nat → Int64) (c c2 : Nat → Int32) : mSC (mSC v s c) s2 c2 = mSC v s2 c2 := by simp only [mSC, ms_counts, ms_sums]
theorem mSC_z (v : MS) (s : Nat → Int64) (c : Nat → Int32) : m_sizes (mSC v s c) = m_sizes v := rfl
theorem mSC_d (v : MS) (s : Nat → Int64) (c : Nat → Int32) : m_depths (mSC v s c) = m_depths v := rfl
theorem mSC_t (v : MS) (s : Nat → Int64) (c : Nat → Int32) : m_things (mSC v s c) = m_things v := rfl
theorem mSC_pw (v : MS) (s : Nat → Int64) (c : Nat → Int32) (x : Nat) : pwM (mSC v s c) x = pwM v x := rfl
theorem mSC_pc (v : MS) (s : Nat → Int64) (c : Nat → Int32) (x : Nat) : pcM (mSC v s c) x = pcM v x := rfl
theorem mSC_tW (v : MS) (s : Nat → Int64) (c : Nat → Int32) (z : Nat → Int64) (x : Nat) : tW (mSC v s c) z x = tW v z x := rfl
theorem mSC_tC (v : MS) (s : Nat → Int64) (c : Nat → Int32) (z : Nat → Int32) (x : Nat) : tC (mSC v s c) z x = tC v z x := rfl
theorem ao_3 {s : Nat → Int64} {c : Nat → Int32} {x : Int32} (hx : vp_in x 60) (hs : 0 ≤ (m_sizes v x.toNatClampNeg).toInt ∧ (m_sizes v x.toNatClampNeg).toInt ≤ 8) :
    fm_addOne (mSC v s c) x = mSC v (vp_updL s x.toNatClampNeg (pwM v x.toNatClampNeg + tl (tW v s x.toNatClampNeg) 0 (m_sizes v x.toNatClampNeg).toNatClampNeg)) (upd c x.toNatClampNeg (pcM v x.toNatClampNeg + tc (tC v c x.toNatClampNeg) 0 (m_sizes v x.toNatClampNeg).toNatClampNeg)) := by
  have h := ao_2 (w := mSC v s c) hx (by rw [mSC_z]; exact hs) 9 0 (pwM v x.toNatClampNeg) (pcM v x.toNatClampNeg) (8 * x) (by rw [mi_8 hx]; omega) (by rw [mSC_z]; omega) (by rw [mSC_z]; omega)
  rw [ao_1, mSC_pw, mSC_pc, h, mSC_s, mSC_c, mSC_z, mSC_tW, mSC_tC, Nat.sub_zero]
  exact mSC_mSC v s _ c _
/-- what the sums are so far: right for all things of a depth below d, and of depth d below x -/
def okS (v : MS) (s : Nat → Int64) (c : Nat → Int32) (d x : Int) : Prop := ∀ y : Nat, (y : Int) < (m_things v).toInt → ((m_depths v y).toInt < d ∨ ((m_depths v y).toInt = d ∧ (y : Int) < x)) → s y = wv v (m_depths v y).toNatClampNeg y ∧ c y = cv v (m_depths v y).toNatClampNeg y
theorem one_ok (R : RR u v) {s : Nat → Int64} {c : Nat → Int32} {d : Int} {x : Nat} (hx : (x : Int) < (m_things v).toInt) (hd : (m_depths v x).toInt = d) (h : okS v s c d x) :
    pwM v x + tl (tW v s x) 0 (m_sizes v x).toNatClampNeg = wv v (m_depths v x).toNatClampNeg x ∧ pcM v x + tc (tC v c x) 0 (m_sizes v x).toNatClampNeg = cv v (m_depths v x).toNatClampNeg x := by
  have d1 := R.ty.2.1 x
  have ed := cl_ti (a := m_depths v x) (by omega)
  have z := R.mi.2.1 x
  have ez := cl_ti (a := m_sizes v x) (by omega)
  by_cases h0 : m_depths v x = 0
  · have q := R.ty.2.2.1 x h0
    have e0 : (m_depths v x).toNatClampNeg = 0 := by rw [h0]; decide
    have e1 : (m_sizes v x).toNatClampNeg = 0 := by omega
    rw [e0, e1, tl, tc, wv, cv, Int64.add_zero, Int32.add_zero]
    exact ⟨rfl, rfl⟩
  · have h1 := h0
    rw [eq_ti, ti0] at h1
    obtain ⟨m, hm⟩ : ∃ m, (m_depths v x).toNatClampNeg = m + 1 := ⟨(m_depths v x).toNatClampNeg - 1, by omega⟩
    have p1 : pwM v x = 0 := by unfold pwM; rw [if_neg (by rw [le_ti, ti0]; omega)]
    have p2 : pcM v x = 0 := by unfold pcM; rw [if_neg h0]
    have key : ∀ k : Nat, (k : Int) < (m_sizes v x).toInt → ¬ m_lies v (8 * x + k) = (-1) → s (m_lies v (8 * x + k)).toNatClampNeg = wv v m (m_lies v (8 * x + k)).toNatClampNeg ∧ c (m_lies v (8 * x + k)).toNatClampNeg = cv v m (m_lies v (8 * x + k)).toNatClampNeg := by
      intro k hk hn
      have hp := R.pl x k hx hk
      by_cases hl : led v x
      · exact absurd (hp.1 hl).2 hn
      · rcases (hp.2 hl).2.2 with q | ⟨g1, g2, g3, g4⟩
        · exact absurd q hn
        · have ey := cl_ti g1
          have dy := R.ty.2.1 (m_lies v (8 * x + k)).toNatClampNeg
          have edy := cl_ti (a := m_depths v (m_lies v (8 * x + k)).toNatClampNeg) (by omega)
          have e := h (m_lies v (8 * x + k)).toNatClampNeg (by omega) (Or.inl (by omega))
          rw [show (m_depths v (m_lies v (8 * x + k)).toNatClampNeg).toNatClampNeg = m by omega] at e
          exact e
    rw [hm, wv, cv, p1, p2, Int64.zero_add, Int32.zero_add]
    constructor
    · refine tl_congr _ 0 (fun k h3 h4 => ?_)
      unfold tW
      by_cases hn : m_lies v (8 * x + k) = (-1)
      · rw [if_pos hn, if_pos hn]
      · rw [if_neg hn, if_neg hn, (key k (by omega) hn).1]
    · refine tc_congr _ 0 (fun k h3 h4 => ?_)
      unfold tC
      by_cases hn : m_lies v (8 * x + k) = (-1)
      · rw [if_pos hn, if_pos hn]
      · rw [if_neg hn, if_neg hn, (key k (by omega) hn).2]
theorem up_I (R : RR u v) (d : Int32) : ∀ (f : Nat) (s : Nat → Int64) (c : Nat → Int32) (x : Int32), 0 ≤ x.toInt ∧ x.toInt ≤ (m_things v).toInt → (m_things v).toInt - x.toInt < (f : Int) → okS v s c d.toInt x.toInt → ∃ (s2 : Nat → Int64) (c2 : Nat → Int32), fm_addUp_I f (mSC v s c) d x = mSC v s2 c2 ∧ okS v s2 c2 (d.toInt + 1) 0 := by
  intro f
  have m0 := R.mi.1
  induction f with
  | zero => intro s c x hx hf; exfalso; omega
  | succ f ih =>
    intro s c x hx hf h
    have ex := cl_ti (a := x) (by omega)
    rw [fm_addUp_I, mSC_t, mSC_d]
    by_cases h1 : m_things v ≤ x
    · rw [if_pos h1]
      rw [le_ti] at h1
      refine ⟨s, c, rfl, ?_⟩
      intro y hy hq
      refine h y hy ?_
      rcases hq with q | q
      · by_cases e : (m_depths v y).toInt = d.toInt
        · exact Or.inr ⟨e, by omega⟩
        · exact Or.inl (by omega)
      · omega
    rw [if_neg h1]
    rw [le_ti] at h1
    have e7 : (x + 1).toInt = x.toInt + 1 := ti_inc (by omega) (by omega)
    by_cases h2 : m_depths v x.toNatClampNeg = d
    · rw [if_pos h2, ao_3 (by rw [vp_in_iff]; omega) (R.mi.2.1 _)]
      refine ih _ _ (x + 1) (by omega) (by omega) ?_
      have hx2 : (x.toNatClampNeg : Int) < (m_things v).toInt := by omega
      have o := one_ok R (s := s) (c := c) (d := d.toInt) (x := x.toNatClampNeg) hx2 (by rw [h2]) (by rw [ex]; exact h)
      intro y hy hq
      unfold vp_updL upd
      by_cases e : y = x.toNatClampNeg
      · rw [if_pos e, if_pos e, e]; exact o
      · rw [if_neg e, if_neg e]
        refine h y hy ?_
        rcases hq with q | q
        · exact Or.inl q
        · exact Or.inr ⟨q.1, by omega⟩
    · rw [if_neg h2]
      refine ih _ _ (x + 1) (by omega) (by omega) ?_
      intro y hy hq
      refine h y hy ?_
      rcases hq with q | q
      · exact Or.inl q
      · refine Or.inr ⟨q.1, ?_⟩
        have : ¬ y = x.toNatClampNeg := by
          intro e
          rw [e] at q
          exact h2 (eq_ti.mpr q.1)
        omega
theorem up_L (R : RR u v) : ∀ (f : Nat) (s : Nat → Int64) (c : Nat → Int32) (d : Int32), 0 ≤ d.toInt ∧ d.toInt ≤ 4 → 4 - d.toInt < (f : Int) → okS v s c d.toInt 0 → ∃ (s2 : Nat → Int64) (c2 : Nat → Int32), fm_addUp_L f (mSC v s c) d = mSC v s2 c2 ∧ okS v s2 c2 4 0 := by
  intro f
  have m0 := R.mi.1
  induction f with
  | zero => intro s c d hd hf; exfalso; omega
  | succ f ih =>
    intro s c d hd hf h
    rw [fm_addUp_L]
    by_cases h1 : 4 ≤ d
    · rw [if_pos h1]
      rw [le_ti, ti4] at h1
      refine ⟨s, c, rfl, ?_⟩
      rw [show (4 : Int) = d.toInt by omega]; exact h
    rw [if_neg h1]
    rw [le_ti, ti4] at h1
    have e7 : (d + 1).toInt = d.toInt + 1 := ti_inc (by omega) (by omega)
    obtain ⟨s2, c2, e, h2⟩ := up_I R d 61 s c 0 (by rw [ti0]; omega) (by rw [ti0]; omega) (by rw [ti0]; exact h)
    rw [e]
    exact ih s2 c2 (d + 1) (by omega) (by omega) (by rw [e7]; exact h2)
theorem up_eq (R : RR u v) : ∃ (s : Nat → Int64) (c : Nat → Int32), fm_addUp v = mSC v s c ∧ ∀ y : Nat, (y : Int) < (m_things v).toInt → s y = wv v (m_depths v y).toNatClampNeg y ∧ c y = cv v (m_depths v y).toNatClampNeg y := by
  obtain ⟨s, c, e, h⟩ := up_L R 5 (m_sums v) (m_counts v) 0 (by rw [ti0]; omega) (by rw [ti0]; omega) (by
    intro y hy hq
    rw [ti0] at hq
    have := R.ty.2.1 y
    omega)
  refine ⟨s, c, ?_, ?_⟩
  · rw [← e, mSC_eta]; rfl
  · intro y hy
    have := R.ty.2.1 y
    exact h y hy (Or.inl (by omega))
theorem RR.sc (R : RR u v) (s : Nat → Int64) (c : Nat → Int32) : RR u (mSC v s c) := R
end SimWorth
