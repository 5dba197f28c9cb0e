/-! the two states beside each other -/
def led (v : MS) (i : Nat) : Prop := m_depths v i = 1 ∧ 4 < (m_bases v i).toInt
/-- what may lie in a place of row i -/
def OKL (v : MS) (i : Nat) (y : Int32) : Prop := y = (-1) ∨ (0 ≤ y.toInt ∧ y.toInt < (m_things v).toInt ∧ (m_depths v y.toNatClampNeg).toInt + 1 = (m_depths v i).toInt ∧ ((m_bases v i).toInt ≤ 4 → (m_bases v y.toNatClampNeg).toInt ≤ 4))
def TY (v : MS) : Prop := (∀ i : Nat, 0 ≤ (m_bases v i).toInt ∧ (m_bases v i).toInt ≤ 6) ∧ (∀ i : Nat, 0 ≤ (m_depths v i).toInt ∧ (m_depths v i).toInt ≤ 3) ∧ (∀ i : Nat, m_depths v i = 0 → (m_bases v i).toInt ≤ 3 ∧ (m_sizes v i).toInt = 0) ∧ (∀ k : Nat, 0 ≤ (m_doorBase v k).toInt ∧ (m_doorBase v k).toInt ≤ 6)
def PLa (u : XS) (v : MS) (i q : Nat) : Prop := (led v i → x_places u q = m_numbers v q ∧ m_lies v q = (-1)) ∧ (¬ led v i → x_places u q = (m_lies v q).toInt64 ∧ m_numbers v q = 0 ∧ OKL v i (m_lies v q))
def PL (u : XS) (v : MS) : Prop := ∀ i k : Nat, (i : Int) < (m_things v).toInt → (k : Int) < (m_sizes v i).toInt → PLa u v i (8 * i + k)
def WO (u : XS) (v : MS) : Prop := ∀ i : Nat, (i : Int) < (m_things v).toInt → m_depths v i = 0 → x_pieceWorth u i = m_worths v i
def EQ (u : XS) (v : MS) : Prop := x_thingCount u = m_things v ∧ x_thingBase u = m_bases v ∧ x_thingDepth u = m_depths v ∧ x_thingSize u = m_sizes v ∧ x_doorBase u = m_doorBase v ∧ x_doorDepth u = m_doorDepth v ∧ x_failureCount u = m_failures v ∧ x_latestFailure u = m_latest v ∧ x_closedDoor u = m_last v
def RR (u : XS) (v : MS) : Prop := EQ u v ∧ MI v ∧ TY v ∧ WO u v ∧ PL u v
def SR (p : Int32 × XS) (q : Int32 × MS) : Prop := p.1 = q.1 ∧ RR p.2 q.2
section Simulation
variable {u : XS} {v : MS}
theorem RR.tc (R : RR u v) : x_thingCount u = m_things v := R.1.1
theorem RR.tb (R : RR u v) : x_thingBase u = m_bases v := R.1.2.1
theorem RR.td (R : RR u v) : x_thingDepth u = m_depths v := R.1.2.2.1
theorem RR.ts (R : RR u v) : x_thingSize u = m_sizes v := R.1.2.2.2.1
theorem RR.db (R : RR u v) : x_doorBase u = m_doorBase v := R.1.2.2.2.2.1
theorem RR.dd (R : RR u v) : x_doorDepth u = m_doorDepth v := R.1.2.2.2.2.2.1
theorem RR.fc (R : RR u v) : x_failureCount u = m_failures v := R.1.2.2.2.2.2.2.1
theorem RR.lf (R : RR u v) : x_latestFailure u = m_latest v := R.1.2.2.2.2.2.2.2.1
theorem RR.cd (R : RR u v) : x_closedDoor u = m_last v := R.1.2.2.2.2.2.2.2.2
theorem RR.mi (R : RR u v) : MI v := R.2.1
theorem RR.ty (R : RR u v) : TY v := R.2.2.1
theorem RR.wo (R : RR u v) : WO u v := R.2.2.2.1
theorem RR.pl (R : RR u v) : PL u v := R.2.2.2.2
theorem RR.xi (R : RR u v) : XI u := by
  refine ⟨?_, ?_, ?_⟩
  · rw [R.tc]; exact R.mi.1
  · intro i
    rw [R.tb, vp_in_iff]
    have := R.ty.1 i
    omega
  · intro i
    rw [R.ts]; exact R.mi.2.1 i
theorem b01 {a b : Int32} (ha : a = 0 ∨ a = 1) (hb : b = 0 ∨ b = 1) (h : ¬ a = 0 ↔ ¬ b = 0) : a = b := by
  rcases ha with rfl | rfl <;> rcases hb with rfl | rfl
  · rfl
  · exact absurd rfl (h.mpr (by decide))
  · exact absurd rfl (h.mp (by decide))
  · rfl
theorem xthing_iff {x : Int32} : ¬ fx_isThing u x = 0 ↔ 0 ≤ x.toInt ∧ x.toInt < (x_thingCount u).toInt := by
  unfold fx_isThing
  by_cases h1 : x < 0
  · rw [if_pos h1]; rw [lt_ti, ti0] at h1
    constructor
    · intro h; exact absurd rfl h
    · intro h; omega
  rw [if_neg h1]; rw [lt_ti, ti0] at h1
  by_cases h2 : x_thingCount u ≤ x
  · rw [if_pos h2]; rw [le_ti] at h2
    constructor
    · intro h; exact absurd rfl h
    · intro h; omega
  rw [if_neg h2]; rw [le_ti] at h2
  constructor
  · intro _; omega
  · intro _; decide
theorem RR.thing (R : RR u v) (x : Int32) : fx_isThing u x = fm_isThing v x := by
  refine b01 (fx_isThing_01 u x) (fm_isThing_01 v x) ?_
  rw [xthing_iff, mthing_iff R.mi, R.tc]
theorem RR.ton (R : RR u v) (x : Int32) : fx_isThingOrNone u x = fm_mayBe v x := by
  refine b01 (fx_isThingOrNone_01 u x) (fm_mayBe_01 v x) ?_
  rw [mmay_iff R.mi]
  have hM := R.mi.1
  unfold fx_isThingOrNone
  by_cases h : x = (-1)
  · rw [if_pos h]
    constructor
    · intro _; rw [h, tim1]; omega
    · intro _; decide
  rw [if_neg h]
  rw [ne_m1] at h
  by_cases h2 : fx_isThing u x = 0
  · rw [if_pos h2]
    constructor
    · intro q; exact absurd rfl q
    · intro q
      exact absurd h2 (xthing_iff.mpr (by rw [R.tc]; omega))
  rw [if_neg h2]
  have h3 := xthing_iff.mp h2
  rw [R.tc] at h3
  constructor
  · intro _; omega
  · intro _; decide
theorem RR.room (R : RR u v) : fx_hasRoomFor u 1 = 0 ↔ m_things v = 60 := by
  have h1 := R.mi.1
  unfold fx_hasRoomFor
  rw [R.tc]
  have e : (m_things v + 1).toInt = (m_things v).toInt + 1 := ti_inc (by omega) (by omega)
  by_cases h : 60 < m_things v + 1
  · rw [if_pos h]; rw [lt_ti, e, ti60] at h
    constructor
    · intro _; exact Int32.toInt_inj.mp (by rw [ti60]; omega)
    · intro _; rfl
  · rw [if_neg h]; rw [lt_ti, e, ti60] at h
    constructor
    · intro q; exact absurd q (by decide)
    · intro q; rw [q, ti60] at h; omega
theorem eq_ti {a b : Int32} : a = b ↔ a.toInt = b.toInt := Int32.toInt_inj.symm
theorem ti5 : (5 : Int32).toInt = 5 := by decide
theorem ti6 : (6 : Int32).toInt = 6 := by decide
theorem ti2 : (2 : Int32).toInt = 2 := by decide
theorem ti3 : (3 : Int32).toInt = 3 := by decide
theorem ti7 : (7 : Int32).toInt = 7 := by decide
theorem nb_iff {b : Int32} (h : 0 ≤ b.toInt ∧ b.toInt ≤ 6) : ¬ fx_isNumberBase b = 0 ↔ 4 < b.toInt := by
  unfold fx_isNumberBase
  by_cases h1 : b = 5
  · rw [if_pos h1]; rw [eq_ti, ti5] at h1
    constructor
    · intro _; omega
    · intro _; decide
  rw [if_neg h1]; rw [eq_ti, ti5] at h1
  by_cases h2 : b = 6
  · rw [if_pos h2]; rw [eq_ti, ti6] at h2
    constructor
    · intro _; omega
    · intro _; decide
  rw [if_neg h2]; rw [eq_ti, ti6] at h2
  constructor
  · intro q; exact absurd rfl q
  · intro _; omega
theorem xled_iff (R : RR u v) (x : Int32) : ¬ fx_isLedger u x = 0 ↔ led v x.toNatClampNeg := by
  unfold fx_isLedger led
  rw [R.td, R.tb]
  have ht := R.ty.1 x.toNatClampNeg
  have hn := nb_iff ht
  by_cases h1 : m_depths v x.toNatClampNeg = 1
  · rw [if_pos h1]
    by_cases h2 : fx_isNumberBase (m_bases v x.toNatClampNeg) = 0
    · rw [if_pos h2]
      constructor
      · intro q; exact absurd rfl q
      · intro q; exact absurd h2 (hn.mpr q.2)
    · rw [if_neg h2]
      constructor
      · intro _; exact ⟨h1, hn.mp h2⟩
      · intro _; decide
  · rw [if_neg h1]
    constructor
    · intro q; exact absurd rfl q
    · intro q; exact absurd q.1 h1
theorem mled_iff (x : Int32) : ¬ fm_isLedger v x = 0 ↔ led v x.toNatClampNeg := by
  unfold fm_isLedger led
  by_cases h1 : m_depths v x.toNatClampNeg = 1
  · rw [if_pos h1]
    by_cases h2 : m_bases v x.toNatClampNeg ≤ 4
    · rw [if_pos h2]; rw [le_ti, ti4] at h2
      constructor
      · intro q; exact absurd rfl q
      · intro q; omega
    · rw [if_neg h2]; rw [le_ti, ti4] at h2
      constructor
      · intro _; exact ⟨h1, by omega⟩
      · intro _; decide
  · rw [if_neg h1]
    constructor
    · intro q; exact absurd rfl q
    · intro q; exact absurd q.1 h1
theorem RR.led (R : RR u v) (x : Int32) : fx_isLedger u x = fm_isLedger v x := by
  refine b01 (fx_isLedger_01 u x) (fm_isLedger_01 v x) ?_
  rw [xled_iff R, mled_iff]
theorem gf_all : ∀ a : Fin 7, ∀ b : Fin 7, fx_goesFor (nI a.val) (nI b.val) = fm_goesFor (nI a.val) (nI b.val) := by decide +kernel
theorem nI_7 {a : Int32} (h : 0 ≤ a.toInt ∧ a.toInt ≤ 6) : ∃ j : Fin 7, a = nI j.val := by
  obtain ⟨j, h1, h2⟩ := vp_in_of (x := a) (n := 7) (by rw [vp_in_iff]; omega) (by decide)
  exact ⟨⟨j, h1⟩, h2⟩
theorem gf_eq {a b : Int32} (ha : 0 ≤ a.toInt ∧ a.toInt ≤ 6) (hb : 0 ≤ b.toInt ∧ b.toInt ≤ 6) : fx_goesFor a b = fm_goesFor a b := by
  obtain ⟨j, rfl⟩ := nI_7 ha
  obtain ⟨k, rfl⟩ := nI_7 hb
  exact gf_all j k
theorem gf_low_all : ∀ a : Fin 7, ∀ b : Fin 7, ¬ fm_goesFor (nI a.val) (nI b.val) = 0 → b.val ≤ 4 → a.val ≤ 4 := by decide +kernel
theorem gf_low {a b : Int32} (ha : 0 ≤ a.toInt ∧ a.toInt ≤ 6) (hb : 0 ≤ b.toInt ∧ b.toInt ≤ 6) (h : ¬ fm_goesFor a b = 0) (h4 : b.toInt ≤ 4) : a.toInt ≤ 4 := by
  obtain ⟨j, rfl⟩ := nI_7 ha
  obtain ⟨k, rfl⟩ := nI_7 hb
  have hj := j.isLt
  have hk := k.isLt
  have e1 := nI_toInt (n := j.val) (by omega)
  have e2 := nI_toInt (n := k.val) (by omega)
  have := gf_low_all j k h (by omega)
  omega
/-- isOfKind and isSuch agree on what is a thing, or none -/
theorem RR.such (R : RR u v) {x b d : Int32} (hx : ¬ fm_mayBe v x = 0) (hb : 0 ≤ b.toInt ∧ b.toInt ≤ 6) : fx_isOfKind u x b d = fm_isSuch v x b d := by
  unfold fx_isOfKind fm_isSuch
  have h1 := (mmay_iff R.mi).mp hx
  rw [R.td, R.tb]
  by_cases h : fx_isThing u x = 0
  · rw [if_pos h]
    have h2 : ¬ (0 ≤ x.toInt ∧ x.toInt < (x_thingCount u).toInt) := fun q => xthing_iff.mpr q h
    rw [R.tc] at h2
    rw [if_pos (by rw [lt_ti, ti0]; omega)]
  · rw [if_neg h]
    have h2 := xthing_iff.mp h
    have h3 : ¬ x < 0 := by rw [lt_ti, ti0]; omega
    rw [if_neg h3, gf_eq (R.ty.1 _) hb]
/-- going through: NONE, or such a one -/
def mPass (v : MS) (x b d : Int32) : Prop := x = (-1) ∨ ¬ fm_isSuch v x b d = 0
theorem RR.pass (R : RR u v) {x b d : Int32} (hx : ¬ fm_mayBe v x = 0) (hb : 0 ≤ b.toInt ∧ b.toInt ≤ 6) : fx_mayPass u x b d = 0 ↔ ¬ x = (-1) ∧ fm_isSuch v x b d = 0 := by
  unfold fx_mayPass
  rw [R.such hx hb]
  by_cases h : x = (-1)
  · rw [if_pos h]
    constructor
    · intro q; exact absurd q (by decide)
    · intro q; exact absurd h q.1
  rw [if_neg h]
  by_cases h2 : fm_isSuch v x b d = 0
  · rw [if_pos h2]; exact ⟨fun _ => ⟨h, h2⟩, fun _ => rfl⟩
  · rw [if_neg h2]
    constructor
    · intro q; exact absurd q (by decide)
    · intro q; exact absurd q.2 h2
theorem isDoor_eq (k : Int32) : fx_isDoor k = fm_isIn k 0 7 := by
  refine b01 (fx_isDoor_01 k) (fm_isIn_01 k 0 7) ?_
  rw [isIn_iff, ti0, ti7]
  constructor
  · intro h
    have := vp_in_iff.mp (xd_in h)
    omega
  · intro h
    unfold fx_isDoor
    rw [if_neg (by rw [lt_ti, ti0]; omega), if_neg (by rw [le_ti, ti8]; omega)]
    decide
theorem isKind_iff (b d : Int32) : ¬ fx_isKind b d = 0 ↔ (0 ≤ b.toInt ∧ b.toInt ≤ 6 ∧ 0 ≤ d.toInt ∧ d.toInt ≤ 3 ∧ (4 < b.toInt → d.toInt = 1 ∨ d.toInt = 2)) := by
  unfold fx_isKind
  by_cases h1 : b < 0
  · rw [if_pos h1]; rw [lt_ti, ti0] at h1
    constructor
    · intro q; exact absurd rfl q
    · intro q; omega
  rw [if_neg h1]; rw [lt_ti, ti0] at h1
  by_cases h2 : b ≤ 6
  · rw [if_pos h2]; rw [le_ti, ti6] at h2
    have hn := nb_iff (b := b) (by omega)
    by_cases h3 : fx_isNumberBase b = 0
    · rw [if_pos h3]
      have h4 : ¬ 4 < b.toInt := fun q => hn.mpr q h3
      by_cases h5 : d < 0
      · rw [if_pos h5]; rw [lt_ti, ti0] at h5
        constructor
        · intro q; exact absurd rfl q
        · intro q; omega
      rw [if_neg h5]; rw [lt_ti, ti0] at h5
      by_cases h6 : 3 < d
      · rw [if_pos h6]; rw [lt_ti, ti3] at h6
        constructor
        · intro q; exact absurd rfl q
        · intro q; omega
      rw [if_neg h6]; rw [lt_ti, ti3] at h6
      constructor
      · intro _; omega
      · intro _; decide
    · rw [if_neg h3]
      have h4 := hn.mp h3
      by_cases h5 : d = 1
      · rw [if_pos h5]; rw [eq_ti, ti1] at h5
        constructor
        · intro _; omega
        · intro _; decide
      rw [if_neg h5]; rw [eq_ti, ti1] at h5
      by_cases h6 : d = 2
      · rw [if_pos h6]; rw [eq_ti, ti2] at h6
        constructor
        · intro _; omega
        · intro _; decide
      rw [if_neg h6]; rw [eq_ti, ti2] at h6
      constructor
      · intro q; exact absurd rfl q
      · intro q; omega
  · rw [if_neg h2]; rw [le_ti, ti6] at h2
    constructor
    · intro q; exact absurd rfl q
    · intro q; omega
theorem isAsked_iff (b d : Int32) : ¬ fm_isAsked b d = 0 ↔ (0 ≤ b.toInt ∧ b.toInt ≤ 6 ∧ 0 ≤ d.toInt ∧ d.toInt ≤ 3 ∧ (4 < b.toInt → d.toInt = 1 ∨ d.toInt = 2)) := by
  have i1 := isIn_iff (a := b) (b := 0) (c := 6)
  have i2 := isIn_iff (a := d) (b := 0) (c := 3)
  have i3 := isIn_iff (a := d) (b := 1) (c := 2)
  rw [ti0, ti6] at i1
  rw [ti0, ti3] at i2
  rw [ti1, ti2] at i3
  unfold fm_isAsked
  by_cases h1 : fm_isIn b 0 6 = 0
  · rw [if_pos h1]
    constructor
    · intro q; exact absurd rfl q
    · intro q; exact absurd h1 (i1.mpr (by omega))
  rw [if_neg h1]
  have j1 := i1.mp h1
  by_cases h2 : fm_isIn d 0 3 = 0
  · rw [if_pos h2]
    constructor
    · intro q; exact absurd rfl q
    · intro q; exact absurd h2 (i2.mpr (by omega))
  rw [if_neg h2]
  have j2 := i2.mp h2
  by_cases h3 : b ≤ 4
  · rw [if_pos h3]; rw [le_ti, ti4] at h3
    constructor
    · intro _; omega
    · intro _; decide
  rw [if_neg h3]; rw [le_ti, ti4] at h3
  by_cases h4 : fm_isIn d 1 2 = 0
  · rw [if_pos h4]
    constructor
    · intro q; exact absurd rfl q
    · intro q; exact absurd h4 (i3.mpr (by omega))
  rw [if_neg h4]
  have j4 := i3.mp h4
  constructor
  · intro _; omega
  · intro _; decide
theorem isShape_iff (b d : Int32) : ¬ fm_isShape b d = 0 ↔ (0 ≤ b.toInt ∧ b.toInt ≤ 6 ∧ 1 ≤ d.toInt ∧ d.toInt ≤ 3 ∧ (4 < b.toInt → d.toInt = 1 ∨ d.toInt = 2)) := by
  have i1 := isIn_iff (a := b) (b := 0) (c := 6)
  have i2 := isIn_iff (a := d) (b := 1) (c := 3)
  have i3 := isIn_iff (a := d) (b := 1) (c := 2)
  rw [ti0, ti6] at i1
  rw [ti1, ti3] at i2
  rw [ti1, ti2] at i3
  unfold fm_isShape
  by_cases h1 : fm_isIn b 0 6 = 0
  · rw [if_pos h1]
    constructor
    · intro q; exact absurd rfl q
    · intro q; exact absurd h1 (i1.mpr (by omega))
  rw [if_neg h1]
  have j1 := i1.mp h1
  by_cases h3 : b ≤ 4
  · rw [if_pos h3]; rw [le_ti, ti4] at h3
    by_cases h2 : fm_isIn d 1 3 = 0
    · rw [if_pos h2]
      constructor
      · intro q; exact absurd rfl q
      · intro q; exact absurd h2 (i2.mpr (by omega))
    rw [if_neg h2]
    have j2 := i2.mp h2
    constructor
    · intro _; omega
    · intro _; decide
  rw [if_neg h3]; rw [le_ti, ti4] at h3
  by_cases h4 : fm_isIn d 1 2 = 0
  · rw [if_pos h4]
    constructor
    · intro q; exact absurd rfl q
    · intro q; exact absurd h4 (i3.mpr (by omega))
  rw [if_neg h4]
  have j4 := i3.mp h4
  constructor
  · intro _; omega
  · intro _; decide
theorem isKind_eq (b d : Int32) : fx_isKind b d = fm_isAsked b d := b01 (fx_isKind_01 b d) (fm_isAsked_01 b d) (by rw [isKind_iff, isAsked_iff])
theorem RR.place (R : RR u v) (r i : Int32) : fx_hasPlace u r i = fm_isIn i 0 (m_sizes v r.toNatClampNeg - 1) := by
  refine b01 (fx_hasPlace_01 u r i) (fm_isIn_01 _ _ _) ?_
  rw [mp_iff R.mi, ← R.ts]
  constructor
  · intro h; have := xp_i R.xi h; omega
  · intro h
    unfold fx_hasPlace
    rw [if_neg (by rw [lt_ti, ti0]; omega), if_neg (by rw [le_ti]; omega)]
    decide
theorem RR.span (R : RR u v) (r i n : Int32) : fx_hasPlaces u r i n = fm_isSpan i n (m_sizes v r.toNatClampNeg) := by
  rw [← R.ts]; rfl
theorem RR.refu (R : RR u v) (r i : Int32) : fx_ledgerFailure u r i = fm_refused v r i := by
  unfold fx_ledgerFailure fm_refused
  rw [R.led, R.place]
theorem RR.piece (R : RR u v) (x : Int32) : fx_isPiece u x = 0 ↔ ¬ m_depths v x.toNatClampNeg = 0 := by
  unfold fx_isPiece
  rw [R.td]
  by_cases h : m_depths v x.toNatClampNeg = 0
  · rw [if_pos h]
    constructor
    · intro q; exact absurd q (by decide)
    · intro q; exact absurd h q
  · rw [if_neg h]; exact ⟨fun _ => h, fun _ => rfl⟩
theorem RR.holds (R : RR u v) (x : Int32) : fx_holdsThings u x = 0 ↔ m_depths v x.toNatClampNeg = 0 ∨ ¬ fm_isLedger v x = 0 := by
  have hp := R.piece x
  unfold fx_holdsThings
  rw [R.led]
  by_cases h : fx_isPiece u x = 0
  · rw [if_pos h]
    by_cases h2 : fm_isLedger v x = 0
    · rw [if_pos h2]
      constructor
      · intro q; exact absurd q (by decide)
      · intro q
        rcases q with q | q
        · exact absurd q (hp.mp h)
        · exact absurd h2 q
    · rw [if_neg h2]; exact ⟨fun _ => Or.inr h2, fun _ => rfl⟩
  · rw [if_neg h]
    refine ⟨fun _ => Or.inl ?_, fun _ => rfl⟩
    by_cases q : m_depths v x.toNatClampNeg = 0
    · exact q
    · exact absurd (hp.mpr q) h
/-! the small steps -/
theorem sr_k (R : RR u v) (k : Int32) : SR (k, u) (k, v) := ⟨rfl, R⟩
theorem sr_f (R : RR u v) (k : Int32) : SR (fx_fail u k) (fm_fails v k) := by
  refine ⟨rfl, ⟨?_, R.mi, R.ty, R.wo, R.pl⟩⟩
  refine ⟨R.tc, R.tb, R.td, R.ts, R.db, R.dd, ?_, rfl, R.cd⟩
  show x_failureCount u + 1 = m_failures v + 1
  rw [R.fc]
end Simulation
