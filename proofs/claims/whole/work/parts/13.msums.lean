/-! DepotTraysModel: sums and counts; carry -/
theorem ml_in {u : MS} (hI : MI u) {q : Nat} (h : ¬ m_lies u q = (-1)) : vp_in (m_lies u q) 60 := by
  have h1 := hI.2.2.1 q
  rw [ne_m1] at h
  rw [vp_in_iff]; omega
def fm_addOne_L : Nat → MS → Int32 → Int64 → Int32 → Int32 → MS
  | 0, u, q_x, v_2, v_4, v_5 => u
  | f_ + 1, u, q_x, v_2, v_4, v_5 => (if ((8 * q_x) + (m_sizes u (q_x).toNatClampNeg)) ≤ v_5 then ms_counts (ms_sums u (vp_updL (m_sums u) (q_x).toNatClampNeg v_2)) (upd (m_counts u) (q_x).toNatClampNeg v_4) else (if (m_lies u (v_5).toNatClampNeg) = (-1) then (if (m_lies u (v_5).toNatClampNeg) = (-1) then fm_addOne_L f_ u q_x (v_2 + ((m_numbers u (v_5).toNatClampNeg) + 0)) (v_4 + 0) (v_5 + 1) else fm_addOne_L f_ u q_x (v_2 + ((m_numbers u (v_5).toNatClampNeg) + 0)) (v_4 + (m_counts u (m_lies u (v_5).toNatClampNeg).toNatClampNeg)) (v_5 + 1)) else (if (m_lies u (v_5).toNatClampNeg) = (-1) then fm_addOne_L f_ u q_x (v_2 + ((m_numbers u (v_5).toNatClampNeg) + (m_sums u (m_lies u (v_5).toNatClampNeg).toNatClampNeg))) (v_4 + 0) (v_5 + 1) else fm_addOne_L f_ u q_x (v_2 + ((m_numbers u (v_5).toNatClampNeg) + (m_sums u (m_lies u (v_5).toNatClampNeg).toNatClampNeg))) (v_4 + (m_counts u (m_lies u (v_5).toNatClampNeg).toNatClampNeg)) (v_5 + 1))))
set_option maxRecDepth 100000 in
set_option maxHeartbeats 4000000 in
theorem loop_X1_addOne_L {p : Program} {e : Env} {s : State} {m : MethodId} {below : List Frame} {meth : Method} {c : Code} {args : Array Value} {A : Nat → Prop} (l : Launch) (D : va_G) (ad : Nat → Nat) (ca : Nat → ClassId) (g : Nat) (u : MS) (hI : MI u) (E : EnM p s m c args cX1_addOne 7 meth none D ca g A) : ∀ (f_ : Nat) (q_x : Int32) (v_2 : Int64) (v_4 : Int32) (v_5 : Int32), vp_in q_x 60 → (8 * q_x.toInt ≤ v_5.toInt ∧ v_5.toInt ≤ 8 * q_x.toInt + 8) → 8 * q_x.toInt + 8 - v_5.toInt < (f_ : Int) → ∀ (H : Heap) (locs : List Loc) (ls : Array Slot), SM D ad ca A s u H locs → lv_has ls 7 [(0, .ref (ad 0)), (1, .int q_x), (2, .long v_2), (4, .int v_4), (5, .int v_5)] → W p l e (rk 3) s m args below meth c H locs 0 0 (MQ below (va_Qv (fun v => v = fm_addOne_L f_ u q_x v_2 v_4 v_5) (BkM D ad ca) A) args s 0 0 A) (F0 m 104 ls []) := by
  have hx := E.1.1
  have hb := E.1.2.1
  have hml := E.1.2.2.1
  have hown := E.1.2.2.2.1
  have hts := E.1.2.2.2.2
  intro f_
  induction f_ with
  | zero =>
    intro q_x v_2 v_4 v_5 hqx hk hf H locs ls hS hl
    exfalso
    omega
  | succ f_ ih =>
    intro q_x v_2 v_4 v_5 hqx hk hf H locs ls hS hl
    refine lv_iload hx hb dX1_addOne_104 (lv_at hl 4 rfl) ?_
    refine lv_bipush (v := 8) hx hb dX1_addOne_106 (by decide) ?_
    refine lv_iload_n hx hb dX1_addOne_108 rfl (lv_at hl 1 rfl) ?_
    refine lv_imul hx hb dX1_addOne_109 ?_
    refine lv_aload_n hx hb dX1_addOne_110 rfl (lv_at hl 0 rfl) ?_
    refine gM_sizes E hS dX1_addOne_111 ?_
    refine lv_iload_n hx hb dX1_addOne_114 rfl (lv_at hl 1 rfl) ?_
    refine lM_sizes (v := m_sizes u (q_x).toNatClampNeg) E hS (show vp_in q_x 60 from hqx) rfl dX1_addOne_115 ?_
    refine lv_iadd hx hb dX1_addOne_116 ?_
    refine lv_icmp_ge (tgt := 185) hx hb dX1_addOne_117 (by decide) (fun h117 => ?_) (fun h117 => ?_)
    · refine lv_aload_n hx hb dX1_addOne_185 rfl (lv_at hl 0 rfl) ?_
      refine gM_sums E hS dX1_addOne_186 ?_
      refine lv_iload_n hx hb dX1_addOne_189 rfl (lv_at hl 1 rfl) ?_
      refine lv_lload_n hx hb dX1_addOne_190 rfl (lv_at hl 2 rfl) ?_
      refine sM_sums E hS (show vp_in q_x 60 from by first | with_reducible assumption | (refine mt_in hI ?_; with_reducible assumption) | (refine mn_in hI ?_ ?_ <;> with_reducible assumption) | (refine mb_lt hI ?_; with_reducible assumption) | (refine m6_in hI ?_; with_reducible assumption)) dX1_addOne_191 (fun H locs hS => ?_)
      have hS : SM D ad ca A s (ms_sums u (vp_updL (m_sums u) (q_x).toNatClampNeg v_2)) H locs := hS
      refine lv_aload_n hx hb dX1_addOne_192 rfl (lv_at hl 0 rfl) ?_
      refine gM_counts E hS dX1_addOne_193 ?_
      refine lv_iload_n hx hb dX1_addOne_196 rfl (lv_at hl 1 rfl) ?_
      refine lv_iload hx hb dX1_addOne_197 (lv_at hl 3 rfl) ?_
      refine sM_counts E hS (show vp_in q_x 60 from by first | with_reducible assumption | (refine mt_in hI ?_; with_reducible assumption) | (refine mn_in hI ?_ ?_ <;> with_reducible assumption) | (refine mb_lt hI ?_; with_reducible assumption) | (refine m6_in hI ?_; with_reducible assumption)) dX1_addOne_199 (fun H locs hS => ?_)
      have hS : SM D ad ca A s (ms_counts (ms_sums u (vp_updL (m_sums u) (q_x).toNatClampNeg v_2)) (upd (m_counts u) (q_x).toNatClampNeg v_4)) H locs := hS
      exact EnM.vret E hS (by rw [fm_addOne_L, if_pos h117]) dX1_addOne_200
    · have gz := hI.2.1 (q_x).toNatClampNeg
      have g117 := h117
      have gx := vp_in_iff.mp hqx
      rw [le_ti, mi_ti hqx (by omega) (by omega)] at g117
      have hv5 : vp_in v_5 480 := by rw [vp_in_iff]; omega
      refine lv_aload_n hx hb dX1_addOne_120 rfl (lv_at hl 0 rfl) ?_
      refine gM_lies E hS dX1_addOne_121 ?_
      refine lv_iload hx hb dX1_addOne_124 (lv_at hl 4 rfl) ?_
      refine lM_lies (v := m_lies u (v_5).toNatClampNeg) E hS (show vp_in v_5 480 from hv5) rfl dX1_addOne_126 ?_
      refine lv_istore (lv' := [(6, .int (m_lies u (v_5).toNatClampNeg)), (0, .ref (ad 0)), (1, .int q_x), (2, .long v_2), (4, .int v_4), (5, .int v_5)]) hx hb dX1_addOne_127 hl (by decide) rfl (fun ls hl => ?_)
      refine lv_lload_n hx hb dX1_addOne_129 rfl (lv_at hl 3 rfl) ?_
      refine lv_aload_n hx hb dX1_addOne_130 rfl (lv_at hl 1 rfl) ?_
      refine gM_numbers E hS dX1_addOne_131 ?_
      refine lv_iload hx hb dX1_addOne_134 (lv_at hl 5 rfl) ?_
      refine lM_numbers (v := m_numbers u (v_5).toNatClampNeg) E hS (show vp_in v_5 480 from hv5) rfl dX1_addOne_136 ?_
      refine lv_iload hx hb dX1_addOne_137 (lv_at hl 0 rfl) ?_
      refine lv_iconst (v := (-1)) hx hb dX1_addOne_139 (by decide) ?_
      refine lv_icmp_ne (tgt := 147) hx hb dX1_addOne_140 (by decide) (fun h140 => ?_) (fun h140 => ?_)
      · refine lv_aload_n hx hb dX1_addOne_147 rfl (lv_at hl 1 rfl) ?_
        refine gM_sums E hS dX1_addOne_148 ?_
        refine lv_iload hx hb dX1_addOne_151 (lv_at hl 0 rfl) ?_
        refine lM_sums (v := m_sums u (m_lies u (v_5).toNatClampNeg).toNatClampNeg) E hS (show vp_in (m_lies u (v_5).toNatClampNeg) 60 from ml_in hI (by with_reducible assumption)) rfl dX1_addOne_153 ?_
        refine lv_ladd hx hb dX1_addOne_154 ?_
        refine lv_ladd hx hb dX1_addOne_155 ?_
        refine lv_lstore_n (lv' := [(2, .long (v_2 + ((m_numbers u (v_5).toNatClampNeg) + (m_sums u (m_lies u (v_5).toNatClampNeg).toNatClampNeg)))), (6, .int (m_lies u (v_5).toNatClampNeg)), (0, .ref (ad 0)), (1, .int q_x), (4, .int v_4), (5, .int v_5)]) hx hb dX1_addOne_156 rfl hl (by decide) rfl (fun ls hl => ?_)
        refine lv_iload hx hb dX1_addOne_157 (lv_at hl 4 rfl) ?_
        refine lv_iload hx hb dX1_addOne_159 (lv_at hl 1 rfl) ?_
        refine lv_iconst (v := (-1)) hx hb dX1_addOne_161 (by decide) ?_
        refine lv_icmp_ne (tgt := 169) hx hb dX1_addOne_162 (by decide) (fun h162 => ?_) (fun h162 => ?_)
        · refine lv_aload_n hx hb dX1_addOne_169 rfl (lv_at hl 2 rfl) ?_
          refine gM_counts E hS dX1_addOne_170 ?_
          refine lv_iload hx hb dX1_addOne_173 (lv_at hl 1 rfl) ?_
          refine lM_counts (v := m_counts u (m_lies u (v_5).toNatClampNeg).toNatClampNeg) E hS (show vp_in (m_lies u (v_5).toNatClampNeg) 60 from ml_in hI (by with_reducible assumption)) rfl dX1_addOne_175 ?_
          refine lv_iadd hx hb dX1_addOne_176 ?_
          refine lv_istore (lv' := [(4, .int (v_4 + (m_counts u (m_lies u (v_5).toNatClampNeg).toNatClampNeg))), (2, .long (v_2 + ((m_numbers u (v_5).toNatClampNeg) + (m_sums u (m_lies u (v_5).toNatClampNeg).toNatClampNeg)))), (6, .int (m_lies u (v_5).toNatClampNeg)), (0, .ref (ad 0)), (1, .int q_x), (5, .int v_5)]) hx hb dX1_addOne_177 hl (by decide) rfl (fun ls hl => ?_)
          refine lv_iinc (v := v_5 + 1) (lv' := [(5, .int (v_5 + 1)), (4, .int (v_4 + (m_counts u (m_lies u (v_5).toNatClampNeg).toNatClampNeg))), (2, .long (v_2 + ((m_numbers u (v_5).toNatClampNeg) + (m_sums u (m_lies u (v_5).toNatClampNeg).toNatClampNeg)))), (6, .int (m_lies u (v_5).toNatClampNeg)), (0, .ref (ad 0)), (1, .int q_x)]) hx hb dX1_addOne_179 hl (k := 5) rfl rfl (by decide) rfl (fun ls hl => ?_)
          refine lv_goto (tgt := 104) hx hb dX1_addOne_182 (by decide) ?_
          have hr : fm_addOne_L (f_ + 1) u q_x v_2 v_4 v_5 = fm_addOne_L f_ u q_x (v_2 + ((m_numbers u (v_5).toNatClampNeg) + (m_sums u (m_lies u (v_5).toNatClampNeg).toNatClampNeg))) (v_4 + (m_counts u (m_lies u (v_5).toNatClampNeg).toNatClampNeg)) (v_5 + 1) := by rw [fm_addOne_L, if_neg h117, if_neg h140, if_neg h162]
          have e5 : (v_5 + 1).toInt = v_5.toInt + 1 := ti_inc (by omega) (by omega)
          rw [hr]
          exact ih q_x (v_2 + ((m_numbers u (v_5).toNatClampNeg) + (m_sums u (m_lies u (v_5).toNatClampNeg).toNatClampNeg))) (v_4 + (m_counts u (m_lies u (v_5).toNatClampNeg).toNatClampNeg)) (v_5 + 1) hqx (by omega) (by omega) _ _ ls hS (lv_sub hl [4, 5, 2, 1, 0] rfl)
        · refine lv_iconst (v := 0) hx hb dX1_addOne_165 (by decide) ?_
          refine lv_goto (tgt := 176) hx hb dX1_addOne_166 (by decide) ?_
          refine lv_iadd hx hb dX1_addOne_176 ?_
          refine lv_istore (lv' := [(4, .int (v_4 + 0)), (2, .long (v_2 + ((m_numbers u (v_5).toNatClampNeg) + (m_sums u (m_lies u (v_5).toNatClampNeg).toNatClampNeg)))), (6, .int (m_lies u (v_5).toNatClampNeg)), (0, .ref (ad 0)), (1, .int q_x), (5, .int v_5)]) hx hb dX1_addOne_177 hl (by decide) rfl (fun ls hl => ?_)
          refine lv_iinc (v := v_5 + 1) (lv' := [(5, .int (v_5 + 1)), (4, .int (v_4 + 0)), (2, .long (v_2 + ((m_numbers u (v_5).toNatClampNeg) + (m_sums u (m_lies u (v_5).toNatClampNeg).toNatClampNeg)))), (6, .int (m_lies u (v_5).toNatClampNeg)), (0, .ref (ad 0)), (1, .int q_x)]) hx hb dX1_addOne_179 hl (k := 5) rfl rfl (by decide) rfl (fun ls hl => ?_)
          refine lv_goto (tgt := 104) hx hb dX1_addOne_182 (by decide) ?_
          have hr : fm_addOne_L (f_ + 1) u q_x v_2 v_4 v_5 = fm_addOne_L f_ u q_x (v_2 + ((m_numbers u (v_5).toNatClampNeg) + (m_sums u (m_lies u (v_5).toNatClampNeg).toNatClampNeg))) (v_4 + 0) (v_5 + 1) := by rw [fm_addOne_L, if_neg h117, if_neg h140, if_pos h162]
          have e5 : (v_5 + 1).toInt = v_5.toInt + 1 := ti_inc (by omega) (by omega)
          rw [hr]
          exact ih q_x (v_2 + ((m_numbers u (v_5).toNatClampNeg) + (m_sums u (m_lies u (v_5).toNatClampNeg).toNatClampNeg))) (v_4 + 0) (v_5 + 1) hqx (by omega) (by omega) _ _ ls hS (lv_sub hl [4, 5, 2, 1, 0] rfl)
      · refine lv_lconst (v := 0) hx hb dX1_addOne_143 (by decide) ?_
        refine lv_goto (tgt := 154) hx hb dX1_addOne_144 (by decide) ?_
        refine lv_ladd hx hb dX1_addOne_154 ?_
        refine lv_ladd hx hb dX1_addOne_155 ?_
        refine lv_lstore_n (lv' := [(2, .long (v_2 + ((m_numbers u (v_5).toNatClampNeg) + 0))), (6, .int (m_lies u (v_5).toNatClampNeg)), (0, .ref (ad 0)), (1, .int q_x), (4, .int v_4), (5, .int v_5)]) hx hb dX1_addOne_156 rfl hl (by decide) rfl (fun ls hl => ?_)
        refine lv_iload hx hb dX1_addOne_157 (lv_at hl 4 rfl) ?_
        refine lv_iload hx hb dX1_addOne_159 (lv_at hl 1 rfl) ?_
        refine lv_iconst (v := (-1)) hx hb dX1_addOne_161 (by decide) ?_
        refine lv_icmp_ne (tgt := 169) hx hb dX1_addOne_162 (by decide) (fun h162 => ?_) (fun h162 => ?_)
        · refine lv_aload_n hx hb dX1_addOne_169 rfl (lv_at hl 2 rfl) ?_
          refine gM_counts E hS dX1_addOne_170 ?_
          refine lv_iload hx hb dX1_addOne_173 (lv_at hl 1 rfl) ?_
          refine lM_counts (v := m_counts u (m_lies u (v_5).toNatClampNeg).toNatClampNeg) E hS (show vp_in (m_lies u (v_5).toNatClampNeg) 60 from ml_in hI (by with_reducible assumption)) rfl dX1_addOne_175 ?_
          refine lv_iadd hx hb dX1_addOne_176 ?_
          refine lv_istore (lv' := [(4, .int (v_4 + (m_counts u (m_lies u (v_5).toNatClampNeg).toNatClampNeg))), (2, .long (v_2 + ((m_numbers u (v_5).toNatClampNeg) + 0))), (6, .int (m_lies u (v_5).toNatClampNeg)), (0, .ref (ad 0)), (1, .int q_x), (5, .int v_5)]) hx hb dX1_addOne_177 hl (by decide) rfl (fun ls hl => ?_)
          refine lv_iinc (v := v_5 + 1) (lv' := [(5, .int (v_5 + 1)), (4, .int (v_4 + (m_counts u (m_lies u (v_5).toNatClampNeg).toNatClampNeg))), (2, .long (v_2 + ((m_numbers u (v_5).toNatClampNeg) + 0))), (6, .int (m_lies u (v_5).toNatClampNeg)), (0, .ref (ad 0)), (1, .int q_x)]) hx hb dX1_addOne_179 hl (k := 5) rfl rfl (by decide) rfl (fun ls hl => ?_)
          refine lv_goto (tgt := 104) hx hb dX1_addOne_182 (by decide) ?_
          have hr : fm_addOne_L (f_ + 1) u q_x v_2 v_4 v_5 = fm_addOne_L f_ u q_x (v_2 + ((m_numbers u (v_5).toNatClampNeg) + 0)) (v_4 + (m_counts u (m_lies u (v_5).toNatClampNeg).toNatClampNeg)) (v_5 + 1) := by rw [fm_addOne_L, if_neg h117, if_pos h140, if_neg h162]
          have e5 : (v_5 + 1).toInt = v_5.toInt + 1 := ti_inc (by omega) (by omega)
          rw [hr]
          exact ih q_x (v_2 + ((m_numbers u (v_5).toNatClampNeg) + 0)) (v_4 + (m_counts u (m_lies u (v_5).toNatClampNeg).toNatClampNeg)) (v_5 + 1) hqx (by omega) (by omega) _ _ ls hS (lv_sub hl [4, 5, 2, 1, 0] rfl)
        · refine lv_iconst (v := 0) hx hb dX1_addOne_165 (by decide) ?_
          refine lv_goto (tgt := 176) hx hb dX1_addOne_166 (by decide) ?_
          refine lv_iadd hx hb dX1_addOne_176 ?_
          refine lv_istore (lv' := [(4, .int (v_4 + 0)), (2, .long (v_2 + ((m_numbers u (v_5).toNatClampNeg) + 0))), (6, .int (m_lies u (v_5).toNatClampNeg)), (0, .ref (ad 0)), (1, .int q_x), (5, .int v_5)]) hx hb dX1_addOne_177 hl (by decide) rfl (fun ls hl => ?_)
          refine lv_iinc (v := v_5 + 1) (lv' := [(5, .int (v_5 + 1)), (4, .int (v_4 + 0)), (2, .long (v_2 + ((m_numbers u (v_5).toNatClampNeg) + 0))), (6, .int (m_lies u (v_5).toNatClampNeg)), (0, .ref (ad 0)), (1, .int q_x)]) hx hb dX1_addOne_179 hl (k := 5) rfl rfl (by decide) rfl (fun ls hl => ?_)
          refine lv_goto (tgt := 104) hx hb dX1_addOne_182 (by decide) ?_
          have hr : fm_addOne_L (f_ + 1) u q_x v_2 v_4 v_5 = fm_addOne_L f_ u q_x (v_2 + ((m_numbers u (v_5).toNatClampNeg) + 0)) (v_4 + 0) (v_5 + 1) := by rw [fm_addOne_L, if_neg h117, if_pos h140, if_pos h162]
          have e5 : (v_5 + 1).toInt = v_5.toInt + 1 := ti_inc (by omega) (by omega)
          rw [hr]
          exact ih q_x (v_2 + ((m_numbers u (v_5).toNatClampNeg) + 0)) (v_4 + 0) (v_5 + 1) hqx (by omega) (by omega) _ _ ls hS (lv_sub hl [4, 5, 2, 1, 0] rfl)
def fm_addOne (u : MS) (q_x : Int32) : MS := if (m_depths u (q_x).toNatClampNeg) ≤ 0 then (if (m_bases u (q_x).toNatClampNeg) = 1 then (if (m_depths u (q_x).toNatClampNeg) = 0 then (if (fm_goesFor (m_bases u (q_x).toNatClampNeg) 4) = 0 then fm_addOne_L 9 u q_x (2 * (Int32.toInt64 (m_worths u (q_x).toNatClampNeg))) 0 (8 * q_x) else fm_addOne_L 9 u q_x (2 * (Int32.toInt64 (m_worths u (q_x).toNatClampNeg))) 1 (8 * q_x)) else fm_addOne_L 9 u q_x (2 * (Int32.toInt64 (m_worths u (q_x).toNatClampNeg))) 0 (8 * q_x)) else (if (m_bases u (q_x).toNatClampNeg) = 3 then (if (m_depths u (q_x).toNatClampNeg) = 0 then (if (fm_goesFor (m_bases u (q_x).toNatClampNeg) 4) = 0 then fm_addOne_L 9 u q_x ((Int32.toInt64 (m_worths u (q_x).toNatClampNeg)) + 100) 0 (8 * q_x) else fm_addOne_L 9 u q_x ((Int32.toInt64 (m_worths u (q_x).toNatClampNeg)) + 100) 1 (8 * q_x)) else fm_addOne_L 9 u q_x ((Int32.toInt64 (m_worths u (q_x).toNatClampNeg)) + 100) 0 (8 * q_x)) else (if (m_depths u (q_x).toNatClampNeg) = 0 then (if (fm_goesFor (m_bases u (q_x).toNatClampNeg) 4) = 0 then fm_addOne_L 9 u q_x (Int32.toInt64 (m_worths u (q_x).toNatClampNeg)) 0 (8 * q_x) else fm_addOne_L 9 u q_x (Int32.toInt64 (m_worths u (q_x).toNatClampNeg)) 1 (8 * q_x)) else fm_addOne_L 9 u q_x (Int32.toInt64 (m_worths u (q_x).toNatClampNeg)) 0 (8 * q_x)))) else (if (m_depths u (q_x).toNatClampNeg) = 0 then (if (fm_goesFor (m_bases u (q_x).toNatClampNeg) 4) = 0 then fm_addOne_L 9 u q_x 0 0 (8 * q_x) else fm_addOne_L 9 u q_x 0 1 (8 * q_x)) else fm_addOne_L 9 u q_x 0 0 (8 * q_x))
theorem hd_X1_addOne : yX1_addOne.cls = RX1 ∧ yX1_addOne.cls ≠ "java/lang/invoke/MethodHandle" ∧ yX1_addOne.cls ≠ "java/lang/invoke/VarHandle" ∧ (parseMethodDescriptor yX1_addOne.desc).map (fun d => d.parameters.length) = some 1 := by decide +kernel
set_option maxRecDepth 100000 in
set_option maxHeartbeats 4000000 in
theorem kX1_addOne (l : Launch) (D : va_G) (ad : Nat → Nat) (ca : Nat → ClassId) (g : Nat) (u : MS) (q_x : Int32) (hI : MI u) (hqx : vp_in q_x 60) : CvM l yX1_addOne cX1_addOne 7 3 D ad ca g [.int q_x] u (fm_addOne u q_x) := by
  refine CvM.of (by decide) rfl (Nat.le_of_ble_eq_true rfl) ?_
  intro p e s m below meth c A ls E hS hl
  have hx := E.1.1
  have hb := E.1.2.1
  have hml := E.1.2.2.1
  have hown := E.1.2.2.2.1
  have hts := E.1.2.2.2.2
  have hl : lv_has ls 7 [(0, .ref (ad 0)), (1, .int q_x)] := hl
  refine lv_aload_n hx hb dX1_addOne_0 rfl (lv_at hl 0 rfl) ?_
  refine gM_depths E hS dX1_addOne_1 ?_
  refine lv_iload_n hx hb dX1_addOne_4 rfl (lv_at hl 1 rfl) ?_
  refine lM_depths (v := m_depths u (q_x).toNatClampNeg) E hS (show vp_in q_x 60 from by first | with_reducible assumption | (refine mt_in hI ?_; with_reducible assumption) | (refine mn_in hI ?_ ?_ <;> with_reducible assumption) | (refine mb_lt hI ?_; with_reducible assumption) | (refine m6_in hI ?_; with_reducible assumption)) rfl dX1_addOne_5 ?_
  refine lv_if_le (tgt := 13) hx hb dX1_addOne_6 (by decide) (fun h6 => ?_) (fun h6 => ?_)
  · refine lv_aload_n hx hb dX1_addOne_13 rfl (lv_at hl 0 rfl) ?_
    refine gM_bases E hS dX1_addOne_14 ?_
    refine lv_iload_n hx hb dX1_addOne_17 rfl (lv_at hl 1 rfl) ?_
    refine lM_bases (v := m_bases u (q_x).toNatClampNeg) E hS (show vp_in q_x 60 from by first | with_reducible assumption | (refine mt_in hI ?_; with_reducible assumption) | (refine mn_in hI ?_ ?_ <;> with_reducible assumption) | (refine mb_lt hI ?_; with_reducible assumption) | (refine m6_in hI ?_; with_reducible assumption)) rfl dX1_addOne_18 ?_
    refine lv_iconst (v := 1) hx hb dX1_addOne_19 (by decide) ?_
    refine lv_icmp_ne (tgt := 37) hx hb dX1_addOne_20 (by decide) (fun h20 => ?_) (fun h20 => ?_)
    · refine lv_aload_n hx hb dX1_addOne_37 rfl (lv_at hl 0 rfl) ?_
      refine gM_bases E hS dX1_addOne_38 ?_
      refine lv_iload_n hx hb dX1_addOne_41 rfl (lv_at hl 1 rfl) ?_
      refine lM_bases (v := m_bases u (q_x).toNatClampNeg) E hS (show vp_in q_x 60 from by first | with_reducible assumption | (refine mt_in hI ?_; with_reducible assumption) | (refine mn_in hI ?_ ?_ <;> with_reducible assumption) | (refine mb_lt hI ?_; with_reducible assumption) | (refine m6_in hI ?_; with_reducible assumption)) rfl dX1_addOne_42 ?_
      refine lv_iconst (v := 3) hx hb dX1_addOne_43 (by decide) ?_
      refine lv_icmp_ne (tgt := 61) hx hb dX1_addOne_44 (by decide) (fun h44 => ?_) (fun h44 => ?_)
      · refine lv_aload_n hx hb dX1_addOne_61 rfl (lv_at hl 0 rfl) ?_
        refine gM_worths E hS dX1_addOne_62 ?_
        refine lv_iload_n hx hb dX1_addOne_65 rfl (lv_at hl 1 rfl) ?_
        refine lM_worths (v := m_worths u (q_x).toNatClampNeg) E hS (show vp_in q_x 60 from by first | with_reducible assumption | (refine mt_in hI ?_; with_reducible assumption) | (refine mn_in hI ?_ ?_ <;> with_reducible assumption) | (refine mb_lt hI ?_; with_reducible assumption) | (refine m6_in hI ?_; with_reducible assumption)) rfl dX1_addOne_66 ?_
        refine lv_i2l (v := Int32.toInt64 (m_worths u (q_x).toNatClampNeg)) hx hb dX1_addOne_67 rfl ?_
        refine lv_lstore_n (lv' := [(2, .long (Int32.toInt64 (m_worths u (q_x).toNatClampNeg))), (0, .ref (ad 0)), (1, .int q_x)]) hx hb dX1_addOne_68 rfl hl (by decide) rfl (fun ls hl => ?_)
        refine lv_aload_n hx hb dX1_addOne_69 rfl (lv_at hl 1 rfl) ?_
        refine gM_depths E hS dX1_addOne_70 ?_
        refine lv_iload_n hx hb dX1_addOne_73 rfl (lv_at hl 2 rfl) ?_
        refine lM_depths (v := m_depths u (q_x).toNatClampNeg) E hS (show vp_in q_x 60 from by first | with_reducible assumption | (refine mt_in hI ?_; with_reducible assumption) | (refine mn_in hI ?_ ?_ <;> with_reducible assumption) | (refine mb_lt hI ?_; with_reducible assumption) | (refine m6_in hI ?_; with_reducible assumption)) rfl dX1_addOne_74 ?_
        refine lv_if_ne (tgt := 95) hx hb dX1_addOne_75 (by decide) (fun h75 => ?_) (fun h75 => ?_)
        · refine lv_iconst (v := 0) hx hb dX1_addOne_95 (by decide) ?_
          refine lv_istore (lv' := [(4, .int 0), (2, .long (Int32.toInt64 (m_worths u (q_x).toNatClampNeg))), (0, .ref (ad 0)), (1, .int q_x)]) hx hb dX1_addOne_96 hl (by decide) rfl (fun ls hl => ?_)
          refine lv_bipush (v := 8) hx hb dX1_addOne_98 (by decide) ?_
          refine lv_iload_n hx hb dX1_addOne_100 rfl (lv_at hl 3 rfl) ?_
          refine lv_imul hx hb dX1_addOne_101 ?_
          refine lv_istore (lv' := [(5, .int (8 * q_x)), (4, .int 0), (2, .long (Int32.toInt64 (m_worths u (q_x).toNatClampNeg))), (0, .ref (ad 0)), (1, .int q_x)]) hx hb dX1_addOne_102 hl (by decide) rfl (fun ls hl => ?_)
          have hr : fm_addOne u q_x = fm_addOne_L 9 u q_x (Int32.toInt64 (m_worths u (q_x).toNatClampNeg)) 0 (8 * q_x) := by unfold fm_addOne; rw [if_pos h6, if_neg h20, if_neg h44, if_neg h75]
          have e8 := mi_8 hqx
          rw [hr]
          exact loop_X1_addOne_L l D ad ca g u hI E 9 q_x (Int32.toInt64 (m_worths u (q_x).toNatClampNeg)) 0 (8 * q_x) hqx (by rw [e8]; omega) (by rw [e8]; omega) _ _ ls hS (lv_sub hl [3, 4, 2, 1, 0] rfl)
        · refine lv_aload_n hx hb dX1_addOne_78 rfl (lv_at hl 1 rfl) ?_
          refine gM_bases E hS dX1_addOne_79 ?_
          refine lv_iload_n hx hb dX1_addOne_82 rfl (lv_at hl 2 rfl) ?_
          refine lM_bases (v := m_bases u (q_x).toNatClampNeg) E hS (show vp_in q_x 60 from by first | with_reducible assumption | (refine mt_in hI ?_; with_reducible assumption) | (refine mn_in hI ?_ ?_ <;> with_reducible assumption) | (refine mb_lt hI ?_; with_reducible assumption) | (refine m6_in hI ?_; with_reducible assumption)) rfl dX1_addOne_83 ?_
          refine lv_iconst (v := 4) hx hb dX1_addOne_84 (by decide) ?_
          refine EnM.sti (r := fm_goesFor (m_bases u (q_x).toNatClampNeg) 4) E hS [.int (m_bases u (q_x).toNatClampNeg), .int 4] [] (kX1_goesFor l (m_bases u (q_x).toNatClampNeg) 4 ) (fun _ _ _ _ h => h) (fun _ _ _ => trivial) gc_X1_64 hd_X1_goesFor ⟨Nat.le_of_ble_eq_true rfl, Nat.le_of_ble_eq_true rfl⟩ rfl hl.1 (Nat.le_of_ble_eq_true rfl) ⟨Nat.le_refl 0, Nat.le_refl 0⟩ dX1_addOne_85 (fun H locs hS => ?_)
          refine lv_if_eq (tgt := 95) hx hb dX1_addOne_88 (by decide) (fun h88 => ?_) (fun h88 => ?_)
          · refine lv_iconst (v := 0) hx hb dX1_addOne_95 (by decide) ?_
            refine lv_istore (lv' := [(4, .int 0), (2, .long (Int32.toInt64 (m_worths u (q_x).toNatClampNeg))), (0, .ref (ad 0)), (1, .int q_x)]) hx hb dX1_addOne_96 hl (by decide) rfl (fun ls hl => ?_)
            refine lv_bipush (v := 8) hx hb dX1_addOne_98 (by decide) ?_
            refine lv_iload_n hx hb dX1_addOne_100 rfl (lv_at hl 3 rfl) ?_
            refine lv_imul hx hb dX1_addOne_101 ?_
            refine lv_istore (lv' := [(5, .int (8 * q_x)), (4, .int 0), (2, .long (Int32.toInt64 (m_worths u (q_x).toNatClampNeg))), (0, .ref (ad 0)), (1, .int q_x)]) hx hb dX1_addOne_102 hl (by decide) rfl (fun ls hl => ?_)
            have hr : fm_addOne u q_x = fm_addOne_L 9 u q_x (Int32.toInt64 (m_worths u (q_x).toNatClampNeg)) 0 (8 * q_x) := by unfold fm_addOne; rw [if_pos h6, if_neg h20, if_neg h44, if_pos h75, if_pos h88]
            have e8 := mi_8 hqx
            rw [hr]
            exact loop_X1_addOne_L l D ad ca g u hI E 9 q_x (Int32.toInt64 (m_worths u (q_x).toNatClampNeg)) 0 (8 * q_x) hqx (by rw [e8]; omega) (by rw [e8]; omega) _ _ ls hS (lv_sub hl [3, 4, 2, 1, 0] rfl)
          · refine lv_iconst (v := 1) hx hb dX1_addOne_91 (by decide) ?_
            refine lv_goto (tgt := 96) hx hb dX1_addOne_92 (by decide) ?_
            refine lv_istore (lv' := [(4, .int 1), (2, .long (Int32.toInt64 (m_worths u (q_x).toNatClampNeg))), (0, .ref (ad 0)), (1, .int q_x)]) hx hb dX1_addOne_96 hl (by decide) rfl (fun ls hl => ?_)
            refine lv_bipush (v := 8) hx hb dX1_addOne_98 (by decide) ?_
            refine lv_iload_n hx hb dX1_addOne_100 rfl (lv_at hl 3 rfl) ?_
            refine lv_imul hx hb dX1_addOne_101 ?_
            refine lv_istore (lv' := [(5, .int (8 * q_x)), (4, .int 1), (2, .long (Int32.toInt64 (m_worths u (q_x).toNatClampNeg))), (0, .ref (ad 0)), (1, .int q_x)]) hx hb dX1_addOne_102 hl (by decide) rfl (fun ls hl => ?_)
            have hr : fm_addOne u q_x = fm_addOne_L 9 u q_x (Int32.toInt64 (m_worths u (q_x).toNatClampNeg)) 1 (8 * q_x) := by unfold fm_addOne; rw [if_pos h6, if_neg h20, if_neg h44, if_pos h75, if_neg h88]
            have e8 := mi_8 hqx
            rw [hr]
            exact loop_X1_addOne_L l D ad ca g u hI E 9 q_x (Int32.toInt64 (m_worths u (q_x).toNatClampNeg)) 1 (8 * q_x) hqx (by rw [e8]; omega) (by rw [e8]; omega) _ _ ls hS (lv_sub hl [3, 4, 2, 1, 0] rfl)
      · refine lv_aload_n hx hb dX1_addOne_47 rfl (lv_at hl 0 rfl) ?_
        refine gM_worths E hS dX1_addOne_48 ?_
        refine lv_iload_n hx hb dX1_addOne_51 rfl (lv_at hl 1 rfl) ?_
        refine lM_worths (v := m_worths u (q_x).toNatClampNeg) E hS (show vp_in q_x 60 from by first | with_reducible assumption | (refine mt_in hI ?_; with_reducible assumption) | (refine mn_in hI ?_ ?_ <;> with_reducible assumption) | (refine mb_lt hI ?_; with_reducible assumption) | (refine m6_in hI ?_; with_reducible assumption)) rfl dX1_addOne_52 ?_
        refine lv_i2l (v := Int32.toInt64 (m_worths u (q_x).toNatClampNeg)) hx hb dX1_addOne_53 rfl ?_
        refine lv_ldc2 (v := 100) hx hb hown (hts _ wk_X1_102) dX1_addOne_54 ?_
        refine lv_ladd hx hb dX1_addOne_57 ?_
        refine lv_goto (tgt := 68) hx hb dX1_addOne_58 (by decide) ?_
        refine lv_lstore_n (lv' := [(2, .long ((Int32.toInt64 (m_worths u (q_x).toNatClampNeg)) + 100)), (0, .ref (ad 0)), (1, .int q_x)]) hx hb dX1_addOne_68 rfl hl (by decide) rfl (fun ls hl => ?_)
        refine lv_aload_n hx hb dX1_addOne_69 rfl (lv_at hl 1 rfl) ?_
        refine gM_depths E hS dX1_addOne_70 ?_
        refine lv_iload_n hx hb dX1_addOne_73 rfl (lv_at hl 2 rfl) ?_
        refine lM_depths (v := m_depths u (q_x).toNatClampNeg) E hS (show vp_in q_x 60 from by first | with_reducible assumption | (refine mt_in hI ?_; with_reducible assumption) | (refine mn_in hI ?_ ?_ <;> with_reducible assumption) | (refine mb_lt hI ?_; with_reducible assumption) | (refine m6_in hI ?_; with_reducible assumption)) rfl dX1_addOne_74 ?_
        refine lv_if_ne (tgt := 95) hx hb dX1_addOne_75 (by decide) (fun h75 => ?_) (fun h75 => ?_)
        · refine lv_iconst (v := 0) hx hb dX1_addOne_95 (by decide) ?_
          refine lv_istore (lv' := [(4, .int 0), (2, .long ((Int32.toInt64 (m_worths u (q_x).toNatClampNeg)) + 100)), (0, .ref (ad 0)), (1, .int q_x)]) hx hb dX1_addOne_96 hl (by decide) rfl (fun ls hl => ?_)
          refine lv_bipush (v := 8) hx hb dX1_addOne_98 (by decide) ?_
          refine lv_iload_n hx hb dX1_addOne_100 rfl (lv_at hl 3 rfl) ?_
          refine lv_imul hx hb dX1_addOne_101 ?_
          refine lv_istore (lv' := [(5, .int (8 * q_x)), (4, .int 0), (2, .long ((Int32.toInt64 (m_worths u (q_x).toNatClampNeg)) + 100)), (0, .ref (ad 0)), (1, .int q_x)]) hx hb dX1_addOne_102 hl (by decide) rfl (fun ls hl => ?_)
          have hr : fm_addOne u q_x = fm_addOne_L 9 u q_x ((Int32.toInt64 (m_worths u (q_x).toNatClampNeg)) + 100) 0 (8 * q_x) := by unfold fm_addOne; rw [if_pos h6, if_neg h20, if_pos h44, if_neg h75]
          have e8 := mi_8 hqx
          rw [hr]
          exact loop_X1_addOne_L l D ad ca g u hI E 9 q_x ((Int32.toInt64 (m_worths u (q_x).toNatClampNeg)) + 100) 0 (8 * q_x) hqx (by rw [e8]; omega) (by rw [e8]; omega) _ _ ls hS (lv_sub hl [3, 4, 2, 1, 0] rfl)
        · refine lv_aload_n hx hb dX1_addOne_78 rfl (lv_at hl 1 rfl) ?_
          refine gM_bases E hS dX1_addOne_79 ?_
          refine lv_iload_n hx hb dX1_addOne_82 rfl (lv_at hl 2 rfl) ?_
          refine lM_bases (v := m_bases u (q_x).toNatClampNeg) E hS (show vp_in q_x 60 from by first | with_reducible assumption | (refine mt_in hI ?_; with_reducible assumption) | (refine mn_in hI ?_ ?_ <;> with_reducible assumption) | (refine mb_lt hI ?_; with_reducible assumption) | (refine m6_in hI ?_; with_reducible assumption)) rfl dX1_addOne_83 ?_
          refine lv_iconst (v := 4) hx hb dX1_addOne_84 (by decide) ?_
          refine EnM.sti (r := fm_goesFor (m_bases u (q_x).toNatClampNeg) 4) E hS [.int (m_bases u (q_x).toNatClampNeg), .int 4] [] (kX1_goesFor l (m_bases u (q_x).toNatClampNeg) 4 ) (fun _ _ _ _ h => h) (fun _ _ _ => trivial) gc_X1_64 hd_X1_goesFor ⟨Nat.le_of_ble_eq_true rfl, Nat.le_of_ble_eq_true rfl⟩ rfl hl.1 (Nat.le_of_ble_eq_true rfl) ⟨Nat.le_refl 0, Nat.le_refl 0⟩ dX1_addOne_85 (fun H locs hS => ?_)
          refine lv_if_eq (tgt := 95) hx hb dX1_addOne_88 (by decide) (fun h88 => ?_) (fun h88 => ?_)
          · refine lv_iconst (v := 0) hx hb dX1_addOne_95 (by decide) ?_
            refine lv_istore (lv' := [(4, .int 0), (2, .long ((Int32.toInt64 (m_worths u (q_x).toNatClampNeg)) + 100)), (0, .ref (ad 0)), (1, .int q_x)]) hx hb dX1_addOne_96 hl (by decide) rfl (fun ls hl => ?_)
            refine lv_bipush (v := 8) hx hb dX1_addOne_98 (by decide) ?_
            refine lv_iload_n hx hb dX1_addOne_100 rfl (lv_at hl 3 rfl) ?_
            refine lv_imul hx hb dX1_addOne_101 ?_
            refine lv_istore (lv' := [(5, .int (8 * q_x)), (4, .int 0), (2, .long ((Int32.toInt64 (m_worths u (q_x).toNatClampNeg)) + 100)), (0, .ref (ad 0)), (1, .int q_x)]) hx hb dX1_addOne_102 hl (by decide) rfl (fun ls hl => ?_)
            have hr : fm_addOne u q_x = fm_addOne_L 9 u q_x ((Int32.toInt64 (m_worths u (q_x).toNatClampNeg)) + 100) 0 (8 * q_x) := by unfold fm_addOne; rw [if_pos h6, if_neg h20, if_pos h44, if_pos h75, if_pos h88]
            have e8 := mi_8 hqx
            rw [hr]
            exact loop_X1_addOne_L l D ad ca g u hI E 9 q_x ((Int32.toInt64 (m_worths u (q_x).toNatClampNeg)) + 100) 0 (8 * q_x) hqx (by rw [e8]; omega) (by rw [e8]; omega) _ _ ls hS (lv_sub hl [3, 4, 2, 1, 0] rfl)
          · refine lv_iconst (v := 1) hx hb dX1_addOne_91 (by decide) ?_
            refine lv_goto (tgt := 96) hx hb dX1_addOne_92 (by decide) ?_
            refine lv_istore (lv' := [(4, .int 1), (2, .long ((Int32.toInt64 (m_worths u (q_x).toNatClampNeg)) + 100)), (0, .ref (ad 0)), (1, .int q_x)]) hx hb dX1_addOne_96 hl (by decide) rfl (fun ls hl => ?_)
            refine lv_bipush (v := 8) hx hb dX1_addOne_98 (by decide) ?_
            refine lv_iload_n hx hb dX1_addOne_100 rfl (lv_at hl 3 rfl) ?_
            refine lv_imul hx hb dX1_addOne_101 ?_
            refine lv_istore (lv' := [(5, .int (8 * q_x)), (4, .int 1), (2, .long ((Int32.toInt64 (m_worths u (q_x).toNatClampNeg)) + 100)), (0, .ref (ad 0)), (1, .int q_x)]) hx hb dX1_addOne_102 hl (by decide) rfl (fun ls hl => ?_)
            have hr : fm_addOne u q_x = fm_addOne_L 9 u q_x ((Int32.toInt64 (m_worths u (q_x).toNatClampNeg)) + 100) 1 (8 * q_x) := by unfold fm_addOne; rw [if_pos h6, if_neg h20, if_pos h44, if_pos h75, if_neg h88]
            have e8 := mi_8 hqx
            rw [hr]
            exact loop_X1_addOne_L l D ad ca g u hI E 9 q_x ((Int32.toInt64 (m_worths u (q_x).toNatClampNeg)) + 100) 1 (8 * q_x) hqx (by rw [e8]; omega) (by rw [e8]; omega) _ _ ls hS (lv_sub hl [3, 4, 2, 1, 0] rfl)
    · refine lv_ldc2 (v := 2) hx hb hown (hts _ wk_X1_100) dX1_addOne_23 ?_
      refine lv_aload_n hx hb dX1_addOne_26 rfl (lv_at hl 0 rfl) ?_
      refine gM_worths E hS dX1_addOne_27 ?_
      refine lv_iload_n hx hb dX1_addOne_30 rfl (lv_at hl 1 rfl) ?_
      refine lM_worths (v := m_worths u (q_x).toNatClampNeg) E hS (show vp_in q_x 60 from by first | with_reducible assumption | (refine mt_in hI ?_; with_reducible assumption) | (refine mn_in hI ?_ ?_ <;> with_reducible assumption) | (refine mb_lt hI ?_; with_reducible assumption) | (refine m6_in hI ?_; with_reducible assumption)) rfl dX1_addOne_31 ?_
      refine lv_i2l (v := Int32.toInt64 (m_worths u (q_x).toNatClampNeg)) hx hb dX1_addOne_32 rfl ?_
      refine lv_lmul hx hb dX1_addOne_33 ?_
      refine lv_goto (tgt := 68) hx hb dX1_addOne_34 (by decide) ?_
      refine lv_lstore_n (lv' := [(2, .long (2 * (Int32.toInt64 (m_worths u (q_x).toNatClampNeg)))), (0, .ref (ad 0)), (1, .int q_x)]) hx hb dX1_addOne_68 rfl hl (by decide) rfl (fun ls hl => ?_)
      refine lv_aload_n hx hb dX1_addOne_69 rfl (lv_at hl 1 rfl) ?_
      refine gM_depths E hS dX1_addOne_70 ?_
      refine lv_iload_n hx hb dX1_addOne_73 rfl (lv_at hl 2 rfl) ?_
      refine lM_depths (v := m_depths u (q_x).toNatClampNeg) E hS (show vp_in q_x 60 from by first | with_reducible assumption | (refine mt_in hI ?_; with_reducible assumption) | (refine mn_in hI ?_ ?_ <;> with_reducible assumption) | (refine mb_lt hI ?_; with_reducible assumption) | (refine m6_in hI ?_; with_reducible assumption)) rfl dX1_addOne_74 ?_
      refine lv_if_ne (tgt := 95) hx hb dX1_addOne_75 (by decide) (fun h75 => ?_) (fun h75 => ?_)
      · refine lv_iconst (v := 0) hx hb dX1_addOne_95 (by decide) ?_
        refine lv_istore (lv' := [(4, .int 0), (2, .long (2 * (Int32.toInt64 (m_worths u (q_x).toNatClampNeg)))), (0, .ref (ad 0)), (1, .int q_x)]) hx hb dX1_addOne_96 hl (by decide) rfl (fun ls hl => ?_)
        refine lv_bipush (v := 8) hx hb dX1_addOne_98 (by decide) ?_
        refine lv_iload_n hx hb dX1_addOne_100 rfl (lv_at hl 3 rfl) ?_
        refine lv_imul hx hb dX1_addOne_101 ?_
        refine lv_istore (lv' := [(5, .int (8 * q_x)), (4, .int 0), (2, .long (2 * (Int32.toInt64 (m_worths u (q_x).toNatClampNeg)))), (0, .ref (ad 0)), (1, .int q_x)]) hx hb dX1_addOne_102 hl (by decide) rfl (fun ls hl => ?_)
        have hr : fm_addOne u q_x = fm_addOne_L 9 u q_x (2 * (Int32.toInt64 (m_worths u (q_x).toNatClampNeg))) 0 (8 * q_x) := by unfold fm_addOne; rw [if_pos h6, if_pos h20, if_neg h75]
        have e8 := mi_8 hqx
        rw [hr]
        exact loop_X1_addOne_L l D ad ca g u hI E 9 q_x (2 * (Int32.toInt64 (m_worths u (q_x).toNatClampNeg))) 0 (8 * q_x) hqx (by rw [e8]; omega) (by rw [e8]; omega) _ _ ls hS (lv_sub hl [3, 4, 2, 1, 0] rfl)
      · refine lv_aload_n hx hb dX1_addOne_78 rfl (lv_at hl 1 rfl) ?_
        refine gM_bases E hS dX1_addOne_79 ?_
        refine lv_iload_n hx hb dX1_addOne_82 rfl (lv_at hl 2 rfl) ?_
        refine lM_bases (v := m_bases u (q_x).toNatClampNeg) E hS (show vp_in q_x 60 from by first | with_reducible assumption | (refine mt_in hI ?_; with_reducible assumption) | (refine mn_in hI ?_ ?_ <;> with_reducible assumption) | (refine mb_lt hI ?_; with_reducible assumption) | (refine m6_in hI ?_; with_reducible assumption)) rfl dX1_addOne_83 ?_
        refine lv_iconst (v := 4) hx hb dX1_addOne_84 (by decide) ?_
        refine EnM.sti (r := fm_goesFor (m_bases u (q_x).toNatClampNeg) 4) E hS [.int (m_bases u (q_x).toNatClampNeg), .int 4] [] (kX1_goesFor l (m_bases u (q_x).toNatClampNeg) 4 ) (fun _ _ _ _ h => h) (fun _ _ _ => trivial) gc_X1_64 hd_X1_goesFor ⟨Nat.le_of_ble_eq_true rfl, Nat.le_of_ble_eq_true rfl⟩ rfl hl.1 (Nat.le_of_ble_eq_true rfl) ⟨Nat.le_refl 0, Nat.le_refl 0⟩ dX1_addOne_85 (fun H locs hS => ?_)
        refine lv_if_eq (tgt := 95) hx hb dX1_addOne_88 (by decide) (fun h88 => ?_) (fun h88 => ?_)
        · refine lv_iconst (v := 0) hx hb dX1_addOne_95 (by decide) ?_
          refine lv_istore (lv' := [(4, .int 0), (2, .long (2 * (Int32.toInt64 (m_worths u (q_x).toNatClampNeg)))), (0, .ref (ad 0)), (1, .int q_x)]) hx hb dX1_addOne_96 hl (by decide) rfl (fun ls hl => ?_)
          refine lv_bipush (v := 8) hx hb dX1_addOne_98 (by decide) ?_
          refine lv_iload_n hx hb dX1_addOne_100 rfl (lv_at hl 3 rfl) ?_
          refine lv_imul hx hb dX1_addOne_101 ?_
          refine lv_istore (lv' := [(5, .int (8 * q_x)), (4, .int 0), (2, .long (2 * (Int32.toInt64 (m_worths u (q_x).toNatClampNeg)))), (0, .ref (ad 0)), (1, .int q_x)]) hx hb dX1_addOne_102 hl (by decide) rfl (fun ls hl => ?_)
          have hr : fm_addOne u q_x = fm_addOne_L 9 u q_x (2 * (Int32.toInt64 (m_worths u (q_x).toNatClampNeg))) 0 (8 * q_x) := by unfold fm_addOne; rw [if_pos h6, if_pos h20, if_pos h75, if_pos h88]
          have e8 := mi_8 hqx
          rw [hr]
          exact loop_X1_addOne_L l D ad ca g u hI E 9 q_x (2 * (Int32.toInt64 (m_worths u (q_x).toNatClampNeg))) 0 (8 * q_x) hqx (by rw [e8]; omega) (by rw [e8]; omega) _ _ ls hS (lv_sub hl [3, 4, 2, 1, 0] rfl)
        · refine lv_iconst (v := 1) hx hb dX1_addOne_91 (by decide) ?_
          refine lv_goto (tgt := 96) hx hb dX1_addOne_92 (by decide) ?_
          refine lv_istore (lv' := [(4, .int 1), (2, .long (2 * (Int32.toInt64 (m_worths u (q_x).toNatClampNeg)))), (0, .ref (ad 0)), (1, .int q_x)]) hx hb dX1_addOne_96 hl (by decide) rfl (fun ls hl => ?_)
          refine lv_bipush (v := 8) hx hb dX1_addOne_98 (by decide) ?_
          refine lv_iload_n hx hb dX1_addOne_100 rfl (lv_at hl 3 rfl) ?_
          refine lv_imul hx hb dX1_addOne_101 ?_
          refine lv_istore (lv' := [(5, .int (8 * q_x)), (4, .int 1), (2, .long (2 * (Int32.toInt64 (m_worths u (q_x).toNatClampNeg)))), (0, .ref (ad 0)), (1, .int q_x)]) hx hb dX1_addOne_102 hl (by decide) rfl (fun ls hl => ?_)
          have hr : fm_addOne u q_x = fm_addOne_L 9 u q_x (2 * (Int32.toInt64 (m_worths u (q_x).toNatClampNeg))) 1 (8 * q_x) := by unfold fm_addOne; rw [if_pos h6, if_pos h20, if_pos h75, if_neg h88]
          have e8 := mi_8 hqx
          rw [hr]
          exact loop_X1_addOne_L l D ad ca g u hI E 9 q_x (2 * (Int32.toInt64 (m_worths u (q_x).toNatClampNeg))) 1 (8 * q_x) hqx (by rw [e8]; omega) (by rw [e8]; omega) _ _ ls hS (lv_sub hl [3, 4, 2, 1, 0] rfl)
  · refine lv_lconst (v := 0) hx hb dX1_addOne_9 (by decide) ?_
    refine lv_goto (tgt := 68) hx hb dX1_addOne_10 (by decide) ?_
    refine lv_lstore_n (lv' := [(2, .long 0), (0, .ref (ad 0)), (1, .int q_x)]) hx hb dX1_addOne_68 rfl hl (by decide) rfl (fun ls hl => ?_)
    refine lv_aload_n hx hb dX1_addOne_69 rfl (lv_at hl 1 rfl) ?_
    refine gM_depths E hS dX1_addOne_70 ?_
    refine lv_iload_n hx hb dX1_addOne_73 rfl (lv_at hl 2 rfl) ?_
    refine lM_depths (v := m_depths u (q_x).toNatClampNeg) E hS (show vp_in q_x 60 from by first | with_reducible assumption | (refine mt_in hI ?_; with_reducible assumption) | (refine mn_in hI ?_ ?_ <;> with_reducible assumption) | (refine mb_lt hI ?_; with_reducible assumption) | (refine m6_in hI ?_; with_reducible assumption)) rfl dX1_addOne_74 ?_
    refine lv_if_ne (tgt := 95) hx hb dX1_addOne_75 (by decide) (fun h75 => ?_) (fun h75 => ?_)
    · refine lv_iconst (v := 0) hx hb dX1_addOne_95 (by decide) ?_
      refine lv_istore (lv' := [(4, .int 0), (2, .long 0), (0, .ref (ad 0)), (1, .int q_x)]) hx hb dX1_addOne_96 hl (by decide) rfl (fun ls hl => ?_)
      refine lv_bipush (v := 8) hx hb dX1_addOne_98 (by decide) ?_
      refine lv_iload_n hx hb dX1_addOne_100 rfl (lv_at hl 3 rfl) ?_
      refine lv_imul hx hb dX1_addOne_101 ?_
      refine lv_istore (lv' := [(5, .int (8 * q_x)), (4, .int 0), (2, .long 0), (0, .ref (ad 0)), (1, .int q_x)]) hx hb dX1_addOne_102 hl (by decide) rfl (fun ls hl => ?_)
      have hr : fm_addOne u q_x = fm_addOne_L 9 u q_x 0 0 (8 * q_x) := by unfold fm_addOne; rw [if_neg h6, if_neg h75]
      have e8 := mi_8 hqx
      rw [hr]
      exact loop_X1_addOne_L l D ad ca g u hI E 9 q_x 0 0 (8 * q_x) hqx (by rw [e8]; omega) (by rw [e8]; omega) _ _ ls hS (lv_sub hl [3, 4, 2, 1, 0] rfl)
    · refine lv_aload_n hx hb dX1_addOne_78 rfl (lv_at hl 1 rfl) ?_
      refine gM_bases E hS dX1_addOne_79 ?_
      refine lv_iload_n hx hb dX1_addOne_82 rfl (lv_at hl 2 rfl) ?_
      refine lM_bases (v := m_bases u (q_x).toNatClampNeg) E hS (show vp_in q_x 60 from by first | with_reducible assumption | (refine mt_in hI ?_; with_reducible assumption) | (refine mn_in hI ?_ ?_ <;> with_reducible assumption) | (refine mb_lt hI ?_; with_reducible assumption) | (refine m6_in hI ?_; with_reducible assumption)) rfl dX1_addOne_83 ?_
      refine lv_iconst (v := 4) hx hb dX1_addOne_84 (by decide) ?_
      refine EnM.sti (r := fm_goesFor (m_bases u (q_x).toNatClampNeg) 4) E hS [.int (m_bases u (q_x).toNatClampNeg), .int 4] [] (kX1_goesFor l (m_bases u (q_x).toNatClampNeg) 4 ) (fun _ _ _ _ h => h) (fun _ _ _ => trivial) gc_X1_64 hd_X1_goesFor ⟨Nat.le_of_ble_eq_true rfl, Nat.le_of_ble_eq_true rfl⟩ rfl hl.1 (Nat.le_of_ble_eq_true rfl) ⟨Nat.le_refl 0, Nat.le_refl 0⟩ dX1_addOne_85 (fun H locs hS => ?_)
      refine lv_if_eq (tgt := 95) hx hb dX1_addOne_88 (by decide) (fun h88 => ?_) (fun h88 => ?_)
      · refine lv_iconst (v := 0) hx hb dX1_addOne_95 (by decide) ?_
        refine lv_istore (lv' := [(4, .int 0), (2, .long 0), (0, .ref (ad 0)), (1, .int q_x)]) hx hb dX1_addOne_96 hl (by decide) rfl (fun ls hl => ?_)
        refine lv_bipush (v := 8) hx hb dX1_addOne_98 (by decide) ?_
        refine lv_iload_n hx hb dX1_addOne_100 rfl (lv_at hl 3 rfl) ?_
        refine lv_imul hx hb dX1_addOne_101 ?_
        refine lv_istore (lv' := [(5, .int (8 * q_x)), (4, .int 0), (2, .long 0), (0, .ref (ad 0)), (1, .int q_x)]) hx hb dX1_addOne_102 hl (by decide) rfl (fun ls hl => ?_)
        have hr : fm_addOne u q_x = fm_addOne_L 9 u q_x 0 0 (8 * q_x) := by unfold fm_addOne; rw [if_neg h6, if_pos h75, if_pos h88]
        have e8 := mi_8 hqx
        rw [hr]
        exact loop_X1_addOne_L l D ad ca g u hI E 9 q_x 0 0 (8 * q_x) hqx (by rw [e8]; omega) (by rw [e8]; omega) _ _ ls hS (lv_sub hl [3, 4, 2, 1, 0] rfl)
      · refine lv_iconst (v := 1) hx hb dX1_addOne_91 (by decide) ?_
        refine lv_goto (tgt := 96) hx hb dX1_addOne_92 (by decide) ?_
        refine lv_istore (lv' := [(4, .int 1), (2, .long 0), (0, .ref (ad 0)), (1, .int q_x)]) hx hb dX1_addOne_96 hl (by decide) rfl (fun ls hl => ?_)
        refine lv_bipush (v := 8) hx hb dX1_addOne_98 (by decide) ?_
        refine lv_iload_n hx hb dX1_addOne_100 rfl (lv_at hl 3 rfl) ?_
        refine lv_imul hx hb dX1_addOne_101 ?_
        refine lv_istore (lv' := [(5, .int (8 * q_x)), (4, .int 1), (2, .long 0), (0, .ref (ad 0)), (1, .int q_x)]) hx hb dX1_addOne_102 hl (by decide) rfl (fun ls hl => ?_)
        have hr : fm_addOne u q_x = fm_addOne_L 9 u q_x 0 1 (8 * q_x) := by unfold fm_addOne; rw [if_neg h6, if_pos h75, if_neg h88]
        have e8 := mi_8 hqx
        rw [hr]
        exact loop_X1_addOne_L l D ad ca g u hI E 9 q_x 0 1 (8 * q_x) hqx (by rw [e8]; omega) (by rw [e8]; omega) _ _ ls hS (lv_sub hl [3, 4, 2, 1, 0] rfl)
theorem ao_L : ∀ (f : Nat) (u : MS) (x : Int32) (a : Int64) (b k : Int32), ∃ (s : Nat → Int64) (c : Nat → Int32), fm_addOne_L f u x a b k = ms_counts (ms_sums u s) c := by
  intro f
  induction f with
  | zero => intro u x a b k; exact ⟨m_sums u, m_counts u, rfl⟩
  | succ f ih =>
    intro u x a b k
    rw [fm_addOne_L]
    (repeat' split) <;> first | exact ⟨_, _, rfl⟩ | apply ih
theorem ao_eq (u : MS) (x : Int32) : ∃ (s : Nat → Int64) (c : Nat → Int32), fm_addOne u x = ms_counts (ms_sums u s) c := by
  unfold fm_addOne
  (repeat' split) <;> apply ao_L
theorem ao_MI {u : MS} (hI : MI u) (x : Int32) : MI (fm_addOne u x) := by
  obtain ⟨s, c, h⟩ := ao_eq u x
  rw [h]
  exact hI
theorem ao_t (u : MS) (x : Int32) : m_things (fm_addOne u x) = m_things u := by
  obtain ⟨s, c, h⟩ := ao_eq u x
  rw [h]
  rfl
def fm_addUp_I : Nat → MS → Int32 → Int32 → MS
  | 0, w, q_d, v_2 => w
  | f_ + 1, w, q_d, v_2 => (if (m_things w) ≤ v_2 then w else (if (m_depths w (v_2).toNatClampNeg) = q_d then fm_addUp_I f_ (fm_addOne w v_2) q_d (v_2 + 1) else fm_addUp_I f_ w q_d (v_2 + 1)))
theorem hd_X1_addUp : yX1_addUp.cls = RX1 ∧ yX1_addUp.cls ≠ "java/lang/invoke/MethodHandle" ∧ yX1_addUp.cls ≠ "java/lang/invoke/VarHandle" ∧ (parseMethodDescriptor yX1_addUp.desc).map (fun d => d.parameters.length) = some 0 := by decide +kernel
set_option maxRecDepth 100000 in
set_option maxHeartbeats 4000000 in
theorem loop_X1_addUp_I {p : Program} {e : Env} {s : State} {m : MethodId} {below : List Frame} {meth : Method} {c : Code} {args : Array Value} {A : Nat → Prop} {Q : State → Prop} (l : Launch) (D : va_G) (ad : Nat → Nat) (ca : Nat → ClassId) (g : Nat) (E : EnM p s m c args cX1_addUp 3 meth none D ca g A) (q_d : Int32) : ∀ (f_ : Nat) (w : MS) (v_2 : Int32), MI w → (0 ≤ v_2.toInt ∧ v_2.toInt ≤ (m_things w).toInt) → (m_things w).toInt - v_2.toInt < (f_ : Int) → ∀ (H : Heap) (locs : List Loc) (ls : Array Slot), SM D ad ca A s w H locs → lv_has ls 3 [(0, .ref (ad 0)), (1, .int q_d), (2, .int v_2)] → (∀ (H : Heap) (locs : List Loc) (ls : Array Slot) (v : Int32), SM D ad ca A s (fm_addUp_I f_ w q_d v_2) H locs → lv_has ls 3 [(0, .ref (ad 0)), (1, .int q_d), (2, .int v)] → W p l e (rk 4) s m args below meth c H locs 0 0 Q (F0 m 38 ls [])) → W p l e (rk 4) s m args below meth c H locs 0 0 Q (F0 m 9 ls []) := by
  have hx := E.1.1
  have hb := E.1.2.1
  have hml := E.1.2.2.1
  have hown := E.1.2.2.2.1
  have hts := E.1.2.2.2.2
  intro f_
  induction f_ with
  | zero =>
    intro w v_2 hI hi hf H locs ls hS hl kk
    exfalso
    omega
  | succ f_ ih =>
    intro w v_2 hI hi hf H locs ls hS hl kk
    refine lv_iload_n hx hb dX1_addUp_9 rfl (lv_at hl 2 rfl) ?_
    refine lv_aload_n hx hb dX1_addUp_10 rfl (lv_at hl 0 rfl) ?_
    refine gM_things (v := m_things w) E hS rfl dX1_addUp_11 ?_
    refine lv_icmp_ge (tgt := 38) hx hb dX1_addUp_14 (by decide) (fun h14 => ?_) (fun h14 => ?_)
    · exact kk _ _ ls v_2 (by rw [fm_addUp_I, if_pos h14]; exact hS) (lv_sub hl [0, 1, 2] rfl)
    · have g14 := h14
      rw [le_ti] at g14
      refine lv_aload_n hx hb dX1_addUp_17 rfl (lv_at hl 0 rfl) ?_
      refine gM_depths E hS dX1_addUp_18 ?_
      refine lv_iload_n hx hb dX1_addUp_21 rfl (lv_at hl 2 rfl) ?_
      refine lM_depths (v := m_depths w (v_2).toNatClampNeg) E hS (show vp_in v_2 60 from (by have := hI.1; rw [vp_in_iff]; omega)) rfl dX1_addUp_22 ?_
      refine lv_iload_n hx hb dX1_addUp_23 rfl (lv_at hl 1 rfl) ?_
      refine lv_icmp_ne (tgt := 32) hx hb dX1_addUp_24 (by decide) (fun h24 => ?_) (fun h24 => ?_)
      · refine lv_iinc (v := v_2 + 1) (lv' := [(2, .int (v_2 + 1)), (0, .ref (ad 0)), (1, .int q_d)]) hx hb dX1_addUp_32 hl (k := 2) rfl rfl (by decide) rfl (fun ls hl => ?_)
        refine lv_goto (tgt := 9) hx hb dX1_addUp_35 (by decide) ?_
        have hr : fm_addUp_I (f_ + 1) w q_d v_2 = fm_addUp_I f_ w q_d (v_2 + 1) := by rw [fm_addUp_I, if_neg h14, if_neg h24]
        have e2 : (v_2 + 1).toInt = v_2.toInt + 1 := ti_inc (by omega) (by have := hI.1; omega)
        refine ih w (v_2 + 1) hI (by omega) (by omega) _ _ ls hS (lv_sub hl [1, 2, 0] rfl) (fun H locs ls v hS hl => kk H locs ls v (by rw [hr]; exact hS) hl)
      · refine lv_aload_n hx hb dX1_addUp_27 rfl (lv_at hl 0 rfl) ?_
        refine lv_iload_n hx hb dX1_addUp_28 rfl (lv_at hl 2 rfl) ?_
        refine EnM.callv (u2 := fm_addOne w v_2) E hS [.int v_2] [] (kX1_addOne l D ad ca g w v_2 hI (by have := hI.1; rw [vp_in_iff]; omega)) gc_X1_96 hd_X1_addOne ⟨Nat.le_of_ble_eq_true rfl, Nat.le_of_ble_eq_true rfl⟩ rfl hl.1 (Nat.le_of_ble_eq_true rfl) ⟨Nat.le_refl 0, Nat.le_refl 0⟩ dX1_addUp_29 (fun H locs hS => ?_)
        refine lv_iinc (v := v_2 + 1) (lv' := [(2, .int (v_2 + 1)), (0, .ref (ad 0)), (1, .int q_d)]) hx hb dX1_addUp_32 hl (k := 2) rfl rfl (by decide) rfl (fun ls hl => ?_)
        refine lv_goto (tgt := 9) hx hb dX1_addUp_35 (by decide) ?_
        have hr : fm_addUp_I (f_ + 1) w q_d v_2 = fm_addUp_I f_ (fm_addOne w v_2) q_d (v_2 + 1) := by rw [fm_addUp_I, if_neg h14, if_pos h24]
        have e2 : (v_2 + 1).toInt = v_2.toInt + 1 := ti_inc (by omega) (by have := hI.1; omega)
        refine ih (fm_addOne w v_2) (v_2 + 1) (ao_MI hI v_2) (by rw [ao_t]; omega) (by rw [ao_t]; omega) _ _ ls hS (lv_sub hl [1, 2, 0] rfl) (fun H locs ls v hS hl => kk H locs ls v (by rw [hr]; exact hS) hl)
theorem au_MI : ∀ (f : Nat) (w : MS) (d x : Int32), MI w → MI (fm_addUp_I f w d x) := by
  intro f
  induction f with
  | zero => intro w d x h; exact h
  | succ f ih =>
    intro w d x h
    rw [fm_addUp_I]
    (repeat' split) <;> first | exact h | exact ih _ _ _ h | exact ih _ _ _ (ao_MI h x)
theorem ti4 : (4 : Int32).toInt = 4 := by decide
def fm_addUp_L : Nat → MS → Int32 → MS
  | 0, w, v_1 => w
  | f_ + 1, w, v_1 => if 4 ≤ v_1 then w else fm_addUp_L f_ (fm_addUp_I 61 w v_1 0) (v_1 + 1)
def fm_addUp (u : MS) : MS := fm_addUp_L 5 u 0
set_option maxRecDepth 100000 in
set_option maxHeartbeats 4000000 in
theorem loop_X1_addUp {p : Program} {e : Env} {s : State} {m : MethodId} {below : List Frame} {meth : Method} {c : Code} {args : Array Value} {A : Nat → Prop} (l : Launch) (D : va_G) (ad : Nat → Nat) (ca : Nat → ClassId) (g : Nat) (E : EnM p s m c args cX1_addUp 3 meth none D ca g A) : ∀ (f_ : Nat) (w : MS) (v_1 : Int32), MI w → (0 ≤ v_1.toInt ∧ v_1.toInt ≤ 4) → 4 - v_1.toInt < (f_ : Int) → ∀ (H : Heap) (locs : List Loc) (ls : Array Slot), SM D ad ca A s w H locs → lv_has ls 3 [(0, .ref (ad 0)), (1, .int v_1)] → W p l e (rk 4) s m args below meth c H locs 0 0 (MQ below (va_Qv (fun v => v = fm_addUp_L f_ w v_1) (BkM D ad ca) A) args s 0 0 A) (F0 m 2 ls []) := by
  have hx := E.1.1
  have hb := E.1.2.1
  have hml := E.1.2.2.1
  have hown := E.1.2.2.2.1
  have hts := E.1.2.2.2.2
  intro f_
  induction f_ with
  | zero =>
    intro w v_1 hI hi hf H locs ls hS hl
    exfalso
    omega
  | succ f_ ih =>
    intro w v_1 hI hi hf H locs ls hS hl
    refine lv_iload_n hx hb dX1_addUp_2 rfl (lv_at hl 1 rfl) ?_
    refine lv_iconst (v := 4) hx hb dX1_addUp_3 (by decide) ?_
    refine lv_icmp_ge (tgt := 44) hx hb dX1_addUp_4 (by decide) (fun h4 => ?_) (fun h4 => ?_)
    · exact EnM.vret E hS (by rw [fm_addUp_L, if_pos h4]) dX1_addUp_44
    · refine lv_iconst (v := 0) hx hb dX1_addUp_7 (by decide) ?_
      refine lv_istore_n (lv' := [(2, .int 0), (0, .ref (ad 0)), (1, .int v_1)]) hx hb dX1_addUp_8 rfl hl (by decide) rfl (fun ls hl => ?_)
      have hr : fm_addUp_L (f_ + 1) w v_1 = fm_addUp_L f_ (fm_addUp_I 61 w v_1 0) (v_1 + 1) := by rw [fm_addUp_L, if_neg h4]
      have g4 := h4
      rw [le_ti, ti4] at g4
      have hI1 := hI.1
      have e1 : (v_1 + 1).toInt = v_1.toInt + 1 := ti_inc (by omega) (by omega)
      rw [hr]
      refine loop_X1_addUp_I l D ad ca g E v_1 61 w 0 hI (by rw [ti0]; omega) (by rw [ti0]; omega) _ _ ls hS (lv_sub hl [1, 2, 0] rfl) (fun H locs ls v_2 hS hl => ?_)
      refine lv_iinc (v := v_1 + 1) (lv' := [(1, .int (v_1 + 1)), (0, .ref (ad 0)), (2, .int v_2)]) hx hb dX1_addUp_38 hl (k := 1) rfl rfl (by decide) rfl (fun ls hl => ?_)
      refine lv_goto (tgt := 2) hx hb dX1_addUp_41 (by decide) ?_
      exact ih _ (v_1 + 1) (au_MI 61 w v_1 0 hI) (by omega) (by omega) _ _ ls hS (lv_sub hl [1, 0] rfl)
set_option maxRecDepth 100000 in
set_option maxHeartbeats 4000000 in
theorem kX1_addUp (l : Launch) (D : va_G) (ad : Nat → Nat) (ca : Nat → ClassId) (g : Nat) (u : MS)  (hI : MI u) : CvM l yX1_addUp cX1_addUp 3 4 D ad ca g [] u (fm_addUp u) := by
  refine CvM.of (by decide) rfl (Nat.le_of_ble_eq_true rfl) ?_
  intro p e s m below meth c A ls E hS hl
  have hx := E.1.1
  have hb := E.1.2.1
  have hml := E.1.2.2.1
  have hown := E.1.2.2.2.1
  have hts := E.1.2.2.2.2
  have hl : lv_has ls 3 [(0, .ref (ad 0))] := hl
  refine lv_iconst (v := 0) hx hb dX1_addUp_0 (by decide) ?_
  refine lv_istore_n (lv' := [(1, .int 0), (0, .ref (ad 0))]) hx hb dX1_addUp_1 rfl hl (by decide) rfl (fun ls hl => ?_)
  exact loop_X1_addUp l D ad ca g E 5 u 0 hI (by rw [ti0]; omega) (by rw [ti0]; omega) _ _ ls hS (lv_sub hl [1, 0] rfl)
def fm_worth (u : MS) (q_x : Int32) : Int64 × MS := if (fm_isThing u q_x) = 0 then (0, u) else (m_sums (fm_addUp u) (q_x).toNatClampNeg, fm_addUp u)
theorem hd_X1_worth : yX1_worth.cls = RX1 ∧ yX1_worth.cls ≠ "java/lang/invoke/MethodHandle" ∧ yX1_worth.cls ≠ "java/lang/invoke/VarHandle" ∧ (parseMethodDescriptor yX1_worth.desc).map (fun d => d.parameters.length) = some 1 := by decide +kernel
set_option maxRecDepth 100000 in
set_option maxHeartbeats 4000000 in
theorem kX1_worth (l : Launch) (D : va_G) (ad : Nat → Nat) (ca : Nat → ClassId) (g : Nat) (u : MS) (q_x : Int32) (hI : MI u) : ClM l yX1_worth cX1_worth 2 5 D ad ca g [.int q_x] u (fm_worth u q_x) := by
  refine ClM.of (by decide) rfl (Nat.le_of_ble_eq_true rfl) ?_
  intro p e s m below meth c A ls E hS hl
  have hx := E.1.1
  have hb := E.1.2.1
  have hml := E.1.2.2.1
  have hown := E.1.2.2.2.1
  have hts := E.1.2.2.2.2
  have hl : lv_has ls 2 [(0, .ref (ad 0)), (1, .int q_x)] := hl
  refine lv_aload_n hx hb dX1_worth_0 rfl (lv_at hl 0 rfl) ?_
  refine lv_iload_n hx hb dX1_worth_1 rfl (lv_at hl 1 rfl) ?_
  refine EnM.calli (r := fm_isThing u q_x) (u2 := u) E hS [.int q_x] [] (kX1_isThing l D ad ca g u q_x ) gc_X1_104 hd_X1_isThing ⟨Nat.le_of_ble_eq_true rfl, Nat.le_of_ble_eq_true rfl⟩ rfl hl.1 (Nat.le_of_ble_eq_true rfl) ⟨Nat.le_refl 0, Nat.le_refl 0⟩ dX1_worth_2 (fun H locs hS => ?_)
  refine lv_if_ne (tgt := 10) hx hb dX1_worth_5 (by decide) (fun h5 => ?_) (fun h5 => ?_)
  · refine lv_aload_n hx hb dX1_worth_10 rfl (lv_at hl 0 rfl) ?_
    refine EnM.callv (u2 := fm_addUp u) E hS [] [] (kX1_addUp l D ad ca g u  (by first | with_reducible assumption | (refine mt_in hI ?_; with_reducible assumption) | (refine mn_in hI ?_ ?_ <;> with_reducible assumption) | (refine mb_lt hI ?_; with_reducible assumption) | (refine m6_in hI ?_; with_reducible assumption))) gc_X1_107 hd_X1_addUp ⟨Nat.le_of_ble_eq_true rfl, Nat.le_of_ble_eq_true rfl⟩ rfl hl.1 (Nat.le_of_ble_eq_true rfl) ⟨Nat.le_refl 0, Nat.le_refl 0⟩ dX1_worth_11 (fun H locs hS => ?_)
    refine lv_aload_n hx hb dX1_worth_14 rfl (lv_at hl 0 rfl) ?_
    refine gM_sums E hS dX1_worth_15 ?_
    refine lv_iload_n hx hb dX1_worth_18 rfl (lv_at hl 1 rfl) ?_
    refine lM_sums (v := m_sums (fm_addUp u) (q_x).toNatClampNeg) E hS (show vp_in q_x 60 from by first | with_reducible assumption | (refine mt_in hI ?_; with_reducible assumption) | (refine mn_in hI ?_ ?_ <;> with_reducible assumption) | (refine mb_lt hI ?_; with_reducible assumption) | (refine m6_in hI ?_; with_reducible assumption)) rfl dX1_worth_19 ?_
    exact EnM.lret E hS (by first | (simp only [fm_worth, if_neg h5]; done) | (unfold fm_worth; rw [if_neg h5])) dX1_worth_20
  · refine lv_lconst (v := 0) hx hb dX1_worth_8 (by decide) ?_
    exact EnM.lret E hS (by first | (simp only [fm_worth, if_pos h5]; done) | (unfold fm_worth; rw [if_pos h5])) dX1_worth_9
def fm_frail (u : MS) (q_x : Int32) : Int32 × MS := if (fm_mayBe u q_x) = 0 then ((-2), u) else (if q_x = (-1) then ((fm_fails u 1).1, (fm_fails u 1).2) else (if (m_bases u (q_x).toNatClampNeg) ≤ 4 then (m_counts (fm_addUp u) (q_x).toNatClampNeg, fm_addUp u) else ((fm_fails u 2).1, (fm_fails u 2).2)))
theorem hd_X1_frail : yX1_frail.cls = RX1 ∧ yX1_frail.cls ≠ "java/lang/invoke/MethodHandle" ∧ yX1_frail.cls ≠ "java/lang/invoke/VarHandle" ∧ (parseMethodDescriptor yX1_frail.desc).map (fun d => d.parameters.length) = some 1 := by decide +kernel
set_option maxRecDepth 100000 in
set_option maxHeartbeats 4000000 in
theorem kX1_frail (l : Launch) (D : va_G) (ad : Nat → Nat) (ca : Nat → ClassId) (g : Nat) (u : MS) (q_x : Int32) (hI : MI u) : CiM l yX1_frail cX1_frail 2 .int 5 D ad ca g [.int q_x] u (fm_frail u q_x) := by
  refine CiM.of (by decide) rfl (Nat.le_of_ble_eq_true rfl) ?_
  intro p e s m below meth c A ls E hS hl
  have hx := E.1.1
  have hb := E.1.2.1
  have hml := E.1.2.2.1
  have hown := E.1.2.2.2.1
  have hts := E.1.2.2.2.2
  have hl : lv_has ls 2 [(0, .ref (ad 0)), (1, .int q_x)] := hl
  refine lv_aload_n hx hb dX1_frail_0 rfl (lv_at hl 0 rfl) ?_
  refine lv_iload_n hx hb dX1_frail_1 rfl (lv_at hl 1 rfl) ?_
  refine EnM.calli (r := fm_mayBe u q_x) (u2 := u) E hS [.int q_x] [] (kX1_mayBe l D ad ca g u q_x ) gc_X1_79 hd_X1_mayBe ⟨Nat.le_of_ble_eq_true rfl, Nat.le_of_ble_eq_true rfl⟩ rfl hl.1 (Nat.le_of_ble_eq_true rfl) ⟨Nat.le_refl 0, Nat.le_refl 0⟩ dX1_frail_2 (fun H locs hS => ?_)
  refine lv_if_ne (tgt := 11) hx hb dX1_frail_5 (by decide) (fun h5 => ?_) (fun h5 => ?_)
  · refine lv_iload_n hx hb dX1_frail_11 rfl (lv_at hl 1 rfl) ?_
    refine lv_iconst (v := (-1)) hx hb dX1_frail_12 (by decide) ?_
    refine lv_icmp_ne (tgt := 22) hx hb dX1_frail_13 (by decide) (fun h13 => ?_) (fun h13 => ?_)
    · refine lv_aload_n hx hb dX1_frail_22 rfl (lv_at hl 0 rfl) ?_
      refine gM_bases E hS dX1_frail_23 ?_
      refine lv_iload_n hx hb dX1_frail_26 rfl (lv_at hl 1 rfl) ?_
      refine lM_bases (v := m_bases u (q_x).toNatClampNeg) E hS (show vp_in q_x 60 from by first | with_reducible assumption | (refine mt_in hI ?_; with_reducible assumption) | (refine mn_in hI ?_ ?_ <;> with_reducible assumption) | (refine mb_lt hI ?_; with_reducible assumption) | (refine m6_in hI ?_; with_reducible assumption)) rfl dX1_frail_27 ?_
      refine lv_iconst (v := 4) hx hb dX1_frail_28 (by decide) ?_
      refine lv_icmp_le (tgt := 38) hx hb dX1_frail_29 (by decide) (fun h29 => ?_) (fun h29 => ?_)
      · refine lv_aload_n hx hb dX1_frail_38 rfl (lv_at hl 0 rfl) ?_
        refine EnM.callv (u2 := fm_addUp u) E hS [] [] (kX1_addUp l D ad ca g u  (by first | with_reducible assumption | (refine mt_in hI ?_; with_reducible assumption) | (refine mn_in hI ?_ ?_ <;> with_reducible assumption) | (refine mb_lt hI ?_; with_reducible assumption) | (refine m6_in hI ?_; with_reducible assumption))) gc_X1_107 hd_X1_addUp ⟨Nat.le_of_ble_eq_true rfl, Nat.le_of_ble_eq_true rfl⟩ rfl hl.1 (Nat.le_of_ble_eq_true rfl) ⟨Nat.le_refl 0, Nat.le_refl 0⟩ dX1_frail_39 (fun H locs hS => ?_)
        refine lv_aload_n hx hb dX1_frail_42 rfl (lv_at hl 0 rfl) ?_
        refine gM_counts E hS dX1_frail_43 ?_
        refine lv_iload_n hx hb dX1_frail_46 rfl (lv_at hl 1 rfl) ?_
        refine lM_counts (v := m_counts (fm_addUp u) (q_x).toNatClampNeg) E hS (show vp_in q_x 60 from by first | with_reducible assumption | (refine mt_in hI ?_; with_reducible assumption) | (refine mn_in hI ?_ ?_ <;> with_reducible assumption) | (refine mb_lt hI ?_; with_reducible assumption) | (refine m6_in hI ?_; with_reducible assumption)) rfl dX1_frail_47 ?_
        exact EnM.iret E hS (ni_i _) (by first | (simp only [fm_frail, if_neg h5, if_neg h13, if_pos h29]; done) | (unfold fm_frail; rw [if_neg h5, if_neg h13, if_pos h29])) dX1_frail_48
      · refine lv_aload_n hx hb dX1_frail_32 rfl (lv_at hl 0 rfl) ?_
        refine lv_iconst (v := 2) hx hb dX1_frail_33 (by decide) ?_
        refine EnM.calli (r := (fm_fails u 2).1) (u2 := (fm_fails u 2).2) E hS [.int 2] [] (kX1_fails l D ad ca g u 2 ) gc_X1_75 hd_X1_fails ⟨Nat.le_of_ble_eq_true rfl, Nat.le_of_ble_eq_true rfl⟩ rfl hl.1 (Nat.le_of_ble_eq_true rfl) ⟨Nat.le_refl 0, Nat.le_refl 0⟩ dX1_frail_34 (fun H locs hS => ?_)
        exact EnM.iret E hS (ni_i _) (by first | (simp only [fm_frail, if_neg h5, if_neg h13, if_neg h29]; done) | (unfold fm_frail; rw [if_neg h5, if_neg h13, if_neg h29])) dX1_frail_37
    · refine lv_aload_n hx hb dX1_frail_16 rfl (lv_at hl 0 rfl) ?_
      refine lv_iconst (v := 1) hx hb dX1_frail_17 (by decide) ?_
      refine EnM.calli (r := (fm_fails u 1).1) (u2 := (fm_fails u 1).2) E hS [.int 1] [] (kX1_fails l D ad ca g u 1 ) gc_X1_75 hd_X1_fails ⟨Nat.le_of_ble_eq_true rfl, Nat.le_of_ble_eq_true rfl⟩ rfl hl.1 (Nat.le_of_ble_eq_true rfl) ⟨Nat.le_refl 0, Nat.le_refl 0⟩ dX1_frail_18 (fun H locs hS => ?_)
      exact EnM.iret E hS (ni_i _) (by first | (simp only [fm_frail, if_neg h5, if_pos h13]; done) | (unfold fm_frail; rw [if_neg h5, if_pos h13])) dX1_frail_21
  · refine lv_bipush (v := (-2)) hx hb dX1_frail_8 (by decide) ?_
    exact EnM.iret E hS (ni_i _) (by first | (simp only [fm_frail, if_pos h5]; done) | (unfold fm_frail; rw [if_pos h5])) dX1_frail_10
theorem sp_iff {i n size : Int32} (hs : 0 ≤ size.toInt ∧ size.toInt ≤ 8) : ¬ fm_isSpan i n size = 0 ↔ 0 ≤ i.toInt ∧ 0 ≤ n.toInt ∧ i.toInt + n.toInt ≤ size.toInt := by
  have hb := Int32.toInt_lt n
  unfold fm_isSpan
  by_cases h1 : i < 0
  · rw [if_pos h1]; rw [lt_ti, ti0] at h1
    constructor
    · intro h; exact absurd rfl h
    · intro h; omega
  rw [if_neg h1]; rw [lt_ti, ti0] at h1
  by_cases h2 : n < 0
  · rw [if_pos h2]; rw [lt_ti, ti0] at h2
    constructor
    · intro h; exact absurd rfl h
    · intro h; omega
  rw [if_neg h2]; rw [lt_ti, ti0] at h2
  have e := ti_sub (a := size) (b := n) (by omega) (by omega)
  by_cases h3 : size - n < i
  · rw [if_pos h3]; rw [lt_ti, e] at h3
    constructor
    · intro h; exact absurd rfl h
    · intro h; omega
  rw [if_neg h3]; rw [lt_ti, e] at h3
  constructor
  · intro _; omega
  · intro _; decide
def fm_carry_B : Nat → MS → Int32 → Int32 → Int32 → Int32 → Int32 → Int32 → Int32 × MS
  | 0, w, q_r, q_i, q_s, q_j, q_n, v_6 => (0, w)
  | f_ + 1, w, q_r, q_i, q_s, q_j, q_n, v_6 => (if q_n ≤ v_6 then (1, w) else (if (m_moved w (v_6).toNatClampNeg) = (-1) then fm_carry_B f_ (ms_numbers (ms_lies w (upd (m_lies w) (((8 * q_s) + q_j) + v_6).toNatClampNeg (m_moved w (v_6).toNatClampNeg))) (vp_updL (m_numbers w) (((8 * q_s) + q_j) + v_6).toNatClampNeg (m_movedNumbers w (v_6).toNatClampNeg))) q_r q_i q_s q_j q_n (v_6 + 1) else (if (fm_isSuch w (m_moved w (v_6).toNatClampNeg) (m_bases w (q_s).toNatClampNeg) ((m_depths w (q_s).toNatClampNeg) - 1)) = 0 then ((fm_fails w 4).1, (fm_fails w 4).2) else fm_carry_B f_ (ms_numbers (ms_lies w (upd (m_lies w) (((8 * q_s) + q_j) + v_6).toNatClampNeg (m_moved w (v_6).toNatClampNeg))) (vp_updL (m_numbers w) (((8 * q_s) + q_j) + v_6).toNatClampNeg (m_movedNumbers w (v_6).toNatClampNeg))) q_r q_i q_s q_j q_n (v_6 + 1))))
set_option maxRecDepth 100000 in
set_option maxHeartbeats 4000000 in
theorem loop_X1_carry_B {p : Program} {e : Env} {s : State} {m : MethodId} {below : List Frame} {meth : Method} {c : Code} {args : Array Value} {A : Nat → Prop} (l : Launch) (D : va_G) (ad : Nat → Nat) (ca : Nat → ClassId) (g : Nat) (u : MS) (E : EnM p s m c args cX1_carry 7 meth (some .int) D ca g A) : ∀ (f_ : Nat) (w : MS) (q_r : Int32) (q_i : Int32) (q_s : Int32) (q_j : Int32) (q_n : Int32) (v_6 : Int32), vp_in q_s 60 → (0 ≤ q_j.toInt ∧ 0 ≤ q_n.toInt ∧ q_j.toInt + q_n.toInt ≤ 8) → (∀ q : Nat, (m_moved w q).toInt < 60) → (0 ≤ v_6.toInt ∧ v_6.toInt ≤ q_n.toInt) → q_n.toInt - v_6.toInt < (f_ : Int) → ∀ (H : Heap) (locs : List Loc) (ls : Array Slot), SM D ad ca A s w H locs → lv_has ls 7 [(0, .ref (ad 0)), (1, .int q_r), (2, .int q_i), (3, .int q_s), (4, .int q_j), (5, .int q_n), (6, .int v_6)] → W p l e (rk 4) s m args below meth c H locs 0 0 (MQ below (va_Qi (fun r' v => (r', v) = fm_carry_B f_ w q_r q_i q_s q_j q_n v_6) (BkM D ad ca) A) args s 0 0 A) (F0 m 193 ls []) := by
  have hx := E.1.1
  have hb := E.1.2.1
  have hml := E.1.2.2.1
  have hown := E.1.2.2.2.1
  have hts := E.1.2.2.2.2
  intro f_
  induction f_ with
  | zero =>
    intro w q_r q_i q_s q_j q_n v_6 hqs hj hmv hi hf H locs ls hS hl
    exfalso
    omega
  | succ f_ ih =>
    intro w q_r q_i q_s q_j q_n v_6 hqs hj hmv hi hf H locs ls hS hl
    refine lv_iload hx hb dX1_carry_193 (lv_at hl 6 rfl) ?_
    refine lv_iload hx hb dX1_carry_195 (lv_at hl 5 rfl) ?_
    refine lv_icmp_ge (tgt := 295) hx hb dX1_carry_197 (by decide) (fun h197 => ?_) (fun h197 => ?_)
    · refine lv_iconst (v := 1) hx hb dX1_carry_295 (by decide) ?_
      exact EnM.iret E hS (ni_i _) (by rw [fm_carry_B, if_pos h197]) dX1_carry_296
    · have g197 := h197
      rw [le_ti] at g197
      have hv8 : vp_in v_6 8 := by rw [vp_in_iff]; omega
      have hjs := mj_in hqs (i := q_j) (k := v_6) (by omega) (by omega) (by omega)
      have hmo := hmv (v_6).toNatClampNeg
      refine lv_aload_n hx hb dX1_carry_200 rfl (lv_at hl 0 rfl) ?_
      refine gM_moved E hS dX1_carry_201 ?_
      refine lv_iload hx hb dX1_carry_204 (lv_at hl 6 rfl) ?_
      refine lM_moved (v := m_moved w (v_6).toNatClampNeg) E hS (show vp_in v_6 8 from hv8) rfl dX1_carry_206 ?_
      refine lv_iconst (v := (-1)) hx hb dX1_carry_207 (by decide) ?_
      refine lv_icmp_eq (tgt := 245) hx hb dX1_carry_208 (by decide) (fun h208 => ?_) (fun h208 => ?_)
      · refine lv_aload_n hx hb dX1_carry_245 rfl (lv_at hl 0 rfl) ?_
        refine gM_lies E hS dX1_carry_246 ?_
        refine lv_bipush (v := 8) hx hb dX1_carry_249 (by decide) ?_
        refine lv_iload_n hx hb dX1_carry_251 rfl (lv_at hl 3 rfl) ?_
        refine lv_imul hx hb dX1_carry_252 ?_
        refine lv_iload hx hb dX1_carry_253 (lv_at hl 4 rfl) ?_
        refine lv_iadd hx hb dX1_carry_255 ?_
        refine lv_iload hx hb dX1_carry_256 (lv_at hl 6 rfl) ?_
        refine lv_iadd hx hb dX1_carry_258 ?_
        refine lv_aload_n hx hb dX1_carry_259 rfl (lv_at hl 0 rfl) ?_
        refine gM_moved E hS dX1_carry_260 ?_
        refine lv_iload hx hb dX1_carry_263 (lv_at hl 6 rfl) ?_
        refine lM_moved (v := m_moved w (v_6).toNatClampNeg) E hS (show vp_in v_6 8 from hv8) rfl dX1_carry_265 ?_
        refine sM_lies E hS (show vp_in (((8 * q_s) + q_j) + v_6) 480 from hjs) dX1_carry_266 (fun H locs hS => ?_)
        have hS : SM D ad ca A s (ms_lies w (upd (m_lies w) (((8 * q_s) + q_j) + v_6).toNatClampNeg (m_moved w (v_6).toNatClampNeg))) H locs := hS
        refine lv_aload_n hx hb dX1_carry_267 rfl (lv_at hl 0 rfl) ?_
        refine gM_numbers E hS dX1_carry_268 ?_
        refine lv_bipush (v := 8) hx hb dX1_carry_271 (by decide) ?_
        refine lv_iload_n hx hb dX1_carry_273 rfl (lv_at hl 3 rfl) ?_
        refine lv_imul hx hb dX1_carry_274 ?_
        refine lv_iload hx hb dX1_carry_275 (lv_at hl 4 rfl) ?_
        refine lv_iadd hx hb dX1_carry_277 ?_
        refine lv_iload hx hb dX1_carry_278 (lv_at hl 6 rfl) ?_
        refine lv_iadd hx hb dX1_carry_280 ?_
        refine lv_aload_n hx hb dX1_carry_281 rfl (lv_at hl 0 rfl) ?_
        refine gM_movedNumbers E hS dX1_carry_282 ?_
        refine lv_iload hx hb dX1_carry_285 (lv_at hl 6 rfl) ?_
        refine lM_movedNumbers (v := m_movedNumbers w (v_6).toNatClampNeg) E hS (show vp_in v_6 8 from hv8) rfl dX1_carry_287 ?_
        refine sM_numbers E hS (show vp_in (((8 * q_s) + q_j) + v_6) 480 from hjs) dX1_carry_288 (fun H locs hS => ?_)
        have hS : SM D ad ca A s (ms_numbers (ms_lies w (upd (m_lies w) (((8 * q_s) + q_j) + v_6).toNatClampNeg (m_moved w (v_6).toNatClampNeg))) (vp_updL (m_numbers w) (((8 * q_s) + q_j) + v_6).toNatClampNeg (m_movedNumbers w (v_6).toNatClampNeg))) H locs := hS
        refine lv_iinc (v := v_6 + 1) (lv' := [(6, .int (v_6 + 1)), (0, .ref (ad 0)), (1, .int q_r), (2, .int q_i), (3, .int q_s), (4, .int q_j), (5, .int q_n)]) hx hb dX1_carry_289 hl (k := 6) rfl rfl (by decide) rfl (fun ls hl => ?_)
        refine lv_goto (tgt := 193) hx hb dX1_carry_292 (by decide) ?_
        have hr : fm_carry_B (f_ + 1) w q_r q_i q_s q_j q_n v_6 = fm_carry_B f_ (ms_numbers (ms_lies w (upd (m_lies w) (((8 * q_s) + q_j) + v_6).toNatClampNeg (m_moved w (v_6).toNatClampNeg))) (vp_updL (m_numbers w) (((8 * q_s) + q_j) + v_6).toNatClampNeg (m_movedNumbers w (v_6).toNatClampNeg))) q_r q_i q_s q_j q_n (v_6 + 1) := by rw [fm_carry_B, if_neg h197, if_pos h208]
        have e6 : (v_6 + 1).toInt = v_6.toInt + 1 := ti_inc (by omega) (by omega)
        rw [hr]
        exact ih (ms_numbers (ms_lies w (upd (m_lies w) (((8 * q_s) + q_j) + v_6).toNatClampNeg (m_moved w (v_6).toNatClampNeg))) (vp_updL (m_numbers w) (((8 * q_s) + q_j) + v_6).toNatClampNeg (m_movedNumbers w (v_6).toNatClampNeg))) q_r q_i q_s q_j q_n (v_6 + 1) hqs hj hmv (by omega) (by omega) _ _ ls hS (lv_sub hl [1, 2, 3, 4, 5, 6, 0] rfl)
      · refine lv_aload_n hx hb dX1_carry_211 rfl (lv_at hl 0 rfl) ?_
        refine lv_aload_n hx hb dX1_carry_212 rfl (lv_at hl 0 rfl) ?_
        refine gM_moved E hS dX1_carry_213 ?_
        refine lv_iload hx hb dX1_carry_216 (lv_at hl 6 rfl) ?_
        refine lM_moved (v := m_moved w (v_6).toNatClampNeg) E hS (show vp_in v_6 8 from hv8) rfl dX1_carry_218 ?_
        refine lv_aload_n hx hb dX1_carry_219 rfl (lv_at hl 0 rfl) ?_
        refine gM_bases E hS dX1_carry_220 ?_
        refine lv_iload_n hx hb dX1_carry_223 rfl (lv_at hl 3 rfl) ?_
        refine lM_bases (v := m_bases w (q_s).toNatClampNeg) E hS (show vp_in q_s 60 from hqs) rfl dX1_carry_224 ?_
        refine lv_aload_n hx hb dX1_carry_225 rfl (lv_at hl 0 rfl) ?_
        refine gM_depths E hS dX1_carry_226 ?_
        refine lv_iload_n hx hb dX1_carry_229 rfl (lv_at hl 3 rfl) ?_
        refine lM_depths (v := m_depths w (q_s).toNatClampNeg) E hS (show vp_in q_s 60 from hqs) rfl dX1_carry_230 ?_
        refine lv_iconst (v := 1) hx hb dX1_carry_231 (by decide) ?_
        refine lv_isub hx hb dX1_carry_232 ?_
        refine EnM.calli (r := fm_isSuch w (m_moved w (v_6).toNatClampNeg) (m_bases w (q_s).toNatClampNeg) ((m_depths w (q_s).toNatClampNeg) - 1)) (u2 := w) E hS [.int (m_moved w (v_6).toNatClampNeg), .int (m_bases w (q_s).toNatClampNeg), .int ((m_depths w (q_s).toNatClampNeg) - 1)] [] (kX1_isSuch l D ad ca g w (m_moved w (v_6).toNatClampNeg) (m_bases w (q_s).toNatClampNeg) ((m_depths w (q_s).toNatClampNeg) - 1) hmo) gc_X1_83 hd_X1_isSuch ⟨Nat.le_of_ble_eq_true rfl, Nat.le_of_ble_eq_true rfl⟩ rfl hl.1 (Nat.le_of_ble_eq_true rfl) ⟨Nat.le_refl 0, Nat.le_refl 0⟩ dX1_carry_233 (fun H locs hS => ?_)
        refine lv_if_ne (tgt := 245) hx hb dX1_carry_236 (by decide) (fun h236 => ?_) (fun h236 => ?_)
        · refine lv_aload_n hx hb dX1_carry_245 rfl (lv_at hl 0 rfl) ?_
          refine gM_lies E hS dX1_carry_246 ?_
          refine lv_bipush (v := 8) hx hb dX1_carry_249 (by decide) ?_
          refine lv_iload_n hx hb dX1_carry_251 rfl (lv_at hl 3 rfl) ?_
          refine lv_imul hx hb dX1_carry_252 ?_
          refine lv_iload hx hb dX1_carry_253 (lv_at hl 4 rfl) ?_
          refine lv_iadd hx hb dX1_carry_255 ?_
          refine lv_iload hx hb dX1_carry_256 (lv_at hl 6 rfl) ?_
          refine lv_iadd hx hb dX1_carry_258 ?_
          refine lv_aload_n hx hb dX1_carry_259 rfl (lv_at hl 0 rfl) ?_
          refine gM_moved E hS dX1_carry_260 ?_
          refine lv_iload hx hb dX1_carry_263 (lv_at hl 6 rfl) ?_
          refine lM_moved (v := m_moved w (v_6).toNatClampNeg) E hS (show vp_in v_6 8 from hv8) rfl dX1_carry_265 ?_
          refine sM_lies E hS (show vp_in (((8 * q_s) + q_j) + v_6) 480 from hjs) dX1_carry_266 (fun H locs hS => ?_)
          have hS : SM D ad ca A s (ms_lies w (upd (m_lies w) (((8 * q_s) + q_j) + v_6).toNatClampNeg (m_moved w (v_6).toNatClampNeg))) H locs := hS
          refine lv_aload_n hx hb dX1_carry_267 rfl (lv_at hl 0 rfl) ?_
          refine gM_numbers E hS dX1_carry_268 ?_
          refine lv_bipush (v := 8) hx hb dX1_carry_271 (by decide) ?_
          refine lv_iload_n hx hb dX1_carry_273 rfl (lv_at hl 3 rfl) ?_
          refine lv_imul hx hb dX1_carry_274 ?_
          refine lv_iload hx hb dX1_carry_275 (lv_at hl 4 rfl) ?_
          refine lv_iadd hx hb dX1_carry_277 ?_
          refine lv_iload hx hb dX1_carry_278 (lv_at hl 6 rfl) ?_
          refine lv_iadd hx hb dX1_carry_280 ?_
          refine lv_aload_n hx hb dX1_carry_281 rfl (lv_at hl 0 rfl) ?_
          refine gM_movedNumbers E hS dX1_carry_282 ?_
          refine lv_iload hx hb dX1_carry_285 (lv_at hl 6 rfl) ?_
          refine lM_movedNumbers (v := m_movedNumbers w (v_6).toNatClampNeg) E hS (show vp_in v_6 8 from hv8) rfl dX1_carry_287 ?_
          refine sM_numbers E hS (show vp_in (((8 * q_s) + q_j) + v_6) 480 from hjs) dX1_carry_288 (fun H locs hS => ?_)
          have hS : SM D ad ca A s (ms_numbers (ms_lies w (upd (m_lies w) (((8 * q_s) + q_j) + v_6).toNatClampNeg (m_moved w (v_6).toNatClampNeg))) (vp_updL (m_numbers w) (((8 * q_s) + q_j) + v_6).toNatClampNeg (m_movedNumbers w (v_6).toNatClampNeg))) H locs := hS
          refine lv_iinc (v := v_6 + 1) (lv' := [(6, .int (v_6 + 1)), (0, .ref (ad 0)), (1, .int q_r), (2, .int q_i), (3, .int q_s), (4, .int q_j), (5, .int q_n)]) hx hb dX1_carry_289 hl (k := 6) rfl rfl (by decide) rfl (fun ls hl => ?_)
          refine lv_goto (tgt := 193) hx hb dX1_carry_292 (by decide) ?_
          have hr : fm_carry_B (f_ + 1) w q_r q_i q_s q_j q_n v_6 = fm_carry_B f_ (ms_numbers (ms_lies w (upd (m_lies w) (((8 * q_s) + q_j) + v_6).toNatClampNeg (m_moved w (v_6).toNatClampNeg))) (vp_updL (m_numbers w) (((8 * q_s) + q_j) + v_6).toNatClampNeg (m_movedNumbers w (v_6).toNatClampNeg))) q_r q_i q_s q_j q_n (v_6 + 1) := by rw [fm_carry_B, if_neg h197, if_neg h208, if_neg h236]
          have e6 : (v_6 + 1).toInt = v_6.toInt + 1 := ti_inc (by omega) (by omega)
          rw [hr]
          exact ih (ms_numbers (ms_lies w (upd (m_lies w) (((8 * q_s) + q_j) + v_6).toNatClampNeg (m_moved w (v_6).toNatClampNeg))) (vp_updL (m_numbers w) (((8 * q_s) + q_j) + v_6).toNatClampNeg (m_movedNumbers w (v_6).toNatClampNeg))) q_r q_i q_s q_j q_n (v_6 + 1) hqs hj hmv (by omega) (by omega) _ _ ls hS (lv_sub hl [1, 2, 3, 4, 5, 6, 0] rfl)
        · refine lv_aload_n hx hb dX1_carry_239 rfl (lv_at hl 0 rfl) ?_
          refine lv_iconst (v := 4) hx hb dX1_carry_240 (by decide) ?_
          refine EnM.calli (r := (fm_fails w 4).1) (u2 := (fm_fails w 4).2) E hS [.int 4] [] (kX1_fails l D ad ca g w 4 ) gc_X1_75 hd_X1_fails ⟨Nat.le_of_ble_eq_true rfl, Nat.le_of_ble_eq_true rfl⟩ rfl hl.1 (Nat.le_of_ble_eq_true rfl) ⟨Nat.le_refl 0, Nat.le_refl 0⟩ dX1_carry_241 (fun H locs hS => ?_)
          exact EnM.iret E hS (ni_i _) (by rw [fm_carry_B, if_neg h197, if_neg h208, if_pos h236]) dX1_carry_244
def fm_carry_A : Nat → MS → Int32 → Int32 → Int32 → Int32 → Int32 → Int32 → Int32 × MS
  | 0, w, q_r, q_i, q_s, q_j, q_n, v_6 => (0, w)
  | f_ + 1, w, q_r, q_i, q_s, q_j, q_n, v_6 => (if q_n ≤ v_6 then fm_carry_B 9 w q_r q_i q_s q_j q_n 0 else fm_carry_A f_ (ms_movedNumbers (ms_moved w (upd (m_moved w) (v_6).toNatClampNeg (m_lies w (((8 * q_r) + q_i) + v_6).toNatClampNeg))) (vp_updL (m_movedNumbers w) (v_6).toNatClampNeg (m_numbers w (((8 * q_r) + q_i) + v_6).toNatClampNeg))) q_r q_i q_s q_j q_n (v_6 + 1))
set_option maxRecDepth 100000 in
set_option maxHeartbeats 4000000 in
theorem loop_X1_carry_A {p : Program} {e : Env} {s : State} {m : MethodId} {below : List Frame} {meth : Method} {c : Code} {args : Array Value} {A : Nat → Prop} (l : Launch) (D : va_G) (ad : Nat → Nat) (ca : Nat → ClassId) (g : Nat) (u : MS) (E : EnM p s m c args cX1_carry 7 meth (some .int) D ca g A) : ∀ (f_ : Nat) (w : MS) (q_r : Int32) (q_i : Int32) (q_s : Int32) (q_j : Int32) (q_n : Int32) (v_6 : Int32), vp_in q_r 60 → vp_in q_s 60 → (0 ≤ q_i.toInt ∧ 0 ≤ q_n.toInt ∧ q_i.toInt + q_n.toInt ≤ 8) → (0 ≤ q_j.toInt ∧ 0 ≤ q_n.toInt ∧ q_j.toInt + q_n.toInt ≤ 8) → (∀ q : Nat, (m_lies w q).toInt < 60) → (∀ q : Nat, (m_moved w q).toInt < 60) → (0 ≤ v_6.toInt ∧ v_6.toInt ≤ q_n.toInt) → q_n.toInt - v_6.toInt < (f_ : Int) → ∀ (H : Heap) (locs : List Loc) (ls : Array Slot), SM D ad ca A s w H locs → lv_has ls 7 [(0, .ref (ad 0)), (1, .int q_r), (2, .int q_i), (3, .int q_s), (4, .int q_j), (5, .int q_n), (6, .int v_6)] → W p l e (rk 4) s m args below meth c H locs 0 0 (MQ below (va_Qi (fun r' v => (r', v) = fm_carry_A f_ w q_r q_i q_s q_j q_n v_6) (BkM D ad ca) A) args s 0 0 A) (F0 m 135 ls []) := by
  have hx := E.1.1
  have hb := E.1.2.1
  have hml := E.1.2.2.1
  have hown := E.1.2.2.2.1
  have hts := E.1.2.2.2.2
  intro f_
  induction f_ with
  | zero =>
    intro w q_r q_i q_s q_j q_n v_6 hqr hqs hir0 hj hll hmv hi hf H locs ls hS hl
    exfalso
    omega
  | succ f_ ih =>
    intro w q_r q_i q_s q_j q_n v_6 hqr hqs hir0 hj hll hmv hi hf H locs ls hS hl
    refine lv_iload hx hb dX1_carry_135 (lv_at hl 6 rfl) ?_
    refine lv_iload hx hb dX1_carry_137 (lv_at hl 5 rfl) ?_
    refine lv_icmp_ge (tgt := 190) hx hb dX1_carry_139 (by decide) (fun h139 => ?_) (fun h139 => ?_)
    · refine lv_iconst (v := 0) hx hb dX1_carry_190 (by decide) ?_
      refine lv_istore (lv' := [(6, .int 0), (0, .ref (ad 0)), (1, .int q_r), (2, .int q_i), (3, .int q_s), (4, .int q_j), (5, .int q_n)]) hx hb dX1_carry_191 hl (by decide) rfl (fun ls hl => ?_)
      have hr : fm_carry_A (f_ + 1) w q_r q_i q_s q_j q_n v_6 = fm_carry_B 9 w q_r q_i q_s q_j q_n 0 := by rw [fm_carry_A, if_pos h139]
      rw [hr]
      exact loop_X1_carry_B l D ad ca g u  E 9 w q_r q_i q_s q_j q_n 0 hqs hj hmv (by rw [ti0]; omega) (by rw [ti0]; omega) _ _ ls hS (lv_sub hl [1, 2, 3, 4, 5, 6, 0] rfl)
    · have g139 := h139
      rw [le_ti] at g139
      have hv8 : vp_in v_6 8 := by rw [vp_in_iff]; omega
      have hir := mj_in hqr (i := q_i) (k := v_6) (by omega) (by omega) (by omega)
      refine lv_aload_n hx hb dX1_carry_142 rfl (lv_at hl 0 rfl) ?_
      refine gM_moved E hS dX1_carry_143 ?_
      refine lv_iload hx hb dX1_carry_146 (lv_at hl 6 rfl) ?_
      refine lv_aload_n hx hb dX1_carry_148 rfl (lv_at hl 0 rfl) ?_
      refine gM_lies E hS dX1_carry_149 ?_
      refine lv_bipush (v := 8) hx hb dX1_carry_152 (by decide) ?_
      refine lv_iload_n hx hb dX1_carry_154 rfl (lv_at hl 1 rfl) ?_
      refine lv_imul hx hb dX1_carry_155 ?_
      refine lv_iload_n hx hb dX1_carry_156 rfl (lv_at hl 2 rfl) ?_
      refine lv_iadd hx hb dX1_carry_157 ?_
      refine lv_iload hx hb dX1_carry_158 (lv_at hl 6 rfl) ?_
      refine lv_iadd hx hb dX1_carry_160 ?_
      refine lM_lies (v := m_lies w (((8 * q_r) + q_i) + v_6).toNatClampNeg) E hS (show vp_in (((8 * q_r) + q_i) + v_6) 480 from hir) rfl dX1_carry_161 ?_
      refine sM_moved E hS (show vp_in v_6 8 from hv8) dX1_carry_162 (fun H locs hS => ?_)
      have hS : SM D ad ca A s (ms_moved w (upd (m_moved w) (v_6).toNatClampNeg (m_lies w (((8 * q_r) + q_i) + v_6).toNatClampNeg))) H locs := hS
      refine lv_aload_n hx hb dX1_carry_163 rfl (lv_at hl 0 rfl) ?_
      refine gM_movedNumbers E hS dX1_carry_164 ?_
      refine lv_iload hx hb dX1_carry_167 (lv_at hl 6 rfl) ?_
      refine lv_aload_n hx hb dX1_carry_169 rfl (lv_at hl 0 rfl) ?_
      refine gM_numbers E hS dX1_carry_170 ?_
      refine lv_bipush (v := 8) hx hb dX1_carry_173 (by decide) ?_
      refine lv_iload_n hx hb dX1_carry_175 rfl (lv_at hl 1 rfl) ?_
      refine lv_imul hx hb dX1_carry_176 ?_
      refine lv_iload_n hx hb dX1_carry_177 rfl (lv_at hl 2 rfl) ?_
      refine lv_iadd hx hb dX1_carry_178 ?_
      refine lv_iload hx hb dX1_carry_179 (lv_at hl 6 rfl) ?_
      refine lv_iadd hx hb dX1_carry_181 ?_
      refine lM_numbers (v := m_numbers w (((8 * q_r) + q_i) + v_6).toNatClampNeg) E hS (show vp_in (((8 * q_r) + q_i) + v_6) 480 from hir) rfl dX1_carry_182 ?_
      refine sM_movedNumbers E hS (show vp_in v_6 8 from hv8) dX1_carry_183 (fun H locs hS => ?_)
      have hS : SM D ad ca A s (ms_movedNumbers (ms_moved w (upd (m_moved w) (v_6).toNatClampNeg (m_lies w (((8 * q_r) + q_i) + v_6).toNatClampNeg))) (vp_updL (m_movedNumbers w) (v_6).toNatClampNeg (m_numbers w (((8 * q_r) + q_i) + v_6).toNatClampNeg))) H locs := hS
      refine lv_iinc (v := v_6 + 1) (lv' := [(6, .int (v_6 + 1)), (0, .ref (ad 0)), (1, .int q_r), (2, .int q_i), (3, .int q_s), (4, .int q_j), (5, .int q_n)]) hx hb dX1_carry_184 hl (k := 6) rfl rfl (by decide) rfl (fun ls hl => ?_)
      refine lv_goto (tgt := 135) hx hb dX1_carry_187 (by decide) ?_
      have hr : fm_carry_A (f_ + 1) w q_r q_i q_s q_j q_n v_6 = fm_carry_A f_ (ms_movedNumbers (ms_moved w (upd (m_moved w) (v_6).toNatClampNeg (m_lies w (((8 * q_r) + q_i) + v_6).toNatClampNeg))) (vp_updL (m_movedNumbers w) (v_6).toNatClampNeg (m_numbers w (((8 * q_r) + q_i) + v_6).toNatClampNeg))) q_r q_i q_s q_j q_n (v_6 + 1) := by rw [fm_carry_A, if_neg h139]
      have e6 : (v_6 + 1).toInt = v_6.toInt + 1 := ti_inc (by omega) (by omega)
      rw [hr]
      exact ih (ms_movedNumbers (ms_moved w (upd (m_moved w) (v_6).toNatClampNeg (m_lies w (((8 * q_r) + q_i) + v_6).toNatClampNeg))) (vp_updL (m_movedNumbers w) (v_6).toNatClampNeg (m_numbers w (((8 * q_r) + q_i) + v_6).toNatClampNeg))) q_r q_i q_s q_j q_n (v_6 + 1) hqr hqs hir0 hj hll (fun q => by show (upd (m_moved w) _ _ q).toInt < 60; unfold upd; split; exact hll _; exact hmv q) (by omega) (by omega) _ _ ls hS (lv_sub hl [1, 2, 3, 4, 5, 6, 0] rfl)
def fm_carry (u : MS) (q_r : Int32) (q_i : Int32) (q_s : Int32) (q_j : Int32) (q_n : Int32) : Int32 × MS := if (fm_mayBe u q_r) = 0 then ((-2), u) else (if (fm_mayBe u q_s) = 0 then ((-2), u) else (if q_r = (-1) then ((fm_fails u 1).1, (fm_fails u 1).2) else (if q_s = (-1) then ((fm_fails u 1).1, (fm_fails u 1).2) else (if (m_depths u (q_r).toNatClampNeg) = 0 then ((fm_fails u 4).1, (fm_fails u 4).2) else (if (m_depths u (q_s).toNatClampNeg) = 0 then ((fm_fails u 4).1, (fm_fails u 4).2) else (if (fm_isLedger u q_r) = (fm_isLedger u q_s) then (if (fm_isLedger u q_r) = 0 then (if (fm_isSpan q_i q_n (m_sizes u (q_r).toNatClampNeg)) = 0 then ((fm_fails u 3).1, (fm_fails u 3).2) else (if (fm_isSpan q_j q_n (m_sizes u (q_s).toNatClampNeg)) = 0 then ((fm_fails u 3).1, (fm_fails u 3).2) else fm_carry_A 9 u q_r q_i q_s q_j q_n 0)) else (if (m_bases u (q_r).toNatClampNeg) = (m_bases u (q_s).toNatClampNeg) then (if (fm_isSpan q_i q_n (m_sizes u (q_r).toNatClampNeg)) = 0 then ((fm_fails u 3).1, (fm_fails u 3).2) else (if (fm_isSpan q_j q_n (m_sizes u (q_s).toNatClampNeg)) = 0 then ((fm_fails u 3).1, (fm_fails u 3).2) else fm_carry_A 9 u q_r q_i q_s q_j q_n 0)) else ((fm_fails u 4).1, (fm_fails u 4).2))) else ((fm_fails u 4).1, (fm_fails u 4).2)))))))
theorem hd_X1_carry : yX1_carry.cls = RX1 ∧ yX1_carry.cls ≠ "java/lang/invoke/MethodHandle" ∧ yX1_carry.cls ≠ "java/lang/invoke/VarHandle" ∧ (parseMethodDescriptor yX1_carry.desc).map (fun d => d.parameters.length) = some 5 := by decide +kernel
set_option maxRecDepth 100000 in
set_option maxHeartbeats 4000000 in
theorem kX1_carry (l : Launch) (D : va_G) (ad : Nat → Nat) (ca : Nat → ClassId) (g : Nat) (u : MS) (q_r : Int32) (q_i : Int32) (q_s : Int32) (q_j : Int32) (q_n : Int32) (hI : MI u) : CiM l yX1_carry cX1_carry 7 .int 4 D ad ca g [.int q_r, .int q_i, .int q_s, .int q_j, .int q_n] u (fm_carry u q_r q_i q_s q_j q_n) := by
  refine CiM.of (by decide) rfl (Nat.le_of_ble_eq_true rfl) ?_
  intro p e s m below meth c A ls E hS hl
  have hx := E.1.1
  have hb := E.1.2.1
  have hml := E.1.2.2.1
  have hown := E.1.2.2.2.1
  have hts := E.1.2.2.2.2
  have hl : lv_has ls 7 [(0, .ref (ad 0)), (1, .int q_r), (2, .int q_i), (3, .int q_s), (4, .int q_j), (5, .int q_n)] := hl
  refine lv_aload_n hx hb dX1_carry_0 rfl (lv_at hl 0 rfl) ?_
  refine lv_iload_n hx hb dX1_carry_1 rfl (lv_at hl 1 rfl) ?_
  refine EnM.calli (r := fm_mayBe u q_r) (u2 := u) E hS [.int q_r] [] (kX1_mayBe l D ad ca g u q_r ) gc_X1_79 hd_X1_mayBe ⟨Nat.le_of_ble_eq_true rfl, Nat.le_of_ble_eq_true rfl⟩ rfl hl.1 (Nat.le_of_ble_eq_true rfl) ⟨Nat.le_refl 0, Nat.le_refl 0⟩ dX1_carry_2 (fun H locs hS => ?_)
  refine lv_if_eq (tgt := 16) hx hb dX1_carry_5 (by decide) (fun h5 => ?_) (fun h5 => ?_)
  · refine lv_bipush (v := (-2)) hx hb dX1_carry_16 (by decide) ?_
    exact EnM.iret E hS (ni_i _) (by first | (simp only [fm_carry, if_pos h5]; done) | (unfold fm_carry; rw [if_pos h5])) dX1_carry_18
  · refine lv_aload_n hx hb dX1_carry_8 rfl (lv_at hl 0 rfl) ?_
    refine lv_iload_n hx hb dX1_carry_9 rfl (lv_at hl 3 rfl) ?_
    refine EnM.calli (r := fm_mayBe u q_s) (u2 := u) E hS [.int q_s] [] (kX1_mayBe l D ad ca g u q_s ) gc_X1_79 hd_X1_mayBe ⟨Nat.le_of_ble_eq_true rfl, Nat.le_of_ble_eq_true rfl⟩ rfl hl.1 (Nat.le_of_ble_eq_true rfl) ⟨Nat.le_refl 0, Nat.le_refl 0⟩ dX1_carry_10 (fun H locs hS => ?_)
    refine lv_if_ne (tgt := 19) hx hb dX1_carry_13 (by decide) (fun h13 => ?_) (fun h13 => ?_)
    · refine lv_iload_n hx hb dX1_carry_19 rfl (lv_at hl 1 rfl) ?_
      refine lv_iconst (v := (-1)) hx hb dX1_carry_20 (by decide) ?_
      refine lv_icmp_eq (tgt := 29) hx hb dX1_carry_21 (by decide) (fun h21 => ?_) (fun h21 => ?_)
      · refine lv_aload_n hx hb dX1_carry_29 rfl (lv_at hl 0 rfl) ?_
        refine lv_iconst (v := 1) hx hb dX1_carry_30 (by decide) ?_
        refine EnM.calli (r := (fm_fails u 1).1) (u2 := (fm_fails u 1).2) E hS [.int 1] [] (kX1_fails l D ad ca g u 1 ) gc_X1_75 hd_X1_fails ⟨Nat.le_of_ble_eq_true rfl, Nat.le_of_ble_eq_true rfl⟩ rfl hl.1 (Nat.le_of_ble_eq_true rfl) ⟨Nat.le_refl 0, Nat.le_refl 0⟩ dX1_carry_31 (fun H locs hS => ?_)
        exact EnM.iret E hS (ni_i _) (by first | (simp only [fm_carry, if_neg h5, if_neg h13, if_pos h21]; done) | (unfold fm_carry; rw [if_neg h5, if_neg h13, if_pos h21])) dX1_carry_34
      · refine lv_iload_n hx hb dX1_carry_24 rfl (lv_at hl 3 rfl) ?_
        refine lv_iconst (v := (-1)) hx hb dX1_carry_25 (by decide) ?_
        refine lv_icmp_ne (tgt := 35) hx hb dX1_carry_26 (by decide) (fun h26 => ?_) (fun h26 => ?_)
        · refine lv_aload_n hx hb dX1_carry_35 rfl (lv_at hl 0 rfl) ?_
          refine gM_depths E hS dX1_carry_36 ?_
          refine lv_iload_n hx hb dX1_carry_39 rfl (lv_at hl 1 rfl) ?_
          refine lM_depths (v := m_depths u (q_r).toNatClampNeg) E hS (show vp_in q_r 60 from by first | with_reducible assumption | (refine mt_in hI ?_; with_reducible assumption) | (refine mn_in hI ?_ ?_ <;> with_reducible assumption) | (refine mb_lt hI ?_; with_reducible assumption) | (refine m6_in hI ?_; with_reducible assumption)) rfl dX1_carry_40 ?_
          refine lv_if_eq (tgt := 89) hx hb dX1_carry_41 (by decide) (fun h41 => ?_) (fun h41 => ?_)
          · refine lv_aload_n hx hb dX1_carry_89 rfl (lv_at hl 0 rfl) ?_
            refine lv_iconst (v := 4) hx hb dX1_carry_90 (by decide) ?_
            refine EnM.calli (r := (fm_fails u 4).1) (u2 := (fm_fails u 4).2) E hS [.int 4] [] (kX1_fails l D ad ca g u 4 ) gc_X1_75 hd_X1_fails ⟨Nat.le_of_ble_eq_true rfl, Nat.le_of_ble_eq_true rfl⟩ rfl hl.1 (Nat.le_of_ble_eq_true rfl) ⟨Nat.le_refl 0, Nat.le_refl 0⟩ dX1_carry_91 (fun H locs hS => ?_)
            exact EnM.iret E hS (ni_i _) (by first | (simp only [fm_carry, if_neg h5, if_neg h13, if_neg h21, if_neg h26, if_pos h41]; done) | (unfold fm_carry; rw [if_neg h5, if_neg h13, if_neg h21, if_neg h26, if_pos h41])) dX1_carry_94
          · refine lv_aload_n hx hb dX1_carry_44 rfl (lv_at hl 0 rfl) ?_
            refine gM_depths E hS dX1_carry_45 ?_
            refine lv_iload_n hx hb dX1_carry_48 rfl (lv_at hl 3 rfl) ?_
            refine lM_depths (v := m_depths u (q_s).toNatClampNeg) E hS (show vp_in q_s 60 from by first | with_reducible assumption | (refine mt_in hI ?_; with_reducible assumption) | (refine mn_in hI ?_ ?_ <;> with_reducible assumption) | (refine mb_lt hI ?_; with_reducible assumption) | (refine m6_in hI ?_; with_reducible assumption)) rfl dX1_carry_49 ?_
            refine lv_if_eq (tgt := 89) hx hb dX1_carry_50 (by decide) (fun h50 => ?_) (fun h50 => ?_)
            · refine lv_aload_n hx hb dX1_carry_89 rfl (lv_at hl 0 rfl) ?_
              refine lv_iconst (v := 4) hx hb dX1_carry_90 (by decide) ?_
              refine EnM.calli (r := (fm_fails u 4).1) (u2 := (fm_fails u 4).2) E hS [.int 4] [] (kX1_fails l D ad ca g u 4 ) gc_X1_75 hd_X1_fails ⟨Nat.le_of_ble_eq_true rfl, Nat.le_of_ble_eq_true rfl⟩ rfl hl.1 (Nat.le_of_ble_eq_true rfl) ⟨Nat.le_refl 0, Nat.le_refl 0⟩ dX1_carry_91 (fun H locs hS => ?_)
              exact EnM.iret E hS (ni_i _) (by first | (simp only [fm_carry, if_neg h5, if_neg h13, if_neg h21, if_neg h26, if_neg h41, if_pos h50]; done) | (unfold fm_carry; rw [if_neg h5, if_neg h13, if_neg h21, if_neg h26, if_neg h41, if_pos h50])) dX1_carry_94
            · refine lv_aload_n hx hb dX1_carry_53 rfl (lv_at hl 0 rfl) ?_
              refine lv_iload_n hx hb dX1_carry_54 rfl (lv_at hl 1 rfl) ?_
              refine EnM.calli (r := fm_isLedger u q_r) (u2 := u) E hS [.int q_r] [] (kX1_isLedger l D ad ca g u q_r (by first | with_reducible assumption | (refine mt_in hI ?_; with_reducible assumption) | (refine mn_in hI ?_ ?_ <;> with_reducible assumption) | (refine mb_lt hI ?_; with_reducible assumption) | (refine m6_in hI ?_; with_reducible assumption))) gc_X1_86 hd_X1_isLedger ⟨Nat.le_of_ble_eq_true rfl, Nat.le_of_ble_eq_true rfl⟩ rfl hl.1 (Nat.le_of_ble_eq_true rfl) ⟨Nat.le_refl 0, Nat.le_refl 0⟩ dX1_carry_55 (fun H locs hS => ?_)
              refine lv_aload_n hx hb dX1_carry_58 rfl (lv_at hl 0 rfl) ?_
              refine lv_iload_n hx hb dX1_carry_59 rfl (lv_at hl 3 rfl) ?_
              refine EnM.calli (r := fm_isLedger u q_s) (u2 := u) E hS [.int q_s] [.int (fm_isLedger u q_r)] (kX1_isLedger l D ad ca g u q_s (by first | with_reducible assumption | (refine mt_in hI ?_; with_reducible assumption) | (refine mn_in hI ?_ ?_ <;> with_reducible assumption) | (refine mb_lt hI ?_; with_reducible assumption) | (refine m6_in hI ?_; with_reducible assumption))) gc_X1_86 hd_X1_isLedger ⟨Nat.le_of_ble_eq_true rfl, Nat.le_of_ble_eq_true rfl⟩ rfl hl.1 (Nat.le_of_ble_eq_true rfl) ⟨Nat.le_refl 0, Nat.le_refl 0⟩ dX1_carry_60 (fun H locs hS => ?_)
              refine lv_icmp_ne (tgt := 89) hx hb dX1_carry_63 (by decide) (fun h63 => ?_) (fun h63 => ?_)
              · refine lv_aload_n hx hb dX1_carry_89 rfl (lv_at hl 0 rfl) ?_
                refine lv_iconst (v := 4) hx hb dX1_carry_90 (by decide) ?_
                refine EnM.calli (r := (fm_fails u 4).1) (u2 := (fm_fails u 4).2) E hS [.int 4] [] (kX1_fails l D ad ca g u 4 ) gc_X1_75 hd_X1_fails ⟨Nat.le_of_ble_eq_true rfl, Nat.le_of_ble_eq_true rfl⟩ rfl hl.1 (Nat.le_of_ble_eq_true rfl) ⟨Nat.le_refl 0, Nat.le_refl 0⟩ dX1_carry_91 (fun H locs hS => ?_)
                exact EnM.iret E hS (ni_i _) (by first | (simp only [fm_carry, if_neg h5, if_neg h13, if_neg h21, if_neg h26, if_neg h41, if_neg h50, if_neg h63]; done) | (unfold fm_carry; rw [if_neg h5, if_neg h13, if_neg h21, if_neg h26, if_neg h41, if_neg h50, if_neg h63])) dX1_carry_94
              · refine lv_aload_n hx hb dX1_carry_66 rfl (lv_at hl 0 rfl) ?_
                refine lv_iload_n hx hb dX1_carry_67 rfl (lv_at hl 1 rfl) ?_
                refine EnM.calli (r := fm_isLedger u q_r) (u2 := u) E hS [.int q_r] [] (kX1_isLedger l D ad ca g u q_r (by first | with_reducible assumption | (refine mt_in hI ?_; with_reducible assumption) | (refine mn_in hI ?_ ?_ <;> with_reducible assumption) | (refine mb_lt hI ?_; with_reducible assumption) | (refine m6_in hI ?_; with_reducible assumption))) gc_X1_86 hd_X1_isLedger ⟨Nat.le_of_ble_eq_true rfl, Nat.le_of_ble_eq_true rfl⟩ rfl hl.1 (Nat.le_of_ble_eq_true rfl) ⟨Nat.le_refl 0, Nat.le_refl 0⟩ dX1_carry_68 (fun H locs hS => ?_)
                refine lv_if_eq (tgt := 95) hx hb dX1_carry_71 (by decide) (fun h71 => ?_) (fun h71 => ?_)
                · refine lv_iload_n hx hb dX1_carry_95 rfl (lv_at hl 2 rfl) ?_
                  refine lv_iload hx hb dX1_carry_96 (lv_at hl 5 rfl) ?_
                  refine lv_aload_n hx hb dX1_carry_98 rfl (lv_at hl 0 rfl) ?_
                  refine gM_sizes E hS dX1_carry_99 ?_
                  refine lv_iload_n hx hb dX1_carry_102 rfl (lv_at hl 1 rfl) ?_
                  refine lM_sizes (v := m_sizes u (q_r).toNatClampNeg) E hS (show vp_in q_r 60 from by first | with_reducible assumption | (refine mt_in hI ?_; with_reducible assumption) | (refine mn_in hI ?_ ?_ <;> with_reducible assumption) | (refine mb_lt hI ?_; with_reducible assumption) | (refine m6_in hI ?_; with_reducible assumption)) rfl dX1_carry_103 ?_
                  refine EnM.sti (r := fm_isSpan q_i q_n (m_sizes u (q_r).toNatClampNeg)) E hS [.int q_i, .int q_n, .int (m_sizes u (q_r).toNatClampNeg)] [] (kX1_isSpan l q_i q_n (m_sizes u (q_r).toNatClampNeg) ) (fun _ _ _ _ h => h) (fun _ _ _ => trivial) gc_X1_110 hd_X1_isSpan ⟨Nat.le_of_ble_eq_true rfl, Nat.le_of_ble_eq_true rfl⟩ rfl hl.1 (Nat.le_of_ble_eq_true rfl) ⟨Nat.le_refl 0, Nat.le_refl 0⟩ dX1_carry_104 (fun H locs hS => ?_)
                  refine lv_if_eq (tgt := 126) hx hb dX1_carry_107 (by decide) (fun h107 => ?_) (fun h107 => ?_)
                  · refine lv_aload_n hx hb dX1_carry_126 rfl (lv_at hl 0 rfl) ?_
                    refine lv_iconst (v := 3) hx hb dX1_carry_127 (by decide) ?_
                    refine EnM.calli (r := (fm_fails u 3).1) (u2 := (fm_fails u 3).2) E hS [.int 3] [] (kX1_fails l D ad ca g u 3 ) gc_X1_75 hd_X1_fails ⟨Nat.le_of_ble_eq_true rfl, Nat.le_of_ble_eq_true rfl⟩ rfl hl.1 (Nat.le_of_ble_eq_true rfl) ⟨Nat.le_refl 0, Nat.le_refl 0⟩ dX1_carry_128 (fun H locs hS => ?_)
                    exact EnM.iret E hS (ni_i _) (by first | (simp only [fm_carry, if_neg h5, if_neg h13, if_neg h21, if_neg h26, if_neg h41, if_neg h50, if_pos h63, if_pos h71, if_pos h107]; done) | (unfold fm_carry; rw [if_neg h5, if_neg h13, if_neg h21, if_neg h26, if_neg h41, if_neg h50, if_pos h63, if_pos h71, if_pos h107])) dX1_carry_131
                  · refine lv_iload hx hb dX1_carry_110 (lv_at hl 4 rfl) ?_
                    refine lv_iload hx hb dX1_carry_112 (lv_at hl 5 rfl) ?_
                    refine lv_aload_n hx hb dX1_carry_114 rfl (lv_at hl 0 rfl) ?_
                    refine gM_sizes E hS dX1_carry_115 ?_
                    refine lv_iload_n hx hb dX1_carry_118 rfl (lv_at hl 3 rfl) ?_
                    refine lM_sizes (v := m_sizes u (q_s).toNatClampNeg) E hS (show vp_in q_s 60 from by first | with_reducible assumption | (refine mt_in hI ?_; with_reducible assumption) | (refine mn_in hI ?_ ?_ <;> with_reducible assumption) | (refine mb_lt hI ?_; with_reducible assumption) | (refine m6_in hI ?_; with_reducible assumption)) rfl dX1_carry_119 ?_
                    refine EnM.sti (r := fm_isSpan q_j q_n (m_sizes u (q_s).toNatClampNeg)) E hS [.int q_j, .int q_n, .int (m_sizes u (q_s).toNatClampNeg)] [] (kX1_isSpan l q_j q_n (m_sizes u (q_s).toNatClampNeg) ) (fun _ _ _ _ h => h) (fun _ _ _ => trivial) gc_X1_110 hd_X1_isSpan ⟨Nat.le_of_ble_eq_true rfl, Nat.le_of_ble_eq_true rfl⟩ rfl hl.1 (Nat.le_of_ble_eq_true rfl) ⟨Nat.le_refl 0, Nat.le_refl 0⟩ dX1_carry_120 (fun H locs hS => ?_)
                    refine lv_if_ne (tgt := 132) hx hb dX1_carry_123 (by decide) (fun h123 => ?_) (fun h123 => ?_)
                    · refine lv_iconst (v := 0) hx hb dX1_carry_132 (by decide) ?_
                      refine lv_istore (lv' := [(6, .int 0), (0, .ref (ad 0)), (1, .int q_r), (2, .int q_i), (3, .int q_s), (4, .int q_j), (5, .int q_n)]) hx hb dX1_carry_133 hl (by decide) rfl (fun ls hl => ?_)
                      have hr : fm_carry u q_r q_i q_s q_j q_n = fm_carry_A 9 u q_r q_i q_s q_j q_n 0 := by unfold fm_carry; rw [if_neg h5, if_neg h13, if_neg h21, if_neg h26, if_neg h41, if_neg h50, if_pos h63, if_pos h71, if_neg h107, if_neg h123]
                      have hqr := mn_in hI h5 h21
                      have hqs := mn_in hI h13 h26
                      have z1 := hI.2.1 (q_r).toNatClampNeg
                      have z2 := hI.2.1 (q_s).toNatClampNeg
                      have b1 := (sp_iff z1).mp h107
                      have b2 := (sp_iff z2).mp h123
                      rw [hr]
                      exact loop_X1_carry_A l D ad ca g u  E 9 u q_r q_i q_s q_j q_n 0 hqr hqs (by omega) (by omega) (fun q => (hI.2.2.1 q).2) hI.2.2.2 (by rw [ti0]; omega) (by rw [ti0]; omega) _ _ ls hS (lv_sub hl [1, 2, 3, 4, 5, 6, 0] rfl)
                    · refine lv_aload_n hx hb dX1_carry_126 rfl (lv_at hl 0 rfl) ?_
                      refine lv_iconst (v := 3) hx hb dX1_carry_127 (by decide) ?_
                      refine EnM.calli (r := (fm_fails u 3).1) (u2 := (fm_fails u 3).2) E hS [.int 3] [] (kX1_fails l D ad ca g u 3 ) gc_X1_75 hd_X1_fails ⟨Nat.le_of_ble_eq_true rfl, Nat.le_of_ble_eq_true rfl⟩ rfl hl.1 (Nat.le_of_ble_eq_true rfl) ⟨Nat.le_refl 0, Nat.le_refl 0⟩ dX1_carry_128 (fun H locs hS => ?_)
                      exact EnM.iret E hS (ni_i _) (by first | (simp only [fm_carry, if_neg h5, if_neg h13, if_neg h21, if_neg h26, if_neg h41, if_neg h50, if_pos h63, if_pos h71, if_neg h107, if_pos h123]; done) | (unfold fm_carry; rw [if_neg h5, if_neg h13, if_neg h21, if_neg h26, if_neg h41, if_neg h50, if_pos h63, if_pos h71, if_neg h107, if_pos h123])) dX1_carry_131
                · refine lv_aload_n hx hb dX1_carry_74 rfl (lv_at hl 0 rfl) ?_
                  refine gM_bases E hS dX1_carry_75 ?_
                  refine lv_iload_n hx hb dX1_carry_78 rfl (lv_at hl 1 rfl) ?_
                  refine lM_bases (v := m_bases u (q_r).toNatClampNeg) E hS (show vp_in q_r 60 from by first | with_reducible assumption | (refine mt_in hI ?_; with_reducible assumption) | (refine mn_in hI ?_ ?_ <;> with_reducible assumption) | (refine mb_lt hI ?_; with_reducible assumption) | (refine m6_in hI ?_; with_reducible assumption)) rfl dX1_carry_79 ?_
                  refine lv_aload_n hx hb dX1_carry_80 rfl (lv_at hl 0 rfl) ?_
                  refine gM_bases E hS dX1_carry_81 ?_
                  refine lv_iload_n hx hb dX1_carry_84 rfl (lv_at hl 3 rfl) ?_
                  refine lM_bases (v := m_bases u (q_s).toNatClampNeg) E hS (show vp_in q_s 60 from by first | with_reducible assumption | (refine mt_in hI ?_; with_reducible assumption) | (refine mn_in hI ?_ ?_ <;> with_reducible assumption) | (refine mb_lt hI ?_; with_reducible assumption) | (refine m6_in hI ?_; with_reducible assumption)) rfl dX1_carry_85 ?_
                  refine lv_icmp_eq (tgt := 95) hx hb dX1_carry_86 (by decide) (fun h86 => ?_) (fun h86 => ?_)
                  · refine lv_iload_n hx hb dX1_carry_95 rfl (lv_at hl 2 rfl) ?_
                    refine lv_iload hx hb dX1_carry_96 (lv_at hl 5 rfl) ?_
                    refine lv_aload_n hx hb dX1_carry_98 rfl (lv_at hl 0 rfl) ?_
                    refine gM_sizes E hS dX1_carry_99 ?_
                    refine lv_iload_n hx hb dX1_carry_102 rfl (lv_at hl 1 rfl) ?_
                    refine lM_sizes (v := m_sizes u (q_r).toNatClampNeg) E hS (show vp_in q_r 60 from by first | with_reducible assumption | (refine mt_in hI ?_; with_reducible assumption) | (refine mn_in hI ?_ ?_ <;> with_reducible assumption) | (refine mb_lt hI ?_; with_reducible assumption) | (refine m6_in hI ?_; with_reducible assumption)) rfl dX1_carry_103 ?_
                    refine EnM.sti (r := fm_isSpan q_i q_n (m_sizes u (q_r).toNatClampNeg)) E hS [.int q_i, .int q_n, .int (m_sizes u (q_r).toNatClampNeg)] [] (kX1_isSpan l q_i q_n (m_sizes u (q_r).toNatClampNeg) ) (fun _ _ _ _ h => h) (fun _ _ _ => trivial) gc_X1_110 hd_X1_isSpan ⟨Nat.le_of_ble_eq_true rfl, Nat.le_of_ble_eq_true rfl⟩ rfl hl.1 (Nat.le_of_ble_eq_true rfl) ⟨Nat.le_refl 0, Nat.le_refl 0⟩ dX1_carry_104 (fun H locs hS => ?_)
                    refine lv_if_eq (tgt := 126) hx hb dX1_carry_107 (by decide) (fun h107 => ?_) (fun h107 => ?_)
                    · refine lv_aload_n hx hb dX1_carry_126 rfl (lv_at hl 0 rfl) ?_
                      refine lv_iconst (v := 3) hx hb dX1_carry_127 (by decide) ?_
                      refine EnM.calli (r := (fm_fails u 3).1) (u2 := (fm_fails u 3).2) E hS [.int 3] [] (kX1_fails l D ad ca g u 3 ) gc_X1_75 hd_X1_fails ⟨Nat.le_of_ble_eq_true rfl, Nat.le_of_ble_eq_true rfl⟩ rfl hl.1 (Nat.le_of_ble_eq_true rfl) ⟨Nat.le_refl 0, Nat.le_refl 0⟩ dX1_carry_128 (fun H locs hS => ?_)
                      exact EnM.iret E hS (ni_i _) (by first | (simp only [fm_carry, if_neg h5, if_neg h13, if_neg h21, if_neg h26, if_neg h41, if_neg h50, if_pos h63, if_neg h71, if_pos h86, if_pos h107]; done) | (unfold fm_carry; rw [if_neg h5, if_neg h13, if_neg h21, if_neg h26, if_neg h41, if_neg h50, if_pos h63, if_neg h71, if_pos h86, if_pos h107])) dX1_carry_131
                    · refine lv_iload hx hb dX1_carry_110 (lv_at hl 4 rfl) ?_
                      refine lv_iload hx hb dX1_carry_112 (lv_at hl 5 rfl) ?_
                      refine lv_aload_n hx hb dX1_carry_114 rfl (lv_at hl 0 rfl) ?_
                      refine gM_sizes E hS dX1_carry_115 ?_
                      refine lv_iload_n hx hb dX1_carry_118 rfl (lv_at hl 3 rfl) ?_
                      refine lM_sizes (v := m_sizes u (q_s).toNatClampNeg) E hS (show vp_in q_s 60 from by first | with_reducible assumption | (refine mt_in hI ?_; with_reducible assumption) | (refine mn_in hI ?_ ?_ <;> with_reducible assumption) | (refine mb_lt hI ?_; with_reducible assumption) | (refine m6_in hI ?_; with_reducible assumption)) rfl dX1_carry_119 ?_
                      refine EnM.sti (r := fm_isSpan q_j q_n (m_sizes u (q_s).toNatClampNeg)) E hS [.int q_j, .int q_n, .int (m_sizes u (q_s).toNatClampNeg)] [] (kX1_isSpan l q_j q_n (m_sizes u (q_s).toNatClampNeg) ) (fun _ _ _ _ h => h) (fun _ _ _ => trivial) gc_X1_110 hd_X1_isSpan ⟨Nat.le_of_ble_eq_true rfl, Nat.le_of_ble_eq_true rfl⟩ rfl hl.1 (Nat.le_of_ble_eq_true rfl) ⟨Nat.le_refl 0, Nat.le_refl 0⟩ dX1_carry_120 (fun H locs hS => ?_)
                      refine lv_if_ne (tgt := 132) hx hb dX1_carry_123 (by decide) (fun h123 => ?_) (fun h123 => ?_)
                      · refine lv_iconst (v := 0) hx hb dX1_carry_132 (by decide) ?_
                        refine lv_istore (lv' := [(6, .int 0), (0, .ref (ad 0)), (1, .int q_r), (2, .int q_i), (3, .int q_s), (4, .int q_j), (5, .int q_n)]) hx hb dX1_carry_133 hl (by decide) rfl (fun ls hl => ?_)
                        have hr : fm_carry u q_r q_i q_s q_j q_n = fm_carry_A 9 u q_r q_i q_s q_j q_n 0 := by unfold fm_carry; rw [if_neg h5, if_neg h13, if_neg h21, if_neg h26, if_neg h41, if_neg h50, if_pos h63, if_neg h71, if_pos h86, if_neg h107, if_neg h123]
                        have hqr := mn_in hI h5 h21
                        have hqs := mn_in hI h13 h26
                        have z1 := hI.2.1 (q_r).toNatClampNeg
                        have z2 := hI.2.1 (q_s).toNatClampNeg
                        have b1 := (sp_iff z1).mp h107
                        have b2 := (sp_iff z2).mp h123
                        rw [hr]
                        exact loop_X1_carry_A l D ad ca g u  E 9 u q_r q_i q_s q_j q_n 0 hqr hqs (by omega) (by omega) (fun q => (hI.2.2.1 q).2) hI.2.2.2 (by rw [ti0]; omega) (by rw [ti0]; omega) _ _ ls hS (lv_sub hl [1, 2, 3, 4, 5, 6, 0] rfl)
                      · refine lv_aload_n hx hb dX1_carry_126 rfl (lv_at hl 0 rfl) ?_
                        refine lv_iconst (v := 3) hx hb dX1_carry_127 (by decide) ?_
                        refine EnM.calli (r := (fm_fails u 3).1) (u2 := (fm_fails u 3).2) E hS [.int 3] [] (kX1_fails l D ad ca g u 3 ) gc_X1_75 hd_X1_fails ⟨Nat.le_of_ble_eq_true rfl, Nat.le_of_ble_eq_true rfl⟩ rfl hl.1 (Nat.le_of_ble_eq_true rfl) ⟨Nat.le_refl 0, Nat.le_refl 0⟩ dX1_carry_128 (fun H locs hS => ?_)
                        exact EnM.iret E hS (ni_i _) (by first | (simp only [fm_carry, if_neg h5, if_neg h13, if_neg h21, if_neg h26, if_neg h41, if_neg h50, if_pos h63, if_neg h71, if_pos h86, if_neg h107, if_pos h123]; done) | (unfold fm_carry; rw [if_neg h5, if_neg h13, if_neg h21, if_neg h26, if_neg h41, if_neg h50, if_pos h63, if_neg h71, if_pos h86, if_neg h107, if_pos h123])) dX1_carry_131
                  · refine lv_aload_n hx hb dX1_carry_89 rfl (lv_at hl 0 rfl) ?_
                    refine lv_iconst (v := 4) hx hb dX1_carry_90 (by decide) ?_
                    refine EnM.calli (r := (fm_fails u 4).1) (u2 := (fm_fails u 4).2) E hS [.int 4] [] (kX1_fails l D ad ca g u 4 ) gc_X1_75 hd_X1_fails ⟨Nat.le_of_ble_eq_true rfl, Nat.le_of_ble_eq_true rfl⟩ rfl hl.1 (Nat.le_of_ble_eq_true rfl) ⟨Nat.le_refl 0, Nat.le_refl 0⟩ dX1_carry_91 (fun H locs hS => ?_)
                    exact EnM.iret E hS (ni_i _) (by first | (simp only [fm_carry, if_neg h5, if_neg h13, if_neg h21, if_neg h26, if_neg h41, if_neg h50, if_pos h63, if_neg h71, if_neg h86]; done) | (unfold fm_carry; rw [if_neg h5, if_neg h13, if_neg h21, if_neg h26, if_neg h41, if_neg h50, if_pos h63, if_neg h71, if_neg h86])) dX1_carry_94
        · refine lv_aload_n hx hb dX1_carry_29 rfl (lv_at hl 0 rfl) ?_
          refine lv_iconst (v := 1) hx hb dX1_carry_30 (by decide) ?_
          refine EnM.calli (r := (fm_fails u 1).1) (u2 := (fm_fails u 1).2) E hS [.int 1] [] (kX1_fails l D ad ca g u 1 ) gc_X1_75 hd_X1_fails ⟨Nat.le_of_ble_eq_true rfl, Nat.le_of_ble_eq_true rfl⟩ rfl hl.1 (Nat.le_of_ble_eq_true rfl) ⟨Nat.le_refl 0, Nat.le_refl 0⟩ dX1_carry_31 (fun H locs hS => ?_)
          exact EnM.iret E hS (ni_i _) (by first | (simp only [fm_carry, if_neg h5, if_neg h13, if_neg h21, if_pos h26]; done) | (unfold fm_carry; rw [if_neg h5, if_neg h13, if_neg h21, if_pos h26])) dX1_carry_34
    · refine lv_bipush (v := (-2)) hx hb dX1_carry_16 (by decide) ?_
      exact EnM.iret E hS (ni_i _) (by first | (simp only [fm_carry, if_neg h5, if_pos h13]; done) | (unfold fm_carry; rw [if_neg h5, if_pos h13])) dX1_carry_18
