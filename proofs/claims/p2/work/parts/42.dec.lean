/-! by program: the methods as functions, and that the small machine does what they say -/
def cS_thingAt (l0 : Option Nat) (l1 : Int32) (h : gx_H) : Option (Option Nat) :=
  if l1 < 0 then (
    some none) else
  (gv_gI h l0 1 1).bind fun v2 =>
  if l1 < v2 then (
    (gv_gR h l0 1 0).bind fun v4 =>
    (gv_lT h v4 l1).bind fun v5 =>
    some v5) else
  some none
theorem cS_thingAt_ok {xs : Option (List Int32)} {l0 : Option Nat} {l1 : Int32} {h : gx_H} {r : (Option Nat)} (e : cS_thingAt l0 l1 h = some r) : gv_V xs 0 10 0 [(0, gv_u l0), (1, .int l1)] [] h (.returned (some (gv_u r))) h := by
  unfold cS_thingAt at e
  refine gv_ildn (pc' := 1) rfl rfl rfl ?_
  by_cases c1 : l1 < 0
  · rw [if_pos c1] at e
    refine gv_ifT (pc' := 12) rfl (gv_ltT c1) rfl ?_
    refine gv_null (pc' := 13) rfl rfl ?_
    refine gv_goto (pc' := 22) rfl rfl ?_
    cases e
    exact gv_retR rfl rfl
  rw [if_neg c1] at e
  refine gv_ifF (pc' := 4) rfl (gv_ltF c1) rfl rfl ?_
  refine gv_ildn (pc' := 5) rfl rfl rfl ?_
  refine gv_rldn (pc' := 6) rfl rfl rfl ?_
  obtain ⟨v2, qv2, e⟩ := gv_bind e
  refine gv_fI (pc' := 9) rfl rfl qv2 rfl ?_
  by_cases c3 : l1 < v2
  · rw [if_pos c3] at e
    refine gv_cmT (pc' := 16) rfl (gv_ltT2 c3) rfl ?_
    refine gv_rldn (pc' := 17) rfl rfl rfl ?_
    obtain ⟨v4, qv4, e⟩ := gv_bind e
    refine gv_fR (pc' := 20) rfl rfl qv4 rfl ?_
    refine gv_ildn (pc' := 21) rfl rfl rfl ?_
    obtain ⟨v5, qv5, e⟩ := gv_bind e
    refine gv_aaT (pc' := 22) rfl qv5 rfl ?_
    cases e
    exact gv_retR rfl rfl
  rw [if_neg c3] at e
  refine gv_cmF (pc' := 12) rfl (gv_ltF2 c3) rfl rfl ?_
  refine gv_null (pc' := 13) rfl rfl ?_
  refine gv_goto (pc' := 22) rfl rfl ?_
  cases e
  exact gv_retR rfl rfl
def cS_isFreeBuffer (l0 : Option Nat) (l1 : Int32) (h : gx_H) : Option Int32 :=
  (gv_is h l0 1).bind fun i1 =>
  (cS_thingAt l0 l1 h).bind fun v2 =>
  if v2 = none then (
    some (0 : Int32)) else
  (gv_gI h v2 2 4).bind fun v4 =>
  if v4 = (4 : Int32) then (
    (gv_gI h v2 2 6).bind fun v6 =>
    if v6 = 0 then (
      some (1 : Int32)) else
    some (0 : Int32)) else
  some (0 : Int32)
theorem cS_isFreeBuffer_ok {xs : Option (List Int32)} {l0 : Option Nat} {l1 : Int32} {h : gx_H} {r : Int32} (e : cS_isFreeBuffer l0 l1 h = some r) : gv_V xs 1 9 0 [(0, gv_u l0), (1, .int l1)] [] h (.returned (some (.int r))) h := by
  unfold cS_isFreeBuffer at e
  refine gv_rldn (pc' := 1) rfl rfl rfl ?_
  refine gv_ildn (pc' := 2) rfl rfl rfl ?_
  obtain ⟨i1, qi1, e⟩ := gv_bind e
  obtain ⟨v2, qv2, e⟩ := gv_bind e
  refine gv_vS (jc := 10) (n := 1) (rest := []) (stk := [gv_u v2]) (pc' := 5) rfl rfl rfl rfl rfl rfl rfl rfl rfl (gv_zR (gv_zI gv_z0)) rfl (gv_aR (gv_aI gv_a0)) (Nat.le_of_ble_eq_true rfl) qi1 (cS_thingAt_ok qv2) rfl rfl ?_
  refine gv_rstn (pc' := 6) rfl rfl (gv_Ci rfl) rfl ?_
  refine gv_rldn (pc' := 7) rfl rfl rfl ?_
  by_cases c3 : v2 = none
  · rw [if_pos c3] at e
    refine gv_nuT (pc' := 29) rfl c3 rfl ?_
    refine gv_ic (pc' := 30) (x := 0) rfl rfl rfl ?_
    cases e
    exact gv_retZ rfl rfl (by decide)
  rw [if_neg c3] at e
  refine gv_nuF (pc' := 10) rfl c3 rfl ?_
  refine gv_rldn (pc' := 11) rfl rfl rfl ?_
  obtain ⟨v4, qv4, e⟩ := gv_bind e
  refine gv_fI (pc' := 14) rfl rfl qv4 rfl ?_
  refine gv_ic (pc' := 15) (x := 4) rfl rfl rfl ?_
  by_cases c5 : v4 = (4 : Int32)
  · rw [if_pos c5] at e
    refine gv_cmF (pc' := 18) rfl (gv_neF2 c5) rfl rfl ?_
    refine gv_rldn (pc' := 19) rfl rfl rfl ?_
    obtain ⟨v6, qv6, e⟩ := gv_bind e
    refine gv_fI (pc' := 22) rfl rfl qv6 rfl ?_
    by_cases c7 : v6 = 0
    · rw [if_pos c7] at e
      refine gv_ifF (pc' := 25) rfl (gv_neF c7) rfl rfl ?_
      refine gv_ic (pc' := 26) (x := 1) rfl rfl rfl ?_
      refine gv_goto (pc' := 30) rfl rfl ?_
      cases e
      exact gv_retZ rfl rfl (by decide)
    rw [if_neg c7] at e
    refine gv_ifT (pc' := 29) rfl (gv_neT c7) rfl ?_
    refine gv_ic (pc' := 30) (x := 0) rfl rfl rfl ?_
    cases e
    exact gv_retZ rfl rfl (by decide)
  rw [if_neg c5] at e
  refine gv_cmT (pc' := 29) rfl (gv_neT2 c5) rfl ?_
  refine gv_ic (pc' := 30) (x := 0) rfl rfl rfl ?_
  cases e
  exact gv_retZ rfl rfl (by decide)
def cS_detachBuffer (l0 : Option Nat) (l1 : Int32) (h : gx_H) : Option (Int32 × gx_H) :=
  (gv_is h l0 1).bind fun i1 =>
  (cS_isFreeBuffer l0 l1 h).bind fun v2 =>
  if v2 = 0 then (
    some ((0 : Int32), h)) else
  (gv_gR h l0 1 0).bind fun v4 =>
  (gv_lT h v4 l1).bind fun v5 =>
  (gv_pV h v5 2 6 (.int (1 : Int32))).bind fun h6 =>
  some ((1 : Int32), h6)
theorem cS_detachBuffer_ok {xs : Option (List Int32)} {l0 : Option Nat} {l1 : Int32} {h : gx_H} {r : (Int32 × gx_H)} (e : cS_detachBuffer l0 l1 h = some r) : gv_V xs 2 8 0 [(0, gv_u l0), (1, .int l1)] [] h (.returned (some (.int r.1))) r.2 := by
  unfold cS_detachBuffer at e
  refine gv_rldn (pc' := 1) rfl rfl rfl ?_
  refine gv_ildn (pc' := 2) rfl rfl rfl ?_
  obtain ⟨i1, qi1, e⟩ := gv_bind e
  obtain ⟨v2, qv2, e⟩ := gv_bind e
  refine gv_vS (jc := 9) (n := 1) (rest := []) (stk := [.int v2]) (pc' := 5) rfl rfl rfl rfl rfl rfl rfl rfl rfl (gv_zR (gv_zI gv_z0)) rfl (gv_aR (gv_aI gv_a0)) (Nat.le_of_ble_eq_true rfl) qi1 (cS_isFreeBuffer_ok qv2) rfl rfl ?_
  by_cases c3 : v2 = 0
  · rw [if_pos c3] at e
    refine gv_ifF (pc' := 8) rfl (gv_neF c3) rfl rfl ?_
    refine gv_ic (pc' := 9) (x := 0) rfl rfl rfl ?_
    cases e
    exact gv_retZ rfl rfl (by decide)
  rw [if_neg c3] at e
  refine gv_ifT (pc' := 10) rfl (gv_neT c3) rfl ?_
  refine gv_rldn (pc' := 11) rfl rfl rfl ?_
  obtain ⟨v4, qv4, e⟩ := gv_bind e
  refine gv_fR (pc' := 14) rfl rfl qv4 rfl ?_
  refine gv_ildn (pc' := 15) rfl rfl rfl ?_
  obtain ⟨v5, qv5, e⟩ := gv_bind e
  refine gv_aaT (pc' := 16) rfl qv5 rfl ?_
  refine gv_ic (pc' := 17) (x := 1) rfl rfl rfl ?_
  obtain ⟨h6, qh6, e⟩ := gv_bind e
  refine gv_pZ (pc' := 20) rfl rfl rfl (by decide) qh6 rfl ?_
  refine gv_ic (pc' := 21) (x := 1) rfl rfl rfl ?_
  cases e
  exact gv_retZ rfl rfl (by decide)
def cG_byteOf (l0 : Int64) (l2 : Int32) : Option Int32 :=
  some ((Int64.toInt32 ((Int64.toUInt64 l0 >>> ((Int32.toInt64 ((8 : Int32) * l2)).toUInt64 &&& Int64.toUInt64 63)).toInt64)) &&& (255 : Int32))
theorem cG_byteOf_ok {xs : Option (List Int32)} {l0 : Int64} {l2 : Int32} {h : gx_H} {r : Int32} (e : cG_byteOf l0 l2 = some r) : gv_V xs 0 18 0 [(0, .long l0), (2, .int l2)] [] h (.returned (some (.int r))) h := by
  unfold cG_byteOf at e
  refine gv_jldn (pc' := 1) rfl rfl rfl ?_
  refine gv_bp (pc' := 3) (x := 8) rfl rfl rfl ?_
  refine gv_ildn (pc' := 4) rfl rfl rfl ?_
  refine gv_imul (pc' := 5) rfl rfl ?_
  refine gv_lushr (pc' := 6) rfl rfl ?_
  refine gv_l2i (pc' := 7) rfl rfl ?_
  refine gv_sp (pc' := 10) (x := 255) rfl rfl rfl ?_
  refine gv_iand (pc' := 11) rfl rfl ?_
  cases e
  exact gv_retI rfl rfl
def cB_append (l0 : Option Nat) (l1 : Int32) (h : gx_H) : Option (Int32 × gx_H) :=
  (gv_gI h l0 3 1).bind fun v1 =>
  if v1 < (300 : Int32) then (
    (gv_gR h l0 3 0).bind fun v3 =>
    (gv_gI h l0 3 1).bind fun v4 =>
    (gv_wI h v3 v4 l1).bind fun h5 =>
    (gv_gI h5 l0 3 1).bind fun v6 =>
    (gv_pV h5 l0 3 1 (.int (v6 + (1 : Int32)))).bind fun h7 =>
    some ((1 : Int32), h7)) else
  some ((0 : Int32), h)
theorem cB_append_ok {xs : Option (List Int32)} {l0 : Option Nat} {l1 : Int32} {h : gx_H} {r : (Int32 × gx_H)} (e : cB_append l0 l1 h = some r) : gv_V xs 0 19 0 [(0, gv_u l0), (1, .int l1)] [] h (.returned (some (.int r.1))) r.2 := by
  unfold cB_append at e
  refine gv_rldn (pc' := 1) rfl rfl rfl ?_
  obtain ⟨v1, qv1, e⟩ := gv_bind e
  refine gv_fI (pc' := 4) rfl rfl qv1 rfl ?_
  refine gv_sp (pc' := 7) (x := 300) rfl rfl rfl ?_
  by_cases c2 : v1 < (300 : Int32)
  · rw [if_pos c2] at e
    refine gv_cmT (pc' := 12) rfl (gv_ltT2 c2) rfl ?_
    refine gv_rldn (pc' := 13) rfl rfl rfl ?_
    obtain ⟨v3, qv3, e⟩ := gv_bind e
    refine gv_fR (pc' := 16) rfl rfl qv3 rfl ?_
    refine gv_rldn (pc' := 17) rfl rfl rfl ?_
    obtain ⟨v4, qv4, e⟩ := gv_bind e
    refine gv_fI (pc' := 20) rfl rfl qv4 rfl ?_
    refine gv_ildn (pc' := 21) rfl rfl rfl ?_
    obtain ⟨h5, qh5, e⟩ := gv_bind e
    refine gv_iast (pc' := 22) rfl qh5 rfl ?_
    refine gv_rldn (pc' := 23) rfl rfl rfl ?_
    refine gv_dup (pc' := 24) rfl (gv_u_cat _) rfl ?_
    obtain ⟨v6, qv6, e⟩ := gv_bind e
    refine gv_fI (pc' := 27) rfl rfl qv6 rfl ?_
    refine gv_ic (pc' := 28) (x := 1) rfl rfl rfl ?_
    refine gv_iadd (pc' := 29) rfl rfl ?_
    obtain ⟨h7, qh7, e⟩ := gv_bind e
    refine gv_pI (pc' := 32) rfl rfl rfl qh7 rfl ?_
    refine gv_ic (pc' := 33) (x := 1) rfl rfl rfl ?_
    cases e
    exact gv_retZ rfl rfl (by decide)
  rw [if_neg c2] at e
  refine gv_cmF (pc' := 10) rfl (gv_ltF2 c2) rfl rfl ?_
  refine gv_ic (pc' := 11) (x := 0) rfl rfl rfl ?_
  cases e
  exact gv_retZ rfl rfl (by decide)
def cT_begin (l0 : Option Nat) (l1 : Int32) (h : gx_H) : Option gx_H :=
  (gv_pV h l0 2 4 (.int l1)).bind fun h1 =>
  (gv_pV h1 l0 2 5 (.int (0 : Int32))).bind fun h2 =>
  (gv_pV h2 l0 2 6 (.int (0 : Int32))).bind fun h3 =>
  (gv_pV h3 l0 2 10 (.long (0 : Int64))).bind fun h4 =>
  some h4
theorem cT_begin_ok {xs : Option (List Int32)} {l0 : Option Nat} {l1 : Int32} {h : gx_H} {r : gx_H} (e : cT_begin l0 l1 h = some r) : gv_V xs 0 27 0 [(0, gv_u l0), (1, .int l1)] [] h (.returned none) r := by
  unfold cT_begin at e
  refine gv_rldn (pc' := 1) rfl rfl rfl ?_
  refine gv_ildn (pc' := 2) rfl rfl rfl ?_
  obtain ⟨h1, qh1, e⟩ := gv_bind e
  refine gv_pI (pc' := 5) rfl rfl rfl qh1 rfl ?_
  refine gv_rldn (pc' := 6) rfl rfl rfl ?_
  refine gv_ic (pc' := 7) (x := 0) rfl rfl rfl ?_
  obtain ⟨h2, qh2, e⟩ := gv_bind e
  refine gv_pI (pc' := 10) rfl rfl rfl qh2 rfl ?_
  refine gv_rldn (pc' := 11) rfl rfl rfl ?_
  refine gv_ic (pc' := 12) (x := 0) rfl rfl rfl ?_
  obtain ⟨h3, qh3, e⟩ := gv_bind e
  refine gv_pZ (pc' := 15) rfl rfl rfl (by decide) qh3 rfl ?_
  refine gv_rldn (pc' := 16) rfl rfl rfl ?_
  refine gv_lc (pc' := 17) (x := 0) rfl rfl rfl ?_
  obtain ⟨h4, qh4, e⟩ := gv_bind e
  refine gv_pJ (pc' := 20) rfl rfl rfl qh4 rfl ?_
  cases e
  exact gv_retV rfl rfl
def cS_begin (l0 : Option Nat) (l1 : Int32) (h : gx_H) : Option (Int32 × gx_H) :=
  (gv_gI h l0 1 1).bind fun v1 =>
  if v1 < (32 : Int32) then (
    (gv_gR h l0 1 0).bind fun v3 =>
    (gv_gI h l0 1 1).bind fun v4 =>
    (gv_lT h v3 v4).bind fun v5 =>
    (gv_is h v5 2).bind fun i6 =>
    (cT_begin v5 l1 h).bind fun h8 =>
    (gv_gI h8 l0 1 1).bind fun v9 =>
    (gv_pV h8 l0 1 1 (.int (v9 + (1 : Int32)))).bind fun h10 =>
    (gv_gI h10 l0 1 1).bind fun v11 =>
    some ((v11 - (1 : Int32)), h10)) else
  some ((-1 : Int32), h)
theorem cS_begin_ok {xs : Option (List Int32)} {l0 : Option Nat} {l1 : Int32} {h : gx_H} {r : (Int32 × gx_H)} (e : cS_begin l0 l1 h = some r) : gv_V xs 1 26 0 [(0, gv_u l0), (1, .int l1)] [] h (.returned (some (.int r.1))) r.2 := by
  unfold cS_begin at e
  refine gv_rldn (pc' := 1) rfl rfl rfl ?_
  obtain ⟨v1, qv1, e⟩ := gv_bind e
  refine gv_fI (pc' := 4) rfl rfl qv1 rfl ?_
  refine gv_bp (pc' := 6) (x := 32) rfl rfl rfl ?_
  by_cases c2 : v1 < (32 : Int32)
  · rw [if_pos c2] at e
    refine gv_cmT (pc' := 11) rfl (gv_ltT2 c2) rfl ?_
    refine gv_rldn (pc' := 12) rfl rfl rfl ?_
    obtain ⟨v3, qv3, e⟩ := gv_bind e
    refine gv_fR (pc' := 15) rfl rfl qv3 rfl ?_
    refine gv_rldn (pc' := 16) rfl rfl rfl ?_
    obtain ⟨v4, qv4, e⟩ := gv_bind e
    refine gv_fI (pc' := 19) rfl rfl qv4 rfl ?_
    obtain ⟨v5, qv5, e⟩ := gv_bind e
    refine gv_aaT (pc' := 20) rfl qv5 rfl ?_
    refine gv_ildn (pc' := 21) rfl rfl rfl ?_
    obtain ⟨i6, qi6, e⟩ := gv_bind e
    obtain ⟨h8, qv7, e⟩ := gv_bind e
    refine gv_vS (jc := 27) (n := 1) (rest := []) (stk := []) (pc' := 24) rfl rfl rfl rfl rfl rfl rfl rfl rfl (gv_zR (gv_zI gv_z0)) rfl (gv_aR (gv_aI gv_a0)) (Nat.le_of_ble_eq_true rfl) qi6 (cT_begin_ok qv7) rfl rfl ?_
    refine gv_rldn (pc' := 25) rfl rfl rfl ?_
    refine gv_dup (pc' := 26) rfl (gv_u_cat _) rfl ?_
    obtain ⟨v9, qv9, e⟩ := gv_bind e
    refine gv_fI (pc' := 29) rfl rfl qv9 rfl ?_
    refine gv_ic (pc' := 30) (x := 1) rfl rfl rfl ?_
    refine gv_iadd (pc' := 31) rfl rfl ?_
    obtain ⟨h10, qh10, e⟩ := gv_bind e
    refine gv_pI (pc' := 34) rfl rfl rfl qh10 rfl ?_
    refine gv_rldn (pc' := 35) rfl rfl rfl ?_
    obtain ⟨v11, qv11, e⟩ := gv_bind e
    refine gv_fI (pc' := 38) rfl rfl qv11 rfl ?_
    refine gv_ic (pc' := 39) (x := 1) rfl rfl rfl ?_
    refine gv_isub (pc' := 40) rfl rfl ?_
    cases e
    exact gv_retI rfl rfl
  rw [if_neg c2] at e
  refine gv_cmF (pc' := 9) rfl (gv_ltF2 c2) rfl rfl ?_
  refine gv_ic (pc' := 10) (x := -1) rfl rfl rfl ?_
  cases e
  exact gv_retI rfl rfl
def cT_holdBytes (l0 : Option Nat) (l1 : Int64) (l3 : Int32) (h : gx_H) : Option gx_H :=
  (gv_pV h l0 2 10 (.long l1)).bind fun h1 =>
  (gv_pV h1 l0 2 5 (.int l3)).bind fun h2 =>
  some h2
theorem cT_holdBytes_ok {xs : Option (List Int32)} {l0 : Option Nat} {l1 : Int64} {l3 : Int32} {h : gx_H} {r : gx_H} (e : cT_holdBytes l0 l1 l3 h = some r) : gv_V xs 0 30 0 [(0, gv_u l0), (1, .long l1), (3, .int l3)] [] h (.returned none) r := by
  unfold cT_holdBytes at e
  refine gv_rldn (pc' := 1) rfl rfl rfl ?_
  refine gv_jldn (pc' := 2) rfl rfl rfl ?_
  obtain ⟨h1, qh1, e⟩ := gv_bind e
  refine gv_pJ (pc' := 5) rfl rfl rfl qh1 rfl ?_
  refine gv_rldn (pc' := 6) rfl rfl rfl ?_
  refine gv_ildn (pc' := 7) rfl rfl rfl ?_
  obtain ⟨h2, qh2, e⟩ := gv_bind e
  refine gv_pI (pc' := 10) rfl rfl rfl qh2 rfl ?_
  cases e
  exact gv_retV rfl rfl
def cT_canBeViewed_34 (l0 : Option Nat) (l1 : Int32) (l2 : Int32) (l3 : Int32) (h : gx_H) : Option Int32 :=
  if l2 < 0 then (
    some (0 : Int32)) else
  if l1 = 0 then none else
  if (l2 - l2 / l1 * l1) = 0 then (
    if l3 < 0 then (
      some (0 : Int32)) else
    (gv_gI h l0 2 5).bind fun v5 =>
    if (Int32.toInt64 v5) < ((Int32.toInt64 l2) + ((Int32.toInt64 l1) * (Int32.toInt64 l3))) then (
      some (0 : Int32)) else
    some (1 : Int32)) else
  some (0 : Int32)
theorem cT_canBeViewed_34_ok {xs : Option (List Int32)} {l0 : Option Nat} {l1 : Int32} {l2 : Int32} {l3 : Int32} {h : gx_H} {r : Int32} (e : cT_canBeViewed_34 l0 l1 l2 l3 h = some r) : gv_V xs 0 33 34 [(0, gv_u l0), (1, .int l1), (2, .int l2), (3, .int l3)] [] h (.returned (some (.int r))) h := by
  unfold cT_canBeViewed_34 at e
  refine gv_ildn (pc' := 35) rfl rfl rfl ?_
  by_cases c1 : l2 < 0
  · rw [if_pos c1] at e
    refine gv_ifT (pc' := 48) rfl (gv_ltT c1) rfl ?_
    refine gv_ic (pc' := 49) (x := 0) rfl rfl rfl ?_
    cases e
    exact gv_retZ rfl rfl (by decide)
  rw [if_neg c1] at e
  refine gv_ifF (pc' := 38) rfl (gv_ltF c1) rfl rfl ?_
  refine gv_ildn (pc' := 39) rfl rfl rfl ?_
  refine gv_ildn (pc' := 40) rfl rfl rfl ?_
  by_cases c2 : l1 = 0
  · rw [if_pos c2] at e; cases e
  rw [if_neg c2] at e
  refine gv_irem (pc' := 41) rfl c2 rfl ?_
  by_cases c3 : (l2 - l2 / l1 * l1) = 0
  · rw [if_pos c3] at e
    refine gv_ifF (pc' := 44) rfl (gv_neF c3) rfl rfl ?_
    refine gv_ildn (pc' := 45) rfl rfl rfl ?_
    by_cases c4 : l3 < 0
    · rw [if_pos c4] at e
      refine gv_ifF (pc' := 48) rfl (gv_geF c4) rfl rfl ?_
      refine gv_ic (pc' := 49) (x := 0) rfl rfl rfl ?_
      cases e
      exact gv_retZ rfl rfl (by decide)
    rw [if_neg c4] at e
    refine gv_ifT (pc' := 50) rfl (gv_geT c4) rfl ?_
    refine gv_ildn (pc' := 51) rfl rfl rfl ?_
    refine gv_i2l (pc' := 52) rfl rfl ?_
    refine gv_ildn (pc' := 53) rfl rfl rfl ?_
    refine gv_i2l (pc' := 54) rfl rfl ?_
    refine gv_ildn (pc' := 55) rfl rfl rfl ?_
    refine gv_i2l (pc' := 56) rfl rfl ?_
    refine gv_lmul (pc' := 57) rfl rfl ?_
    refine gv_ladd (pc' := 58) rfl rfl ?_
    refine gv_rldn (pc' := 59) rfl rfl rfl ?_
    obtain ⟨v5, qv5, e⟩ := gv_bind e
    refine gv_fI (pc' := 62) rfl rfl qv5 rfl ?_
    refine gv_i2l (pc' := 63) rfl rfl ?_
    refine gv_lcmp (pc' := 64) rfl rfl ?_
    by_cases c6 : (Int32.toInt64 v5) < ((Int32.toInt64 l2) + ((Int32.toInt64 l1) * (Int32.toInt64 l3)))
    · rw [if_pos c6] at e
      refine gv_ifT (pc' := 71) rfl (gv_gtTL c6) rfl ?_
      refine gv_ic (pc' := 72) (x := 0) rfl rfl rfl ?_
      cases e
      exact gv_retZ rfl rfl (by decide)
    rw [if_neg c6] at e
    refine gv_ifF (pc' := 67) rfl (gv_gtFL c6) rfl rfl ?_
    refine gv_ic (pc' := 68) (x := 1) rfl rfl rfl ?_
    refine gv_goto (pc' := 72) rfl rfl ?_
    cases e
    exact gv_retZ rfl rfl (by decide)
  rw [if_neg c3] at e
  refine gv_ifT (pc' := 48) rfl (gv_neT c3) rfl ?_
  refine gv_ic (pc' := 49) (x := 0) rfl rfl rfl ?_
  cases e
  exact gv_retZ rfl rfl (by decide)
def cT_canBeViewed (l0 : Option Nat) (l1 : Int32) (l2 : Int32) (l3 : Int32) (h : gx_H) : Option Int32 :=
  (gv_gI h l0 2 4).bind fun v1 =>
  if v1 = (4 : Int32) then (
    (gv_gI h l0 2 6).bind fun v3 =>
    if v3 = 0 then (
      if l1 = (1 : Int32) then (
        cT_canBeViewed_34 l0 l1 l2 l3 h) else
      if l1 = (2 : Int32) then (
        cT_canBeViewed_34 l0 l1 l2 l3 h) else
      if l1 = (4 : Int32) then (
        cT_canBeViewed_34 l0 l1 l2 l3 h) else
      some (0 : Int32)) else
    some (0 : Int32)) else
  some (0 : Int32)
theorem cT_canBeViewed_ok {xs : Option (List Int32)} {l0 : Option Nat} {l1 : Int32} {l2 : Int32} {l3 : Int32} {h : gx_H} {r : Int32} (e : cT_canBeViewed l0 l1 l2 l3 h = some r) : gv_V xs 0 33 0 [(0, gv_u l0), (1, .int l1), (2, .int l2), (3, .int l3)] [] h (.returned (some (.int r))) h := by
  unfold cT_canBeViewed at e
  refine gv_rldn (pc' := 1) rfl rfl rfl ?_
  obtain ⟨v1, qv1, e⟩ := gv_bind e
  refine gv_fI (pc' := 4) rfl rfl qv1 rfl ?_
  refine gv_ic (pc' := 5) (x := 4) rfl rfl rfl ?_
  by_cases c2 : v1 = (4 : Int32)
  · rw [if_pos c2] at e
    refine gv_cmF (pc' := 8) rfl (gv_neF2 c2) rfl rfl ?_
    refine gv_rldn (pc' := 9) rfl rfl rfl ?_
    obtain ⟨v3, qv3, e⟩ := gv_bind e
    refine gv_fI (pc' := 12) rfl rfl qv3 rfl ?_
    by_cases c4 : v3 = 0
    · rw [if_pos c4] at e
      refine gv_ifT (pc' := 17) rfl (gv_eqT c4) rfl ?_
      refine gv_ildn (pc' := 18) rfl rfl rfl ?_
      refine gv_ic (pc' := 19) (x := 1) rfl rfl rfl ?_
      by_cases c5 : l1 = (1 : Int32)
      · rw [if_pos c5] at e
        refine gv_cmT (pc' := 34) rfl (gv_eqT2 c5) rfl ?_
        exact gv_weak (cT_canBeViewed_34_ok e) (gv_S1 rfl (gv_S1 rfl (gv_S1 rfl (gv_S1 rfl gv_S0))))
      rw [if_neg c5] at e
      refine gv_cmF (pc' := 22) rfl (gv_eqF2 c5) rfl rfl ?_
      refine gv_ildn (pc' := 23) rfl rfl rfl ?_
      refine gv_ic (pc' := 24) (x := 2) rfl rfl rfl ?_
      by_cases c6 : l1 = (2 : Int32)
      · rw [if_pos c6] at e
        refine gv_cmT (pc' := 34) rfl (gv_eqT2 c6) rfl ?_
        exact gv_weak (cT_canBeViewed_34_ok e) (gv_S1 rfl (gv_S1 rfl (gv_S1 rfl (gv_S1 rfl gv_S0))))
      rw [if_neg c6] at e
      refine gv_cmF (pc' := 27) rfl (gv_eqF2 c6) rfl rfl ?_
      refine gv_ildn (pc' := 28) rfl rfl rfl ?_
      refine gv_ic (pc' := 29) (x := 4) rfl rfl rfl ?_
      by_cases c7 : l1 = (4 : Int32)
      · rw [if_pos c7] at e
        refine gv_cmT (pc' := 34) rfl (gv_eqT2 c7) rfl ?_
        exact gv_weak (cT_canBeViewed_34_ok e) (gv_S1 rfl (gv_S1 rfl (gv_S1 rfl (gv_S1 rfl gv_S0))))
      rw [if_neg c7] at e
      refine gv_cmF (pc' := 32) rfl (gv_eqF2 c7) rfl rfl ?_
      refine gv_ic (pc' := 33) (x := 0) rfl rfl rfl ?_
      cases e
      exact gv_retZ rfl rfl (by decide)
    rw [if_neg c4] at e
    refine gv_ifF (pc' := 15) rfl (gv_eqF c4) rfl rfl ?_
    refine gv_ic (pc' := 16) (x := 0) rfl rfl rfl ?_
    cases e
    exact gv_retZ rfl rfl (by decide)
  rw [if_neg c2] at e
  refine gv_cmT (pc' := 15) rfl (gv_neT2 c2) rfl ?_
  refine gv_ic (pc' := 16) (x := 0) rfl rfl rfl ?_
  cases e
  exact gv_retZ rfl rfl (by decide)
def cT_lookAt (l0 : Option Nat) (l1 : Int32) (l2 : Int32) (l3 : Int32) (l4 : Int32) (h : gx_H) : Option gx_H :=
  (gv_pV h l0 2 7 (.int l1)).bind fun h1 =>
  (gv_pV h1 l0 2 8 (.int l2)).bind fun h2 =>
  (gv_pV h2 l0 2 9 (.int l3)).bind fun h3 =>
  (gv_pV h3 l0 2 5 (.int l4)).bind fun h4 =>
  some h4
theorem cT_lookAt_ok {xs : Option (List Int32)} {l0 : Option Nat} {l1 : Int32} {l2 : Int32} {l3 : Int32} {l4 : Int32} {h : gx_H} {r : gx_H} (e : cT_lookAt l0 l1 l2 l3 l4 h = some r) : gv_V xs 0 34 0 [(0, gv_u l0), (1, .int l1), (2, .int l2), (3, .int l3), (4, .int l4)] [] h (.returned none) r := by
  unfold cT_lookAt at e
  refine gv_rldn (pc' := 1) rfl rfl rfl ?_
  refine gv_ildn (pc' := 2) rfl rfl rfl ?_
  obtain ⟨h1, qh1, e⟩ := gv_bind e
  refine gv_pI (pc' := 5) rfl rfl rfl qh1 rfl ?_
  refine gv_rldn (pc' := 6) rfl rfl rfl ?_
  refine gv_ildn (pc' := 7) rfl rfl rfl ?_
  obtain ⟨h2, qh2, e⟩ := gv_bind e
  refine gv_pI (pc' := 10) rfl rfl rfl qh2 rfl ?_
  refine gv_rldn (pc' := 11) rfl rfl rfl ?_
  refine gv_ildn (pc' := 12) rfl rfl rfl ?_
  obtain ⟨h3, qh3, e⟩ := gv_bind e
  refine gv_pI (pc' := 15) rfl rfl rfl qh3 rfl ?_
  refine gv_rldn (pc' := 16) rfl rfl rfl ?_
  refine gv_ild (pc' := 18) rfl rfl rfl ?_
  obtain ⟨h4, qh4, e⟩ := gv_bind e
  refine gv_pI (pc' := 21) rfl rfl rfl qh4 rfl ?_
  cases e
  exact gv_retV rfl rfl
def cS_isText_31 (rec2 : Int32 → Int32 → Option Int32) (l0 : Int32) (l1 : Int32) : Option Int32 :=
  rec2 l0 (l1 + 1)
theorem cS_isText_31_ok {xs : Option (List Int32)} {rec2 : Int32 → Int32 → Option Int32} (hrec2 : ∀ (l0 : Int32) (l1 : Int32) (h : gx_H) (r : Int32), rec2 l0 l1 = some r → gv_V xs 1 41 2 [(0, .int l0), (1, .int l1)] [] h (.returned (some (.int r))) h) {l0 : Int32} {l1 : Int32} {h : gx_H} {r : Int32} (e : cS_isText_31 rec2 l0 l1 = some r) : gv_V xs 1 41 31 [(0, .int l0), (1, .int l1)] [] h (.returned (some (.int r))) h := by
  unfold cS_isText_31 at e
  refine gv_inc (pc' := 34) (y := 1) rfl rfl rfl rfl (gv_Ci rfl) rfl ?_
  refine gv_goto (pc' := 2) rfl rfl ?_
  exact gv_weak (hrec2 _ _ _ _ e) (gv_S1 rfl (gv_S1 rfl gv_S0))
def cS_isText_2 : Nat → Int32 → Int32 → Option Int32
  | 0, _, _ => none
  | n + 1, l0, l1 =>
    if (l1 + (1 : Int32)) < (4 : Int32) then (
      (cG_byteOf (Int32.toInt64 l0) l1).bind fun v2 =>
      if v2 = 0 then (
        (cG_byteOf (Int32.toInt64 l0) (l1 + (1 : Int32))).bind fun v4 =>
        if v4 = 0 then (
          cS_isText_31 (cS_isText_2 n) l0 l1) else
        some (0 : Int32)) else
      cS_isText_31 (cS_isText_2 n) l0 l1) else
    some (1 : Int32)
theorem cS_isText_2_ok {xs : Option (List Int32)} : ∀ (n : Nat) (l0 : Int32) (l1 : Int32) (h : gx_H) (r : Int32), cS_isText_2 n l0 l1 = some r → gv_V xs 1 41 2 [(0, .int l0), (1, .int l1)] [] h (.returned (some (.int r))) h := by
  intro n
  induction n with
  | zero => intro l0 l1 h r e; cases e
  | succ n ih =>
    intro l0 l1 h r e
    rw [cS_isText_2] at e
    refine gv_ildn (pc' := 3) rfl rfl rfl ?_
    refine gv_ic (pc' := 4) (x := 1) rfl rfl rfl ?_
    refine gv_iadd (pc' := 5) rfl rfl ?_
    refine gv_ic (pc' := 6) (x := 4) rfl rfl rfl ?_
    by_cases c1 : (l1 + (1 : Int32)) < (4 : Int32)
    · rw [if_pos c1] at e
      refine gv_cmF (pc' := 9) rfl (gv_geF2 c1) rfl rfl ?_
      refine gv_ildn (pc' := 10) rfl rfl rfl ?_
      refine gv_i2l (pc' := 11) rfl rfl ?_
      refine gv_ildn (pc' := 12) rfl rfl rfl ?_
      obtain ⟨v2, qv2, e⟩ := gv_bind e
      refine gv_sS (jc := 18) (n := 2) (rest := []) (stk := [.int v2]) (pc' := 15) rfl rfl rfl rfl rfl rfl rfl rfl rfl (gv_zJ (gv_zI gv_z0)) rfl (gv_aJ (gv_aI gv_a0)) (Nat.le_of_ble_eq_true rfl) (cG_byteOf_ok qv2) rfl rfl ?_
      by_cases c3 : v2 = 0
      · rw [if_pos c3] at e
        refine gv_ifF (pc' := 18) rfl (gv_neF c3) rfl rfl ?_
        refine gv_ildn (pc' := 19) rfl rfl rfl ?_
        refine gv_i2l (pc' := 20) rfl rfl ?_
        refine gv_ildn (pc' := 21) rfl rfl rfl ?_
        refine gv_ic (pc' := 22) (x := 1) rfl rfl rfl ?_
        refine gv_iadd (pc' := 23) rfl rfl ?_
        obtain ⟨v4, qv4, e⟩ := gv_bind e
        refine gv_sS (jc := 18) (n := 2) (rest := []) (stk := [.int v4]) (pc' := 26) rfl rfl rfl rfl rfl rfl rfl rfl rfl (gv_zJ (gv_zI gv_z0)) rfl (gv_aJ (gv_aI gv_a0)) (Nat.le_of_ble_eq_true rfl) (cG_byteOf_ok qv4) rfl rfl ?_
        by_cases c5 : v4 = 0
        · rw [if_pos c5] at e
          refine gv_ifT (pc' := 31) rfl (gv_eqT c5) rfl ?_
          exact gv_weak (cS_isText_31_ok ih e) (gv_S1 rfl (gv_S1 rfl gv_S0))
        rw [if_neg c5] at e
        refine gv_ifF (pc' := 29) rfl (gv_eqF c5) rfl rfl ?_
        refine gv_ic (pc' := 30) (x := 0) rfl rfl rfl ?_
        cases e
        exact gv_retZ rfl rfl (by decide)
      rw [if_neg c3] at e
      refine gv_ifT (pc' := 31) rfl (gv_neT c3) rfl ?_
      exact gv_weak (cS_isText_31_ok ih e) (gv_S1 rfl (gv_S1 rfl gv_S0))
    rw [if_neg c1] at e
    refine gv_cmT (pc' := 37) rfl (gv_geT2 c1) rfl ?_
    refine gv_ic (pc' := 38) (x := 1) rfl rfl rfl ?_
    cases e
    exact gv_retZ rfl rfl (by decide)
def cS_isText (l0 : Int32) : Option Int32 :=
  cS_isText_2 1000000000000000 l0 (0 : Int32)
theorem cS_isText_ok {xs : Option (List Int32)} {l0 : Int32} {h : gx_H} {r : Int32} (e : cS_isText l0 = some r) : gv_V xs 1 41 0 [(0, .int l0)] [] h (.returned (some (.int r))) h := by
  unfold cS_isText at e
  refine gv_ic (pc' := 1) (x := 0) rfl rfl rfl ?_
  refine gv_istn (pc' := 2) rfl rfl (gv_Ci rfl) rfl ?_
  exact gv_weak (cS_isText_2_ok 1000000000000000 _ _ _ _ e) (gv_S1 rfl (gv_S1 rfl gv_S0))
def cS_isValue (l0 : Option Nat) (l1 : Int32) (l2 : Int32) (h : gx_H) : Option Int32 :=
  if l1 < 0 then (
    some (0 : Int32)) else
  if (7 : Int32) < l1 then (
    some (0 : Int32)) else
  if l1 = (5 : Int32) then (
    (cS_isText l2).bind fun v4 =>
    if ¬ (v4 = 0 ∨ v4 = 1) then none else
    some v4) else
  if l1 = (6 : Int32) then (
    if l2 < 0 then (
      some (0 : Int32)) else
    (gv_gI h l0 1 1).bind fun v8 =>
    if l2 < v8 then (
      some (1 : Int32)) else
    some (0 : Int32)) else
  some (1 : Int32)
theorem cS_isValue_ok {xs : Option (List Int32)} {l0 : Option Nat} {l1 : Int32} {l2 : Int32} {h : gx_H} {r : Int32} (e : cS_isValue l0 l1 l2 h = some r) : gv_V xs 2 40 0 [(0, gv_u l0), (1, .int l1), (2, .int l2)] [] h (.returned (some (.int r))) h := by
  unfold cS_isValue at e
  refine gv_ildn (pc' := 1) rfl rfl rfl ?_
  by_cases c1 : l1 < 0
  · rw [if_pos c1] at e
    refine gv_ifT (pc' := 10) rfl (gv_ltT c1) rfl ?_
    refine gv_ic (pc' := 11) (x := 0) rfl rfl rfl ?_
    cases e
    exact gv_retZ rfl rfl (by decide)
  rw [if_neg c1] at e
  refine gv_ifF (pc' := 4) rfl (gv_ltF c1) rfl rfl ?_
  refine gv_ildn (pc' := 5) rfl rfl rfl ?_
  refine gv_bp (pc' := 7) (x := 7) rfl rfl rfl ?_
  by_cases c2 : (7 : Int32) < l1
  · rw [if_pos c2] at e
    refine gv_cmF (pc' := 10) rfl (gv_leF2 c2) rfl rfl ?_
    refine gv_ic (pc' := 11) (x := 0) rfl rfl rfl ?_
    cases e
    exact gv_retZ rfl rfl (by decide)
  rw [if_neg c2] at e
  refine gv_cmT (pc' := 12) rfl (gv_leT2 c2) rfl ?_
  refine gv_ildn (pc' := 13) rfl rfl rfl ?_
  refine gv_ic (pc' := 14) (x := 5) rfl rfl rfl ?_
  by_cases c3 : l1 = (5 : Int32)
  · rw [if_pos c3] at e
    refine gv_cmF (pc' := 17) rfl (gv_neF2 c3) rfl rfl ?_
    refine gv_ildn (pc' := 18) rfl rfl rfl ?_
    obtain ⟨v4, qv4, e⟩ := gv_bind e
    refine gv_sS (jc := 41) (n := 1) (rest := []) (stk := [.int v4]) (pc' := 21) rfl rfl rfl rfl rfl rfl rfl rfl rfl (gv_zI gv_z0) rfl (gv_aI gv_a0) (Nat.le_of_ble_eq_true rfl) (cS_isText_ok qv4) rfl rfl ?_
    by_cases c5 : ¬ (v4 = 0 ∨ v4 = 1)
    · rw [if_pos c5] at e; cases e
    rw [if_neg c5] at e
    cases e
    exact gv_retZ rfl rfl (Decidable.of_not_not c5)
  rw [if_neg c3] at e
  refine gv_cmT (pc' := 22) rfl (gv_neT2 c3) rfl ?_
  refine gv_ildn (pc' := 23) rfl rfl rfl ?_
  refine gv_bp (pc' := 25) (x := 6) rfl rfl rfl ?_
  by_cases c6 : l1 = (6 : Int32)
  · rw [if_pos c6] at e
    refine gv_cmF (pc' := 28) rfl (gv_neF2 c6) rfl rfl ?_
    refine gv_ildn (pc' := 29) rfl rfl rfl ?_
    by_cases c7 : l2 < 0
    · rw [if_pos c7] at e
      refine gv_ifT (pc' := 44) rfl (gv_ltT c7) rfl ?_
      refine gv_ic (pc' := 45) (x := 0) rfl rfl rfl ?_
      cases e
      exact gv_retZ rfl rfl (by decide)
    rw [if_neg c7] at e
    refine gv_ifF (pc' := 32) rfl (gv_ltF c7) rfl rfl ?_
    refine gv_ildn (pc' := 33) rfl rfl rfl ?_
    refine gv_rldn (pc' := 34) rfl rfl rfl ?_
    obtain ⟨v8, qv8, e⟩ := gv_bind e
    refine gv_fI (pc' := 37) rfl rfl qv8 rfl ?_
    by_cases c9 : l2 < v8
    · rw [if_pos c9] at e
      refine gv_cmF (pc' := 40) rfl (gv_geF2 c9) rfl rfl ?_
      refine gv_ic (pc' := 41) (x := 1) rfl rfl rfl ?_
      refine gv_goto (pc' := 45) rfl rfl ?_
      cases e
      exact gv_retZ rfl rfl (by decide)
    rw [if_neg c9] at e
    refine gv_cmT (pc' := 44) rfl (gv_geT2 c9) rfl ?_
    refine gv_ic (pc' := 45) (x := 0) rfl rfl rfl ?_
    cases e
    exact gv_retZ rfl rfl (by decide)
  rw [if_neg c6] at e
  refine gv_cmT (pc' := 40) rfl (gv_neT2 c6) rfl ?_
  refine gv_ic (pc' := 41) (x := 1) rfl rfl rfl ?_
  refine gv_goto (pc' := 45) rfl rfl ?_
  cases e
  exact gv_retZ rfl rfl (by decide)
def cT_setValue (l0 : Option Nat) (l1 : Int32) (l2 : Int32) (l3 : Int32) (h : gx_H) : Option gx_H :=
  (gv_gR h l0 2 2).bind fun v1 =>
  (gv_wI h v1 l1 l2).bind fun h2 =>
  (gv_gR h2 l0 2 3).bind fun v3 =>
  (gv_wI h2 v3 l1 l3).bind fun h4 =>
  some h4
theorem cT_setValue_ok {xs : Option (List Int32)} {l0 : Option Nat} {l1 : Int32} {l2 : Int32} {l3 : Int32} {h : gx_H} {r : gx_H} (e : cT_setValue l0 l1 l2 l3 h = some r) : gv_V xs 0 44 0 [(0, gv_u l0), (1, .int l1), (2, .int l2), (3, .int l3)] [] h (.returned none) r := by
  unfold cT_setValue at e
  refine gv_rldn (pc' := 1) rfl rfl rfl ?_
  obtain ⟨v1, qv1, e⟩ := gv_bind e
  refine gv_fR (pc' := 4) rfl rfl qv1 rfl ?_
  refine gv_ildn (pc' := 5) rfl rfl rfl ?_
  refine gv_ildn (pc' := 6) rfl rfl rfl ?_
  obtain ⟨h2, qh2, e⟩ := gv_bind e
  refine gv_iast (pc' := 7) rfl qh2 rfl ?_
  refine gv_rldn (pc' := 8) rfl rfl rfl ?_
  obtain ⟨v3, qv3, e⟩ := gv_bind e
  refine gv_fR (pc' := 11) rfl rfl qv3 rfl ?_
  refine gv_ildn (pc' := 12) rfl rfl rfl ?_
  refine gv_ildn (pc' := 13) rfl rfl rfl ?_
  obtain ⟨h4, qh4, e⟩ := gv_bind e
  refine gv_iast (pc' := 14) rfl qh4 rfl ?_
  cases e
  exact gv_retV rfl rfl
def jM_max (l0 : Int32) (l1 : Int32) : Option Int32 :=
  if l0 < l1 then (
    some l1) else
  some l0
theorem jM_max_ok {xs : Option (List Int32)} {l0 : Int32} {l1 : Int32} {h : gx_H} {r : Int32} (e : jM_max l0 l1 = some r) : gv_V xs 0 45 0 [(0, .int l0), (1, .int l1)] [] h (.returned (some (.int r))) h := by
  unfold jM_max at e
  refine gv_ildn (pc' := 1) rfl rfl rfl ?_
  refine gv_ildn (pc' := 2) rfl rfl rfl ?_
  by_cases c1 : l0 < l1
  · rw [if_pos c1] at e
    refine gv_cmT (pc' := 9) rfl (gv_ltT2 c1) rfl ?_
    refine gv_ildn (pc' := 10) rfl rfl rfl ?_
    cases e
    exact gv_retI rfl rfl
  rw [if_neg c1] at e
  refine gv_cmF (pc' := 5) rfl (gv_ltF2 c1) rfl rfl ?_
  refine gv_ildn (pc' := 6) rfl rfl rfl ?_
  refine gv_goto (pc' := 10) rfl rfl ?_
  cases e
  exact gv_retI rfl rfl
def cT_setPlace_6 : Nat → Option Nat → Int32 → Int32 → Int32 → Int32 → gx_H → Option gx_H
  | 0, _, _, _, _, _, _ => none
  | n + 1, l0, l1, l2, l3, l4, h =>
    if l4 < l1 then (
      (gv_is h l0 2).bind fun i2 =>
      (cT_setValue l0 l4 (-1 : Int32) (0 : Int32) h).bind fun h4 =>
      cT_setPlace_6 n l0 l1 l2 l3 (l4 + 1) h4) else
    (gv_is h l0 2).bind fun i5 =>
    (cT_setValue l0 l1 l2 l3 h).bind fun h7 =>
    (gv_gI h7 l0 2 5).bind fun v8 =>
    (jM_max v8 (l1 + (1 : Int32))).bind fun v9 =>
    (gv_pV h7 l0 2 5 (.int v9)).bind fun h10 =>
    some h10
theorem cT_setPlace_6_ok {xs : Option (List Int32)} : ∀ (n : Nat) (l0 : Option Nat) (l1 : Int32) (l2 : Int32) (l3 : Int32) (l4 : Int32) (h : gx_H) (r : gx_H), cT_setPlace_6 n l0 l1 l2 l3 l4 h = some r → gv_V xs 1 43 6 [(0, gv_u l0), (1, .int l1), (2, .int l2), (3, .int l3), (4, .int l4)] [] h (.returned none) r := by
  intro n
  induction n with
  | zero => intro l0 l1 l2 l3 l4 h r e; cases e
  | succ n ih =>
    intro l0 l1 l2 l3 l4 h r e
    rw [cT_setPlace_6] at e
    refine gv_ild (pc' := 8) rfl rfl rfl ?_
    refine gv_ildn (pc' := 9) rfl rfl rfl ?_
    by_cases c1 : l4 < l1
    · rw [if_pos c1] at e
      refine gv_cmF (pc' := 12) rfl (gv_geF2 c1) rfl rfl ?_
      refine gv_rldn (pc' := 13) rfl rfl rfl ?_
      refine gv_ild (pc' := 15) rfl rfl rfl ?_
      refine gv_ic (pc' := 16) (x := -1) rfl rfl rfl ?_
      refine gv_ic (pc' := 17) (x := 0) rfl rfl rfl ?_
      obtain ⟨i2, qi2, e⟩ := gv_bind e
      obtain ⟨h4, qv3, e⟩ := gv_bind e
      refine gv_vS (jc := 44) (n := 3) (rest := []) (stk := []) (pc' := 20) rfl rfl rfl rfl rfl rfl rfl rfl rfl (gv_zR (gv_zI (gv_zI (gv_zI gv_z0)))) rfl (gv_aR (gv_aI (gv_aI (gv_aI gv_a0)))) (Nat.le_of_ble_eq_true rfl) qi2 (cT_setValue_ok qv3) rfl rfl ?_
      refine gv_inc (pc' := 23) (y := 1) rfl rfl rfl rfl (gv_Ci rfl) rfl ?_
      refine gv_goto (pc' := 6) rfl rfl ?_
      exact gv_weak (ih _ _ _ _ _ _ _ e) (gv_S1 rfl (gv_S1 rfl (gv_S1 rfl (gv_S1 rfl (gv_S1 rfl gv_S0)))))
    rw [if_neg c1] at e
    refine gv_cmT (pc' := 26) rfl (gv_geT2 c1) rfl ?_
    refine gv_rldn (pc' := 27) rfl rfl rfl ?_
    refine gv_ildn (pc' := 28) rfl rfl rfl ?_
    refine gv_ildn (pc' := 29) rfl rfl rfl ?_
    refine gv_ildn (pc' := 30) rfl rfl rfl ?_
    obtain ⟨i5, qi5, e⟩ := gv_bind e
    obtain ⟨h7, qv6, e⟩ := gv_bind e
    refine gv_vS (jc := 44) (n := 3) (rest := []) (stk := []) (pc' := 33) rfl rfl rfl rfl rfl rfl rfl rfl rfl (gv_zR (gv_zI (gv_zI (gv_zI gv_z0)))) rfl (gv_aR (gv_aI (gv_aI (gv_aI gv_a0)))) (Nat.le_of_ble_eq_true rfl) qi5 (cT_setValue_ok qv6) rfl rfl ?_
    refine gv_rldn (pc' := 34) rfl rfl rfl ?_
    refine gv_rldn (pc' := 35) rfl rfl rfl ?_
    obtain ⟨v8, qv8, e⟩ := gv_bind e
    refine gv_fI (pc' := 38) rfl rfl qv8 rfl ?_
    refine gv_ildn (pc' := 39) rfl rfl rfl ?_
    refine gv_ic (pc' := 40) (x := 1) rfl rfl rfl ?_
    refine gv_iadd (pc' := 41) rfl rfl ?_
    obtain ⟨v9, qv9, e⟩ := gv_bind e
    refine gv_sS (jc := 45) (n := 2) (rest := [gv_u l0]) (stk := [.int v9, gv_u l0]) (pc' := 44) rfl rfl rfl rfl rfl rfl rfl rfl rfl (gv_zI (gv_zI gv_z0)) rfl (gv_aI (gv_aI gv_a0)) (Nat.le_of_ble_eq_true rfl) (jM_max_ok qv9) rfl rfl ?_
    obtain ⟨h10, qh10, e⟩ := gv_bind e
    refine gv_pI (pc' := 47) rfl rfl rfl qh10 rfl ?_
    cases e
    exact gv_retV rfl rfl
def cT_setPlace (l0 : Option Nat) (l1 : Int32) (l2 : Int32) (l3 : Int32) (h : gx_H) : Option gx_H :=
  (gv_gI h l0 2 5).bind fun v1 =>
  cT_setPlace_6 1000000000000000 l0 l1 l2 l3 v1 h
theorem cT_setPlace_ok {xs : Option (List Int32)} {l0 : Option Nat} {l1 : Int32} {l2 : Int32} {l3 : Int32} {h : gx_H} {r : gx_H} (e : cT_setPlace l0 l1 l2 l3 h = some r) : gv_V xs 1 43 0 [(0, gv_u l0), (1, .int l1), (2, .int l2), (3, .int l3)] [] h (.returned none) r := by
  unfold cT_setPlace at e
  refine gv_rldn (pc' := 1) rfl rfl rfl ?_
  obtain ⟨v1, qv1, e⟩ := gv_bind e
  refine gv_fI (pc' := 4) rfl rfl qv1 rfl ?_
  refine gv_ist (pc' := 6) rfl rfl (gv_Ci rfl) rfl ?_
  exact gv_weak (cT_setPlace_6_ok 1000000000000000 _ _ _ _ _ _ _ e) (gv_S1 rfl (gv_S1 rfl (gv_S1 rfl (gv_S1 rfl (gv_S1 rfl gv_S0)))))
def cT_indexOfKey_32 (rec2 : Option Nat → Int32 → Int32 → Int32 → gx_H → Option Int32) (l0 : Option Nat) (l1 : Int32) (l2 : Int32) (l3 : Int32) (h : gx_H) : Option Int32 :=
  rec2 l0 l1 l2 (l3 + 1) h
theorem cT_indexOfKey_32_ok {xs : Option (List Int32)} {rec2 : Option Nat → Int32 → Int32 → Int32 → gx_H → Option Int32} (hrec2 : ∀ (l0 : Option Nat) (l1 : Int32) (l2 : Int32) (l3 : Int32) (h : gx_H) (r : Int32), rec2 l0 l1 l2 l3 h = some r → gv_V xs 0 47 2 [(0, gv_u l0), (1, .int l1), (2, .int l2), (3, .int l3)] [] h (.returned (some (.int r))) h) {l0 : Option Nat} {l1 : Int32} {l2 : Int32} {l3 : Int32} {h : gx_H} {r : Int32} (e : cT_indexOfKey_32 rec2 l0 l1 l2 l3 h = some r) : gv_V xs 0 47 32 [(0, gv_u l0), (1, .int l1), (2, .int l2), (3, .int l3)] [] h (.returned (some (.int r))) h := by
  unfold cT_indexOfKey_32 at e
  refine gv_inc (pc' := 35) (y := 1) rfl rfl rfl rfl (gv_Ci rfl) rfl ?_
  refine gv_goto (pc' := 2) rfl rfl ?_
  exact gv_weak (hrec2 _ _ _ _ _ _ e) (gv_S1 rfl (gv_S1 rfl (gv_S1 rfl (gv_S1 rfl gv_S0))))
def cT_indexOfKey_2 : Nat → Option Nat → Int32 → Int32 → Int32 → gx_H → Option Int32
  | 0, _, _, _, _, _ => none
  | n + 1, l0, l1, l2, l3, h =>
    (gv_gI h l0 2 5).bind fun v1 =>
    if l3 < v1 then (
      (gv_gR h l0 2 0).bind fun v3 =>
      (gv_lI h v3 l3).bind fun v4 =>
      if v4 = l1 then (
        (gv_gR h l0 2 1).bind fun v6 =>
        (gv_lI h v6 l3).bind fun v7 =>
        if v7 = l2 then (
          some l3) else
        cT_indexOfKey_32 (cT_indexOfKey_2 n) l0 l1 l2 l3 h) else
      cT_indexOfKey_32 (cT_indexOfKey_2 n) l0 l1 l2 l3 h) else
    some (-1 : Int32)
theorem cT_indexOfKey_2_ok {xs : Option (List Int32)} : ∀ (n : Nat) (l0 : Option Nat) (l1 : Int32) (l2 : Int32) (l3 : Int32) (h : gx_H) (r : Int32), cT_indexOfKey_2 n l0 l1 l2 l3 h = some r → gv_V xs 0 47 2 [(0, gv_u l0), (1, .int l1), (2, .int l2), (3, .int l3)] [] h (.returned (some (.int r))) h := by
  intro n
  induction n with
  | zero => intro l0 l1 l2 l3 h r e; cases e
  | succ n ih =>
    intro l0 l1 l2 l3 h r e
    rw [cT_indexOfKey_2] at e
    refine gv_ildn (pc' := 3) rfl rfl rfl ?_
    refine gv_rldn (pc' := 4) rfl rfl rfl ?_
    obtain ⟨v1, qv1, e⟩ := gv_bind e
    refine gv_fI (pc' := 7) rfl rfl qv1 rfl ?_
    by_cases c2 : l3 < v1
    · rw [if_pos c2] at e
      refine gv_cmF (pc' := 10) rfl (gv_geF2 c2) rfl rfl ?_
      refine gv_rldn (pc' := 11) rfl rfl rfl ?_
      obtain ⟨v3, qv3, e⟩ := gv_bind e
      refine gv_fR (pc' := 14) rfl rfl qv3 rfl ?_
      refine gv_ildn (pc' := 15) rfl rfl rfl ?_
      obtain ⟨v4, qv4, e⟩ := gv_bind e
      refine gv_iald (pc' := 16) rfl qv4 rfl ?_
      refine gv_ildn (pc' := 17) rfl rfl rfl ?_
      by_cases c5 : v4 = l1
      · rw [if_pos c5] at e
        refine gv_cmF (pc' := 20) rfl (gv_neF2 c5) rfl rfl ?_
        refine gv_rldn (pc' := 21) rfl rfl rfl ?_
        obtain ⟨v6, qv6, e⟩ := gv_bind e
        refine gv_fR (pc' := 24) rfl rfl qv6 rfl ?_
        refine gv_ildn (pc' := 25) rfl rfl rfl ?_
        obtain ⟨v7, qv7, e⟩ := gv_bind e
        refine gv_iald (pc' := 26) rfl qv7 rfl ?_
        refine gv_ildn (pc' := 27) rfl rfl rfl ?_
        by_cases c8 : v7 = l2
        · rw [if_pos c8] at e
          refine gv_cmF (pc' := 30) rfl (gv_neF2 c8) rfl rfl ?_
          refine gv_ildn (pc' := 31) rfl rfl rfl ?_
          cases e
          exact gv_retI rfl rfl
        rw [if_neg c8] at e
        refine gv_cmT (pc' := 32) rfl (gv_neT2 c8) rfl ?_
        exact gv_weak (cT_indexOfKey_32_ok ih e) (gv_S1 rfl (gv_S1 rfl (gv_S1 rfl (gv_S1 rfl gv_S0))))
      rw [if_neg c5] at e
      refine gv_cmT (pc' := 32) rfl (gv_neT2 c5) rfl ?_
      exact gv_weak (cT_indexOfKey_32_ok ih e) (gv_S1 rfl (gv_S1 rfl (gv_S1 rfl (gv_S1 rfl gv_S0))))
    rw [if_neg c2] at e
    refine gv_cmT (pc' := 38) rfl (gv_geT2 c2) rfl ?_
    refine gv_ic (pc' := 39) (x := -1) rfl rfl rfl ?_
    cases e
    exact gv_retI rfl rfl
def cT_indexOfKey (l0 : Option Nat) (l1 : Int32) (l2 : Int32) (h : gx_H) : Option Int32 :=
  cT_indexOfKey_2 1000000000000000 l0 l1 l2 (0 : Int32) h
theorem cT_indexOfKey_ok {xs : Option (List Int32)} {l0 : Option Nat} {l1 : Int32} {l2 : Int32} {h : gx_H} {r : Int32} (e : cT_indexOfKey l0 l1 l2 h = some r) : gv_V xs 0 47 0 [(0, gv_u l0), (1, .int l1), (2, .int l2)] [] h (.returned (some (.int r))) h := by
  unfold cT_indexOfKey at e
  refine gv_ic (pc' := 1) (x := 0) rfl rfl rfl ?_
  refine gv_istn (pc' := 2) rfl rfl (gv_Ci rfl) rfl ?_
  exact gv_weak (cT_indexOfKey_2_ok 1000000000000000 _ _ _ _ _ _ e) (gv_S1 rfl (gv_S1 rfl (gv_S1 rfl (gv_S1 rfl gv_S0))))
def cT_orderedPlace_11 : Nat → Option Nat → Int32 → Int32 → gx_H → Option Int32
  | 0, _, _, _, _ => none
  | n + 1, l0, l1, l2, h =>
    (gv_gI h l0 2 5).bind fun v1 =>
    if l2 < v1 then (
      (gv_gR h l0 2 1).bind fun v3 =>
      (gv_lI h v3 l2).bind fun v4 =>
      if v4 < 0 then (
        some l2) else
      (gv_gR h l0 2 1).bind fun v6 =>
      (gv_lI h v6 l2).bind fun v7 =>
      if v7 < l1 then (
        cT_orderedPlace_11 n l0 l1 (l2 + 1) h) else
      some l2) else
    some l2
theorem cT_orderedPlace_11_ok {xs : Option (List Int32)} : ∀ (n : Nat) (l0 : Option Nat) (l1 : Int32) (l2 : Int32) (h : gx_H) (r : Int32), cT_orderedPlace_11 n l0 l1 l2 h = some r → gv_V xs 0 48 11 [(0, gv_u l0), (1, .int l1), (2, .int l2)] [] h (.returned (some (.int r))) h := by
  intro n
  induction n with
  | zero => intro l0 l1 l2 h r e; cases e
  | succ n ih =>
    intro l0 l1 l2 h r e
    rw [cT_orderedPlace_11] at e
    refine gv_ildn (pc' := 12) rfl rfl rfl ?_
    refine gv_rldn (pc' := 13) rfl rfl rfl ?_
    obtain ⟨v1, qv1, e⟩ := gv_bind e
    refine gv_fI (pc' := 16) rfl rfl qv1 rfl ?_
    by_cases c2 : l2 < v1
    · rw [if_pos c2] at e
      refine gv_cmF (pc' := 19) rfl (gv_geF2 c2) rfl rfl ?_
      refine gv_rldn (pc' := 20) rfl rfl rfl ?_
      obtain ⟨v3, qv3, e⟩ := gv_bind e
      refine gv_fR (pc' := 23) rfl rfl qv3 rfl ?_
      refine gv_ildn (pc' := 24) rfl rfl rfl ?_
      obtain ⟨v4, qv4, e⟩ := gv_bind e
      refine gv_iald (pc' := 25) rfl qv4 rfl ?_
      by_cases c5 : v4 < 0
      · rw [if_pos c5] at e
        refine gv_ifT (pc' := 44) rfl (gv_ltT c5) rfl ?_
        refine gv_ildn (pc' := 45) rfl rfl rfl ?_
        cases e
        exact gv_retI rfl rfl
      rw [if_neg c5] at e
      refine gv_ifF (pc' := 28) rfl (gv_ltF c5) rfl rfl ?_
      refine gv_rldn (pc' := 29) rfl rfl rfl ?_
      obtain ⟨v6, qv6, e⟩ := gv_bind e
      refine gv_fR (pc' := 32) rfl rfl qv6 rfl ?_
      refine gv_ildn (pc' := 33) rfl rfl rfl ?_
      obtain ⟨v7, qv7, e⟩ := gv_bind e
      refine gv_iald (pc' := 34) rfl qv7 rfl ?_
      refine gv_ildn (pc' := 35) rfl rfl rfl ?_
      by_cases c8 : v7 < l1
      · rw [if_pos c8] at e
        refine gv_cmF (pc' := 38) rfl (gv_geF2 c8) rfl rfl ?_
        refine gv_inc (pc' := 41) (y := 1) rfl rfl rfl rfl (gv_Ci rfl) rfl ?_
        refine gv_goto (pc' := 11) rfl rfl ?_
        exact gv_weak (ih _ _ _ _ _ e) (gv_S1 rfl (gv_S1 rfl (gv_S1 rfl gv_S0)))
      rw [if_neg c8] at e
      refine gv_cmT (pc' := 44) rfl (gv_geT2 c8) rfl ?_
      refine gv_ildn (pc' := 45) rfl rfl rfl ?_
      cases e
      exact gv_retI rfl rfl
    rw [if_neg c2] at e
    refine gv_cmT (pc' := 44) rfl (gv_geT2 c2) rfl ?_
    refine gv_ildn (pc' := 45) rfl rfl rfl ?_
    cases e
    exact gv_retI rfl rfl
def cT_orderedPlace (l0 : Option Nat) (l1 : Int32) (h : gx_H) : Option Int32 :=
  if l1 < 0 then (
    (gv_gI h l0 2 5).bind fun v2 =>
    some v2) else
  cT_orderedPlace_11 1000000000000000 l0 l1 (0 : Int32) h
theorem cT_orderedPlace_ok {xs : Option (List Int32)} {l0 : Option Nat} {l1 : Int32} {h : gx_H} {r : Int32} (e : cT_orderedPlace l0 l1 h = some r) : gv_V xs 0 48 0 [(0, gv_u l0), (1, .int l1)] [] h (.returned (some (.int r))) h := by
  unfold cT_orderedPlace at e
  refine gv_ildn (pc' := 1) rfl rfl rfl ?_
  by_cases c1 : l1 < 0
  · rw [if_pos c1] at e
    refine gv_ifF (pc' := 4) rfl (gv_geF c1) rfl rfl ?_
    refine gv_rldn (pc' := 5) rfl rfl rfl ?_
    obtain ⟨v2, qv2, e⟩ := gv_bind e
    refine gv_fI (pc' := 8) rfl rfl qv2 rfl ?_
    cases e
    exact gv_retI rfl rfl
  rw [if_neg c1] at e
  refine gv_ifT (pc' := 9) rfl (gv_geT c1) rfl ?_
  refine gv_ic (pc' := 10) (x := 0) rfl rfl rfl ?_
  refine gv_istn (pc' := 11) rfl rfl (gv_Ci rfl) rfl ?_
  exact gv_weak (cT_orderedPlace_11_ok 1000000000000000 _ _ _ _ _ e) (gv_S1 rfl (gv_S1 rfl (gv_S1 rfl gv_S0)))
def cT_openGap_5 : Nat → Option Nat → Int32 → Int32 → gx_H → Option gx_H
  | 0, _, _, _, _ => none
  | n + 1, l0, l1, l2, h =>
    if l1 < l2 then (
      (gv_gR h l0 2 0).bind fun v2 =>
      (gv_gR h l0 2 0).bind fun v3 =>
      (gv_lI h v3 (l2 - (1 : Int32))).bind fun v4 =>
      (gv_wI h v2 l2 v4).bind fun h5 =>
      (gv_gR h5 l0 2 1).bind fun v6 =>
      (gv_gR h5 l0 2 1).bind fun v7 =>
      (gv_lI h5 v7 (l2 - (1 : Int32))).bind fun v8 =>
      (gv_wI h5 v6 l2 v8).bind fun h9 =>
      (gv_gR h9 l0 2 2).bind fun v10 =>
      (gv_lI h9 v10 (l2 - (1 : Int32))).bind fun v11 =>
      (gv_gR h9 l0 2 3).bind fun v12 =>
      (gv_lI h9 v12 (l2 - (1 : Int32))).bind fun v13 =>
      (gv_is h9 l0 2).bind fun i14 =>
      (cT_setValue l0 l2 v11 v13 h9).bind fun h16 =>
      cT_openGap_5 n l0 l1 (l2 + -1) h16) else
    (gv_gI h l0 2 5).bind fun v17 =>
    (gv_pV h l0 2 5 (.int (v17 + (1 : Int32)))).bind fun h18 =>
    some h18
theorem cT_openGap_5_ok {xs : Option (List Int32)} : ∀ (n : Nat) (l0 : Option Nat) (l1 : Int32) (l2 : Int32) (h : gx_H) (r : gx_H), cT_openGap_5 n l0 l1 l2 h = some r → gv_V xs 1 49 5 [(0, gv_u l0), (1, .int l1), (2, .int l2)] [] h (.returned none) r := by
  intro n
  induction n with
  | zero => intro l0 l1 l2 h r e; cases e
  | succ n ih =>
    intro l0 l1 l2 h r e
    rw [cT_openGap_5] at e
    refine gv_ildn (pc' := 6) rfl rfl rfl ?_
    refine gv_ildn (pc' := 7) rfl rfl rfl ?_
    by_cases c1 : l1 < l2
    · rw [if_pos c1] at e
      refine gv_cmF (pc' := 10) rfl (gv_leF2 c1) rfl rfl ?_
      refine gv_rldn (pc' := 11) rfl rfl rfl ?_
      obtain ⟨v2, qv2, e⟩ := gv_bind e
      refine gv_fR (pc' := 14) rfl rfl qv2 rfl ?_
      refine gv_ildn (pc' := 15) rfl rfl rfl ?_
      refine gv_rldn (pc' := 16) rfl rfl rfl ?_
      obtain ⟨v3, qv3, e⟩ := gv_bind e
      refine gv_fR (pc' := 19) rfl rfl qv3 rfl ?_
      refine gv_ildn (pc' := 20) rfl rfl rfl ?_
      refine gv_ic (pc' := 21) (x := 1) rfl rfl rfl ?_
      refine gv_isub (pc' := 22) rfl rfl ?_
      obtain ⟨v4, qv4, e⟩ := gv_bind e
      refine gv_iald (pc' := 23) rfl qv4 rfl ?_
      obtain ⟨h5, qh5, e⟩ := gv_bind e
      refine gv_iast (pc' := 24) rfl qh5 rfl ?_
      refine gv_rldn (pc' := 25) rfl rfl rfl ?_
      obtain ⟨v6, qv6, e⟩ := gv_bind e
      refine gv_fR (pc' := 28) rfl rfl qv6 rfl ?_
      refine gv_ildn (pc' := 29) rfl rfl rfl ?_
      refine gv_rldn (pc' := 30) rfl rfl rfl ?_
      obtain ⟨v7, qv7, e⟩ := gv_bind e
      refine gv_fR (pc' := 33) rfl rfl qv7 rfl ?_
      refine gv_ildn (pc' := 34) rfl rfl rfl ?_
      refine gv_ic (pc' := 35) (x := 1) rfl rfl rfl ?_
      refine gv_isub (pc' := 36) rfl rfl ?_
      obtain ⟨v8, qv8, e⟩ := gv_bind e
      refine gv_iald (pc' := 37) rfl qv8 rfl ?_
      obtain ⟨h9, qh9, e⟩ := gv_bind e
      refine gv_iast (pc' := 38) rfl qh9 rfl ?_
      refine gv_rldn (pc' := 39) rfl rfl rfl ?_
      refine gv_ildn (pc' := 40) rfl rfl rfl ?_
      refine gv_rldn (pc' := 41) rfl rfl rfl ?_
      obtain ⟨v10, qv10, e⟩ := gv_bind e
      refine gv_fR (pc' := 44) rfl rfl qv10 rfl ?_
      refine gv_ildn (pc' := 45) rfl rfl rfl ?_
      refine gv_ic (pc' := 46) (x := 1) rfl rfl rfl ?_
      refine gv_isub (pc' := 47) rfl rfl ?_
      obtain ⟨v11, qv11, e⟩ := gv_bind e
      refine gv_iald (pc' := 48) rfl qv11 rfl ?_
      refine gv_rldn (pc' := 49) rfl rfl rfl ?_
      obtain ⟨v12, qv12, e⟩ := gv_bind e
      refine gv_fR (pc' := 52) rfl rfl qv12 rfl ?_
      refine gv_ildn (pc' := 53) rfl rfl rfl ?_
      refine gv_ic (pc' := 54) (x := 1) rfl rfl rfl ?_
      refine gv_isub (pc' := 55) rfl rfl ?_
      obtain ⟨v13, qv13, e⟩ := gv_bind e
      refine gv_iald (pc' := 56) rfl qv13 rfl ?_
      obtain ⟨i14, qi14, e⟩ := gv_bind e
      obtain ⟨h16, qv15, e⟩ := gv_bind e
      refine gv_vS (jc := 44) (n := 3) (rest := []) (stk := []) (pc' := 59) rfl rfl rfl rfl rfl rfl rfl rfl rfl (gv_zR (gv_zI (gv_zI (gv_zI gv_z0)))) rfl (gv_aR (gv_aI (gv_aI (gv_aI gv_a0)))) (Nat.le_of_ble_eq_true rfl) qi14 (cT_setValue_ok qv15) rfl rfl ?_
      refine gv_inc (pc' := 62) (y := -1) rfl rfl rfl rfl (gv_Ci rfl) rfl ?_
      refine gv_goto (pc' := 5) rfl rfl ?_
      exact gv_weak (ih _ _ _ _ _ e) (gv_S1 rfl (gv_S1 rfl (gv_S1 rfl gv_S0)))
    rw [if_neg c1] at e
    refine gv_cmT (pc' := 65) rfl (gv_leT2 c1) rfl ?_
    refine gv_rldn (pc' := 66) rfl rfl rfl ?_
    refine gv_dup (pc' := 67) rfl (gv_u_cat _) rfl ?_
    obtain ⟨v17, qv17, e⟩ := gv_bind e
    refine gv_fI (pc' := 70) rfl rfl qv17 rfl ?_
    refine gv_ic (pc' := 71) (x := 1) rfl rfl rfl ?_
    refine gv_iadd (pc' := 72) rfl rfl ?_
    obtain ⟨h18, qh18, e⟩ := gv_bind e
    refine gv_pI (pc' := 75) rfl rfl rfl qh18 rfl ?_
    cases e
    exact gv_retV rfl rfl
def cT_openGap (l0 : Option Nat) (l1 : Int32) (h : gx_H) : Option gx_H :=
  (gv_gI h l0 2 5).bind fun v1 =>
  cT_openGap_5 1000000000000000 l0 l1 v1 h
theorem cT_openGap_ok {xs : Option (List Int32)} {l0 : Option Nat} {l1 : Int32} {h : gx_H} {r : gx_H} (e : cT_openGap l0 l1 h = some r) : gv_V xs 1 49 0 [(0, gv_u l0), (1, .int l1)] [] h (.returned none) r := by
  unfold cT_openGap at e
  refine gv_rldn (pc' := 1) rfl rfl rfl ?_
  obtain ⟨v1, qv1, e⟩ := gv_bind e
  refine gv_fI (pc' := 4) rfl rfl qv1 rfl ?_
  refine gv_istn (pc' := 5) rfl rfl (gv_Ci rfl) rfl ?_
  exact gv_weak (cT_openGap_5_ok 1000000000000000 _ _ _ _ _ e) (gv_S1 rfl (gv_S1 rfl (gv_S1 rfl gv_S0)))
def cT_setProperty_54 (l0 : Option Nat) (l2 : Int32) (l3 : Int32) (l4 : Int32) (h : gx_H) : Option (Int32 × gx_H) :=
  (gv_is h l0 2).bind fun i1 =>
  (cT_setValue l0 l4 l2 l3 h).bind fun h3 =>
  some ((1 : Int32), h3)
theorem cT_setProperty_54_ok {xs : Option (List Int32)} {l0 : Option Nat} {l2 : Int32} {l3 : Int32} {l4 : Int32} {h : gx_H} {r : (Int32 × gx_H)} (e : cT_setProperty_54 l0 l2 l3 l4 h = some r) : gv_V xs 2 46 54 [(0, gv_u l0), (2, .int l2), (3, .int l3), (4, .int l4)] [] h (.returned (some (.int r.1))) r.2 := by
  unfold cT_setProperty_54 at e
  refine gv_rldn (pc' := 55) rfl rfl rfl ?_
  refine gv_ild (pc' := 57) rfl rfl rfl ?_
  refine gv_ildn (pc' := 58) rfl rfl rfl ?_
  refine gv_ildn (pc' := 59) rfl rfl rfl ?_
  obtain ⟨i1, qi1, e⟩ := gv_bind e
  obtain ⟨h3, qv2, e⟩ := gv_bind e
  refine gv_vS (jc := 44) (n := 3) (rest := []) (stk := []) (pc' := 62) rfl rfl rfl rfl rfl rfl rfl rfl rfl (gv_zR (gv_zI (gv_zI (gv_zI gv_z0)))) rfl (gv_aR (gv_aI (gv_aI (gv_aI gv_a0)))) (Nat.le_of_ble_eq_true rfl) qi1 (cT_setValue_ok qv2) rfl rfl ?_
  refine gv_ic (pc' := 63) (x := 1) rfl rfl rfl ?_
  cases e
  exact gv_retZ rfl rfl (by decide)
def cT_setProperty (l0 : Option Nat) (l1 : Int32) (l2 : Int32) (l3 : Int32) (h : gx_H) : Option (Int32 × gx_H) :=
  (gv_is h l0 2).bind fun i1 =>
  (cT_indexOfKey l0 (4 : Int32) l1 h).bind fun v2 =>
  if v2 = (-1 : Int32) then (
    (gv_gI h l0 2 5).bind fun v4 =>
    if v4 < (6 : Int32) then (
      (gv_is h l0 2).bind fun i6 =>
      (cT_orderedPlace l0 l1 h).bind fun v7 =>
      (gv_is h l0 2).bind fun i8 =>
      (cT_openGap l0 v7 h).bind fun h10 =>
      (gv_gR h10 l0 2 0).bind fun v11 =>
      (gv_wI h10 v11 v7 (4 : Int32)).bind fun h12 =>
      (gv_gR h12 l0 2 1).bind fun v13 =>
      (gv_wI h12 v13 v7 l1).bind fun h14 =>
      cT_setProperty_54 l0 l2 l3 v7 h14) else
    some ((0 : Int32), h)) else
  cT_setProperty_54 l0 l2 l3 v2 h
theorem cT_setProperty_ok {xs : Option (List Int32)} {l0 : Option Nat} {l1 : Int32} {l2 : Int32} {l3 : Int32} {h : gx_H} {r : (Int32 × gx_H)} (e : cT_setProperty l0 l1 l2 l3 h = some r) : gv_V xs 2 46 0 [(0, gv_u l0), (1, .int l1), (2, .int l2), (3, .int l3)] [] h (.returned (some (.int r.1))) r.2 := by
  unfold cT_setProperty at e
  refine gv_rldn (pc' := 1) rfl rfl rfl ?_
  refine gv_ic (pc' := 2) (x := 4) rfl rfl rfl ?_
  refine gv_ildn (pc' := 3) rfl rfl rfl ?_
  obtain ⟨i1, qi1, e⟩ := gv_bind e
  obtain ⟨v2, qv2, e⟩ := gv_bind e
  refine gv_vS (jc := 47) (n := 2) (rest := []) (stk := [.int v2]) (pc' := 6) rfl rfl rfl rfl rfl rfl rfl rfl rfl (gv_zR (gv_zI (gv_zI gv_z0))) rfl (gv_aR (gv_aI (gv_aI gv_a0))) (Nat.le_of_ble_eq_true rfl) qi1 (cT_indexOfKey_ok qv2) rfl rfl ?_
  refine gv_ist (pc' := 8) rfl rfl (gv_Ci rfl) rfl ?_
  refine gv_ild (pc' := 10) rfl rfl rfl ?_
  refine gv_ic (pc' := 11) (x := -1) rfl rfl rfl ?_
  by_cases c3 : v2 = (-1 : Int32)
  · rw [if_pos c3] at e
    refine gv_cmF (pc' := 14) rfl (gv_neF2 c3) rfl rfl ?_
    refine gv_rldn (pc' := 15) rfl rfl rfl ?_
    obtain ⟨v4, qv4, e⟩ := gv_bind e
    refine gv_fI (pc' := 18) rfl rfl qv4 rfl ?_
    refine gv_bp (pc' := 20) (x := 6) rfl rfl rfl ?_
    by_cases c5 : v4 < (6 : Int32)
    · rw [if_pos c5] at e
      refine gv_cmT (pc' := 25) rfl (gv_ltT2 c5) rfl ?_
      refine gv_rldn (pc' := 26) rfl rfl rfl ?_
      refine gv_ildn (pc' := 27) rfl rfl rfl ?_
      obtain ⟨i6, qi6, e⟩ := gv_bind e
      obtain ⟨v7, qv7, e⟩ := gv_bind e
      refine gv_vS (jc := 48) (n := 1) (rest := []) (stk := [.int v7]) (pc' := 30) rfl rfl rfl rfl rfl rfl rfl rfl rfl (gv_zR (gv_zI gv_z0)) rfl (gv_aR (gv_aI gv_a0)) (Nat.le_of_ble_eq_true rfl) qi6 (cT_orderedPlace_ok qv7) rfl rfl ?_
      refine gv_ist (pc' := 32) rfl rfl (gv_Ci rfl) rfl ?_
      refine gv_rldn (pc' := 33) rfl rfl rfl ?_
      refine gv_ild (pc' := 35) rfl rfl rfl ?_
      obtain ⟨i8, qi8, e⟩ := gv_bind e
      obtain ⟨h10, qv9, e⟩ := gv_bind e
      refine gv_vS (jc := 49) (n := 1) (rest := []) (stk := []) (pc' := 38) rfl rfl rfl rfl rfl rfl rfl rfl rfl (gv_zR (gv_zI gv_z0)) rfl (gv_aR (gv_aI gv_a0)) (Nat.le_of_ble_eq_true rfl) qi8 (cT_openGap_ok qv9) rfl rfl ?_
      refine gv_rldn (pc' := 39) rfl rfl rfl ?_
      obtain ⟨v11, qv11, e⟩ := gv_bind e
      refine gv_fR (pc' := 42) rfl rfl qv11 rfl ?_
      refine gv_ild (pc' := 44) rfl rfl rfl ?_
      refine gv_ic (pc' := 45) (x := 4) rfl rfl rfl ?_
      obtain ⟨h12, qh12, e⟩ := gv_bind e
      refine gv_iast (pc' := 46) rfl qh12 rfl ?_
      refine gv_rldn (pc' := 47) rfl rfl rfl ?_
      obtain ⟨v13, qv13, e⟩ := gv_bind e
      refine gv_fR (pc' := 50) rfl rfl qv13 rfl ?_
      refine gv_ild (pc' := 52) rfl rfl rfl ?_
      refine gv_ildn (pc' := 53) rfl rfl rfl ?_
      obtain ⟨h14, qh14, e⟩ := gv_bind e
      refine gv_iast (pc' := 54) rfl qh14 rfl ?_
      exact gv_weak (cT_setProperty_54_ok e) (gv_S1 rfl (gv_S1 rfl (gv_S1 rfl (gv_S1 rfl gv_S0))))
    rw [if_neg c5] at e
    refine gv_cmF (pc' := 23) rfl (gv_ltF2 c5) rfl rfl ?_
    refine gv_ic (pc' := 24) (x := 0) rfl rfl rfl ?_
    cases e
    exact gv_retZ rfl rfl (by decide)
  rw [if_neg c3] at e
  refine gv_cmT (pc' := 54) rfl (gv_neT2 c3) rfl ?_
  exact gv_weak (cT_setProperty_54_ok e) (gv_S1 rfl (gv_S1 rfl (gv_S1 rfl (gv_S1 rfl gv_S0))))
def cT_dropProperty_16 : Nat → Option Nat → Int32 → gx_H → Option (Int32 × gx_H)
  | 0, _, _, _ => none
  | n + 1, l0, l3, h =>
    (gv_gI h l0 2 5).bind fun v1 =>
    if (l3 + (1 : Int32)) < v1 then (
      (gv_gR h l0 2 1).bind fun v3 =>
      (gv_gR h l0 2 1).bind fun v4 =>
      (gv_lI h v4 (l3 + (1 : Int32))).bind fun v5 =>
      (gv_wI h v3 l3 v5).bind fun h6 =>
      (gv_gR h6 l0 2 2).bind fun v7 =>
      (gv_lI h6 v7 (l3 + (1 : Int32))).bind fun v8 =>
      (gv_gR h6 l0 2 3).bind fun v9 =>
      (gv_lI h6 v9 (l3 + (1 : Int32))).bind fun v10 =>
      (gv_is h6 l0 2).bind fun i11 =>
      (cT_setValue l0 l3 v8 v10 h6).bind fun h13 =>
      cT_dropProperty_16 n l0 (l3 + 1) h13) else
    (gv_gI h l0 2 5).bind fun v14 =>
    (gv_pV h l0 2 5 (.int (v14 - (1 : Int32)))).bind fun h15 =>
    some ((1 : Int32), h15)
theorem cT_dropProperty_16_ok {xs : Option (List Int32)} : ∀ (n : Nat) (l0 : Option Nat) (l3 : Int32) (h : gx_H) (r : (Int32 × gx_H)), cT_dropProperty_16 n l0 l3 h = some r → gv_V xs 1 52 16 [(0, gv_u l0), (3, .int l3)] [] h (.returned (some (.int r.1))) r.2 := by
  intro n
  induction n with
  | zero => intro l0 l3 h r e; cases e
  | succ n ih =>
    intro l0 l3 h r e
    rw [cT_dropProperty_16] at e
    refine gv_ildn (pc' := 17) rfl rfl rfl ?_
    refine gv_ic (pc' := 18) (x := 1) rfl rfl rfl ?_
    refine gv_iadd (pc' := 19) rfl rfl ?_
    refine gv_rldn (pc' := 20) rfl rfl rfl ?_
    obtain ⟨v1, qv1, e⟩ := gv_bind e
    refine gv_fI (pc' := 23) rfl rfl qv1 rfl ?_
    by_cases c2 : (l3 + (1 : Int32)) < v1
    · rw [if_pos c2] at e
      refine gv_cmF (pc' := 26) rfl (gv_geF2 c2) rfl rfl ?_
      refine gv_rldn (pc' := 27) rfl rfl rfl ?_
      obtain ⟨v3, qv3, e⟩ := gv_bind e
      refine gv_fR (pc' := 30) rfl rfl qv3 rfl ?_
      refine gv_ildn (pc' := 31) rfl rfl rfl ?_
      refine gv_rldn (pc' := 32) rfl rfl rfl ?_
      obtain ⟨v4, qv4, e⟩ := gv_bind e
      refine gv_fR (pc' := 35) rfl rfl qv4 rfl ?_
      refine gv_ildn (pc' := 36) rfl rfl rfl ?_
      refine gv_ic (pc' := 37) (x := 1) rfl rfl rfl ?_
      refine gv_iadd (pc' := 38) rfl rfl ?_
      obtain ⟨v5, qv5, e⟩ := gv_bind e
      refine gv_iald (pc' := 39) rfl qv5 rfl ?_
      obtain ⟨h6, qh6, e⟩ := gv_bind e
      refine gv_iast (pc' := 40) rfl qh6 rfl ?_
      refine gv_rldn (pc' := 41) rfl rfl rfl ?_
      refine gv_ildn (pc' := 42) rfl rfl rfl ?_
      refine gv_rldn (pc' := 43) rfl rfl rfl ?_
      obtain ⟨v7, qv7, e⟩ := gv_bind e
      refine gv_fR (pc' := 46) rfl rfl qv7 rfl ?_
      refine gv_ildn (pc' := 47) rfl rfl rfl ?_
      refine gv_ic (pc' := 48) (x := 1) rfl rfl rfl ?_
      refine gv_iadd (pc' := 49) rfl rfl ?_
      obtain ⟨v8, qv8, e⟩ := gv_bind e
      refine gv_iald (pc' := 50) rfl qv8 rfl ?_
      refine gv_rldn (pc' := 51) rfl rfl rfl ?_
      obtain ⟨v9, qv9, e⟩ := gv_bind e
      refine gv_fR (pc' := 54) rfl rfl qv9 rfl ?_
      refine gv_ildn (pc' := 55) rfl rfl rfl ?_
      refine gv_ic (pc' := 56) (x := 1) rfl rfl rfl ?_
      refine gv_iadd (pc' := 57) rfl rfl ?_
      obtain ⟨v10, qv10, e⟩ := gv_bind e
      refine gv_iald (pc' := 58) rfl qv10 rfl ?_
      obtain ⟨i11, qi11, e⟩ := gv_bind e
      obtain ⟨h13, qv12, e⟩ := gv_bind e
      refine gv_vS (jc := 44) (n := 3) (rest := []) (stk := []) (pc' := 61) rfl rfl rfl rfl rfl rfl rfl rfl rfl (gv_zR (gv_zI (gv_zI (gv_zI gv_z0)))) rfl (gv_aR (gv_aI (gv_aI (gv_aI gv_a0)))) (Nat.le_of_ble_eq_true rfl) qi11 (cT_setValue_ok qv12) rfl rfl ?_
      refine gv_inc (pc' := 64) (y := 1) rfl rfl rfl rfl (gv_Cn rfl) rfl ?_
      refine gv_goto (pc' := 16) rfl rfl ?_
      exact gv_weak (ih _ _ _ _ e) (gv_S1 rfl (gv_S1 rfl gv_S0))
    rw [if_neg c2] at e
    refine gv_cmT (pc' := 67) rfl (gv_geT2 c2) rfl ?_
    refine gv_rldn (pc' := 68) rfl rfl rfl ?_
    refine gv_dup (pc' := 69) rfl (gv_u_cat _) rfl ?_
    obtain ⟨v14, qv14, e⟩ := gv_bind e
    refine gv_fI (pc' := 72) rfl rfl qv14 rfl ?_
    refine gv_ic (pc' := 73) (x := 1) rfl rfl rfl ?_
    refine gv_isub (pc' := 74) rfl rfl ?_
    obtain ⟨h15, qh15, e⟩ := gv_bind e
    refine gv_pI (pc' := 77) rfl rfl rfl qh15 rfl ?_
    refine gv_ic (pc' := 78) (x := 1) rfl rfl rfl ?_
    cases e
    exact gv_retZ rfl rfl (by decide)
def cT_dropProperty (l0 : Option Nat) (l1 : Int32) (h : gx_H) : Option (Int32 × gx_H) :=
  (gv_is h l0 2).bind fun i1 =>
  (cT_indexOfKey l0 (4 : Int32) l1 h).bind fun v2 =>
  if v2 = (-1 : Int32) then (
    some ((0 : Int32), h)) else
  cT_dropProperty_16 1000000000000000 l0 v2 h
theorem cT_dropProperty_ok {xs : Option (List Int32)} {l0 : Option Nat} {l1 : Int32} {h : gx_H} {r : (Int32 × gx_H)} (e : cT_dropProperty l0 l1 h = some r) : gv_V xs 1 52 0 [(0, gv_u l0), (1, .int l1)] [] h (.returned (some (.int r.1))) r.2 := by
  unfold cT_dropProperty at e
  refine gv_rldn (pc' := 1) rfl rfl rfl ?_
  refine gv_ic (pc' := 2) (x := 4) rfl rfl rfl ?_
  refine gv_ildn (pc' := 3) rfl rfl rfl ?_
  obtain ⟨i1, qi1, e⟩ := gv_bind e
  obtain ⟨v2, qv2, e⟩ := gv_bind e
  refine gv_vS (jc := 47) (n := 2) (rest := []) (stk := [.int v2]) (pc' := 6) rfl rfl rfl rfl rfl rfl rfl rfl rfl (gv_zR (gv_zI (gv_zI gv_z0))) rfl (gv_aR (gv_aI (gv_aI gv_a0))) (Nat.le_of_ble_eq_true rfl) qi1 (cT_indexOfKey_ok qv2) rfl rfl ?_
  refine gv_istn (pc' := 7) rfl rfl (gv_Ci rfl) rfl ?_
  refine gv_ildn (pc' := 8) rfl rfl rfl ?_
  refine gv_ic (pc' := 9) (x := -1) rfl rfl rfl ?_
  by_cases c3 : v2 = (-1 : Int32)
  · rw [if_pos c3] at e
    refine gv_cmF (pc' := 12) rfl (gv_neF2 c3) rfl rfl ?_
    refine gv_ic (pc' := 13) (x := 0) rfl rfl rfl ?_
    cases e
    exact gv_retZ rfl rfl (by decide)
  rw [if_neg c3] at e
  refine gv_cmT (pc' := 14) rfl (gv_neT2 c3) rfl ?_
  refine gv_ildn (pc' := 15) rfl rfl rfl ?_
  refine gv_istn (pc' := 16) rfl rfl (gv_Ci rfl) rfl ?_
  exact gv_weak (cT_dropProperty_16_ok 1000000000000000 _ _ _ _ e) (gv_S1 rfl (gv_S1 rfl gv_S0))
def cT_makeHole (l0 : Option Nat) (l1 : Int32) (h : gx_H) : Option (Int32 × gx_H) :=
  if l1 < 0 then (
    some ((0 : Int32), h)) else
  (gv_gI h l0 2 5).bind fun v2 =>
  if l1 < v2 then (
    (gv_is h l0 2).bind fun i4 =>
    (cT_setValue l0 l1 (-1 : Int32) (0 : Int32) h).bind fun h6 =>
    some ((1 : Int32), h6)) else
  some ((0 : Int32), h)
theorem cT_makeHole_ok {xs : Option (List Int32)} {l0 : Option Nat} {l1 : Int32} {h : gx_H} {r : (Int32 × gx_H)} (e : cT_makeHole l0 l1 h = some r) : gv_V xs 1 53 0 [(0, gv_u l0), (1, .int l1)] [] h (.returned (some (.int r.1))) r.2 := by
  unfold cT_makeHole at e
  refine gv_ildn (pc' := 1) rfl rfl rfl ?_
  by_cases c1 : l1 < 0
  · rw [if_pos c1] at e
    refine gv_ifT (pc' := 12) rfl (gv_ltT c1) rfl ?_
    refine gv_ic (pc' := 13) (x := 0) rfl rfl rfl ?_
    cases e
    exact gv_retZ rfl rfl (by decide)
  rw [if_neg c1] at e
  refine gv_ifF (pc' := 4) rfl (gv_ltF c1) rfl rfl ?_
  refine gv_ildn (pc' := 5) rfl rfl rfl ?_
  refine gv_rldn (pc' := 6) rfl rfl rfl ?_
  obtain ⟨v2, qv2, e⟩ := gv_bind e
  refine gv_fI (pc' := 9) rfl rfl qv2 rfl ?_
  by_cases c3 : l1 < v2
  · rw [if_pos c3] at e
    refine gv_cmT (pc' := 14) rfl (gv_ltT2 c3) rfl ?_
    refine gv_rldn (pc' := 15) rfl rfl rfl ?_
    refine gv_ildn (pc' := 16) rfl rfl rfl ?_
    refine gv_ic (pc' := 17) (x := -1) rfl rfl rfl ?_
    refine gv_ic (pc' := 18) (x := 0) rfl rfl rfl ?_
    obtain ⟨i4, qi4, e⟩ := gv_bind e
    obtain ⟨h6, qv5, e⟩ := gv_bind e
    refine gv_vS (jc := 44) (n := 3) (rest := []) (stk := []) (pc' := 21) rfl rfl rfl rfl rfl rfl rfl rfl rfl (gv_zR (gv_zI (gv_zI (gv_zI gv_z0)))) rfl (gv_aR (gv_aI (gv_aI (gv_aI gv_a0)))) (Nat.le_of_ble_eq_true rfl) qi4 (cT_setValue_ok qv5) rfl rfl ?_
    refine gv_ic (pc' := 22) (x := 1) rfl rfl rfl ?_
    cases e
    exact gv_retZ rfl rfl (by decide)
  rw [if_neg c3] at e
  refine gv_cmF (pc' := 12) rfl (gv_ltF2 c3) rfl rfl ?_
  refine gv_ic (pc' := 13) (x := 0) rfl rfl rfl ?_
  cases e
  exact gv_retZ rfl rfl (by decide)
def cT_setEntry_56 (l0 : Option Nat) (l3 : Int32) (l4 : Int32) (l5 : Int32) (h : gx_H) : Option (Int32 × gx_H) :=
  (gv_is h l0 2).bind fun i1 =>
  (cT_setValue l0 l5 l3 l4 h).bind fun h3 =>
  some ((1 : Int32), h3)
theorem cT_setEntry_56_ok {xs : Option (List Int32)} {l0 : Option Nat} {l3 : Int32} {l4 : Int32} {l5 : Int32} {h : gx_H} {r : (Int32 × gx_H)} (e : cT_setEntry_56 l0 l3 l4 l5 h = some r) : gv_V xs 1 56 56 [(0, gv_u l0), (3, .int l3), (4, .int l4), (5, .int l5)] [] h (.returned (some (.int r.1))) r.2 := by
  unfold cT_setEntry_56 at e
  refine gv_rldn (pc' := 57) rfl rfl rfl ?_
  refine gv_ild (pc' := 59) rfl rfl rfl ?_
  refine gv_ildn (pc' := 60) rfl rfl rfl ?_
  refine gv_ild (pc' := 62) rfl rfl rfl ?_
  obtain ⟨i1, qi1, e⟩ := gv_bind e
  obtain ⟨h3, qv2, e⟩ := gv_bind e
  refine gv_vS (jc := 44) (n := 3) (rest := []) (stk := []) (pc' := 65) rfl rfl rfl rfl rfl rfl rfl rfl rfl (gv_zR (gv_zI (gv_zI (gv_zI gv_z0)))) rfl (gv_aR (gv_aI (gv_aI (gv_aI gv_a0)))) (Nat.le_of_ble_eq_true rfl) qi1 (cT_setValue_ok qv2) rfl rfl ?_
  refine gv_ic (pc' := 66) (x := 1) rfl rfl rfl ?_
  cases e
  exact gv_retZ rfl rfl (by decide)
def cT_setEntry (l0 : Option Nat) (l1 : Int32) (l2 : Int32) (l3 : Int32) (l4 : Int32) (h : gx_H) : Option (Int32 × gx_H) :=
  (gv_is h l0 2).bind fun i1 =>
  (cT_indexOfKey l0 l1 l2 h).bind fun v2 =>
  if v2 = (-1 : Int32) then (
    (gv_gI h l0 2 5).bind fun v4 =>
    if v4 < (4 : Int32) then (
      (gv_gI h l0 2 5).bind fun v6 =>
      (gv_gR h l0 2 0).bind fun v7 =>
      (gv_wI h v7 v6 l1).bind fun h8 =>
      (gv_gR h8 l0 2 1).bind fun v9 =>
      (gv_wI h8 v9 v6 l2).bind fun h10 =>
      (gv_gI h10 l0 2 5).bind fun v11 =>
      (gv_pV h10 l0 2 5 (.int (v11 + (1 : Int32)))).bind fun h12 =>
      cT_setEntry_56 l0 l3 l4 v6 h12) else
    some ((0 : Int32), h)) else
  cT_setEntry_56 l0 l3 l4 v2 h
theorem cT_setEntry_ok {xs : Option (List Int32)} {l0 : Option Nat} {l1 : Int32} {l2 : Int32} {l3 : Int32} {l4 : Int32} {h : gx_H} {r : (Int32 × gx_H)} (e : cT_setEntry l0 l1 l2 l3 l4 h = some r) : gv_V xs 1 56 0 [(0, gv_u l0), (1, .int l1), (2, .int l2), (3, .int l3), (4, .int l4)] [] h (.returned (some (.int r.1))) r.2 := by
  unfold cT_setEntry at e
  refine gv_rldn (pc' := 1) rfl rfl rfl ?_
  refine gv_ildn (pc' := 2) rfl rfl rfl ?_
  refine gv_ildn (pc' := 3) rfl rfl rfl ?_
  obtain ⟨i1, qi1, e⟩ := gv_bind e
  obtain ⟨v2, qv2, e⟩ := gv_bind e
  refine gv_vS (jc := 47) (n := 2) (rest := []) (stk := [.int v2]) (pc' := 6) rfl rfl rfl rfl rfl rfl rfl rfl rfl (gv_zR (gv_zI (gv_zI gv_z0))) rfl (gv_aR (gv_aI (gv_aI gv_a0))) (Nat.le_of_ble_eq_true rfl) qi1 (cT_indexOfKey_ok qv2) rfl rfl ?_
  refine gv_ist (pc' := 8) rfl rfl (gv_Ci rfl) rfl ?_
  refine gv_ild (pc' := 10) rfl rfl rfl ?_
  refine gv_ic (pc' := 11) (x := -1) rfl rfl rfl ?_
  by_cases c3 : v2 = (-1 : Int32)
  · rw [if_pos c3] at e
    refine gv_cmF (pc' := 14) rfl (gv_neF2 c3) rfl rfl ?_
    refine gv_rldn (pc' := 15) rfl rfl rfl ?_
    obtain ⟨v4, qv4, e⟩ := gv_bind e
    refine gv_fI (pc' := 18) rfl rfl qv4 rfl ?_
    refine gv_ic (pc' := 19) (x := 4) rfl rfl rfl ?_
    by_cases c5 : v4 < (4 : Int32)
    · rw [if_pos c5] at e
      refine gv_cmT (pc' := 24) rfl (gv_ltT2 c5) rfl ?_
      refine gv_rldn (pc' := 25) rfl rfl rfl ?_
      obtain ⟨v6, qv6, e⟩ := gv_bind e
      refine gv_fI (pc' := 28) rfl rfl qv6 rfl ?_
      refine gv_ist (pc' := 30) rfl rfl (gv_Ci rfl) rfl ?_
      refine gv_rldn (pc' := 31) rfl rfl rfl ?_
      obtain ⟨v7, qv7, e⟩ := gv_bind e
      refine gv_fR (pc' := 34) rfl rfl qv7 rfl ?_
      refine gv_ild (pc' := 36) rfl rfl rfl ?_
      refine gv_ildn (pc' := 37) rfl rfl rfl ?_
      obtain ⟨h8, qh8, e⟩ := gv_bind e
      refine gv_iast (pc' := 38) rfl qh8 rfl ?_
      refine gv_rldn (pc' := 39) rfl rfl rfl ?_
      obtain ⟨v9, qv9, e⟩ := gv_bind e
      refine gv_fR (pc' := 42) rfl rfl qv9 rfl ?_
      refine gv_ild (pc' := 44) rfl rfl rfl ?_
      refine gv_ildn (pc' := 45) rfl rfl rfl ?_
      obtain ⟨h10, qh10, e⟩ := gv_bind e
      refine gv_iast (pc' := 46) rfl qh10 rfl ?_
      refine gv_rldn (pc' := 47) rfl rfl rfl ?_
      refine gv_dup (pc' := 48) rfl (gv_u_cat _) rfl ?_
      obtain ⟨v11, qv11, e⟩ := gv_bind e
      refine gv_fI (pc' := 51) rfl rfl qv11 rfl ?_
      refine gv_ic (pc' := 52) (x := 1) rfl rfl rfl ?_
      refine gv_iadd (pc' := 53) rfl rfl ?_
      obtain ⟨h12, qh12, e⟩ := gv_bind e
      refine gv_pI (pc' := 56) rfl rfl rfl qh12 rfl ?_
      exact gv_weak (cT_setEntry_56_ok e) (gv_S1 rfl (gv_S1 rfl (gv_S1 rfl (gv_S1 rfl gv_S0))))
    rw [if_neg c5] at e
    refine gv_cmF (pc' := 22) rfl (gv_ltF2 c5) rfl rfl ?_
    refine gv_ic (pc' := 23) (x := 0) rfl rfl rfl ?_
    cases e
    exact gv_retZ rfl rfl (by decide)
  rw [if_neg c3] at e
  refine gv_cmT (pc' := 56) rfl (gv_neT2 c3) rfl ?_
  exact gv_weak (cT_setEntry_56_ok e) (gv_S1 rfl (gv_S1 rfl (gv_S1 rfl (gv_S1 rfl gv_S0))))
def cT_hasMember_32 (rec2 : Option Nat → Int32 → Int32 → Int32 → gx_H → Option Int32) (l0 : Option Nat) (l1 : Int32) (l2 : Int32) (l3 : Int32) (h : gx_H) : Option Int32 :=
  rec2 l0 l1 l2 (l3 + 1) h
theorem cT_hasMember_32_ok {xs : Option (List Int32)} {rec2 : Option Nat → Int32 → Int32 → Int32 → gx_H → Option Int32} (hrec2 : ∀ (l0 : Option Nat) (l1 : Int32) (l2 : Int32) (l3 : Int32) (h : gx_H) (r : Int32), rec2 l0 l1 l2 l3 h = some r → gv_V xs 0 59 2 [(0, gv_u l0), (1, .int l1), (2, .int l2), (3, .int l3)] [] h (.returned (some (.int r))) h) {l0 : Option Nat} {l1 : Int32} {l2 : Int32} {l3 : Int32} {h : gx_H} {r : Int32} (e : cT_hasMember_32 rec2 l0 l1 l2 l3 h = some r) : gv_V xs 0 59 32 [(0, gv_u l0), (1, .int l1), (2, .int l2), (3, .int l3)] [] h (.returned (some (.int r))) h := by
  unfold cT_hasMember_32 at e
  refine gv_inc (pc' := 35) (y := 1) rfl rfl rfl rfl (gv_Ci rfl) rfl ?_
  refine gv_goto (pc' := 2) rfl rfl ?_
  exact gv_weak (hrec2 _ _ _ _ _ _ e) (gv_S1 rfl (gv_S1 rfl (gv_S1 rfl (gv_S1 rfl gv_S0))))
def cT_hasMember_2 : Nat → Option Nat → Int32 → Int32 → Int32 → gx_H → Option Int32
  | 0, _, _, _, _, _ => none
  | n + 1, l0, l1, l2, l3, h =>
    (gv_gI h l0 2 5).bind fun v1 =>
    if l3 < v1 then (
      (gv_gR h l0 2 2).bind fun v3 =>
      (gv_lI h v3 l3).bind fun v4 =>
      if v4 = l1 then (
        (gv_gR h l0 2 3).bind fun v6 =>
        (gv_lI h v6 l3).bind fun v7 =>
        if v7 = l2 then (
          some (1 : Int32)) else
        cT_hasMember_32 (cT_hasMember_2 n) l0 l1 l2 l3 h) else
      cT_hasMember_32 (cT_hasMember_2 n) l0 l1 l2 l3 h) else
    some (0 : Int32)
theorem cT_hasMember_2_ok {xs : Option (List Int32)} : ∀ (n : Nat) (l0 : Option Nat) (l1 : Int32) (l2 : Int32) (l3 : Int32) (h : gx_H) (r : Int32), cT_hasMember_2 n l0 l1 l2 l3 h = some r → gv_V xs 0 59 2 [(0, gv_u l0), (1, .int l1), (2, .int l2), (3, .int l3)] [] h (.returned (some (.int r))) h := by
  intro n
  induction n with
  | zero => intro l0 l1 l2 l3 h r e; cases e
  | succ n ih =>
    intro l0 l1 l2 l3 h r e
    rw [cT_hasMember_2] at e
    refine gv_ildn (pc' := 3) rfl rfl rfl ?_
    refine gv_rldn (pc' := 4) rfl rfl rfl ?_
    obtain ⟨v1, qv1, e⟩ := gv_bind e
    refine gv_fI (pc' := 7) rfl rfl qv1 rfl ?_
    by_cases c2 : l3 < v1
    · rw [if_pos c2] at e
      refine gv_cmF (pc' := 10) rfl (gv_geF2 c2) rfl rfl ?_
      refine gv_rldn (pc' := 11) rfl rfl rfl ?_
      obtain ⟨v3, qv3, e⟩ := gv_bind e
      refine gv_fR (pc' := 14) rfl rfl qv3 rfl ?_
      refine gv_ildn (pc' := 15) rfl rfl rfl ?_
      obtain ⟨v4, qv4, e⟩ := gv_bind e
      refine gv_iald (pc' := 16) rfl qv4 rfl ?_
      refine gv_ildn (pc' := 17) rfl rfl rfl ?_
      by_cases c5 : v4 = l1
      · rw [if_pos c5] at e
        refine gv_cmF (pc' := 20) rfl (gv_neF2 c5) rfl rfl ?_
        refine gv_rldn (pc' := 21) rfl rfl rfl ?_
        obtain ⟨v6, qv6, e⟩ := gv_bind e
        refine gv_fR (pc' := 24) rfl rfl qv6 rfl ?_
        refine gv_ildn (pc' := 25) rfl rfl rfl ?_
        obtain ⟨v7, qv7, e⟩ := gv_bind e
        refine gv_iald (pc' := 26) rfl qv7 rfl ?_
        refine gv_ildn (pc' := 27) rfl rfl rfl ?_
        by_cases c8 : v7 = l2
        · rw [if_pos c8] at e
          refine gv_cmF (pc' := 30) rfl (gv_neF2 c8) rfl rfl ?_
          refine gv_ic (pc' := 31) (x := 1) rfl rfl rfl ?_
          cases e
          exact gv_retZ rfl rfl (by decide)
        rw [if_neg c8] at e
        refine gv_cmT (pc' := 32) rfl (gv_neT2 c8) rfl ?_
        exact gv_weak (cT_hasMember_32_ok ih e) (gv_S1 rfl (gv_S1 rfl (gv_S1 rfl (gv_S1 rfl gv_S0))))
      rw [if_neg c5] at e
      refine gv_cmT (pc' := 32) rfl (gv_neT2 c5) rfl ?_
      exact gv_weak (cT_hasMember_32_ok ih e) (gv_S1 rfl (gv_S1 rfl (gv_S1 rfl (gv_S1 rfl gv_S0))))
    rw [if_neg c2] at e
    refine gv_cmT (pc' := 38) rfl (gv_geT2 c2) rfl ?_
    refine gv_ic (pc' := 39) (x := 0) rfl rfl rfl ?_
    cases e
    exact gv_retZ rfl rfl (by decide)
def cT_hasMember (l0 : Option Nat) (l1 : Int32) (l2 : Int32) (h : gx_H) : Option Int32 :=
  cT_hasMember_2 1000000000000000 l0 l1 l2 (0 : Int32) h
theorem cT_hasMember_ok {xs : Option (List Int32)} {l0 : Option Nat} {l1 : Int32} {l2 : Int32} {h : gx_H} {r : Int32} (e : cT_hasMember l0 l1 l2 h = some r) : gv_V xs 0 59 0 [(0, gv_u l0), (1, .int l1), (2, .int l2)] [] h (.returned (some (.int r))) h := by
  unfold cT_hasMember at e
  refine gv_ic (pc' := 1) (x := 0) rfl rfl rfl ?_
  refine gv_istn (pc' := 2) rfl rfl (gv_Ci rfl) rfl ?_
  exact gv_weak (cT_hasMember_2_ok 1000000000000000 _ _ _ _ _ _ e) (gv_S1 rfl (gv_S1 rfl (gv_S1 rfl (gv_S1 rfl gv_S0))))
def cT_appendMember (l0 : Option Nat) (l1 : Int32) (l2 : Int32) (h : gx_H) : Option (Int32 × gx_H) :=
  (gv_gI h l0 2 5).bind fun v1 =>
  if v1 < (5 : Int32) then (
    (gv_gI h l0 2 5).bind fun v3 =>
    (gv_is h l0 2).bind fun i4 =>
    (cT_setValue l0 v3 l1 l2 h).bind fun h6 =>
    (gv_gI h6 l0 2 5).bind fun v7 =>
    (gv_pV h6 l0 2 5 (.int (v7 + (1 : Int32)))).bind fun h8 =>
    some ((1 : Int32), h8)) else
  some ((0 : Int32), h)
theorem cT_appendMember_ok {xs : Option (List Int32)} {l0 : Option Nat} {l1 : Int32} {l2 : Int32} {h : gx_H} {r : (Int32 × gx_H)} (e : cT_appendMember l0 l1 l2 h = some r) : gv_V xs 1 60 0 [(0, gv_u l0), (1, .int l1), (2, .int l2)] [] h (.returned (some (.int r.1))) r.2 := by
  unfold cT_appendMember at e
  refine gv_rldn (pc' := 1) rfl rfl rfl ?_
  obtain ⟨v1, qv1, e⟩ := gv_bind e
  refine gv_fI (pc' := 4) rfl rfl qv1 rfl ?_
  refine gv_ic (pc' := 5) (x := 5) rfl rfl rfl ?_
  by_cases c2 : v1 < (5 : Int32)
  · rw [if_pos c2] at e
    refine gv_cmT (pc' := 10) rfl (gv_ltT2 c2) rfl ?_
    refine gv_rldn (pc' := 11) rfl rfl rfl ?_
    refine gv_rldn (pc' := 12) rfl rfl rfl ?_
    obtain ⟨v3, qv3, e⟩ := gv_bind e
    refine gv_fI (pc' := 15) rfl rfl qv3 rfl ?_
    refine gv_ildn (pc' := 16) rfl rfl rfl ?_
    refine gv_ildn (pc' := 17) rfl rfl rfl ?_
    obtain ⟨i4, qi4, e⟩ := gv_bind e
    obtain ⟨h6, qv5, e⟩ := gv_bind e
    refine gv_vS (jc := 44) (n := 3) (rest := []) (stk := []) (pc' := 20) rfl rfl rfl rfl rfl rfl rfl rfl rfl (gv_zR (gv_zI (gv_zI (gv_zI gv_z0)))) rfl (gv_aR (gv_aI (gv_aI (gv_aI gv_a0)))) (Nat.le_of_ble_eq_true rfl) qi4 (cT_setValue_ok qv5) rfl rfl ?_
    refine gv_rldn (pc' := 21) rfl rfl rfl ?_
    refine gv_dup (pc' := 22) rfl (gv_u_cat _) rfl ?_
    obtain ⟨v7, qv7, e⟩ := gv_bind e
    refine gv_fI (pc' := 25) rfl rfl qv7 rfl ?_
    refine gv_ic (pc' := 26) (x := 1) rfl rfl rfl ?_
    refine gv_iadd (pc' := 27) rfl rfl ?_
    obtain ⟨h8, qh8, e⟩ := gv_bind e
    refine gv_pI (pc' := 30) rfl rfl rfl qh8 rfl ?_
    refine gv_ic (pc' := 31) (x := 1) rfl rfl rfl ?_
    cases e
    exact gv_retZ rfl rfl (by decide)
  rw [if_neg c2] at e
  refine gv_cmF (pc' := 8) rfl (gv_ltF2 c2) rfl rfl ?_
  refine gv_ic (pc' := 9) (x := 0) rfl rfl rfl ?_
  cases e
  exact gv_retZ rfl rfl (by decide)
def cT_hasPart (l0 : Option Nat) (l1 : Int32) (l2 : Int32) (h : gx_H) : Option Int32 :=
  if l2 < 0 then (
    some (0 : Int32)) else
  if (3 : Int32) < l2 then (
    some (0 : Int32)) else
  if l1 < 0 then (
    some (0 : Int32)) else
  (gv_gI h l0 2 4).bind fun v4 =>
  if v4 = (5 : Int32) then (
    if l1 = 0 then (
      some (1 : Int32)) else
    some (0 : Int32)) else
  (gv_gI h l0 2 4).bind fun v7 =>
  if v7 = (6 : Int32) then (
    if l1 = 0 then (
      if l2 = 0 then (
        some (1 : Int32)) else
      some (0 : Int32)) else
    some (0 : Int32)) else
  (gv_gI h l0 2 6).bind fun v11 =>
  if v11 = 0 then (
    (gv_gI h l0 2 5).bind fun v13 =>
    if l1 < v13 then (
      if l2 < (3 : Int32) then (
        some (1 : Int32)) else
      (gv_gI h l0 2 4).bind fun v16 =>
      if v16 = (2 : Int32) then (
        some (1 : Int32)) else
      some (0 : Int32)) else
    some (0 : Int32)) else
  some (0 : Int32)
theorem cT_hasPart_ok {xs : Option (List Int32)} {l0 : Option Nat} {l1 : Int32} {l2 : Int32} {h : gx_H} {r : Int32} (e : cT_hasPart l0 l1 l2 h = some r) : gv_V xs 0 63 0 [(0, gv_u l0), (1, .int l1), (2, .int l2)] [] h (.returned (some (.int r))) h := by
  unfold cT_hasPart at e
  refine gv_ildn (pc' := 1) rfl rfl rfl ?_
  by_cases c1 : l2 < 0
  · rw [if_pos c1] at e
    refine gv_ifT (pc' := 13) rfl (gv_ltT c1) rfl ?_
    refine gv_ic (pc' := 14) (x := 0) rfl rfl rfl ?_
    cases e
    exact gv_retZ rfl rfl (by decide)
  rw [if_neg c1] at e
  refine gv_ifF (pc' := 4) rfl (gv_ltF c1) rfl rfl ?_
  refine gv_ildn (pc' := 5) rfl rfl rfl ?_
  refine gv_ic (pc' := 6) (x := 3) rfl rfl rfl ?_
  by_cases c2 : (3 : Int32) < l2
  · rw [if_pos c2] at e
    refine gv_cmT (pc' := 13) rfl (gv_gtT2 c2) rfl ?_
    refine gv_ic (pc' := 14) (x := 0) rfl rfl rfl ?_
    cases e
    exact gv_retZ rfl rfl (by decide)
  rw [if_neg c2] at e
  refine gv_cmF (pc' := 9) rfl (gv_gtF2 c2) rfl rfl ?_
  refine gv_ildn (pc' := 10) rfl rfl rfl ?_
  by_cases c3 : l1 < 0
  · rw [if_pos c3] at e
    refine gv_ifF (pc' := 13) rfl (gv_geF c3) rfl rfl ?_
    refine gv_ic (pc' := 14) (x := 0) rfl rfl rfl ?_
    cases e
    exact gv_retZ rfl rfl (by decide)
  rw [if_neg c3] at e
  refine gv_ifT (pc' := 15) rfl (gv_geT c3) rfl ?_
  refine gv_rldn (pc' := 16) rfl rfl rfl ?_
  obtain ⟨v4, qv4, e⟩ := gv_bind e
  refine gv_fI (pc' := 19) rfl rfl qv4 rfl ?_
  refine gv_ic (pc' := 20) (x := 5) rfl rfl rfl ?_
  by_cases c5 : v4 = (5 : Int32)
  · rw [if_pos c5] at e
    refine gv_cmF (pc' := 23) rfl (gv_neF2 c5) rfl rfl ?_
    refine gv_ildn (pc' := 24) rfl rfl rfl ?_
    by_cases c6 : l1 = 0
    · rw [if_pos c6] at e
      refine gv_ifF (pc' := 27) rfl (gv_neF c6) rfl rfl ?_
      refine gv_ic (pc' := 28) (x := 1) rfl rfl rfl ?_
      refine gv_goto (pc' := 32) rfl rfl ?_
      cases e
      exact gv_retZ rfl rfl (by decide)
    rw [if_neg c6] at e
    refine gv_ifT (pc' := 31) rfl (gv_neT c6) rfl ?_
    refine gv_ic (pc' := 32) (x := 0) rfl rfl rfl ?_
    cases e
    exact gv_retZ rfl rfl (by decide)
  rw [if_neg c5] at e
  refine gv_cmT (pc' := 33) rfl (gv_neT2 c5) rfl ?_
  refine gv_rldn (pc' := 34) rfl rfl rfl ?_
  obtain ⟨v7, qv7, e⟩ := gv_bind e
  refine gv_fI (pc' := 37) rfl rfl qv7 rfl ?_
  refine gv_bp (pc' := 39) (x := 6) rfl rfl rfl ?_
  by_cases c8 : v7 = (6 : Int32)
  · rw [if_pos c8] at e
    refine gv_cmF (pc' := 42) rfl (gv_neF2 c8) rfl rfl ?_
    refine gv_ildn (pc' := 43) rfl rfl rfl ?_
    by_cases c9 : l1 = 0
    · rw [if_pos c9] at e
      refine gv_ifF (pc' := 46) rfl (gv_neF c9) rfl rfl ?_
      refine gv_ildn (pc' := 47) rfl rfl rfl ?_
      by_cases c10 : l2 = 0
      · rw [if_pos c10] at e
        refine gv_ifF (pc' := 50) rfl (gv_neF c10) rfl rfl ?_
        refine gv_ic (pc' := 51) (x := 1) rfl rfl rfl ?_
        refine gv_goto (pc' := 55) rfl rfl ?_
        cases e
        exact gv_retZ rfl rfl (by decide)
      rw [if_neg c10] at e
      refine gv_ifT (pc' := 54) rfl (gv_neT c10) rfl ?_
      refine gv_ic (pc' := 55) (x := 0) rfl rfl rfl ?_
      cases e
      exact gv_retZ rfl rfl (by decide)
    rw [if_neg c9] at e
    refine gv_ifT (pc' := 54) rfl (gv_neT c9) rfl ?_
    refine gv_ic (pc' := 55) (x := 0) rfl rfl rfl ?_
    cases e
    exact gv_retZ rfl rfl (by decide)
  rw [if_neg c8] at e
  refine gv_cmT (pc' := 56) rfl (gv_neT2 c8) rfl ?_
  refine gv_rldn (pc' := 57) rfl rfl rfl ?_
  obtain ⟨v11, qv11, e⟩ := gv_bind e
  refine gv_fI (pc' := 60) rfl rfl qv11 rfl ?_
  by_cases c12 : v11 = 0
  · rw [if_pos c12] at e
    refine gv_ifF (pc' := 63) rfl (gv_neF c12) rfl rfl ?_
    refine gv_ildn (pc' := 64) rfl rfl rfl ?_
    refine gv_rldn (pc' := 65) rfl rfl rfl ?_
    obtain ⟨v13, qv13, e⟩ := gv_bind e
    refine gv_fI (pc' := 68) rfl rfl qv13 rfl ?_
    by_cases c14 : l1 < v13
    · rw [if_pos c14] at e
      refine gv_cmF (pc' := 71) rfl (gv_geF2 c14) rfl rfl ?_
      refine gv_ildn (pc' := 72) rfl rfl rfl ?_
      refine gv_ic (pc' := 73) (x := 3) rfl rfl rfl ?_
      by_cases c15 : l2 < (3 : Int32)
      · rw [if_pos c15] at e
        refine gv_cmT (pc' := 84) rfl (gv_ltT2 c15) rfl ?_
        refine gv_ic (pc' := 85) (x := 1) rfl rfl rfl ?_
        refine gv_goto (pc' := 89) rfl rfl ?_
        cases e
        exact gv_retZ rfl rfl (by decide)
      rw [if_neg c15] at e
      refine gv_cmF (pc' := 76) rfl (gv_ltF2 c15) rfl rfl ?_
      refine gv_rldn (pc' := 77) rfl rfl rfl ?_
      obtain ⟨v16, qv16, e⟩ := gv_bind e
      refine gv_fI (pc' := 80) rfl rfl qv16 rfl ?_
      refine gv_ic (pc' := 81) (x := 2) rfl rfl rfl ?_
      by_cases c17 : v16 = (2 : Int32)
      · rw [if_pos c17] at e
        refine gv_cmF (pc' := 84) rfl (gv_neF2 c17) rfl rfl ?_
        refine gv_ic (pc' := 85) (x := 1) rfl rfl rfl ?_
        refine gv_goto (pc' := 89) rfl rfl ?_
        cases e
        exact gv_retZ rfl rfl (by decide)
      rw [if_neg c17] at e
      refine gv_cmT (pc' := 88) rfl (gv_neT2 c17) rfl ?_
      refine gv_ic (pc' := 89) (x := 0) rfl rfl rfl ?_
      cases e
      exact gv_retZ rfl rfl (by decide)
    rw [if_neg c14] at e
    refine gv_cmT (pc' := 88) rfl (gv_geT2 c14) rfl ?_
    refine gv_ic (pc' := 89) (x := 0) rfl rfl rfl ?_
    cases e
    exact gv_retZ rfl rfl (by decide)
  rw [if_neg c12] at e
  refine gv_ifT (pc' := 88) rfl (gv_neT c12) rfl ?_
  refine gv_ic (pc' := 89) (x := 0) rfl rfl rfl ?_
  cases e
  exact gv_retZ rfl rfl (by decide)
def cT_viewPart (l0 : Option Nat) (l1 : Int32) (h : gx_H) : Option Int64 :=
  if l1 = (0 : Int32) then (
    (gv_gI h l0 2 7).bind fun v2 =>
    some (Int32.toInt64 v2)) else
  if l1 = (1 : Int32) then (
    (gv_gI h l0 2 8).bind fun v4 =>
    some (Int32.toInt64 v4)) else
  if l1 = (2 : Int32) then (
    (gv_gI h l0 2 9).bind fun v6 =>
    some (Int32.toInt64 v6)) else
  (gv_gI h l0 2 5).bind fun v7 =>
  some (Int32.toInt64 v7)
theorem cT_viewPart_ok {xs : Option (List Int32)} {l0 : Option Nat} {l1 : Int32} {h : gx_H} {r : Int64} (e : cT_viewPart l0 l1 h = some r) : gv_V xs 0 65 0 [(0, gv_u l0), (1, .int l1)] [] h (.returned (some (.long r))) h := by
  unfold cT_viewPart at e
  refine gv_ildn (pc' := 1) rfl rfl rfl ?_
  by_cases c1 : l1 = (0 : Int32)
  · rw [if_pos c1] at e
    refine gv_sw (pc' := 28) (off := 27) rfl (by rw [c1]; rfl) rfl ?_
    refine gv_rldn (pc' := 29) rfl rfl rfl ?_
    obtain ⟨v2, qv2, e⟩ := gv_bind e
    refine gv_fI (pc' := 32) rfl rfl qv2 rfl ?_
    refine gv_i2l (pc' := 33) rfl rfl ?_
    cases e
    exact gv_retJ rfl rfl
  rw [if_neg c1] at e
  by_cases c3 : l1 = (1 : Int32)
  · rw [if_pos c3] at e
    refine gv_sw (pc' := 34) (off := 33) rfl (by rw [c3]; rfl) rfl ?_
    refine gv_rldn (pc' := 35) rfl rfl rfl ?_
    obtain ⟨v4, qv4, e⟩ := gv_bind e
    refine gv_fI (pc' := 38) rfl rfl qv4 rfl ?_
    refine gv_i2l (pc' := 39) rfl rfl ?_
    cases e
    exact gv_retJ rfl rfl
  rw [if_neg c3] at e
  by_cases c5 : l1 = (2 : Int32)
  · rw [if_pos c5] at e
    refine gv_sw (pc' := 40) (off := 39) rfl (by rw [c5]; rfl) rfl ?_
    refine gv_rldn (pc' := 41) rfl rfl rfl ?_
    obtain ⟨v6, qv6, e⟩ := gv_bind e
    refine gv_fI (pc' := 44) rfl rfl qv6 rfl ?_
    refine gv_i2l (pc' := 45) rfl rfl ?_
    cases e
    exact gv_retJ rfl rfl
  rw [if_neg c5] at e
  refine gv_sw (pc' := 46) (off := 45) rfl (gv_tabd (gv_N1 c1 (gv_N1 c3 (gv_N1 c5 gv_N0))) (by decide)) rfl ?_
  refine gv_rldn (pc' := 47) rfl rfl rfl ?_
  obtain ⟨v7, qv7, e⟩ := gv_bind e
  refine gv_fI (pc' := 50) rfl rfl qv7 rfl ?_
  refine gv_i2l (pc' := 51) rfl rfl ?_
  cases e
  exact gv_retJ rfl rfl
def cT_bytePart (l0 : Option Nat) (l1 : Int32) (l2 : Int32) (h : gx_H) : Option Int64 :=
  if l2 = 0 then (
    some (Int32.toInt64 l1)) else
  if l2 = (1 : Int32) then (
    some (4 : Int64)) else
  (gv_gJ h l0 2 10).bind fun v3 =>
  (cG_byteOf v3 l1).bind fun v4 =>
  some (Int32.toInt64 v4)
theorem cT_bytePart_ok {xs : Option (List Int32)} {l0 : Option Nat} {l1 : Int32} {l2 : Int32} {h : gx_H} {r : Int64} (e : cT_bytePart l0 l1 l2 h = some r) : gv_V xs 1 66 0 [(0, gv_u l0), (1, .int l1), (2, .int l2)] [] h (.returned (some (.long r))) h := by
  unfold cT_bytePart at e
  refine gv_ildn (pc' := 1) rfl rfl rfl ?_
  by_cases c1 : l2 = 0
  · rw [if_pos c1] at e
    refine gv_ifF (pc' := 4) rfl (gv_neF c1) rfl rfl ?_
    refine gv_ildn (pc' := 5) rfl rfl rfl ?_
    refine gv_i2l (pc' := 6) rfl rfl ?_
    cases e
    exact gv_retJ rfl rfl
  rw [if_neg c1] at e
  refine gv_ifT (pc' := 7) rfl (gv_neT c1) rfl ?_
  refine gv_ildn (pc' := 8) rfl rfl rfl ?_
  refine gv_ic (pc' := 9) (x := 1) rfl rfl rfl ?_
  by_cases c2 : l2 = (1 : Int32)
  · rw [if_pos c2] at e
    refine gv_cmF (pc' := 12) rfl (gv_neF2 c2) rfl rfl ?_
    refine gv_ld (pc' := 15) (x := 4) rfl rfl rfl ?_
    refine gv_goto (pc' := 27) rfl rfl ?_
    cases e
    exact gv_retJ rfl rfl
  rw [if_neg c2] at e
  refine gv_cmT (pc' := 18) rfl (gv_neT2 c2) rfl ?_
  refine gv_rldn (pc' := 19) rfl rfl rfl ?_
  obtain ⟨v3, qv3, e⟩ := gv_bind e
  refine gv_fJ (pc' := 22) rfl rfl qv3 rfl ?_
  refine gv_ildn (pc' := 23) rfl rfl rfl ?_
  obtain ⟨v4, qv4, e⟩ := gv_bind e
  refine gv_sS (jc := 18) (n := 2) (rest := []) (stk := [.int v4]) (pc' := 26) rfl rfl rfl rfl rfl rfl rfl rfl rfl (gv_zJ (gv_zI gv_z0)) rfl (gv_aJ (gv_aI gv_a0)) (Nat.le_of_ble_eq_true rfl) (cG_byteOf_ok qv4) rfl rfl ?_
  refine gv_i2l (pc' := 27) rfl rfl ?_
  cases e
  exact gv_retJ rfl rfl
def cT_valuePart (l0 : Option Nat) (l1 : Int32) (l2 : Int32) (h : gx_H) : Option Int64 :=
  if l2 = (0 : Int32) then (
    (gv_gI h l0 2 4).bind fun v2 =>
    if v2 = 0 then (
      (gv_gR h l0 2 1).bind fun v4 =>
      (gv_lI h v4 l1).bind fun v5 =>
      some (Int32.toInt64 v5)) else
    (gv_gI h l0 2 4).bind fun v6 =>
    if v6 = (2 : Int32) then (
      (gv_gR h l0 2 1).bind fun v8 =>
      (gv_lI h v8 l1).bind fun v9 =>
      some (Int32.toInt64 v9)) else
    some (Int32.toInt64 l1)) else
  if l2 = (1 : Int32) then (
    (gv_gR h l0 2 2).bind fun v11 =>
    (gv_lI h v11 l1).bind fun v12 =>
    some (Int32.toInt64 v12)) else
  if l2 = (2 : Int32) then (
    (gv_gR h l0 2 3).bind fun v14 =>
    (gv_lI h v14 l1).bind fun v15 =>
    some (Int32.toInt64 v15)) else
  (gv_gR h l0 2 0).bind fun v16 =>
  (gv_lI h v16 l1).bind fun v17 =>
  some (Int32.toInt64 v17)
theorem cT_valuePart_ok {xs : Option (List Int32)} {l0 : Option Nat} {l1 : Int32} {l2 : Int32} {h : gx_H} {r : Int64} (e : cT_valuePart l0 l1 l2 h = some r) : gv_V xs 0 67 0 [(0, gv_u l0), (1, .int l1), (2, .int l2)] [] h (.returned (some (.long r))) h := by
  unfold cT_valuePart at e
  refine gv_ildn (pc' := 1) rfl rfl rfl ?_
  by_cases c1 : l2 = (0 : Int32)
  · rw [if_pos c1] at e
    refine gv_sw (pc' := 28) (off := 27) rfl (by rw [c1]; rfl) rfl ?_
    refine gv_rldn (pc' := 29) rfl rfl rfl ?_
    obtain ⟨v2, qv2, e⟩ := gv_bind e
    refine gv_fI (pc' := 32) rfl rfl qv2 rfl ?_
    by_cases c3 : v2 = 0
    · rw [if_pos c3] at e
      refine gv_ifT (pc' := 43) rfl (gv_eqT c3) rfl ?_
      refine gv_rldn (pc' := 44) rfl rfl rfl ?_
      obtain ⟨v4, qv4, e⟩ := gv_bind e
      refine gv_fR (pc' := 47) rfl rfl qv4 rfl ?_
      refine gv_ildn (pc' := 48) rfl rfl rfl ?_
      obtain ⟨v5, qv5, e⟩ := gv_bind e
      refine gv_iald (pc' := 49) rfl qv5 rfl ?_
      refine gv_i2l (pc' := 50) rfl rfl ?_
      refine gv_goto (pc' := 55) rfl rfl ?_
      cases e
      exact gv_retJ rfl rfl
    rw [if_neg c3] at e
    refine gv_ifF (pc' := 35) rfl (gv_eqF c3) rfl rfl ?_
    refine gv_rldn (pc' := 36) rfl rfl rfl ?_
    obtain ⟨v6, qv6, e⟩ := gv_bind e
    refine gv_fI (pc' := 39) rfl rfl qv6 rfl ?_
    refine gv_ic (pc' := 40) (x := 2) rfl rfl rfl ?_
    by_cases c7 : v6 = (2 : Int32)
    · rw [if_pos c7] at e
      refine gv_cmF (pc' := 43) rfl (gv_neF2 c7) rfl rfl ?_
      refine gv_rldn (pc' := 44) rfl rfl rfl ?_
      obtain ⟨v8, qv8, e⟩ := gv_bind e
      refine gv_fR (pc' := 47) rfl rfl qv8 rfl ?_
      refine gv_ildn (pc' := 48) rfl rfl rfl ?_
      obtain ⟨v9, qv9, e⟩ := gv_bind e
      refine gv_iald (pc' := 49) rfl qv9 rfl ?_
      refine gv_i2l (pc' := 50) rfl rfl ?_
      refine gv_goto (pc' := 55) rfl rfl ?_
      cases e
      exact gv_retJ rfl rfl
    rw [if_neg c7] at e
    refine gv_cmT (pc' := 53) rfl (gv_neT2 c7) rfl ?_
    refine gv_ildn (pc' := 54) rfl rfl rfl ?_
    refine gv_i2l (pc' := 55) rfl rfl ?_
    cases e
    exact gv_retJ rfl rfl
  rw [if_neg c1] at e
  by_cases c10 : l2 = (1 : Int32)
  · rw [if_pos c10] at e
    refine gv_sw (pc' := 56) (off := 55) rfl (by rw [c10]; rfl) rfl ?_
    refine gv_rldn (pc' := 57) rfl rfl rfl ?_
    obtain ⟨v11, qv11, e⟩ := gv_bind e
    refine gv_fR (pc' := 60) rfl rfl qv11 rfl ?_
    refine gv_ildn (pc' := 61) rfl rfl rfl ?_
    obtain ⟨v12, qv12, e⟩ := gv_bind e
    refine gv_iald (pc' := 62) rfl qv12 rfl ?_
    refine gv_i2l (pc' := 63) rfl rfl ?_
    cases e
    exact gv_retJ rfl rfl
  rw [if_neg c10] at e
  by_cases c13 : l2 = (2 : Int32)
  · rw [if_pos c13] at e
    refine gv_sw (pc' := 64) (off := 63) rfl (by rw [c13]; rfl) rfl ?_
    refine gv_rldn (pc' := 65) rfl rfl rfl ?_
    obtain ⟨v14, qv14, e⟩ := gv_bind e
    refine gv_fR (pc' := 68) rfl rfl qv14 rfl ?_
    refine gv_ildn (pc' := 69) rfl rfl rfl ?_
    obtain ⟨v15, qv15, e⟩ := gv_bind e
    refine gv_iald (pc' := 70) rfl qv15 rfl ?_
    refine gv_i2l (pc' := 71) rfl rfl ?_
    cases e
    exact gv_retJ rfl rfl
  rw [if_neg c13] at e
  refine gv_sw (pc' := 72) (off := 71) rfl (gv_tabd (gv_N1 c1 (gv_N1 c10 (gv_N1 c13 gv_N0))) (by decide)) rfl ?_
  refine gv_rldn (pc' := 73) rfl rfl rfl ?_
  obtain ⟨v16, qv16, e⟩ := gv_bind e
  refine gv_fR (pc' := 76) rfl rfl qv16 rfl ?_
  refine gv_ildn (pc' := 77) rfl rfl rfl ?_
  obtain ⟨v17, qv17, e⟩ := gv_bind e
  refine gv_iald (pc' := 78) rfl qv17 rfl ?_
  refine gv_i2l (pc' := 79) rfl rfl ?_
  cases e
  exact gv_retJ rfl rfl
def cT_part (l0 : Option Nat) (l1 : Int32) (l2 : Int32) (h : gx_H) : Option Int64 :=
  (gv_gI h l0 2 4).bind fun v1 =>
  if v1 = (4 : Int32) then (
    (gv_is h l0 2).bind fun i3 =>
    (cT_bytePart l0 l1 l2 h).bind fun v4 =>
    some v4) else
  if v1 = (5 : Int32) then (
    (gv_is h l0 2).bind fun i6 =>
    (cT_viewPart l0 l2 h).bind fun v7 =>
    some v7) else
  if v1 = (6 : Int32) then (
    (gv_gJ h l0 2 10).bind fun v9 =>
    some v9) else
  (gv_is h l0 2).bind fun i10 =>
  (cT_valuePart l0 l1 l2 h).bind fun v11 =>
  some v11
theorem cT_part_ok {xs : Option (List Int32)} {l0 : Option Nat} {l1 : Int32} {l2 : Int32} {h : gx_H} {r : Int64} (e : cT_part l0 l1 l2 h = some r) : gv_V xs 2 64 0 [(0, gv_u l0), (1, .int l1), (2, .int l2)] [] h (.returned (some (.long r))) h := by
  unfold cT_part at e
  refine gv_rldn (pc' := 1) rfl rfl rfl ?_
  obtain ⟨v1, qv1, e⟩ := gv_bind e
  refine gv_fI (pc' := 4) rfl rfl qv1 rfl ?_
  by_cases c2 : v1 = (4 : Int32)
  · rw [if_pos c2] at e
    refine gv_sw (pc' := 43) (off := 39) rfl (by rw [c2]; rfl) rfl ?_
    refine gv_rldn (pc' := 44) rfl rfl rfl ?_
    refine gv_ildn (pc' := 45) rfl rfl rfl ?_
    refine gv_ildn (pc' := 46) rfl rfl rfl ?_
    obtain ⟨i3, qi3, e⟩ := gv_bind e
    obtain ⟨v4, qv4, e⟩ := gv_bind e
    refine gv_vS (jc := 66) (n := 2) (rest := []) (stk := [.long v4]) (pc' := 49) rfl rfl rfl rfl rfl rfl rfl rfl rfl (gv_zR (gv_zI (gv_zI gv_z0))) rfl (gv_aR (gv_aI (gv_aI gv_a0))) (Nat.le_of_ble_eq_true rfl) qi3 (cT_bytePart_ok qv4) rfl rfl ?_
    cases e
    exact gv_retJ rfl rfl
  rw [if_neg c2] at e
  by_cases c5 : v1 = (5 : Int32)
  · rw [if_pos c5] at e
    refine gv_sw (pc' := 32) (off := 28) rfl (by rw [c5]; rfl) rfl ?_
    refine gv_rldn (pc' := 33) rfl rfl rfl ?_
    refine gv_ildn (pc' := 34) rfl rfl rfl ?_
    obtain ⟨i6, qi6, e⟩ := gv_bind e
    obtain ⟨v7, qv7, e⟩ := gv_bind e
    refine gv_vS (jc := 65) (n := 1) (rest := []) (stk := [.long v7]) (pc' := 37) rfl rfl rfl rfl rfl rfl rfl rfl rfl (gv_zR (gv_zI gv_z0)) rfl (gv_aR (gv_aI gv_a0)) (Nat.le_of_ble_eq_true rfl) qi6 (cT_viewPart_ok qv7) rfl rfl ?_
    cases e
    exact gv_retJ rfl rfl
  rw [if_neg c5] at e
  by_cases c8 : v1 = (6 : Int32)
  · rw [if_pos c8] at e
    refine gv_sw (pc' := 38) (off := 34) rfl (by rw [c8]; rfl) rfl ?_
    refine gv_rldn (pc' := 39) rfl rfl rfl ?_
    obtain ⟨v9, qv9, e⟩ := gv_bind e
    refine gv_fJ (pc' := 42) rfl rfl qv9 rfl ?_
    cases e
    exact gv_retJ rfl rfl
  rw [if_neg c8] at e
  refine gv_sw (pc' := 50) (off := 46) rfl (gv_tabd (gv_N1 c2 (gv_N1 c5 (gv_N1 c8 gv_N0))) (by decide)) rfl ?_
  refine gv_rldn (pc' := 51) rfl rfl rfl ?_
  refine gv_ildn (pc' := 52) rfl rfl rfl ?_
  refine gv_ildn (pc' := 53) rfl rfl rfl ?_
  obtain ⟨i10, qi10, e⟩ := gv_bind e
  obtain ⟨v11, qv11, e⟩ := gv_bind e
  refine gv_vS (jc := 67) (n := 2) (rest := []) (stk := [.long v11]) (pc' := 56) rfl rfl rfl rfl rfl rfl rfl rfl rfl (gv_zR (gv_zI (gv_zI gv_z0))) rfl (gv_aR (gv_aI (gv_aI gv_a0))) (Nat.le_of_ble_eq_true rfl) qi10 (cT_valuePart_ok qv11) rfl rfl ?_
  cases e
  exact gv_retJ rfl rfl
def cH_appendPassed (l0 : Option Nat) (l1 : Int32) (h : gx_H) : Option (Int32 × gx_H) :=
  (gv_gI h l0 4 1).bind fun v1 =>
  if v1 < (4 : Int32) then (
    (gv_gR h l0 4 0).bind fun v3 =>
    (gv_gI h l0 4 1).bind fun v4 =>
    (gv_wI h v3 v4 l1).bind fun h5 =>
    (gv_gI h5 l0 4 1).bind fun v6 =>
    (gv_pV h5 l0 4 1 (.int (v6 + (1 : Int32)))).bind fun h7 =>
    some ((1 : Int32), h7)) else
  some ((0 : Int32), h)
theorem cH_appendPassed_ok {xs : Option (List Int32)} {l0 : Option Nat} {l1 : Int32} {h : gx_H} {r : (Int32 × gx_H)} (e : cH_appendPassed l0 l1 h = some r) : gv_V xs 0 70 0 [(0, gv_u l0), (1, .int l1)] [] h (.returned (some (.int r.1))) r.2 := by
  unfold cH_appendPassed at e
  refine gv_rldn (pc' := 1) rfl rfl rfl ?_
  obtain ⟨v1, qv1, e⟩ := gv_bind e
  refine gv_fI (pc' := 4) rfl rfl qv1 rfl ?_
  refine gv_ic (pc' := 5) (x := 4) rfl rfl rfl ?_
  by_cases c2 : v1 < (4 : Int32)
  · rw [if_pos c2] at e
    refine gv_cmT (pc' := 10) rfl (gv_ltT2 c2) rfl ?_
    refine gv_rldn (pc' := 11) rfl rfl rfl ?_
    obtain ⟨v3, qv3, e⟩ := gv_bind e
    refine gv_fR (pc' := 14) rfl rfl qv3 rfl ?_
    refine gv_rldn (pc' := 15) rfl rfl rfl ?_
    obtain ⟨v4, qv4, e⟩ := gv_bind e
    refine gv_fI (pc' := 18) rfl rfl qv4 rfl ?_
    refine gv_ildn (pc' := 19) rfl rfl rfl ?_
    obtain ⟨h5, qh5, e⟩ := gv_bind e
    refine gv_iast (pc' := 20) rfl qh5 rfl ?_
    refine gv_rldn (pc' := 21) rfl rfl rfl ?_
    refine gv_dup (pc' := 22) rfl (gv_u_cat _) rfl ?_
    obtain ⟨v6, qv6, e⟩ := gv_bind e
    refine gv_fI (pc' := 25) rfl rfl qv6 rfl ?_
    refine gv_ic (pc' := 26) (x := 1) rfl rfl rfl ?_
    refine gv_iadd (pc' := 27) rfl rfl ?_
    obtain ⟨h7, qh7, e⟩ := gv_bind e
    refine gv_pI (pc' := 30) rfl rfl rfl qh7 rfl ?_
    refine gv_ic (pc' := 31) (x := 1) rfl rfl rfl ?_
    cases e
    exact gv_retZ rfl rfl (by decide)
  rw [if_neg c2] at e
  refine gv_cmF (pc' := 8) rfl (gv_ltF2 c2) rfl rfl ?_
  refine gv_ic (pc' := 9) (x := 0) rfl rfl rfl ?_
  cases e
  exact gv_retZ rfl rfl (by decide)
def cH_areFreeBuffers_2 : Nat → Option Nat → Option Nat → Int32 → gx_H → Option Int32
  | 0, _, _, _, _ => none
  | n + 1, l0, l1, l2, h =>
    (gv_gI h l0 4 1).bind fun v1 =>
    if l2 < v1 then (
      (gv_gR h l0 4 0).bind fun v3 =>
      (gv_lI h v3 l2).bind fun v4 =>
      (gv_is h l1 1).bind fun i5 =>
      (cS_isFreeBuffer l1 v4 h).bind fun v6 =>
      if v6 = 0 then (
        some (0 : Int32)) else
      cH_areFreeBuffers_2 n l0 l1 (l2 + 1) h) else
    some (1 : Int32)
theorem cH_areFreeBuffers_2_ok {xs : Option (List Int32)} : ∀ (n : Nat) (l0 : Option Nat) (l1 : Option Nat) (l2 : Int32) (h : gx_H) (r : Int32), cH_areFreeBuffers_2 n l0 l1 l2 h = some r → gv_V xs 2 74 2 [(0, gv_u l0), (1, gv_u l1), (2, .int l2)] [] h (.returned (some (.int r))) h := by
  intro n
  induction n with
  | zero => intro l0 l1 l2 h r e; cases e
  | succ n ih =>
    intro l0 l1 l2 h r e
    rw [cH_areFreeBuffers_2] at e
    refine gv_ildn (pc' := 3) rfl rfl rfl ?_
    refine gv_rldn (pc' := 4) rfl rfl rfl ?_
    obtain ⟨v1, qv1, e⟩ := gv_bind e
    refine gv_fI (pc' := 7) rfl rfl qv1 rfl ?_
    by_cases c2 : l2 < v1
    · rw [if_pos c2] at e
      refine gv_cmF (pc' := 10) rfl (gv_geF2 c2) rfl rfl ?_
      refine gv_rldn (pc' := 11) rfl rfl rfl ?_
      refine gv_rldn (pc' := 12) rfl rfl rfl ?_
      obtain ⟨v3, qv3, e⟩ := gv_bind e
      refine gv_fR (pc' := 15) rfl rfl qv3 rfl ?_
      refine gv_ildn (pc' := 16) rfl rfl rfl ?_
      obtain ⟨v4, qv4, e⟩ := gv_bind e
      refine gv_iald (pc' := 17) rfl qv4 rfl ?_
      obtain ⟨i5, qi5, e⟩ := gv_bind e
      obtain ⟨v6, qv6, e⟩ := gv_bind e
      refine gv_vS (jc := 9) (n := 1) (rest := []) (stk := [.int v6]) (pc' := 20) rfl rfl rfl rfl rfl rfl rfl rfl rfl (gv_zR (gv_zI gv_z0)) rfl (gv_aR (gv_aI gv_a0)) (Nat.le_of_ble_eq_true rfl) qi5 (cS_isFreeBuffer_ok qv6) rfl rfl ?_
      by_cases c7 : v6 = 0
      · rw [if_pos c7] at e
        refine gv_ifF (pc' := 23) rfl (gv_neF c7) rfl rfl ?_
        refine gv_ic (pc' := 24) (x := 0) rfl rfl rfl ?_
        cases e
        exact gv_retZ rfl rfl (by decide)
      rw [if_neg c7] at e
      refine gv_ifT (pc' := 25) rfl (gv_neT c7) rfl ?_
      refine gv_inc (pc' := 28) (y := 1) rfl rfl rfl rfl (gv_Cr rfl) rfl ?_
      refine gv_goto (pc' := 2) rfl rfl ?_
      exact gv_weak (ih _ _ _ _ _ e) (gv_S1 rfl (gv_S1 rfl (gv_S1 rfl gv_S0)))
    rw [if_neg c2] at e
    refine gv_cmT (pc' := 31) rfl (gv_geT2 c2) rfl ?_
    refine gv_ic (pc' := 32) (x := 1) rfl rfl rfl ?_
    cases e
    exact gv_retZ rfl rfl (by decide)
def cH_areFreeBuffers (l0 : Option Nat) (l1 : Option Nat) (h : gx_H) : Option Int32 :=
  cH_areFreeBuffers_2 1000000000000000 l0 l1 (0 : Int32) h
theorem cH_areFreeBuffers_ok {xs : Option (List Int32)} {l0 : Option Nat} {l1 : Option Nat} {h : gx_H} {r : Int32} (e : cH_areFreeBuffers l0 l1 h = some r) : gv_V xs 2 74 0 [(0, gv_u l0), (1, gv_u l1)] [] h (.returned (some (.int r))) h := by
  unfold cH_areFreeBuffers at e
  refine gv_ic (pc' := 1) (x := 0) rfl rfl rfl ?_
  refine gv_istn (pc' := 2) rfl rfl (gv_Cr rfl) rfl ?_
  exact gv_weak (cH_areFreeBuffers_2_ok 1000000000000000 _ _ _ _ _ e) (gv_S1 rfl (gv_S1 rfl (gv_S1 rfl gv_S0)))
def cH_placeOf_2 : Nat → Option Nat → Int32 → Int32 → gx_H → Option Int32
  | 0, _, _, _, _ => none
  | n + 1, l0, l1, l2, h =>
    (gv_gI h l0 4 1).bind fun v1 =>
    if l2 < v1 then (
      (gv_gR h l0 4 0).bind fun v3 =>
      (gv_lI h v3 l2).bind fun v4 =>
      if v4 = l1 then (
        some l2) else
      cH_placeOf_2 n l0 l1 (l2 + 1) h) else
    some (-1 : Int32)
theorem cH_placeOf_2_ok {xs : Option (List Int32)} : ∀ (n : Nat) (l0 : Option Nat) (l1 : Int32) (l2 : Int32) (h : gx_H) (r : Int32), cH_placeOf_2 n l0 l1 l2 h = some r → gv_V xs 0 76 2 [(0, gv_u l0), (1, .int l1), (2, .int l2)] [] h (.returned (some (.int r))) h := by
  intro n
  induction n with
  | zero => intro l0 l1 l2 h r e; cases e
  | succ n ih =>
    intro l0 l1 l2 h r e
    rw [cH_placeOf_2] at e
    refine gv_ildn (pc' := 3) rfl rfl rfl ?_
    refine gv_rldn (pc' := 4) rfl rfl rfl ?_
    obtain ⟨v1, qv1, e⟩ := gv_bind e
    refine gv_fI (pc' := 7) rfl rfl qv1 rfl ?_
    by_cases c2 : l2 < v1
    · rw [if_pos c2] at e
      refine gv_cmF (pc' := 10) rfl (gv_geF2 c2) rfl rfl ?_
      refine gv_rldn (pc' := 11) rfl rfl rfl ?_
      obtain ⟨v3, qv3, e⟩ := gv_bind e
      refine gv_fR (pc' := 14) rfl rfl qv3 rfl ?_
      refine gv_ildn (pc' := 15) rfl rfl rfl ?_
      obtain ⟨v4, qv4, e⟩ := gv_bind e
      refine gv_iald (pc' := 16) rfl qv4 rfl ?_
      refine gv_ildn (pc' := 17) rfl rfl rfl ?_
      by_cases c5 : v4 = l1
      · rw [if_pos c5] at e
        refine gv_cmF (pc' := 20) rfl (gv_neF2 c5) rfl rfl ?_
        refine gv_ildn (pc' := 21) rfl rfl rfl ?_
        cases e
        exact gv_retI rfl rfl
      rw [if_neg c5] at e
      refine gv_cmT (pc' := 22) rfl (gv_neT2 c5) rfl ?_
      refine gv_inc (pc' := 25) (y := 1) rfl rfl rfl rfl (gv_Ci rfl) rfl ?_
      refine gv_goto (pc' := 2) rfl rfl ?_
      exact gv_weak (ih _ _ _ _ _ e) (gv_S1 rfl (gv_S1 rfl (gv_S1 rfl gv_S0)))
    rw [if_neg c2] at e
    refine gv_cmT (pc' := 28) rfl (gv_geT2 c2) rfl ?_
    refine gv_ic (pc' := 29) (x := -1) rfl rfl rfl ?_
    cases e
    exact gv_retI rfl rfl
def cH_placeOf (l0 : Option Nat) (l1 : Int32) (h : gx_H) : Option Int32 :=
  cH_placeOf_2 1000000000000000 l0 l1 (0 : Int32) h
theorem cH_placeOf_ok {xs : Option (List Int32)} {l0 : Option Nat} {l1 : Int32} {h : gx_H} {r : Int32} (e : cH_placeOf l0 l1 h = some r) : gv_V xs 0 76 0 [(0, gv_u l0), (1, .int l1)] [] h (.returned (some (.int r))) h := by
  unfold cH_placeOf at e
  refine gv_ic (pc' := 1) (x := 0) rfl rfl rfl ?_
  refine gv_istn (pc' := 2) rfl rfl (gv_Ci rfl) rfl ?_
  exact gv_weak (cH_placeOf_2_ok 1000000000000000 _ _ _ _ _ e) (gv_S1 rfl (gv_S1 rfl (gv_S1 rfl gv_S0)))
def cH_noneTwice_2 : Nat → Option Nat → Int32 → gx_H → Option Int32
  | 0, _, _, _ => none
  | n + 1, l0, l1, h =>
    (gv_gI h l0 4 1).bind fun v1 =>
    if l1 < v1 then (
      (gv_gR h l0 4 0).bind fun v3 =>
      (gv_lI h v3 l1).bind fun v4 =>
      (gv_is h l0 4).bind fun i5 =>
      (cH_placeOf l0 v4 h).bind fun v6 =>
      if v6 = l1 then (
        cH_noneTwice_2 n l0 (l1 + 1) h) else
      some (0 : Int32)) else
    some (1 : Int32)
theorem cH_noneTwice_2_ok {xs : Option (List Int32)} : ∀ (n : Nat) (l0 : Option Nat) (l1 : Int32) (h : gx_H) (r : Int32), cH_noneTwice_2 n l0 l1 h = some r → gv_V xs 1 75 2 [(0, gv_u l0), (1, .int l1)] [] h (.returned (some (.int r))) h := by
  intro n
  induction n with
  | zero => intro l0 l1 h r e; cases e
  | succ n ih =>
    intro l0 l1 h r e
    rw [cH_noneTwice_2] at e
    refine gv_ildn (pc' := 3) rfl rfl rfl ?_
    refine gv_rldn (pc' := 4) rfl rfl rfl ?_
    obtain ⟨v1, qv1, e⟩ := gv_bind e
    refine gv_fI (pc' := 7) rfl rfl qv1 rfl ?_
    by_cases c2 : l1 < v1
    · rw [if_pos c2] at e
      refine gv_cmF (pc' := 10) rfl (gv_geF2 c2) rfl rfl ?_
      refine gv_rldn (pc' := 11) rfl rfl rfl ?_
      refine gv_rldn (pc' := 12) rfl rfl rfl ?_
      obtain ⟨v3, qv3, e⟩ := gv_bind e
      refine gv_fR (pc' := 15) rfl rfl qv3 rfl ?_
      refine gv_ildn (pc' := 16) rfl rfl rfl ?_
      obtain ⟨v4, qv4, e⟩ := gv_bind e
      refine gv_iald (pc' := 17) rfl qv4 rfl ?_
      obtain ⟨i5, qi5, e⟩ := gv_bind e
      obtain ⟨v6, qv6, e⟩ := gv_bind e
      refine gv_vS (jc := 76) (n := 1) (rest := []) (stk := [.int v6]) (pc' := 20) rfl rfl rfl rfl rfl rfl rfl rfl rfl (gv_zR (gv_zI gv_z0)) rfl (gv_aR (gv_aI gv_a0)) (Nat.le_of_ble_eq_true rfl) qi5 (cH_placeOf_ok qv6) rfl rfl ?_
      refine gv_ildn (pc' := 21) rfl rfl rfl ?_
      by_cases c7 : v6 = l1
      · rw [if_pos c7] at e
        refine gv_cmT (pc' := 26) rfl (gv_eqT2 c7) rfl ?_
        refine gv_inc (pc' := 29) (y := 1) rfl rfl rfl rfl (gv_Cr rfl) rfl ?_
        refine gv_goto (pc' := 2) rfl rfl ?_
        exact gv_weak (ih _ _ _ _ e) (gv_S1 rfl (gv_S1 rfl gv_S0))
      rw [if_neg c7] at e
      refine gv_cmF (pc' := 24) rfl (gv_eqF2 c7) rfl rfl ?_
      refine gv_ic (pc' := 25) (x := 0) rfl rfl rfl ?_
      cases e
      exact gv_retZ rfl rfl (by decide)
    rw [if_neg c2] at e
    refine gv_cmT (pc' := 32) rfl (gv_geT2 c2) rfl ?_
    refine gv_ic (pc' := 33) (x := 1) rfl rfl rfl ?_
    cases e
    exact gv_retZ rfl rfl (by decide)
def cH_noneTwice (l0 : Option Nat) (h : gx_H) : Option Int32 :=
  cH_noneTwice_2 1000000000000000 l0 (0 : Int32) h
theorem cH_noneTwice_ok {xs : Option (List Int32)} {l0 : Option Nat} {h : gx_H} {r : Int32} (e : cH_noneTwice l0 h = some r) : gv_V xs 1 75 0 [(0, gv_u l0)] [] h (.returned (some (.int r))) h := by
  unfold cH_noneTwice at e
  refine gv_ic (pc' := 1) (x := 0) rfl rfl rfl ?_
  refine gv_istn (pc' := 2) rfl rfl (gv_Cr rfl) rfl ?_
  exact gv_weak (cH_noneTwice_2_ok 1000000000000000 _ _ _ _ e) (gv_S1 rfl (gv_S1 rfl gv_S0))
def jM_floorDiv (l0 : Int32) (l1 : Int32) : Option Int32 :=
  if l1 = 0 then none else
  if (l0 ^^^ l1) < 0 then (
    if ((l0 / l1) * l1) = l0 then (
      some (l0 / l1)) else
    some ((l0 / l1) - (1 : Int32))) else
  some (l0 / l1)
theorem jM_floorDiv_ok {xs : Option (List Int32)} {l0 : Int32} {l1 : Int32} {h : gx_H} {r : Int32} (e : jM_floorDiv l0 l1 = some r) : gv_V xs 0 87 0 [(0, .int l0), (1, .int l1)] [] h (.returned (some (.int r))) h := by
  unfold jM_floorDiv at e
  refine gv_ildn (pc' := 1) rfl rfl rfl ?_
  refine gv_ildn (pc' := 2) rfl rfl rfl ?_
  by_cases c1 : l1 = 0
  · rw [if_pos c1] at e; cases e
  rw [if_neg c1] at e
  refine gv_idiv (pc' := 3) rfl c1 rfl ?_
  refine gv_istn (pc' := 4) rfl rfl (gv_Ci rfl) rfl ?_
  refine gv_ildn (pc' := 5) rfl rfl rfl ?_
  refine gv_ildn (pc' := 6) rfl rfl rfl ?_
  refine gv_ixor (pc' := 7) rfl rfl ?_
  by_cases c2 : (l0 ^^^ l1) < 0
  · rw [if_pos c2] at e
    refine gv_ifF (pc' := 10) rfl (gv_geF c2) rfl rfl ?_
    refine gv_ildn (pc' := 11) rfl rfl rfl ?_
    refine gv_ildn (pc' := 12) rfl rfl rfl ?_
    refine gv_imul (pc' := 13) rfl rfl ?_
    refine gv_ildn (pc' := 14) rfl rfl rfl ?_
    by_cases c3 : ((l0 / l1) * l1) = l0
    · rw [if_pos c3] at e
      refine gv_cmT (pc' := 21) rfl (gv_eqT2 c3) rfl ?_
      refine gv_ildn (pc' := 22) rfl rfl rfl ?_
      cases e
      exact gv_retI rfl rfl
    rw [if_neg c3] at e
    refine gv_cmF (pc' := 17) rfl (gv_eqF2 c3) rfl rfl ?_
    refine gv_ildn (pc' := 18) rfl rfl rfl ?_
    refine gv_ic (pc' := 19) (x := 1) rfl rfl rfl ?_
    refine gv_isub (pc' := 20) rfl rfl ?_
    cases e
    exact gv_retI rfl rfl
  rw [if_neg c2] at e
  refine gv_ifT (pc' := 21) rfl (gv_geT c2) rfl ?_
  refine gv_ildn (pc' := 22) rfl rfl rfl ?_
  cases e
  exact gv_retI rfl rfl
def jM_floorMod (l0 : Int32) (l1 : Int32) : Option Int32 :=
  if l1 = 0 then none else
  if (l0 ^^^ l1) < 0 then (
    if (l0 - l0 / l1 * l1) = 0 then (
      some (l0 - l0 / l1 * l1)) else
    some ((l0 - l0 / l1 * l1) + l1)) else
  some (l0 - l0 / l1 * l1)
theorem jM_floorMod_ok {xs : Option (List Int32)} {l0 : Int32} {l1 : Int32} {h : gx_H} {r : Int32} (e : jM_floorMod l0 l1 = some r) : gv_V xs 0 88 0 [(0, .int l0), (1, .int l1)] [] h (.returned (some (.int r))) h := by
  unfold jM_floorMod at e
  refine gv_ildn (pc' := 1) rfl rfl rfl ?_
  refine gv_ildn (pc' := 2) rfl rfl rfl ?_
  by_cases c1 : l1 = 0
  · rw [if_pos c1] at e; cases e
  rw [if_neg c1] at e
  refine gv_irem (pc' := 3) rfl c1 rfl ?_
  refine gv_istn (pc' := 4) rfl rfl (gv_Ci rfl) rfl ?_
  refine gv_ildn (pc' := 5) rfl rfl rfl ?_
  refine gv_ildn (pc' := 6) rfl rfl rfl ?_
  refine gv_ixor (pc' := 7) rfl rfl ?_
  by_cases c2 : (l0 ^^^ l1) < 0
  · rw [if_pos c2] at e
    refine gv_ifF (pc' := 10) rfl (gv_geF c2) rfl rfl ?_
    refine gv_ildn (pc' := 11) rfl rfl rfl ?_
    by_cases c3 : (l0 - l0 / l1 * l1) = 0
    · rw [if_pos c3] at e
      refine gv_ifT (pc' := 18) rfl (gv_eqT c3) rfl ?_
      refine gv_ildn (pc' := 19) rfl rfl rfl ?_
      cases e
      exact gv_retI rfl rfl
    rw [if_neg c3] at e
    refine gv_ifF (pc' := 14) rfl (gv_eqF c3) rfl rfl ?_
    refine gv_ildn (pc' := 15) rfl rfl rfl ?_
    refine gv_ildn (pc' := 16) rfl rfl rfl ?_
    refine gv_iadd (pc' := 17) rfl rfl ?_
    cases e
    exact gv_retI rfl rfl
  rw [if_neg c2] at e
  refine gv_ifT (pc' := 18) rfl (gv_geT c2) rfl ?_
  refine gv_ildn (pc' := 19) rfl rfl rfl ?_
  cases e
  exact gv_retI rfl rfl
def cH_handOver_50 (rec2 : Option Nat → Option Nat → Int32 → gx_H → Option gx_H) (l0 : Option Nat) (l1 : Option Nat) (l2 : Int32) (h : gx_H) : Option gx_H :=
  rec2 l0 l1 (l2 + 1) h
theorem cH_handOver_50_ok {xs : Option (List Int32)} {rec2 : Option Nat → Option Nat → Int32 → gx_H → Option gx_H} (hrec2 : ∀ (l0 : Option Nat) (l1 : Option Nat) (l2 : Int32) (h : gx_H) (r : gx_H), rec2 l0 l1 l2 h = some r → gv_V xs 1 95 2 [(0, gv_u l0), (1, gv_u l1), (2, .int l2)] [] h (.returned none) r) {l0 : Option Nat} {l1 : Option Nat} {l2 : Int32} {h : gx_H} {r : gx_H} (e : cH_handOver_50 rec2 l0 l1 l2 h = some r) : gv_V xs 1 95 50 [(0, gv_u l0), (1, gv_u l1), (2, .int l2)] [] h (.returned none) r := by
  unfold cH_handOver_50 at e
  refine gv_inc (pc' := 53) (y := 1) rfl rfl rfl rfl (gv_Cr rfl) rfl ?_
  refine gv_goto (pc' := 2) rfl rfl ?_
  exact gv_weak (hrec2 _ _ _ _ _ e) (gv_S1 rfl (gv_S1 rfl (gv_S1 rfl gv_S0)))
def cH_handOver_2 : Nat → Option Nat → Option Nat → Int32 → gx_H → Option gx_H
  | 0, _, _, _, _ => none
  | n + 1, l0, l1, l2, h =>
    (gv_gI h l0 4 1).bind fun v1 =>
    if l2 < v1 then (
      (gv_gR h l0 4 0).bind fun v3 =>
      (gv_lI h v3 l2).bind fun v4 =>
      (gv_is h l1 1).bind fun i5 =>
      (cS_thingAt l1 v4 h).bind fun v6 =>
      if v6 = none then (
        cH_handOver_50 (cH_handOver_2 n) l0 l1 l2 h) else
      (gv_gR h l0 4 2).bind fun v8 =>
      (gv_gJ h v6 2 10).bind fun v9 =>
      (gv_wJ h v8 l2 v9).bind fun h10 =>
      (gv_gR h10 l0 4 3).bind fun v11 =>
      (gv_gI h10 v6 2 5).bind fun v12 =>
      (gv_wI h10 v11 l2 v12).bind fun h13 =>
      (gv_pV h13 v6 2 6 (.int (1 : Int32))).bind fun h14 =>
      cH_handOver_50 (cH_handOver_2 n) l0 l1 l2 h14) else
    (gv_gI h l0 4 1).bind fun v15 =>
    (gv_pV h l0 4 4 (.int v15)).bind fun h16 =>
    some h16
theorem cH_handOver_2_ok {xs : Option (List Int32)} : ∀ (n : Nat) (l0 : Option Nat) (l1 : Option Nat) (l2 : Int32) (h : gx_H) (r : gx_H), cH_handOver_2 n l0 l1 l2 h = some r → gv_V xs 1 95 2 [(0, gv_u l0), (1, gv_u l1), (2, .int l2)] [] h (.returned none) r := by
  intro n
  induction n with
  | zero => intro l0 l1 l2 h r e; cases e
  | succ n ih =>
    intro l0 l1 l2 h r e
    rw [cH_handOver_2] at e
    refine gv_ildn (pc' := 3) rfl rfl rfl ?_
    refine gv_rldn (pc' := 4) rfl rfl rfl ?_
    obtain ⟨v1, qv1, e⟩ := gv_bind e
    refine gv_fI (pc' := 7) rfl rfl qv1 rfl ?_
    by_cases c2 : l2 < v1
    · rw [if_pos c2] at e
      refine gv_cmF (pc' := 10) rfl (gv_geF2 c2) rfl rfl ?_
      refine gv_rldn (pc' := 11) rfl rfl rfl ?_
      refine gv_rldn (pc' := 12) rfl rfl rfl ?_
      obtain ⟨v3, qv3, e⟩ := gv_bind e
      refine gv_fR (pc' := 15) rfl rfl qv3 rfl ?_
      refine gv_ildn (pc' := 16) rfl rfl rfl ?_
      obtain ⟨v4, qv4, e⟩ := gv_bind e
      refine gv_iald (pc' := 17) rfl qv4 rfl ?_
      obtain ⟨i5, qi5, e⟩ := gv_bind e
      obtain ⟨v6, qv6, e⟩ := gv_bind e
      refine gv_vS (jc := 10) (n := 1) (rest := []) (stk := [gv_u v6]) (pc' := 20) rfl rfl rfl rfl rfl rfl rfl rfl rfl (gv_zR (gv_zI gv_z0)) rfl (gv_aR (gv_aI gv_a0)) (Nat.le_of_ble_eq_true rfl) qi5 (cS_thingAt_ok qv6) rfl rfl ?_
      refine gv_rstn (pc' := 21) rfl rfl (gv_Ci rfl) rfl ?_
      refine gv_rldn (pc' := 22) rfl rfl rfl ?_
      by_cases c7 : v6 = none
      · rw [if_pos c7] at e
        refine gv_nuT (pc' := 50) rfl c7 rfl ?_
        exact gv_weak (cH_handOver_50_ok ih e) (gv_S1 rfl (gv_S1 rfl (gv_S1 rfl gv_S0)))
      rw [if_neg c7] at e
      refine gv_nuF (pc' := 25) rfl c7 rfl ?_
      refine gv_rldn (pc' := 26) rfl rfl rfl ?_
      obtain ⟨v8, qv8, e⟩ := gv_bind e
      refine gv_fR (pc' := 29) rfl rfl qv8 rfl ?_
      refine gv_ildn (pc' := 30) rfl rfl rfl ?_
      refine gv_rldn (pc' := 31) rfl rfl rfl ?_
      obtain ⟨v9, qv9, e⟩ := gv_bind e
      refine gv_fJ (pc' := 34) rfl rfl qv9 rfl ?_
      obtain ⟨h10, qh10, e⟩ := gv_bind e
      refine gv_last (pc' := 35) rfl qh10 rfl ?_
      refine gv_rldn (pc' := 36) rfl rfl rfl ?_
      obtain ⟨v11, qv11, e⟩ := gv_bind e
      refine gv_fR (pc' := 39) rfl rfl qv11 rfl ?_
      refine gv_ildn (pc' := 40) rfl rfl rfl ?_
      refine gv_rldn (pc' := 41) rfl rfl rfl ?_
      obtain ⟨v12, qv12, e⟩ := gv_bind e
      refine gv_fI (pc' := 44) rfl rfl qv12 rfl ?_
      obtain ⟨h13, qh13, e⟩ := gv_bind e
      refine gv_iast (pc' := 45) rfl qh13 rfl ?_
      refine gv_rldn (pc' := 46) rfl rfl rfl ?_
      refine gv_ic (pc' := 47) (x := 1) rfl rfl rfl ?_
      obtain ⟨h14, qh14, e⟩ := gv_bind e
      refine gv_pZ (pc' := 50) rfl rfl rfl (by decide) qh14 rfl ?_
      exact gv_weak (cH_handOver_50_ok ih e) (gv_S1 rfl (gv_S1 rfl (gv_S1 rfl gv_S0)))
    rw [if_neg c2] at e
    refine gv_cmT (pc' := 56) rfl (gv_geT2 c2) rfl ?_
    refine gv_rldn (pc' := 57) rfl rfl rfl ?_
    refine gv_rldn (pc' := 58) rfl rfl rfl ?_
    obtain ⟨v15, qv15, e⟩ := gv_bind e
    refine gv_fI (pc' := 61) rfl rfl qv15 rfl ?_
    obtain ⟨h16, qh16, e⟩ := gv_bind e
    refine gv_pI (pc' := 64) rfl rfl rfl qh16 rfl ?_
    cases e
    exact gv_retV rfl rfl
def cH_handOver (l0 : Option Nat) (l1 : Option Nat) (h : gx_H) : Option gx_H :=
  cH_handOver_2 1000000000000000 l0 l1 (0 : Int32) h
theorem cH_handOver_ok {xs : Option (List Int32)} {l0 : Option Nat} {l1 : Option Nat} {h : gx_H} {r : gx_H} (e : cH_handOver l0 l1 h = some r) : gv_V xs 1 95 0 [(0, gv_u l0), (1, gv_u l1)] [] h (.returned none) r := by
  unfold cH_handOver at e
  refine gv_ic (pc' := 1) (x := 0) rfl rfl rfl ?_
  refine gv_istn (pc' := 2) rfl rfl (gv_Cr rfl) rfl ?_
  exact gv_weak (cH_handOver_2_ok 1000000000000000 _ _ _ _ _ e) (gv_S1 rfl (gv_S1 rfl (gv_S1 rfl gv_S0)))
def cB_becomeLike (l0 : Option Nat) (l1 : Option Nat) (h : gx_H) : Option gx_H :=
  (gv_gR h l1 3 0).bind fun v1 =>
  (gv_gR h l0 3 0).bind fun v2 =>
  (gv_gI h l1 3 1).bind fun v3 =>
  (gv_cp h v1 (0 : Int32) v2 (0 : Int32) v3).bind fun h4 =>
  (gv_gI h4 l1 3 1).bind fun v5 =>
  (gv_pV h4 l0 3 1 (.int v5)).bind fun h6 =>
  some h6
theorem cB_becomeLike_ok {xs : Option (List Int32)} {l0 : Option Nat} {l1 : Option Nat} {h : gx_H} {r : gx_H} (e : cB_becomeLike l0 l1 h = some r) : gv_V xs 0 96 0 [(0, gv_u l0), (1, gv_u l1)] [] h (.returned none) r := by
  unfold cB_becomeLike at e
  refine gv_rldn (pc' := 1) rfl rfl rfl ?_
  obtain ⟨v1, qv1, e⟩ := gv_bind e
  refine gv_fR (pc' := 4) rfl rfl qv1 rfl ?_
  refine gv_ic (pc' := 5) (x := 0) rfl rfl rfl ?_
  refine gv_rldn (pc' := 6) rfl rfl rfl ?_
  obtain ⟨v2, qv2, e⟩ := gv_bind e
  refine gv_fR (pc' := 9) rfl rfl qv2 rfl ?_
  refine gv_ic (pc' := 10) (x := 0) rfl rfl rfl ?_
  refine gv_rldn (pc' := 11) rfl rfl rfl ?_
  obtain ⟨v3, qv3, e⟩ := gv_bind e
  refine gv_fI (pc' := 14) rfl rfl qv3 rfl ?_
  obtain ⟨h4, qh4, e⟩ := gv_bind e
  refine gv_acp (pc' := 17) rfl rfl rfl qh4 rfl ?_
  refine gv_rldn (pc' := 18) rfl rfl rfl ?_
  refine gv_rldn (pc' := 19) rfl rfl rfl ?_
  obtain ⟨v5, qv5, e⟩ := gv_bind e
  refine gv_fI (pc' := 22) rfl rfl qv5 rfl ?_
  obtain ⟨h6, qh6, e⟩ := gv_bind e
  refine gv_pI (pc' := 25) rfl rfl rfl qh6 rfl ?_
  cases e
  exact gv_retV rfl rfl
