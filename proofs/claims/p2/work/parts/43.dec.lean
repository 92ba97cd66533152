/-! by program: the methods as functions, and that the small machine does what they say -/
def cW_writeByte (l0 : Option Nat) (l1 : Int32) (h : gx_H) : Option gx_H :=
  (gv_gI h l0 5 4).bind fun v1 =>
  if v1 = 0 then (
    (gv_gR h l0 5 0).bind fun v3 =>
    (gv_is h v3 3).bind fun i4 =>
    (cB_append v3 l1 h).bind fun r7 =>
    if r7.1 = 0 then (
      (gv_pV r7.2 l0 5 4 (.int (1 : Int32))).bind fun h9 =>
      some h9) else
    some r7.2) else
  some h
theorem cW_writeByte_ok {xs : Option (List Int32)} {l0 : Option Nat} {l1 : Int32} {h : gx_H} {r : gx_H} (e : cW_writeByte l0 l1 h = some r) : gv_V xs 1 77 0 [(0, gv_u l0), (1, .int l1)] [] h (.returned none) r := by
  unfold cW_writeByte at e
  refine gv_rldn (pc' := 1) rfl rfl rfl ?_
  obtain ⟨v1, qv1, e⟩ := gv_bind e
  refine gv_fI (pc' := 4) rfl rfl qv1 rfl ?_
  by_cases c2 : v1 = 0
  · rw [if_pos c2] at e
    refine gv_ifF (pc' := 7) rfl (gv_neF c2) rfl rfl ?_
    refine gv_rldn (pc' := 8) rfl rfl rfl ?_
    obtain ⟨v3, qv3, e⟩ := gv_bind e
    refine gv_fR (pc' := 11) rfl rfl qv3 rfl ?_
    refine gv_ildn (pc' := 12) rfl rfl rfl ?_
    obtain ⟨i4, qi4, e⟩ := gv_bind e
    obtain ⟨⟨v5, h6⟩, qv5, e⟩ := gv_bind e
    refine gv_vS (jc := 19) (n := 1) (rest := []) (stk := [.int v5]) (pc' := 15) rfl rfl rfl rfl rfl rfl rfl rfl rfl (gv_zR (gv_zI gv_z0)) rfl (gv_aR (gv_aI gv_a0)) (Nat.le_of_ble_eq_true rfl) qi4 (cB_append_ok qv5) rfl rfl ?_
    by_cases c8 : v5 = 0
    · rw [if_pos c8] at e
      refine gv_ifF (pc' := 18) rfl (gv_neF c8) rfl rfl ?_
      refine gv_rldn (pc' := 19) rfl rfl rfl ?_
      refine gv_ic (pc' := 20) (x := 1) rfl rfl rfl ?_
      obtain ⟨h9, qh9, e⟩ := gv_bind e
      refine gv_pI (pc' := 23) rfl rfl rfl qh9 rfl ?_
      cases e
      exact gv_retV rfl rfl
    rw [if_neg c8] at e
    refine gv_ifT (pc' := 23) rfl (gv_neT c8) rfl ?_
    cases e
    exact gv_retV rfl rfl
  rw [if_neg c2] at e
  refine gv_ifT (pc' := 23) rfl (gv_neT c2) rfl ?_
  cases e
  exact gv_retV rfl rfl
def cW_writeLengthy_46 (l0 : Option Nat) (l3 : Int64) (h : gx_H) : Option gx_H :=
  (gv_is h l0 5).bind fun i1 =>
  (cW_writeByte l0 (Int64.toInt32 l3) h).bind fun h3 =>
  some h3
theorem cW_writeLengthy_46_ok {xs : Option (List Int32)} {l0 : Option Nat} {l3 : Int64} {h : gx_H} {r : gx_H} (e : cW_writeLengthy_46 l0 l3 h = some r) : gv_V xs 2 80 46 [(0, gv_u l0), (3, .long l3)] [] h (.returned none) r := by
  unfold cW_writeLengthy_46 at e
  refine gv_rldn (pc' := 47) rfl rfl rfl ?_
  refine gv_jldn (pc' := 48) rfl rfl rfl ?_
  refine gv_l2i (pc' := 49) rfl rfl ?_
  obtain ⟨i1, qi1, e⟩ := gv_bind e
  obtain ⟨h3, qv2, e⟩ := gv_bind e
  refine gv_vS (jc := 77) (n := 1) (rest := []) (stk := []) (pc' := 52) rfl rfl rfl rfl rfl rfl rfl rfl rfl (gv_zR (gv_zI gv_z0)) rfl (gv_aR (gv_aI gv_a0)) (Nat.le_of_ble_eq_true rfl) qi1 (cW_writeByte_ok qv2) rfl rfl ?_
  cases e
  exact gv_retV rfl rfl
def cW_writeLengthy_5 : Nat → Option Nat → Int64 → Int32 → gx_H → Option gx_H
  | 0, _, _, _, _ => none
  | n + 1, l0, l3, l5, h =>
    if l5 < (10 : Int32) then (
      if ((Int64.toUInt64 l3 >>> ((Int32.toInt64 (7 : Int32)).toUInt64 &&& Int64.toUInt64 63)).toInt64) = (0 : Int64) then (
        cW_writeLengthy_46 l0 l3 h) else
      (gv_is h l0 5).bind fun i3 =>
      (cW_writeByte l0 ((Int64.toInt32 (l3 &&& (127 : Int64))) + (128 : Int32)) h).bind fun h5 =>
      cW_writeLengthy_5 n l0 ((Int64.toUInt64 l3 >>> ((Int32.toInt64 (7 : Int32)).toUInt64 &&& Int64.toUInt64 63)).toInt64) (l5 + 1) h5) else
    cW_writeLengthy_46 l0 l3 h
theorem cW_writeLengthy_5_ok {xs : Option (List Int32)} : ∀ (n : Nat) (l0 : Option Nat) (l3 : Int64) (l5 : Int32) (h : gx_H) (r : gx_H), cW_writeLengthy_5 n l0 l3 l5 h = some r → gv_V xs 2 80 5 [(0, gv_u l0), (3, .long l3), (5, .int l5)] [] h (.returned none) r := by
  intro n
  induction n with
  | zero => intro l0 l3 l5 h r e; cases e
  | succ n ih =>
    intro l0 l3 l5 h r e
    rw [cW_writeLengthy_5] at e
    refine gv_ild (pc' := 7) rfl rfl rfl ?_
    refine gv_bp (pc' := 9) (x := 10) rfl rfl rfl ?_
    by_cases c1 : l5 < (10 : Int32)
    · rw [if_pos c1] at e
      refine gv_cmF (pc' := 12) rfl (gv_geF2 c1) rfl rfl ?_
      refine gv_jldn (pc' := 13) rfl rfl rfl ?_
      refine gv_bp (pc' := 15) (x := 7) rfl rfl rfl ?_
      refine gv_lushr (pc' := 16) rfl rfl ?_
      refine gv_lc (pc' := 17) (x := 0) rfl rfl rfl ?_
      refine gv_lcmp (pc' := 18) rfl rfl ?_
      by_cases c2 : ((Int64.toUInt64 l3 >>> ((Int32.toInt64 (7 : Int32)).toUInt64 &&& Int64.toUInt64 63)).toInt64) = (0 : Int64)
      · rw [if_pos c2] at e
        refine gv_ifT (pc' := 46) rfl (gv_eqTL c2) rfl ?_
        exact gv_weak (cW_writeLengthy_46_ok e) (gv_S1 rfl (gv_S1 rfl gv_S0))
      rw [if_neg c2] at e
      refine gv_ifF (pc' := 21) rfl (gv_eqFL c2) rfl rfl ?_
      refine gv_rldn (pc' := 22) rfl rfl rfl ?_
      refine gv_jldn (pc' := 23) rfl rfl rfl ?_
      refine gv_ld (pc' := 26) (x := 127) rfl rfl rfl ?_
      refine gv_land (pc' := 27) rfl rfl ?_
      refine gv_l2i (pc' := 28) rfl rfl ?_
      refine gv_sp (pc' := 31) (x := 128) rfl rfl rfl ?_
      refine gv_iadd (pc' := 32) rfl rfl ?_
      obtain ⟨i3, qi3, e⟩ := gv_bind e
      obtain ⟨h5, qv4, e⟩ := gv_bind e
      refine gv_vS (jc := 77) (n := 1) (rest := []) (stk := []) (pc' := 35) rfl rfl rfl rfl rfl rfl rfl rfl rfl (gv_zR (gv_zI gv_z0)) rfl (gv_aR (gv_aI gv_a0)) (Nat.le_of_ble_eq_true rfl) qi3 (cW_writeByte_ok qv4) rfl rfl ?_
      refine gv_jldn (pc' := 36) rfl rfl rfl ?_
      refine gv_bp (pc' := 38) (x := 7) rfl rfl rfl ?_
      refine gv_lushr (pc' := 39) rfl rfl ?_
      refine gv_jstn (pc' := 40) rfl rfl (gv_Cn rfl) rfl rfl ?_
      refine gv_inc (pc' := 43) (y := 1) rfl rfl rfl rfl (gv_Cn rfl) rfl ?_
      refine gv_goto (pc' := 5) rfl rfl ?_
      exact gv_weak (ih _ _ _ _ _ e) (gv_S1 rfl (gv_S1 rfl (gv_S1 rfl gv_S0)))
    rw [if_neg c1] at e
    refine gv_cmT (pc' := 46) rfl (gv_geT2 c1) rfl ?_
    exact gv_weak (cW_writeLengthy_46_ok e) (gv_S1 rfl (gv_S1 rfl gv_S0))
def cW_writeLengthy (l0 : Option Nat) (l1 : Int64) (h : gx_H) : Option gx_H :=
  cW_writeLengthy_5 1000000000000000 l0 l1 (1 : Int32) h
theorem cW_writeLengthy_ok {xs : Option (List Int32)} {l0 : Option Nat} {l1 : Int64} {h : gx_H} {r : gx_H} (e : cW_writeLengthy l0 l1 h = some r) : gv_V xs 2 80 0 [(0, gv_u l0), (1, .long l1)] [] h (.returned none) r := by
  unfold cW_writeLengthy at e
  refine gv_jldn (pc' := 1) rfl rfl rfl ?_
  refine gv_jstn (pc' := 2) rfl rfl (gv_Cn rfl) rfl rfl ?_
  refine gv_ic (pc' := 3) (x := 1) rfl rfl rfl ?_
  refine gv_ist (pc' := 5) rfl rfl (gv_Cn rfl) rfl ?_
  exact gv_weak (cW_writeLengthy_5_ok 1000000000000000 _ _ _ _ _ e) (gv_S1 rfl (gv_S1 rfl (gv_S1 rfl gv_S0)))
def cW_givePlace (l0 : Option Nat) (l1 : Int32) (h : gx_H) : Option gx_H :=
  (gv_gR h l0 5 1).bind fun v1 =>
  (gv_gI h l0 5 2).bind fun v2 =>
  (gv_wI h v1 l1 v2).bind fun h3 =>
  (gv_gI h3 l0 5 2).bind fun v4 =>
  (gv_pV h3 l0 5 2 (.int (v4 + (1 : Int32)))).bind fun h5 =>
  some h5
theorem cW_givePlace_ok {xs : Option (List Int32)} {l0 : Option Nat} {l1 : Int32} {h : gx_H} {r : gx_H} (e : cW_givePlace l0 l1 h = some r) : gv_V xs 0 82 0 [(0, gv_u l0), (1, .int l1)] [] h (.returned none) r := by
  unfold cW_givePlace at e
  refine gv_rldn (pc' := 1) rfl rfl rfl ?_
  obtain ⟨v1, qv1, e⟩ := gv_bind e
  refine gv_fR (pc' := 4) rfl rfl qv1 rfl ?_
  refine gv_ildn (pc' := 5) rfl rfl rfl ?_
  refine gv_rldn (pc' := 6) rfl rfl rfl ?_
  obtain ⟨v2, qv2, e⟩ := gv_bind e
  refine gv_fI (pc' := 9) rfl rfl qv2 rfl ?_
  obtain ⟨h3, qh3, e⟩ := gv_bind e
  refine gv_iast (pc' := 10) rfl qh3 rfl ?_
  refine gv_rldn (pc' := 11) rfl rfl rfl ?_
  refine gv_dup (pc' := 12) rfl (gv_u_cat _) rfl ?_
  obtain ⟨v4, qv4, e⟩ := gv_bind e
  refine gv_fI (pc' := 15) rfl rfl qv4 rfl ?_
  refine gv_ic (pc' := 16) (x := 1) rfl rfl rfl ?_
  refine gv_iadd (pc' := 17) rfl rfl ?_
  obtain ⟨h5, qh5, e⟩ := gv_bind e
  refine gv_pI (pc' := 20) rfl rfl rfl qh5 rfl ?_
  cases e
  exact gv_retV rfl rfl
def cW_runGetter (l0 : Option Nat) (l1 : Option Nat) (l2 : Option Nat) (l3 : Int32) (h : gx_H) : Option gx_H :=
  (jM_floorDiv l3 (8 : Int32)).bind fun v1 =>
  (jM_floorMod l3 (8 : Int32)).bind fun v2 =>
  if v2 = (1 : Int32) then (
    (gv_pV h l0 5 4 (.int (2 : Int32))).bind fun h4 =>
    some h4) else
  if v2 = (2 : Int32) then (
    (gv_is h l2 2).bind fun i6 =>
    (cT_dropProperty l2 v1 h).bind fun r9 =>
    some r9.2) else
  if v2 = (3 : Int32) then (
    (gv_is h l2 2).bind fun i11 =>
    (cT_indexOfKey l2 (4 : Int32) v1 h).bind fun v12 =>
    if v12 = (-1 : Int32) then (
      (gv_is h l2 2).bind fun i14 =>
      (cT_setProperty l2 v1 (4 : Int32) (7 : Int32) h).bind fun r17 =>
      some r17.2) else
    some h) else
  if v2 = (4 : Int32) then (
    (gv_is h l1 1).bind fun i19 =>
    (cS_detachBuffer l1 v1 h).bind fun r22 =>
    some r22.2) else
  some h
theorem cW_runGetter_ok {xs : Option (List Int32)} {l0 : Option Nat} {l1 : Option Nat} {l2 : Option Nat} {l3 : Int32} {h : gx_H} {r : gx_H} (e : cW_runGetter l0 l1 l2 l3 h = some r) : gv_V xs 3 86 0 [(0, gv_u l0), (1, gv_u l1), (2, gv_u l2), (3, .int l3)] [] h (.returned none) r := by
  unfold cW_runGetter at e
  refine gv_ildn (pc' := 1) rfl rfl rfl ?_
  refine gv_bp (pc' := 3) (x := 8) rfl rfl rfl ?_
  obtain ⟨v1, qv1, e⟩ := gv_bind e
  refine gv_sS (jc := 87) (n := 2) (rest := []) (stk := [.int v1]) (pc' := 6) rfl rfl rfl rfl rfl rfl rfl rfl rfl (gv_zI (gv_zI gv_z0)) rfl (gv_aI (gv_aI gv_a0)) (Nat.le_of_ble_eq_true rfl) (jM_floorDiv_ok qv1) rfl rfl ?_
  refine gv_ist (pc' := 8) rfl rfl (gv_Ci rfl) rfl ?_
  refine gv_ildn (pc' := 9) rfl rfl rfl ?_
  refine gv_bp (pc' := 11) (x := 8) rfl rfl rfl ?_
  obtain ⟨v2, qv2, e⟩ := gv_bind e
  refine gv_sS (jc := 88) (n := 2) (rest := []) (stk := [.int v2]) (pc' := 14) rfl rfl rfl rfl rfl rfl rfl rfl rfl (gv_zI (gv_zI gv_z0)) rfl (gv_aI (gv_aI gv_a0)) (Nat.le_of_ble_eq_true rfl) (jM_floorMod_ok qv2) rfl rfl ?_
  by_cases c3 : v2 = (1 : Int32)
  · rw [if_pos c3] at e
    refine gv_sw (pc' := 44) (off := 30) rfl (by rw [c3]; rfl) rfl ?_
    refine gv_rldn (pc' := 45) rfl rfl rfl ?_
    refine gv_ic (pc' := 46) (x := 2) rfl rfl rfl ?_
    obtain ⟨h4, qh4, e⟩ := gv_bind e
    refine gv_pI (pc' := 49) rfl rfl rfl qh4 rfl ?_
    refine gv_goto (pc' := 96) rfl rfl ?_
    cases e
    exact gv_retV rfl rfl
  rw [if_neg c3] at e
  by_cases c5 : v2 = (2 : Int32)
  · rw [if_pos c5] at e
    refine gv_sw (pc' := 52) (off := 38) rfl (by rw [c5]; rfl) rfl ?_
    refine gv_rldn (pc' := 53) rfl rfl rfl ?_
    refine gv_ild (pc' := 55) rfl rfl rfl ?_
    obtain ⟨i6, qi6, e⟩ := gv_bind e
    obtain ⟨⟨v7, h8⟩, qv7, e⟩ := gv_bind e
    refine gv_vS (jc := 52) (n := 1) (rest := []) (stk := [.int v7]) (pc' := 58) rfl rfl rfl rfl rfl rfl rfl rfl rfl (gv_zR (gv_zI gv_z0)) rfl (gv_aR (gv_aI gv_a0)) (Nat.le_of_ble_eq_true rfl) qi6 (cT_dropProperty_ok qv7) rfl rfl ?_
    refine gv_pop (pc' := 59) rfl rfl rfl ?_
    refine gv_goto (pc' := 96) rfl rfl ?_
    cases e
    exact gv_retV rfl rfl
  rw [if_neg c5] at e
  by_cases c10 : v2 = (3 : Int32)
  · rw [if_pos c10] at e
    refine gv_sw (pc' := 62) (off := 48) rfl (by rw [c10]; rfl) rfl ?_
    refine gv_rldn (pc' := 63) rfl rfl rfl ?_
    refine gv_ic (pc' := 64) (x := 4) rfl rfl rfl ?_
    refine gv_ild (pc' := 66) rfl rfl rfl ?_
    obtain ⟨i11, qi11, e⟩ := gv_bind e
    obtain ⟨v12, qv12, e⟩ := gv_bind e
    refine gv_vS (jc := 47) (n := 2) (rest := []) (stk := [.int v12]) (pc' := 69) rfl rfl rfl rfl rfl rfl rfl rfl rfl (gv_zR (gv_zI (gv_zI gv_z0))) rfl (gv_aR (gv_aI (gv_aI gv_a0))) (Nat.le_of_ble_eq_true rfl) qi11 (cT_indexOfKey_ok qv12) rfl rfl ?_
    refine gv_ic (pc' := 70) (x := -1) rfl rfl rfl ?_
    by_cases c13 : v12 = (-1 : Int32)
    · rw [if_pos c13] at e
      refine gv_cmF (pc' := 73) rfl (gv_neF2 c13) rfl rfl ?_
      refine gv_rldn (pc' := 74) rfl rfl rfl ?_
      refine gv_ild (pc' := 76) rfl rfl rfl ?_
      refine gv_ic (pc' := 77) (x := 4) rfl rfl rfl ?_
      refine gv_bp (pc' := 79) (x := 7) rfl rfl rfl ?_
      obtain ⟨i14, qi14, e⟩ := gv_bind e
      obtain ⟨⟨v15, h16⟩, qv15, e⟩ := gv_bind e
      refine gv_vS (jc := 46) (n := 3) (rest := []) (stk := [.int v15]) (pc' := 82) rfl rfl rfl rfl rfl rfl rfl rfl rfl (gv_zR (gv_zI (gv_zI (gv_zI gv_z0)))) rfl (gv_aR (gv_aI (gv_aI (gv_aI gv_a0)))) (Nat.le_of_ble_eq_true rfl) qi14 (cT_setProperty_ok qv15) rfl rfl ?_
      refine gv_pop (pc' := 83) rfl rfl rfl ?_
      refine gv_goto (pc' := 96) rfl rfl ?_
      cases e
      exact gv_retV rfl rfl
    rw [if_neg c13] at e
    refine gv_cmT (pc' := 96) rfl (gv_neT2 c13) rfl ?_
    cases e
    exact gv_retV rfl rfl
  rw [if_neg c10] at e
  by_cases c18 : v2 = (4 : Int32)
  · rw [if_pos c18] at e
    refine gv_sw (pc' := 86) (off := 72) rfl (by rw [c18]; rfl) rfl ?_
    refine gv_rldn (pc' := 87) rfl rfl rfl ?_
    refine gv_ild (pc' := 89) rfl rfl rfl ?_
    obtain ⟨i19, qi19, e⟩ := gv_bind e
    obtain ⟨⟨v20, h21⟩, qv20, e⟩ := gv_bind e
    refine gv_vS (jc := 8) (n := 1) (rest := []) (stk := [.int v20]) (pc' := 92) rfl rfl rfl rfl rfl rfl rfl rfl rfl (gv_zR (gv_zI gv_z0)) rfl (gv_aR (gv_aI gv_a0)) (Nat.le_of_ble_eq_true rfl) qi19 (cS_detachBuffer_ok qv20) rfl rfl ?_
    refine gv_pop (pc' := 93) rfl rfl rfl ?_
    refine gv_goto (pc' := 96) rfl rfl ?_
    cases e
    exact gv_retV rfl rfl
  rw [if_neg c18] at e
  refine gv_sw (pc' := 96) (off := 82) rfl (gv_tabd (gv_N1 c3 (gv_N1 c5 (gv_N1 c10 (gv_N1 c18 gv_N0)))) (by decide)) rfl ?_
  cases e
  exact gv_retV rfl rfl
def cW_writeZigzag (l0 : Option Nat) (l1 : Int64) (h : gx_H) : Option gx_H :=
  (gv_is h l0 5).bind fun i1 =>
  (cW_writeLengthy l0 ((l1 <<< (Int32.toInt64 (1 : Int32) &&& 63)) ^^^ (l1 >>> (Int32.toInt64 (63 : Int32) &&& 63))) h).bind fun h3 =>
  some h3
theorem cW_writeZigzag_ok {xs : Option (List Int32)} {l0 : Option Nat} {l1 : Int64} {h : gx_H} {r : gx_H} (e : cW_writeZigzag l0 l1 h = some r) : gv_V xs 3 89 0 [(0, gv_u l0), (1, .long l1)] [] h (.returned none) r := by
  unfold cW_writeZigzag at e
  refine gv_rldn (pc' := 1) rfl rfl rfl ?_
  refine gv_jldn (pc' := 2) rfl rfl rfl ?_
  refine gv_ic (pc' := 3) (x := 1) rfl rfl rfl ?_
  refine gv_lshl (pc' := 4) rfl rfl ?_
  refine gv_jldn (pc' := 5) rfl rfl rfl ?_
  refine gv_bp (pc' := 7) (x := 63) rfl rfl rfl ?_
  refine gv_lshr (pc' := 8) rfl rfl ?_
  refine gv_lxor (pc' := 9) rfl rfl ?_
  obtain ⟨i1, qi1, e⟩ := gv_bind e
  obtain ⟨h3, qv2, e⟩ := gv_bind e
  refine gv_vS (jc := 80) (n := 1) (rest := []) (stk := []) (pc' := 12) rfl rfl rfl rfl rfl rfl rfl rfl rfl (gv_zR (gv_zJ gv_z0)) rfl (gv_aR (gv_aJ gv_a0)) (Nat.le_of_ble_eq_true rfl) qi1 (cW_writeLengthy_ok qv2) rfl rfl ?_
  cases e
  exact gv_retV rfl rfl
def cW_writeWord_8 : Nat → Option Nat → Int64 → Int32 → Int32 → gx_H → Option gx_H
  | 0, _, _, _, _, _ => none
  | n + 1, l0, l1, l3, l4, h =>
    if l4 < l3 then (
      (cG_byteOf l1 l4).bind fun v2 =>
      (gv_is h l0 5).bind fun i3 =>
      (cW_writeByte l0 v2 h).bind fun h5 =>
      cW_writeWord_8 n l0 l1 l3 (l4 + 1) h5) else
    some h
theorem cW_writeWord_8_ok {xs : Option (List Int32)} : ∀ (n : Nat) (l0 : Option Nat) (l1 : Int64) (l3 : Int32) (l4 : Int32) (h : gx_H) (r : gx_H), cW_writeWord_8 n l0 l1 l3 l4 h = some r → gv_V xs 2 93 8 [(0, gv_u l0), (1, .long l1), (3, .int l3), (4, .int l4)] [] h (.returned none) r := by
  intro n
  induction n with
  | zero => intro l0 l1 l3 l4 h r e; cases e
  | succ n ih =>
    intro l0 l1 l3 l4 h r e
    rw [cW_writeWord_8] at e
    refine gv_ild (pc' := 10) rfl rfl rfl ?_
    refine gv_ildn (pc' := 11) rfl rfl rfl ?_
    by_cases c1 : l4 < l3
    · rw [if_pos c1] at e
      refine gv_cmF (pc' := 14) rfl (gv_geF2 c1) rfl rfl ?_
      refine gv_rldn (pc' := 15) rfl rfl rfl ?_
      refine gv_jldn (pc' := 16) rfl rfl rfl ?_
      refine gv_ild (pc' := 18) rfl rfl rfl ?_
      obtain ⟨v2, qv2, e⟩ := gv_bind e
      refine gv_sS (jc := 18) (n := 2) (rest := [gv_u l0]) (stk := [.int v2, gv_u l0]) (pc' := 21) rfl rfl rfl rfl rfl rfl rfl rfl rfl (gv_zJ (gv_zI gv_z0)) rfl (gv_aJ (gv_aI gv_a0)) (Nat.le_of_ble_eq_true rfl) (cG_byteOf_ok qv2) rfl rfl ?_
      obtain ⟨i3, qi3, e⟩ := gv_bind e
      obtain ⟨h5, qv4, e⟩ := gv_bind e
      refine gv_vS (jc := 77) (n := 1) (rest := []) (stk := []) (pc' := 24) rfl rfl rfl rfl rfl rfl rfl rfl rfl (gv_zR (gv_zI gv_z0)) rfl (gv_aR (gv_aI gv_a0)) (Nat.le_of_ble_eq_true rfl) qi3 (cW_writeByte_ok qv4) rfl rfl ?_
      refine gv_inc (pc' := 27) (y := 1) rfl rfl rfl rfl (gv_Ci rfl) rfl ?_
      refine gv_goto (pc' := 8) rfl rfl ?_
      exact gv_weak (ih _ _ _ _ _ _ e) (gv_S1 rfl (gv_S1 rfl (gv_S1 rfl (gv_S1 rfl gv_S0))))
    rw [if_neg c1] at e
    refine gv_cmT (pc' := 30) rfl (gv_geT2 c1) rfl ?_
    cases e
    exact gv_retV rfl rfl
def cW_writeWord (l0 : Option Nat) (l1 : Int64) (l3 : Int32) (h : gx_H) : Option gx_H :=
  (gv_is h l0 5).bind fun i1 =>
  (cW_writeByte l0 l3 h).bind fun h3 =>
  cW_writeWord_8 1000000000000000 l0 l1 l3 (0 : Int32) h3
theorem cW_writeWord_ok {xs : Option (List Int32)} {l0 : Option Nat} {l1 : Int64} {l3 : Int32} {h : gx_H} {r : gx_H} (e : cW_writeWord l0 l1 l3 h = some r) : gv_V xs 2 93 0 [(0, gv_u l0), (1, .long l1), (3, .int l3)] [] h (.returned none) r := by
  unfold cW_writeWord at e
  refine gv_rldn (pc' := 1) rfl rfl rfl ?_
  refine gv_ildn (pc' := 2) rfl rfl rfl ?_
  obtain ⟨i1, qi1, e⟩ := gv_bind e
  obtain ⟨h3, qv2, e⟩ := gv_bind e
  refine gv_vS (jc := 77) (n := 1) (rest := []) (stk := []) (pc' := 5) rfl rfl rfl rfl rfl rfl rfl rfl rfl (gv_zR (gv_zI gv_z0)) rfl (gv_aR (gv_aI gv_a0)) (Nat.le_of_ble_eq_true rfl) qi1 (cW_writeByte_ok qv2) rfl rfl ?_
  refine gv_ic (pc' := 6) (x := 0) rfl rfl rfl ?_
  refine gv_ist (pc' := 8) rfl rfl (gv_Ci rfl) rfl ?_
  exact gv_weak (cW_writeWord_8_ok 1000000000000000 _ _ _ _ _ _ e) (gv_S1 rfl (gv_S1 rfl (gv_S1 rfl (gv_S1 rfl gv_S0))))
def cW_textLength_2 : Nat → Int32 → Int32 → Option Int32
  | 0, _, _ => none
  | n + 1, l0, l1 =>
    if l1 < (4 : Int32) then (
      (cG_byteOf (Int32.toInt64 l0) l1).bind fun v2 =>
      if v2 = 0 then (
        some l1) else
      cW_textLength_2 n l0 (l1 + 1)) else
    some l1
theorem cW_textLength_2_ok {xs : Option (List Int32)} : ∀ (n : Nat) (l0 : Int32) (l1 : Int32) (h : gx_H) (r : Int32), cW_textLength_2 n l0 l1 = some r → gv_V xs 1 94 2 [(0, .int l0), (1, .int l1)] [] h (.returned (some (.int r))) h := by
  intro n
  induction n with
  | zero => intro l0 l1 h r e; cases e
  | succ n ih =>
    intro l0 l1 h r e
    rw [cW_textLength_2] at e
    refine gv_ildn (pc' := 3) rfl rfl rfl ?_
    refine gv_ic (pc' := 4) (x := 4) rfl rfl rfl ?_
    by_cases c1 : l1 < (4 : Int32)
    · rw [if_pos c1] at e
      refine gv_cmF (pc' := 7) rfl (gv_geF2 c1) rfl rfl ?_
      refine gv_ildn (pc' := 8) rfl rfl rfl ?_
      refine gv_i2l (pc' := 9) rfl rfl ?_
      refine gv_ildn (pc' := 10) rfl rfl rfl ?_
      obtain ⟨v2, qv2, e⟩ := gv_bind e
      refine gv_sS (jc := 18) (n := 2) (rest := []) (stk := [.int v2]) (pc' := 13) rfl rfl rfl rfl rfl rfl rfl rfl rfl (gv_zJ (gv_zI gv_z0)) rfl (gv_aJ (gv_aI gv_a0)) (Nat.le_of_ble_eq_true rfl) (cG_byteOf_ok qv2) rfl rfl ?_
      by_cases c3 : v2 = 0
      · rw [if_pos c3] at e
        refine gv_ifT (pc' := 22) rfl (gv_eqT c3) rfl ?_
        refine gv_ildn (pc' := 23) rfl rfl rfl ?_
        cases e
        exact gv_retI rfl rfl
      rw [if_neg c3] at e
      refine gv_ifF (pc' := 16) rfl (gv_eqF c3) rfl rfl ?_
      refine gv_inc (pc' := 19) (y := 1) rfl rfl rfl rfl (gv_Ci rfl) rfl ?_
      refine gv_goto (pc' := 2) rfl rfl ?_
      exact gv_weak (ih _ _ _ _ e) (gv_S1 rfl (gv_S1 rfl gv_S0))
    rw [if_neg c1] at e
    refine gv_cmT (pc' := 22) rfl (gv_geT2 c1) rfl ?_
    refine gv_ildn (pc' := 23) rfl rfl rfl ?_
    cases e
    exact gv_retI rfl rfl
def cW_textLength (l0 : Int32) : Option Int32 :=
  cW_textLength_2 1000000000000000 l0 (0 : Int32)
theorem cW_textLength_ok {xs : Option (List Int32)} {l0 : Int32} {h : gx_H} {r : Int32} (e : cW_textLength l0 = some r) : gv_V xs 1 94 0 [(0, .int l0)] [] h (.returned (some (.int r))) h := by
  unfold cW_textLength at e
  refine gv_ic (pc' := 1) (x := 0) rfl rfl rfl ?_
  refine gv_istn (pc' := 2) rfl rfl (gv_Ci rfl) rfl ?_
  exact gv_weak (cW_textLength_2_ok 1000000000000000 _ _ _ _ e) (gv_S1 rfl (gv_S1 rfl gv_S0))
def cW_writeView (W : Option Nat → Option Nat → Option Nat → Int32 → Int32 → Int32 → gx_H → Option gx_H) (l0 : Option Nat) (l1 : Option Nat) (l2 : Option Nat) (l3 : Option Nat) (l4 : Int32) (h : gx_H) : Option gx_H :=
  (gv_is h l0 5).bind fun i1 =>
  (cW_writeByte l0 (13 : Int32) h).bind fun h3 =>
  (gv_gI h3 l3 2 8).bind fun v4 =>
  (gv_is h3 l0 5).bind fun i5 =>
  (cW_writeByte l0 v4 h3).bind fun h7 =>
  (gv_gI h7 l3 2 9).bind fun v8 =>
  (gv_is h7 l0 5).bind fun i9 =>
  (cW_writeByte l0 v8 h7).bind fun h11 =>
  (gv_gI h11 l3 2 5).bind fun v12 =>
  (gv_is h11 l0 5).bind fun i13 =>
  (cW_writeByte l0 v12 h11).bind fun h15 =>
  (gv_gI h15 l3 2 7).bind fun v16 =>
  (gv_is h15 l0 5).bind fun i17 =>
  (W l0 l1 l2 (6 : Int32) v16 (l4 + (1 : Int32)) h15).bind fun h19 =>
  some h19
theorem cW_writeView_ok {xs : Option (List Int32)} {D : Nat} (hD : 12 ≤ D) {W : Option Nat → Option Nat → Option Nat → Int32 → Int32 → Int32 → gx_H → Option gx_H} (hW : ∀ (l0 : Option Nat) (l1 : Option Nat) (l2 : Option Nat) (l3 : Int32) (l4 : Int32) (l5 : Int32) (h : gx_H) (r : gx_H), W l0 l1 l2 l3 l4 l5 h = some r → gv_V xs D 78 0 [(0, gv_u l0), (1, gv_u l1), (2, gv_u l2), (3, .int l3), (4, .int l4), (5, .int l5)] [] h (.returned none) r) {l0 : Option Nat} {l1 : Option Nat} {l2 : Option Nat} {l3 : Option Nat} {l4 : Int32} {h : gx_H} {r : gx_H} (e : cW_writeView W l0 l1 l2 l3 l4 h = some r) : gv_V xs (D + 1) 81 0 [(0, gv_u l0), (1, gv_u l1), (2, gv_u l2), (3, gv_u l3), (4, .int l4)] [] h (.returned none) r := by
  unfold cW_writeView at e
  refine gv_rldn (pc' := 1) rfl rfl rfl ?_
  refine gv_bp (pc' := 3) (x := 13) rfl rfl rfl ?_
  obtain ⟨i1, qi1, e⟩ := gv_bind e
  obtain ⟨h3, qv2, e⟩ := gv_bind e
  refine gv_vS (jc := 77) (n := 1) (rest := []) (stk := []) (pc' := 6) rfl rfl rfl rfl rfl rfl rfl rfl rfl (gv_zR (gv_zI gv_z0)) rfl (gv_aR (gv_aI gv_a0)) (by omega) qi1 (cW_writeByte_ok qv2) rfl rfl ?_
  refine gv_rldn (pc' := 7) rfl rfl rfl ?_
  refine gv_rldn (pc' := 8) rfl rfl rfl ?_
  obtain ⟨v4, qv4, e⟩ := gv_bind e
  refine gv_fI (pc' := 11) rfl rfl qv4 rfl ?_
  obtain ⟨i5, qi5, e⟩ := gv_bind e
  obtain ⟨h7, qv6, e⟩ := gv_bind e
  refine gv_vS (jc := 77) (n := 1) (rest := []) (stk := []) (pc' := 14) rfl rfl rfl rfl rfl rfl rfl rfl rfl (gv_zR (gv_zI gv_z0)) rfl (gv_aR (gv_aI gv_a0)) (by omega) qi5 (cW_writeByte_ok qv6) rfl rfl ?_
  refine gv_rldn (pc' := 15) rfl rfl rfl ?_
  refine gv_rldn (pc' := 16) rfl rfl rfl ?_
  obtain ⟨v8, qv8, e⟩ := gv_bind e
  refine gv_fI (pc' := 19) rfl rfl qv8 rfl ?_
  obtain ⟨i9, qi9, e⟩ := gv_bind e
  obtain ⟨h11, qv10, e⟩ := gv_bind e
  refine gv_vS (jc := 77) (n := 1) (rest := []) (stk := []) (pc' := 22) rfl rfl rfl rfl rfl rfl rfl rfl rfl (gv_zR (gv_zI gv_z0)) rfl (gv_aR (gv_aI gv_a0)) (by omega) qi9 (cW_writeByte_ok qv10) rfl rfl ?_
  refine gv_rldn (pc' := 23) rfl rfl rfl ?_
  refine gv_rldn (pc' := 24) rfl rfl rfl ?_
  obtain ⟨v12, qv12, e⟩ := gv_bind e
  refine gv_fI (pc' := 27) rfl rfl qv12 rfl ?_
  obtain ⟨i13, qi13, e⟩ := gv_bind e
  obtain ⟨h15, qv14, e⟩ := gv_bind e
  refine gv_vS (jc := 77) (n := 1) (rest := []) (stk := []) (pc' := 30) rfl rfl rfl rfl rfl rfl rfl rfl rfl (gv_zR (gv_zI gv_z0)) rfl (gv_aR (gv_aI gv_a0)) (by omega) qi13 (cW_writeByte_ok qv14) rfl rfl ?_
  refine gv_rldn (pc' := 31) rfl rfl rfl ?_
  refine gv_rldn (pc' := 32) rfl rfl rfl ?_
  refine gv_rldn (pc' := 33) rfl rfl rfl ?_
  refine gv_bp (pc' := 35) (x := 6) rfl rfl rfl ?_
  refine gv_rldn (pc' := 36) rfl rfl rfl ?_
  obtain ⟨v16, qv16, e⟩ := gv_bind e
  refine gv_fI (pc' := 39) rfl rfl qv16 rfl ?_
  refine gv_ild (pc' := 41) rfl rfl rfl ?_
  refine gv_ic (pc' := 42) (x := 1) rfl rfl rfl ?_
  refine gv_iadd (pc' := 43) rfl rfl ?_
  obtain ⟨i17, qi17, e⟩ := gv_bind e
  obtain ⟨h19, qv18, e⟩ := gv_bind e
  refine gv_vS (jc := 78) (n := 5) (rest := []) (stk := []) (pc' := 46) rfl rfl rfl rfl rfl rfl rfl rfl rfl (gv_zR (gv_zR (gv_zR (gv_zI (gv_zI (gv_zI gv_z0)))))) rfl (gv_aR (gv_aR (gv_aR (gv_aI (gv_aI (gv_aI gv_a0)))))) (by omega) qi17 (hW _ _ _ _ _ _ _ _ qv18) rfl rfl ?_
  cases e
  exact gv_retV rfl rfl
def cW_writeProperty_54 (W : Option Nat → Option Nat → Option Nat → Int32 → Int32 → Int32 → gx_H → Option gx_H) (l0 : Option Nat) (l1 : Option Nat) (l2 : Option Nat) (l5 : Int32) (l6 : Int32) (l7 : Int32) (l8 : Int32) (h : gx_H) : Option gx_H :=
  (gv_is h l0 5).bind fun i1 =>
  (cW_writeByte l0 (1 : Int32) h).bind fun h3 =>
  (gv_is h3 l0 5).bind fun i4 =>
  (cW_writeZigzag l0 (Int32.toInt64 l6) h3).bind fun h6 =>
  (gv_is h6 l0 5).bind fun i7 =>
  (W l0 l1 l2 l7 l8 (l5 + (1 : Int32)) h6).bind fun h9 =>
  some h9
theorem cW_writeProperty_54_ok {xs : Option (List Int32)} {D : Nat} (hD : 12 ≤ D) {W : Option Nat → Option Nat → Option Nat → Int32 → Int32 → Int32 → gx_H → Option gx_H} (hW : ∀ (l0 : Option Nat) (l1 : Option Nat) (l2 : Option Nat) (l3 : Int32) (l4 : Int32) (l5 : Int32) (h : gx_H) (r : gx_H), W l0 l1 l2 l3 l4 l5 h = some r → gv_V xs D 78 0 [(0, gv_u l0), (1, gv_u l1), (2, gv_u l2), (3, .int l3), (4, .int l4), (5, .int l5)] [] h (.returned none) r) {l0 : Option Nat} {l1 : Option Nat} {l2 : Option Nat} {l5 : Int32} {l6 : Int32} {l7 : Int32} {l8 : Int32} {h : gx_H} {r : gx_H} (e : cW_writeProperty_54 W l0 l1 l2 l5 l6 l7 l8 h = some r) : gv_V xs (D + 1) 85 54 [(0, gv_u l0), (1, gv_u l1), (2, gv_u l2), (5, .int l5), (6, .int l6), (7, .int l7), (8, .int l8)] [] h (.returned none) r := by
  unfold cW_writeProperty_54 at e
  refine gv_rldn (pc' := 55) rfl rfl rfl ?_
  refine gv_ic (pc' := 56) (x := 1) rfl rfl rfl ?_
  obtain ⟨i1, qi1, e⟩ := gv_bind e
  obtain ⟨h3, qv2, e⟩ := gv_bind e
  refine gv_vS (jc := 77) (n := 1) (rest := []) (stk := []) (pc' := 59) rfl rfl rfl rfl rfl rfl rfl rfl rfl (gv_zR (gv_zI gv_z0)) rfl (gv_aR (gv_aI gv_a0)) (by omega) qi1 (cW_writeByte_ok qv2) rfl rfl ?_
  refine gv_rldn (pc' := 60) rfl rfl rfl ?_
  refine gv_ild (pc' := 62) rfl rfl rfl ?_
  refine gv_i2l (pc' := 63) rfl rfl ?_
  obtain ⟨i4, qi4, e⟩ := gv_bind e
  obtain ⟨h6, qv5, e⟩ := gv_bind e
  refine gv_vS (jc := 89) (n := 1) (rest := []) (stk := []) (pc' := 66) rfl rfl rfl rfl rfl rfl rfl rfl rfl (gv_zR (gv_zJ gv_z0)) rfl (gv_aR (gv_aJ gv_a0)) (by omega) qi4 (cW_writeZigzag_ok qv5) rfl rfl ?_
  refine gv_rldn (pc' := 67) rfl rfl rfl ?_
  refine gv_rldn (pc' := 68) rfl rfl rfl ?_
  refine gv_rldn (pc' := 69) rfl rfl rfl ?_
  refine gv_ild (pc' := 71) rfl rfl rfl ?_
  refine gv_ild (pc' := 73) rfl rfl rfl ?_
  refine gv_ild (pc' := 75) rfl rfl rfl ?_
  refine gv_ic (pc' := 76) (x := 1) rfl rfl rfl ?_
  refine gv_iadd (pc' := 77) rfl rfl ?_
  obtain ⟨i7, qi7, e⟩ := gv_bind e
  obtain ⟨h9, qv8, e⟩ := gv_bind e
  refine gv_vS (jc := 78) (n := 5) (rest := []) (stk := []) (pc' := 80) rfl rfl rfl rfl rfl rfl rfl rfl rfl (gv_zR (gv_zR (gv_zR (gv_zI (gv_zI (gv_zI gv_z0)))))) rfl (gv_aR (gv_aR (gv_aR (gv_aI (gv_aI (gv_aI gv_a0)))))) (by omega) qi7 (hW _ _ _ _ _ _ _ _ qv8) rfl rfl ?_
  cases e
  exact gv_retV rfl rfl
def cW_writeProperty (W : Option Nat → Option Nat → Option Nat → Int32 → Int32 → Int32 → gx_H → Option gx_H) (l0 : Option Nat) (l1 : Option Nat) (l2 : Option Nat) (l3 : Option Nat) (l4 : Int32) (l5 : Int32) (h : gx_H) : Option gx_H :=
  (gv_gR h l3 2 1).bind fun v1 =>
  (gv_lI h v1 l4).bind fun v2 =>
  (gv_gR h l3 2 2).bind fun v3 =>
  (gv_lI h v3 l4).bind fun v4 =>
  (gv_gR h l3 2 3).bind fun v5 =>
  (gv_lI h v5 l4).bind fun v6 =>
  if v4 = (8 : Int32) then (
    (gv_is h l0 5).bind fun i8 =>
    (cW_runGetter l0 l1 l3 v6 h).bind fun h10 =>
    (jM_floorDiv v6 (8 : Int32)).bind fun v11 =>
    cW_writeProperty_54 W l0 l1 l2 l5 v2 (4 : Int32) v11 h10) else
  cW_writeProperty_54 W l0 l1 l2 l5 v2 v4 v6 h
theorem cW_writeProperty_ok {xs : Option (List Int32)} {D : Nat} (hD : 12 ≤ D) {W : Option Nat → Option Nat → Option Nat → Int32 → Int32 → Int32 → gx_H → Option gx_H} (hW : ∀ (l0 : Option Nat) (l1 : Option Nat) (l2 : Option Nat) (l3 : Int32) (l4 : Int32) (l5 : Int32) (h : gx_H) (r : gx_H), W l0 l1 l2 l3 l4 l5 h = some r → gv_V xs D 78 0 [(0, gv_u l0), (1, gv_u l1), (2, gv_u l2), (3, .int l3), (4, .int l4), (5, .int l5)] [] h (.returned none) r) {l0 : Option Nat} {l1 : Option Nat} {l2 : Option Nat} {l3 : Option Nat} {l4 : Int32} {l5 : Int32} {h : gx_H} {r : gx_H} (e : cW_writeProperty W l0 l1 l2 l3 l4 l5 h = some r) : gv_V xs (D + 1) 85 0 [(0, gv_u l0), (1, gv_u l1), (2, gv_u l2), (3, gv_u l3), (4, .int l4), (5, .int l5)] [] h (.returned none) r := by
  unfold cW_writeProperty at e
  refine gv_rldn (pc' := 1) rfl rfl rfl ?_
  obtain ⟨v1, qv1, e⟩ := gv_bind e
  refine gv_fR (pc' := 4) rfl rfl qv1 rfl ?_
  refine gv_ild (pc' := 6) rfl rfl rfl ?_
  obtain ⟨v2, qv2, e⟩ := gv_bind e
  refine gv_iald (pc' := 7) rfl qv2 rfl ?_
  refine gv_ist (pc' := 9) rfl rfl (gv_Ci rfl) rfl ?_
  refine gv_rldn (pc' := 10) rfl rfl rfl ?_
  obtain ⟨v3, qv3, e⟩ := gv_bind e
  refine gv_fR (pc' := 13) rfl rfl qv3 rfl ?_
  refine gv_ild (pc' := 15) rfl rfl rfl ?_
  obtain ⟨v4, qv4, e⟩ := gv_bind e
  refine gv_iald (pc' := 16) rfl qv4 rfl ?_
  refine gv_ist (pc' := 18) rfl rfl (gv_Ci rfl) rfl ?_
  refine gv_rldn (pc' := 19) rfl rfl rfl ?_
  obtain ⟨v5, qv5, e⟩ := gv_bind e
  refine gv_fR (pc' := 22) rfl rfl qv5 rfl ?_
  refine gv_ild (pc' := 24) rfl rfl rfl ?_
  obtain ⟨v6, qv6, e⟩ := gv_bind e
  refine gv_iald (pc' := 25) rfl qv6 rfl ?_
  refine gv_ist (pc' := 27) rfl rfl (gv_Ci rfl) rfl ?_
  refine gv_ild (pc' := 29) rfl rfl rfl ?_
  refine gv_bp (pc' := 31) (x := 8) rfl rfl rfl ?_
  by_cases c7 : v4 = (8 : Int32)
  · rw [if_pos c7] at e
    refine gv_cmF (pc' := 34) rfl (gv_neF2 c7) rfl rfl ?_
    refine gv_rldn (pc' := 35) rfl rfl rfl ?_
    refine gv_rldn (pc' := 36) rfl rfl rfl ?_
    refine gv_rldn (pc' := 37) rfl rfl rfl ?_
    refine gv_ild (pc' := 39) rfl rfl rfl ?_
    obtain ⟨i8, qi8, e⟩ := gv_bind e
    obtain ⟨h10, qv9, e⟩ := gv_bind e
    refine gv_vS (jc := 86) (n := 3) (rest := []) (stk := []) (pc' := 42) rfl rfl rfl rfl rfl rfl rfl rfl rfl (gv_zR (gv_zR (gv_zR (gv_zI gv_z0)))) rfl (gv_aR (gv_aR (gv_aR (gv_aI gv_a0)))) (by omega) qi8 (cW_runGetter_ok qv9) rfl rfl ?_
    refine gv_ic (pc' := 43) (x := 4) rfl rfl rfl ?_
    refine gv_ist (pc' := 45) rfl rfl (gv_Ci rfl) rfl ?_
    refine gv_ild (pc' := 47) rfl rfl rfl ?_
    refine gv_bp (pc' := 49) (x := 8) rfl rfl rfl ?_
    obtain ⟨v11, qv11, e⟩ := gv_bind e
    refine gv_sS (jc := 87) (n := 2) (rest := []) (stk := [.int v11]) (pc' := 52) rfl rfl rfl rfl rfl rfl rfl rfl rfl (gv_zI (gv_zI gv_z0)) rfl (gv_aI (gv_aI gv_a0)) (by omega) (jM_floorDiv_ok qv11) rfl rfl ?_
    refine gv_ist (pc' := 54) rfl rfl (gv_Ci rfl) rfl ?_
    exact gv_weak (cW_writeProperty_54_ok hD hW e) (gv_S1 rfl (gv_S1 rfl (gv_S1 rfl (gv_S1 rfl (gv_S1 rfl (gv_S1 rfl (gv_S1 rfl gv_S0)))))))
  rw [if_neg c7] at e
  refine gv_cmT (pc' := 54) rfl (gv_neT2 c7) rfl ?_
  exact gv_weak (cW_writeProperty_54_ok hD hW e) (gv_S1 rfl (gv_S1 rfl (gv_S1 rfl (gv_S1 rfl (gv_S1 rfl (gv_S1 rfl (gv_S1 rfl gv_S0)))))))
def cW_writeRecord_80 (W : Option Nat → Option Nat → Option Nat → Int32 → Int32 → Int32 → gx_H → Option gx_H) (l0 : Option Nat) (h : gx_H) : Option gx_H :=
  (gv_is h l0 5).bind fun i1 =>
  (cW_writeByte l0 (0 : Int32) h).bind fun h3 =>
  some h3
theorem cW_writeRecord_80_ok {xs : Option (List Int32)} {D : Nat} (hD : 12 ≤ D) {W : Option Nat → Option Nat → Option Nat → Int32 → Int32 → Int32 → gx_H → Option gx_H} (hW : ∀ (l0 : Option Nat) (l1 : Option Nat) (l2 : Option Nat) (l3 : Int32) (l4 : Int32) (l5 : Int32) (h : gx_H) (r : gx_H), W l0 l1 l2 l3 l4 l5 h = some r → gv_V xs D 78 0 [(0, gv_u l0), (1, gv_u l1), (2, gv_u l2), (3, .int l3), (4, .int l4), (5, .int l5)] [] h (.returned none) r) {l0 : Option Nat} {h : gx_H} {r : gx_H} (e : cW_writeRecord_80 W l0 h = some r) : gv_V xs (D + 2) 84 80 [(0, gv_u l0)] [] h (.returned none) r := by
  unfold cW_writeRecord_80 at e
  refine gv_rldn (pc' := 81) rfl rfl rfl ?_
  refine gv_ic (pc' := 82) (x := 0) rfl rfl rfl ?_
  obtain ⟨i1, qi1, e⟩ := gv_bind e
  obtain ⟨h3, qv2, e⟩ := gv_bind e
  refine gv_vS (jc := 77) (n := 1) (rest := []) (stk := []) (pc' := 85) rfl rfl rfl rfl rfl rfl rfl rfl rfl (gv_zR (gv_zI gv_z0)) rfl (gv_aR (gv_aI gv_a0)) (by omega) qi1 (cW_writeByte_ok qv2) rfl rfl ?_
  cases e
  exact gv_retV rfl rfl
def cW_writeRecord_74 (W : Option Nat → Option Nat → Option Nat → Int32 → Int32 → Int32 → gx_H → Option gx_H) (rec31 : Option Nat → Option Nat → Option Nat → Option Nat → Int32 → Int32 → Option Nat → Int32 → gx_H → Option gx_H) (l0 : Option Nat) (l1 : Option Nat) (l2 : Option Nat) (l3 : Option Nat) (l4 : Int32) (l5 : Int32) (l6 : Option Nat) (l7 : Int32) (h : gx_H) : Option gx_H :=
  rec31 l0 l1 l2 l3 l4 l5 l6 (l7 + 1) h
theorem cW_writeRecord_74_ok {xs : Option (List Int32)} {D : Nat} (hD : 12 ≤ D) {W : Option Nat → Option Nat → Option Nat → Int32 → Int32 → Int32 → gx_H → Option gx_H} (hW : ∀ (l0 : Option Nat) (l1 : Option Nat) (l2 : Option Nat) (l3 : Int32) (l4 : Int32) (l5 : Int32) (h : gx_H) (r : gx_H), W l0 l1 l2 l3 l4 l5 h = some r → gv_V xs D 78 0 [(0, gv_u l0), (1, gv_u l1), (2, gv_u l2), (3, .int l3), (4, .int l4), (5, .int l5)] [] h (.returned none) r) {rec31 : Option Nat → Option Nat → Option Nat → Option Nat → Int32 → Int32 → Option Nat → Int32 → gx_H → Option gx_H} (hrec31 : ∀ (l0 : Option Nat) (l1 : Option Nat) (l2 : Option Nat) (l3 : Option Nat) (l4 : Int32) (l5 : Int32) (l6 : Option Nat) (l7 : Int32) (h : gx_H) (r : gx_H), rec31 l0 l1 l2 l3 l4 l5 l6 l7 h = some r → gv_V xs (D + 2) 84 31 [(0, gv_u l0), (1, gv_u l1), (2, gv_u l2), (3, gv_u l3), (4, .int l4), (5, .int l5), (6, gv_u l6), (7, .int l7)] [] h (.returned none) r) {l0 : Option Nat} {l1 : Option Nat} {l2 : Option Nat} {l3 : Option Nat} {l4 : Int32} {l5 : Int32} {l6 : Option Nat} {l7 : Int32} {h : gx_H} {r : gx_H} (e : cW_writeRecord_74 W rec31 l0 l1 l2 l3 l4 l5 l6 l7 h = some r) : gv_V xs (D + 2) 84 74 [(0, gv_u l0), (1, gv_u l1), (2, gv_u l2), (3, gv_u l3), (4, .int l4), (5, .int l5), (6, gv_u l6), (7, .int l7)] [] h (.returned none) r := by
  unfold cW_writeRecord_74 at e
  refine gv_inc (pc' := 77) (y := 1) rfl rfl rfl rfl (gv_Cr rfl) rfl ?_
  refine gv_goto (pc' := 31) rfl rfl ?_
  exact gv_weak (hrec31 _ _ _ _ _ _ _ _ _ _ e) (gv_S1 rfl (gv_S1 rfl (gv_S1 rfl (gv_S1 rfl (gv_S1 rfl (gv_S1 rfl (gv_S1 rfl (gv_S1 rfl gv_S0))))))))
def cW_writeRecord_31 (W : Option Nat → Option Nat → Option Nat → Int32 → Int32 → Int32 → gx_H → Option gx_H) : Nat → Option Nat → Option Nat → Option Nat → Option Nat → Int32 → Int32 → Option Nat → Int32 → gx_H → Option gx_H
  | 0, _, _, _, _, _, _, _, _, _ => none
  | n + 1, l0, l1, l2, l3, l4, l5, l6, l7, h =>
    if l7 < l5 then (
      (gv_gI h l0 5 4).bind fun v2 =>
      if v2 = 0 then (
        (gv_lI h l6 l7).bind fun v4 =>
        (gv_is h l3 2).bind fun i5 =>
        (cT_indexOfKey l3 (4 : Int32) v4 h).bind fun v6 =>
        if v6 = (-1 : Int32) then (
          cW_writeRecord_74 W (cW_writeRecord_31 W n) l0 l1 l2 l3 l4 l5 l6 l7 h) else
        (gv_is h l0 5).bind fun i8 =>
        (cW_writeProperty W l0 l1 l2 l3 v6 l4 h).bind fun h10 =>
        cW_writeRecord_74 W (cW_writeRecord_31 W n) l0 l1 l2 l3 l4 l5 l6 l7 h10) else
      cW_writeRecord_80 W l0 h) else
    cW_writeRecord_80 W l0 h
theorem cW_writeRecord_31_ok {xs : Option (List Int32)} {D : Nat} (hD : 12 ≤ D) {W : Option Nat → Option Nat → Option Nat → Int32 → Int32 → Int32 → gx_H → Option gx_H} (hW : ∀ (l0 : Option Nat) (l1 : Option Nat) (l2 : Option Nat) (l3 : Int32) (l4 : Int32) (l5 : Int32) (h : gx_H) (r : gx_H), W l0 l1 l2 l3 l4 l5 h = some r → gv_V xs D 78 0 [(0, gv_u l0), (1, gv_u l1), (2, gv_u l2), (3, .int l3), (4, .int l4), (5, .int l5)] [] h (.returned none) r) : ∀ (n : Nat) (l0 : Option Nat) (l1 : Option Nat) (l2 : Option Nat) (l3 : Option Nat) (l4 : Int32) (l5 : Int32) (l6 : Option Nat) (l7 : Int32) (h : gx_H) (r : gx_H), cW_writeRecord_31 W n l0 l1 l2 l3 l4 l5 l6 l7 h = some r → gv_V xs (D + 2) 84 31 [(0, gv_u l0), (1, gv_u l1), (2, gv_u l2), (3, gv_u l3), (4, .int l4), (5, .int l5), (6, gv_u l6), (7, .int l7)] [] h (.returned none) r := by
  intro n
  induction n with
  | zero => intro l0 l1 l2 l3 l4 l5 l6 l7 h r e; cases e
  | succ n ih =>
    intro l0 l1 l2 l3 l4 l5 l6 l7 h r e
    rw [cW_writeRecord_31] at e
    refine gv_ild (pc' := 33) rfl rfl rfl ?_
    refine gv_ild (pc' := 35) rfl rfl rfl ?_
    by_cases c1 : l7 < l5
    · rw [if_pos c1] at e
      refine gv_cmF (pc' := 38) rfl (gv_geF2 c1) rfl rfl ?_
      refine gv_rldn (pc' := 39) rfl rfl rfl ?_
      obtain ⟨v2, qv2, e⟩ := gv_bind e
      refine gv_fI (pc' := 42) rfl rfl qv2 rfl ?_
      by_cases c3 : v2 = 0
      · rw [if_pos c3] at e
        refine gv_ifF (pc' := 45) rfl (gv_neF c3) rfl rfl ?_
        refine gv_rldn (pc' := 46) rfl rfl rfl ?_
        refine gv_ic (pc' := 47) (x := 4) rfl rfl rfl ?_
        refine gv_rld (pc' := 49) rfl rfl rfl ?_
        refine gv_ild (pc' := 51) rfl rfl rfl ?_
        obtain ⟨v4, qv4, e⟩ := gv_bind e
        refine gv_iald (pc' := 52) rfl qv4 rfl ?_
        obtain ⟨i5, qi5, e⟩ := gv_bind e
        obtain ⟨v6, qv6, e⟩ := gv_bind e
        refine gv_vS (jc := 47) (n := 2) (rest := []) (stk := [.int v6]) (pc' := 55) rfl rfl rfl rfl rfl rfl rfl rfl rfl (gv_zR (gv_zI (gv_zI gv_z0))) rfl (gv_aR (gv_aI (gv_aI gv_a0))) (by omega) qi5 (cT_indexOfKey_ok qv6) rfl rfl ?_
        refine gv_ist (pc' := 57) rfl rfl (gv_Ci rfl) rfl ?_
        refine gv_ild (pc' := 59) rfl rfl rfl ?_
        refine gv_ic (pc' := 60) (x := -1) rfl rfl rfl ?_
        by_cases c7 : v6 = (-1 : Int32)
        · rw [if_pos c7] at e
          refine gv_cmT (pc' := 74) rfl (gv_eqT2 c7) rfl ?_
          exact gv_weak (cW_writeRecord_74_ok hD hW ih e) (gv_S1 rfl (gv_S1 rfl (gv_S1 rfl (gv_S1 rfl (gv_S1 rfl (gv_S1 rfl (gv_S1 rfl (gv_S1 rfl gv_S0))))))))
        rw [if_neg c7] at e
        refine gv_cmF (pc' := 63) rfl (gv_eqF2 c7) rfl rfl ?_
        refine gv_rldn (pc' := 64) rfl rfl rfl ?_
        refine gv_rldn (pc' := 65) rfl rfl rfl ?_
        refine gv_rldn (pc' := 66) rfl rfl rfl ?_
        refine gv_rldn (pc' := 67) rfl rfl rfl ?_
        refine gv_ild (pc' := 69) rfl rfl rfl ?_
        refine gv_ild (pc' := 71) rfl rfl rfl ?_
        obtain ⟨i8, qi8, e⟩ := gv_bind e
        obtain ⟨h10, qv9, e⟩ := gv_bind e
        refine gv_vS (jc := 85) (n := 5) (rest := []) (stk := []) (pc' := 74) rfl rfl rfl rfl rfl rfl rfl rfl rfl (gv_zR (gv_zR (gv_zR (gv_zR (gv_zI (gv_zI gv_z0)))))) rfl (gv_aR (gv_aR (gv_aR (gv_aR (gv_aI (gv_aI gv_a0)))))) (by omega) qi8 (cW_writeProperty_ok hD hW qv9) rfl rfl ?_
        exact gv_weak (cW_writeRecord_74_ok hD hW ih e) (gv_S1 rfl (gv_S1 rfl (gv_S1 rfl (gv_S1 rfl (gv_S1 rfl (gv_S1 rfl (gv_S1 rfl (gv_S1 rfl gv_S0))))))))
      rw [if_neg c3] at e
      refine gv_ifT (pc' := 80) rfl (gv_neT c3) rfl ?_
      exact gv_weak (cW_writeRecord_80_ok hD hW e) (gv_S1 rfl gv_S0)
    rw [if_neg c1] at e
    refine gv_cmT (pc' := 80) rfl (gv_geT2 c1) rfl ?_
    exact gv_weak (cW_writeRecord_80_ok hD hW e) (gv_S1 rfl gv_S0)
def cW_writeRecord (W : Option Nat → Option Nat → Option Nat → Int32 → Int32 → Int32 → gx_H → Option gx_H) (l0 : Option Nat) (l1 : Option Nat) (l2 : Option Nat) (l3 : Option Nat) (l4 : Int32) (h : gx_H) : Option gx_H :=
  (gv_gI h l3 2 5).bind fun v1 =>
  (gv_gR h l0 5 3).bind fun v2 =>
  (gv_lA h v2 l4).bind fun v3 =>
  (gv_gR h l3 2 1).bind fun v4 =>
  (gv_cp h v4 (0 : Int32) v3 (0 : Int32) v1).bind fun h5 =>
  cW_writeRecord_31 W 1000000000000000 l0 l1 l2 l3 l4 v1 v3 (0 : Int32) h5
theorem cW_writeRecord_ok {xs : Option (List Int32)} {D : Nat} (hD : 12 ≤ D) {W : Option Nat → Option Nat → Option Nat → Int32 → Int32 → Int32 → gx_H → Option gx_H} (hW : ∀ (l0 : Option Nat) (l1 : Option Nat) (l2 : Option Nat) (l3 : Int32) (l4 : Int32) (l5 : Int32) (h : gx_H) (r : gx_H), W l0 l1 l2 l3 l4 l5 h = some r → gv_V xs D 78 0 [(0, gv_u l0), (1, gv_u l1), (2, gv_u l2), (3, .int l3), (4, .int l4), (5, .int l5)] [] h (.returned none) r) {l0 : Option Nat} {l1 : Option Nat} {l2 : Option Nat} {l3 : Option Nat} {l4 : Int32} {h : gx_H} {r : gx_H} (e : cW_writeRecord W l0 l1 l2 l3 l4 h = some r) : gv_V xs (D + 2) 84 0 [(0, gv_u l0), (1, gv_u l1), (2, gv_u l2), (3, gv_u l3), (4, .int l4)] [] h (.returned none) r := by
  unfold cW_writeRecord at e
  refine gv_rldn (pc' := 1) rfl rfl rfl ?_
  obtain ⟨v1, qv1, e⟩ := gv_bind e
  refine gv_fI (pc' := 4) rfl rfl qv1 rfl ?_
  refine gv_ist (pc' := 6) rfl rfl (gv_Ci rfl) rfl ?_
  refine gv_rldn (pc' := 7) rfl rfl rfl ?_
  obtain ⟨v2, qv2, e⟩ := gv_bind e
  refine gv_fR (pc' := 10) rfl rfl qv2 rfl ?_
  refine gv_ild (pc' := 12) rfl rfl rfl ?_
  obtain ⟨v3, qv3, e⟩ := gv_bind e
  refine gv_aaA (pc' := 13) rfl qv3 rfl ?_
  refine gv_rst (pc' := 15) rfl rfl (gv_Ci rfl) rfl ?_
  refine gv_rldn (pc' := 16) rfl rfl rfl ?_
  obtain ⟨v4, qv4, e⟩ := gv_bind e
  refine gv_fR (pc' := 19) rfl rfl qv4 rfl ?_
  refine gv_ic (pc' := 20) (x := 0) rfl rfl rfl ?_
  refine gv_rld (pc' := 22) rfl rfl rfl ?_
  refine gv_ic (pc' := 23) (x := 0) rfl rfl rfl ?_
  refine gv_ild (pc' := 25) rfl rfl rfl ?_
  obtain ⟨h5, qh5, e⟩ := gv_bind e
  refine gv_acp (pc' := 28) rfl rfl rfl qh5 rfl ?_
  refine gv_ic (pc' := 29) (x := 0) rfl rfl rfl ?_
  refine gv_ist (pc' := 31) rfl rfl (gv_Cr rfl) rfl ?_
  exact gv_weak (cW_writeRecord_31_ok hD hW 1000000000000000 _ _ _ _ _ _ _ _ _ _ e) (gv_S1 rfl (gv_S1 rfl (gv_S1 rfl (gv_S1 rfl (gv_S1 rfl (gv_S1 rfl (gv_S1 rfl (gv_S1 rfl gv_S0))))))))
def cW_writeList_68 (W : Option Nat → Option Nat → Option Nat → Int32 → Int32 → Int32 → gx_H → Option gx_H) (rec11 : Option Nat → Option Nat → Option Nat → Option Nat → Int32 → Int32 → gx_H → Option gx_H) (l0 : Option Nat) (l1 : Option Nat) (l2 : Option Nat) (l3 : Option Nat) (l4 : Int32) (l5 : Int32) (h : gx_H) : Option gx_H :=
  rec11 l0 l1 l2 l3 l4 (l5 + 1) h
theorem cW_writeList_68_ok {xs : Option (List Int32)} {D : Nat} (hD : 12 ≤ D) {W : Option Nat → Option Nat → Option Nat → Int32 → Int32 → Int32 → gx_H → Option gx_H} (hW : ∀ (l0 : Option Nat) (l1 : Option Nat) (l2 : Option Nat) (l3 : Int32) (l4 : Int32) (l5 : Int32) (h : gx_H) (r : gx_H), W l0 l1 l2 l3 l4 l5 h = some r → gv_V xs D 78 0 [(0, gv_u l0), (1, gv_u l1), (2, gv_u l2), (3, .int l3), (4, .int l4), (5, .int l5)] [] h (.returned none) r) {rec11 : Option Nat → Option Nat → Option Nat → Option Nat → Int32 → Int32 → gx_H → Option gx_H} (hrec11 : ∀ (l0 : Option Nat) (l1 : Option Nat) (l2 : Option Nat) (l3 : Option Nat) (l4 : Int32) (l5 : Int32) (h : gx_H) (r : gx_H), rec11 l0 l1 l2 l3 l4 l5 h = some r → gv_V xs (D + 1) 90 11 [(0, gv_u l0), (1, gv_u l1), (2, gv_u l2), (3, gv_u l3), (4, .int l4), (5, .int l5)] [] h (.returned none) r) {l0 : Option Nat} {l1 : Option Nat} {l2 : Option Nat} {l3 : Option Nat} {l4 : Int32} {l5 : Int32} {h : gx_H} {r : gx_H} (e : cW_writeList_68 W rec11 l0 l1 l2 l3 l4 l5 h = some r) : gv_V xs (D + 1) 90 68 [(0, gv_u l0), (1, gv_u l1), (2, gv_u l2), (3, gv_u l3), (4, .int l4), (5, .int l5)] [] h (.returned none) r := by
  unfold cW_writeList_68 at e
  refine gv_inc (pc' := 71) (y := 1) rfl rfl rfl rfl (gv_Ci rfl) rfl ?_
  refine gv_goto (pc' := 11) rfl rfl ?_
  exact gv_weak (hrec11 _ _ _ _ _ _ _ _ e) (gv_S1 rfl (gv_S1 rfl (gv_S1 rfl (gv_S1 rfl (gv_S1 rfl (gv_S1 rfl gv_S0))))))
def cW_writeList_11 (W : Option Nat → Option Nat → Option Nat → Int32 → Int32 → Int32 → gx_H → Option gx_H) : Nat → Option Nat → Option Nat → Option Nat → Option Nat → Int32 → Int32 → gx_H → Option gx_H
  | 0, _, _, _, _, _, _, _ => none
  | n + 1, l0, l1, l2, l3, l4, l5, h =>
    (gv_gI h l3 2 5).bind fun v1 =>
    if l5 < v1 then (
      (gv_gR h l3 2 2).bind fun v3 =>
      (gv_lI h v3 l5).bind fun v4 =>
      if v4 = (-1 : Int32) then (
        (gv_is h l0 5).bind fun i6 =>
        (cW_writeByte l0 (0 : Int32) h).bind fun h8 =>
        cW_writeList_68 W (cW_writeList_11 W n) l0 l1 l2 l3 l4 l5 h8) else
      (gv_is h l0 5).bind fun i9 =>
      (cW_writeByte l0 (1 : Int32) h).bind fun h11 =>
      (gv_gR h11 l3 2 2).bind fun v12 =>
      (gv_lI h11 v12 l5).bind fun v13 =>
      (gv_gR h11 l3 2 3).bind fun v14 =>
      (gv_lI h11 v14 l5).bind fun v15 =>
      (gv_is h11 l0 5).bind fun i16 =>
      (W l0 l1 l2 v13 v15 (l4 + (1 : Int32)) h11).bind fun h18 =>
      cW_writeList_68 W (cW_writeList_11 W n) l0 l1 l2 l3 l4 l5 h18) else
    some h
theorem cW_writeList_11_ok {xs : Option (List Int32)} {D : Nat} (hD : 12 ≤ D) {W : Option Nat → Option Nat → Option Nat → Int32 → Int32 → Int32 → gx_H → Option gx_H} (hW : ∀ (l0 : Option Nat) (l1 : Option Nat) (l2 : Option Nat) (l3 : Int32) (l4 : Int32) (l5 : Int32) (h : gx_H) (r : gx_H), W l0 l1 l2 l3 l4 l5 h = some r → gv_V xs D 78 0 [(0, gv_u l0), (1, gv_u l1), (2, gv_u l2), (3, .int l3), (4, .int l4), (5, .int l5)] [] h (.returned none) r) : ∀ (n : Nat) (l0 : Option Nat) (l1 : Option Nat) (l2 : Option Nat) (l3 : Option Nat) (l4 : Int32) (l5 : Int32) (h : gx_H) (r : gx_H), cW_writeList_11 W n l0 l1 l2 l3 l4 l5 h = some r → gv_V xs (D + 1) 90 11 [(0, gv_u l0), (1, gv_u l1), (2, gv_u l2), (3, gv_u l3), (4, .int l4), (5, .int l5)] [] h (.returned none) r := by
  intro n
  induction n with
  | zero => intro l0 l1 l2 l3 l4 l5 h r e; cases e
  | succ n ih =>
    intro l0 l1 l2 l3 l4 l5 h r e
    rw [cW_writeList_11] at e
    refine gv_ild (pc' := 13) rfl rfl rfl ?_
    refine gv_rldn (pc' := 14) rfl rfl rfl ?_
    obtain ⟨v1, qv1, e⟩ := gv_bind e
    refine gv_fI (pc' := 17) rfl rfl qv1 rfl ?_
    by_cases c2 : l5 < v1
    · rw [if_pos c2] at e
      refine gv_cmF (pc' := 20) rfl (gv_geF2 c2) rfl rfl ?_
      refine gv_rldn (pc' := 21) rfl rfl rfl ?_
      obtain ⟨v3, qv3, e⟩ := gv_bind e
      refine gv_fR (pc' := 24) rfl rfl qv3 rfl ?_
      refine gv_ild (pc' := 26) rfl rfl rfl ?_
      obtain ⟨v4, qv4, e⟩ := gv_bind e
      refine gv_iald (pc' := 27) rfl qv4 rfl ?_
      refine gv_ic (pc' := 28) (x := -1) rfl rfl rfl ?_
      by_cases c5 : v4 = (-1 : Int32)
      · rw [if_pos c5] at e
        refine gv_cmF (pc' := 31) rfl (gv_neF2 c5) rfl rfl ?_
        refine gv_rldn (pc' := 32) rfl rfl rfl ?_
        refine gv_ic (pc' := 33) (x := 0) rfl rfl rfl ?_
        obtain ⟨i6, qi6, e⟩ := gv_bind e
        obtain ⟨h8, qv7, e⟩ := gv_bind e
        refine gv_vS (jc := 77) (n := 1) (rest := []) (stk := []) (pc' := 36) rfl rfl rfl rfl rfl rfl rfl rfl rfl (gv_zR (gv_zI gv_z0)) rfl (gv_aR (gv_aI gv_a0)) (by omega) qi6 (cW_writeByte_ok qv7) rfl rfl ?_
        refine gv_goto (pc' := 68) rfl rfl ?_
        exact gv_weak (cW_writeList_68_ok hD hW ih e) (gv_S1 rfl (gv_S1 rfl (gv_S1 rfl (gv_S1 rfl (gv_S1 rfl (gv_S1 rfl gv_S0))))))
      rw [if_neg c5] at e
      refine gv_cmT (pc' := 39) rfl (gv_neT2 c5) rfl ?_
      refine gv_rldn (pc' := 40) rfl rfl rfl ?_
      refine gv_ic (pc' := 41) (x := 1) rfl rfl rfl ?_
      obtain ⟨i9, qi9, e⟩ := gv_bind e
      obtain ⟨h11, qv10, e⟩ := gv_bind e
      refine gv_vS (jc := 77) (n := 1) (rest := []) (stk := []) (pc' := 44) rfl rfl rfl rfl rfl rfl rfl rfl rfl (gv_zR (gv_zI gv_z0)) rfl (gv_aR (gv_aI gv_a0)) (by omega) qi9 (cW_writeByte_ok qv10) rfl rfl ?_
      refine gv_rldn (pc' := 45) rfl rfl rfl ?_
      refine gv_rldn (pc' := 46) rfl rfl rfl ?_
      refine gv_rldn (pc' := 47) rfl rfl rfl ?_
      refine gv_rldn (pc' := 48) rfl rfl rfl ?_
      obtain ⟨v12, qv12, e⟩ := gv_bind e
      refine gv_fR (pc' := 51) rfl rfl qv12 rfl ?_
      refine gv_ild (pc' := 53) rfl rfl rfl ?_
      obtain ⟨v13, qv13, e⟩ := gv_bind e
      refine gv_iald (pc' := 54) rfl qv13 rfl ?_
      refine gv_rldn (pc' := 55) rfl rfl rfl ?_
      obtain ⟨v14, qv14, e⟩ := gv_bind e
      refine gv_fR (pc' := 58) rfl rfl qv14 rfl ?_
      refine gv_ild (pc' := 60) rfl rfl rfl ?_
      obtain ⟨v15, qv15, e⟩ := gv_bind e
      refine gv_iald (pc' := 61) rfl qv15 rfl ?_
      refine gv_ild (pc' := 63) rfl rfl rfl ?_
      refine gv_ic (pc' := 64) (x := 1) rfl rfl rfl ?_
      refine gv_iadd (pc' := 65) rfl rfl ?_
      obtain ⟨i16, qi16, e⟩ := gv_bind e
      obtain ⟨h18, qv17, e⟩ := gv_bind e
      refine gv_vS (jc := 78) (n := 5) (rest := []) (stk := []) (pc' := 68) rfl rfl rfl rfl rfl rfl rfl rfl rfl (gv_zR (gv_zR (gv_zR (gv_zI (gv_zI (gv_zI gv_z0)))))) rfl (gv_aR (gv_aR (gv_aR (gv_aI (gv_aI (gv_aI gv_a0)))))) (by omega) qi16 (hW _ _ _ _ _ _ _ _ qv17) rfl rfl ?_
      exact gv_weak (cW_writeList_68_ok hD hW ih e) (gv_S1 rfl (gv_S1 rfl (gv_S1 rfl (gv_S1 rfl (gv_S1 rfl (gv_S1 rfl gv_S0))))))
    rw [if_neg c2] at e
    refine gv_cmT (pc' := 74) rfl (gv_geT2 c2) rfl ?_
    cases e
    exact gv_retV rfl rfl
def cW_writeList (W : Option Nat → Option Nat → Option Nat → Int32 → Int32 → Int32 → gx_H → Option gx_H) (l0 : Option Nat) (l1 : Option Nat) (l2 : Option Nat) (l3 : Option Nat) (l4 : Int32) (h : gx_H) : Option gx_H :=
  (gv_gI h l3 2 5).bind fun v1 =>
  (gv_is h l0 5).bind fun i2 =>
  (cW_writeByte l0 v1 h).bind fun h4 =>
  cW_writeList_11 W 1000000000000000 l0 l1 l2 l3 l4 (0 : Int32) h4
theorem cW_writeList_ok {xs : Option (List Int32)} {D : Nat} (hD : 12 ≤ D) {W : Option Nat → Option Nat → Option Nat → Int32 → Int32 → Int32 → gx_H → Option gx_H} (hW : ∀ (l0 : Option Nat) (l1 : Option Nat) (l2 : Option Nat) (l3 : Int32) (l4 : Int32) (l5 : Int32) (h : gx_H) (r : gx_H), W l0 l1 l2 l3 l4 l5 h = some r → gv_V xs D 78 0 [(0, gv_u l0), (1, gv_u l1), (2, gv_u l2), (3, .int l3), (4, .int l4), (5, .int l5)] [] h (.returned none) r) {l0 : Option Nat} {l1 : Option Nat} {l2 : Option Nat} {l3 : Option Nat} {l4 : Int32} {h : gx_H} {r : gx_H} (e : cW_writeList W l0 l1 l2 l3 l4 h = some r) : gv_V xs (D + 1) 90 0 [(0, gv_u l0), (1, gv_u l1), (2, gv_u l2), (3, gv_u l3), (4, .int l4)] [] h (.returned none) r := by
  unfold cW_writeList at e
  refine gv_rldn (pc' := 1) rfl rfl rfl ?_
  refine gv_rldn (pc' := 2) rfl rfl rfl ?_
  obtain ⟨v1, qv1, e⟩ := gv_bind e
  refine gv_fI (pc' := 5) rfl rfl qv1 rfl ?_
  obtain ⟨i2, qi2, e⟩ := gv_bind e
  obtain ⟨h4, qv3, e⟩ := gv_bind e
  refine gv_vS (jc := 77) (n := 1) (rest := []) (stk := []) (pc' := 8) rfl rfl rfl rfl rfl rfl rfl rfl rfl (gv_zR (gv_zI gv_z0)) rfl (gv_aR (gv_aI gv_a0)) (by omega) qi2 (cW_writeByte_ok qv3) rfl rfl ?_
  refine gv_ic (pc' := 9) (x := 0) rfl rfl rfl ?_
  refine gv_ist (pc' := 11) rfl rfl (gv_Ci rfl) rfl ?_
  exact gv_weak (cW_writeList_11_ok hD hW 1000000000000000 _ _ _ _ _ _ _ _ e) (gv_S1 rfl (gv_S1 rfl (gv_S1 rfl (gv_S1 rfl (gv_S1 rfl (gv_S1 rfl gv_S0))))))
def cW_writeMap_11 (W : Option Nat → Option Nat → Option Nat → Int32 → Int32 → Int32 → gx_H → Option gx_H) : Nat → Option Nat → Option Nat → Option Nat → Option Nat → Int32 → Int32 → gx_H → Option gx_H
  | 0, _, _, _, _, _, _, _ => none
  | n + 1, l0, l1, l2, l3, l4, l5, h =>
    (gv_gI h l3 2 5).bind fun v1 =>
    if l5 < v1 then (
      (gv_gR h l3 2 0).bind fun v3 =>
      (gv_lI h v3 l5).bind fun v4 =>
      (gv_gR h l3 2 1).bind fun v5 =>
      (gv_lI h v5 l5).bind fun v6 =>
      (gv_is h l0 5).bind fun i7 =>
      (W l0 l1 l2 v4 v6 (l4 + (1 : Int32)) h).bind fun h9 =>
      (gv_gR h9 l3 2 2).bind fun v10 =>
      (gv_lI h9 v10 l5).bind fun v11 =>
      (gv_gR h9 l3 2 3).bind fun v12 =>
      (gv_lI h9 v12 l5).bind fun v13 =>
      (gv_is h9 l0 5).bind fun i14 =>
      (W l0 l1 l2 v11 v13 (l4 + (1 : Int32)) h9).bind fun h16 =>
      cW_writeMap_11 W n l0 l1 l2 l3 l4 (l5 + 1) h16) else
    some h
theorem cW_writeMap_11_ok {xs : Option (List Int32)} {D : Nat} (hD : 12 ≤ D) {W : Option Nat → Option Nat → Option Nat → Int32 → Int32 → Int32 → gx_H → Option gx_H} (hW : ∀ (l0 : Option Nat) (l1 : Option Nat) (l2 : Option Nat) (l3 : Int32) (l4 : Int32) (l5 : Int32) (h : gx_H) (r : gx_H), W l0 l1 l2 l3 l4 l5 h = some r → gv_V xs D 78 0 [(0, gv_u l0), (1, gv_u l1), (2, gv_u l2), (3, .int l3), (4, .int l4), (5, .int l5)] [] h (.returned none) r) : ∀ (n : Nat) (l0 : Option Nat) (l1 : Option Nat) (l2 : Option Nat) (l3 : Option Nat) (l4 : Int32) (l5 : Int32) (h : gx_H) (r : gx_H), cW_writeMap_11 W n l0 l1 l2 l3 l4 l5 h = some r → gv_V xs (D + 1) 91 11 [(0, gv_u l0), (1, gv_u l1), (2, gv_u l2), (3, gv_u l3), (4, .int l4), (5, .int l5)] [] h (.returned none) r := by
  intro n
  induction n with
  | zero => intro l0 l1 l2 l3 l4 l5 h r e; cases e
  | succ n ih =>
    intro l0 l1 l2 l3 l4 l5 h r e
    rw [cW_writeMap_11] at e
    refine gv_ild (pc' := 13) rfl rfl rfl ?_
    refine gv_rldn (pc' := 14) rfl rfl rfl ?_
    obtain ⟨v1, qv1, e⟩ := gv_bind e
    refine gv_fI (pc' := 17) rfl rfl qv1 rfl ?_
    by_cases c2 : l5 < v1
    · rw [if_pos c2] at e
      refine gv_cmF (pc' := 20) rfl (gv_geF2 c2) rfl rfl ?_
      refine gv_rldn (pc' := 21) rfl rfl rfl ?_
      refine gv_rldn (pc' := 22) rfl rfl rfl ?_
      refine gv_rldn (pc' := 23) rfl rfl rfl ?_
      refine gv_rldn (pc' := 24) rfl rfl rfl ?_
      obtain ⟨v3, qv3, e⟩ := gv_bind e
      refine gv_fR (pc' := 27) rfl rfl qv3 rfl ?_
      refine gv_ild (pc' := 29) rfl rfl rfl ?_
      obtain ⟨v4, qv4, e⟩ := gv_bind e
      refine gv_iald (pc' := 30) rfl qv4 rfl ?_
      refine gv_rldn (pc' := 31) rfl rfl rfl ?_
      obtain ⟨v5, qv5, e⟩ := gv_bind e
      refine gv_fR (pc' := 34) rfl rfl qv5 rfl ?_
      refine gv_ild (pc' := 36) rfl rfl rfl ?_
      obtain ⟨v6, qv6, e⟩ := gv_bind e
      refine gv_iald (pc' := 37) rfl qv6 rfl ?_
      refine gv_ild (pc' := 39) rfl rfl rfl ?_
      refine gv_ic (pc' := 40) (x := 1) rfl rfl rfl ?_
      refine gv_iadd (pc' := 41) rfl rfl ?_
      obtain ⟨i7, qi7, e⟩ := gv_bind e
      obtain ⟨h9, qv8, e⟩ := gv_bind e
      refine gv_vS (jc := 78) (n := 5) (rest := []) (stk := []) (pc' := 44) rfl rfl rfl rfl rfl rfl rfl rfl rfl (gv_zR (gv_zR (gv_zR (gv_zI (gv_zI (gv_zI gv_z0)))))) rfl (gv_aR (gv_aR (gv_aR (gv_aI (gv_aI (gv_aI gv_a0)))))) (by omega) qi7 (hW _ _ _ _ _ _ _ _ qv8) rfl rfl ?_
      refine gv_rldn (pc' := 45) rfl rfl rfl ?_
      refine gv_rldn (pc' := 46) rfl rfl rfl ?_
      refine gv_rldn (pc' := 47) rfl rfl rfl ?_
      refine gv_rldn (pc' := 48) rfl rfl rfl ?_
      obtain ⟨v10, qv10, e⟩ := gv_bind e
      refine gv_fR (pc' := 51) rfl rfl qv10 rfl ?_
      refine gv_ild (pc' := 53) rfl rfl rfl ?_
      obtain ⟨v11, qv11, e⟩ := gv_bind e
      refine gv_iald (pc' := 54) rfl qv11 rfl ?_
      refine gv_rldn (pc' := 55) rfl rfl rfl ?_
      obtain ⟨v12, qv12, e⟩ := gv_bind e
      refine gv_fR (pc' := 58) rfl rfl qv12 rfl ?_
      refine gv_ild (pc' := 60) rfl rfl rfl ?_
      obtain ⟨v13, qv13, e⟩ := gv_bind e
      refine gv_iald (pc' := 61) rfl qv13 rfl ?_
      refine gv_ild (pc' := 63) rfl rfl rfl ?_
      refine gv_ic (pc' := 64) (x := 1) rfl rfl rfl ?_
      refine gv_iadd (pc' := 65) rfl rfl ?_
      obtain ⟨i14, qi14, e⟩ := gv_bind e
      obtain ⟨h16, qv15, e⟩ := gv_bind e
      refine gv_vS (jc := 78) (n := 5) (rest := []) (stk := []) (pc' := 68) rfl rfl rfl rfl rfl rfl rfl rfl rfl (gv_zR (gv_zR (gv_zR (gv_zI (gv_zI (gv_zI gv_z0)))))) rfl (gv_aR (gv_aR (gv_aR (gv_aI (gv_aI (gv_aI gv_a0)))))) (by omega) qi14 (hW _ _ _ _ _ _ _ _ qv15) rfl rfl ?_
      refine gv_inc (pc' := 71) (y := 1) rfl rfl rfl rfl (gv_Ci rfl) rfl ?_
      refine gv_goto (pc' := 11) rfl rfl ?_
      exact gv_weak (ih _ _ _ _ _ _ _ _ e) (gv_S1 rfl (gv_S1 rfl (gv_S1 rfl (gv_S1 rfl (gv_S1 rfl (gv_S1 rfl gv_S0))))))
    rw [if_neg c2] at e
    refine gv_cmT (pc' := 74) rfl (gv_geT2 c2) rfl ?_
    cases e
    exact gv_retV rfl rfl
def cW_writeMap (W : Option Nat → Option Nat → Option Nat → Int32 → Int32 → Int32 → gx_H → Option gx_H) (l0 : Option Nat) (l1 : Option Nat) (l2 : Option Nat) (l3 : Option Nat) (l4 : Int32) (h : gx_H) : Option gx_H :=
  (gv_gI h l3 2 5).bind fun v1 =>
  (gv_is h l0 5).bind fun i2 =>
  (cW_writeByte l0 v1 h).bind fun h4 =>
  cW_writeMap_11 W 1000000000000000 l0 l1 l2 l3 l4 (0 : Int32) h4
theorem cW_writeMap_ok {xs : Option (List Int32)} {D : Nat} (hD : 12 ≤ D) {W : Option Nat → Option Nat → Option Nat → Int32 → Int32 → Int32 → gx_H → Option gx_H} (hW : ∀ (l0 : Option Nat) (l1 : Option Nat) (l2 : Option Nat) (l3 : Int32) (l4 : Int32) (l5 : Int32) (h : gx_H) (r : gx_H), W l0 l1 l2 l3 l4 l5 h = some r → gv_V xs D 78 0 [(0, gv_u l0), (1, gv_u l1), (2, gv_u l2), (3, .int l3), (4, .int l4), (5, .int l5)] [] h (.returned none) r) {l0 : Option Nat} {l1 : Option Nat} {l2 : Option Nat} {l3 : Option Nat} {l4 : Int32} {h : gx_H} {r : gx_H} (e : cW_writeMap W l0 l1 l2 l3 l4 h = some r) : gv_V xs (D + 1) 91 0 [(0, gv_u l0), (1, gv_u l1), (2, gv_u l2), (3, gv_u l3), (4, .int l4)] [] h (.returned none) r := by
  unfold cW_writeMap at e
  refine gv_rldn (pc' := 1) rfl rfl rfl ?_
  refine gv_rldn (pc' := 2) rfl rfl rfl ?_
  obtain ⟨v1, qv1, e⟩ := gv_bind e
  refine gv_fI (pc' := 5) rfl rfl qv1 rfl ?_
  obtain ⟨i2, qi2, e⟩ := gv_bind e
  obtain ⟨h4, qv3, e⟩ := gv_bind e
  refine gv_vS (jc := 77) (n := 1) (rest := []) (stk := []) (pc' := 8) rfl rfl rfl rfl rfl rfl rfl rfl rfl (gv_zR (gv_zI gv_z0)) rfl (gv_aR (gv_aI gv_a0)) (by omega) qi2 (cW_writeByte_ok qv3) rfl rfl ?_
  refine gv_ic (pc' := 9) (x := 0) rfl rfl rfl ?_
  refine gv_ist (pc' := 11) rfl rfl (gv_Ci rfl) rfl ?_
  exact gv_weak (cW_writeMap_11_ok hD hW 1000000000000000 _ _ _ _ _ _ _ _ e) (gv_S1 rfl (gv_S1 rfl (gv_S1 rfl (gv_S1 rfl (gv_S1 rfl (gv_S1 rfl gv_S0))))))
def cW_writeSet_11 (W : Option Nat → Option Nat → Option Nat → Int32 → Int32 → Int32 → gx_H → Option gx_H) : Nat → Option Nat → Option Nat → Option Nat → Option Nat → Int32 → Int32 → gx_H → Option gx_H
  | 0, _, _, _, _, _, _, _ => none
  | n + 1, l0, l1, l2, l3, l4, l5, h =>
    (gv_gI h l3 2 5).bind fun v1 =>
    if l5 < v1 then (
      (gv_gR h l3 2 2).bind fun v3 =>
      (gv_lI h v3 l5).bind fun v4 =>
      (gv_gR h l3 2 3).bind fun v5 =>
      (gv_lI h v5 l5).bind fun v6 =>
      (gv_is h l0 5).bind fun i7 =>
      (W l0 l1 l2 v4 v6 (l4 + (1 : Int32)) h).bind fun h9 =>
      cW_writeSet_11 W n l0 l1 l2 l3 l4 (l5 + 1) h9) else
    some h
theorem cW_writeSet_11_ok {xs : Option (List Int32)} {D : Nat} (hD : 12 ≤ D) {W : Option Nat → Option Nat → Option Nat → Int32 → Int32 → Int32 → gx_H → Option gx_H} (hW : ∀ (l0 : Option Nat) (l1 : Option Nat) (l2 : Option Nat) (l3 : Int32) (l4 : Int32) (l5 : Int32) (h : gx_H) (r : gx_H), W l0 l1 l2 l3 l4 l5 h = some r → gv_V xs D 78 0 [(0, gv_u l0), (1, gv_u l1), (2, gv_u l2), (3, .int l3), (4, .int l4), (5, .int l5)] [] h (.returned none) r) : ∀ (n : Nat) (l0 : Option Nat) (l1 : Option Nat) (l2 : Option Nat) (l3 : Option Nat) (l4 : Int32) (l5 : Int32) (h : gx_H) (r : gx_H), cW_writeSet_11 W n l0 l1 l2 l3 l4 l5 h = some r → gv_V xs (D + 1) 92 11 [(0, gv_u l0), (1, gv_u l1), (2, gv_u l2), (3, gv_u l3), (4, .int l4), (5, .int l5)] [] h (.returned none) r := by
  intro n
  induction n with
  | zero => intro l0 l1 l2 l3 l4 l5 h r e; cases e
  | succ n ih =>
    intro l0 l1 l2 l3 l4 l5 h r e
    rw [cW_writeSet_11] at e
    refine gv_ild (pc' := 13) rfl rfl rfl ?_
    refine gv_rldn (pc' := 14) rfl rfl rfl ?_
    obtain ⟨v1, qv1, e⟩ := gv_bind e
    refine gv_fI (pc' := 17) rfl rfl qv1 rfl ?_
    by_cases c2 : l5 < v1
    · rw [if_pos c2] at e
      refine gv_cmF (pc' := 20) rfl (gv_geF2 c2) rfl rfl ?_
      refine gv_rldn (pc' := 21) rfl rfl rfl ?_
      refine gv_rldn (pc' := 22) rfl rfl rfl ?_
      refine gv_rldn (pc' := 23) rfl rfl rfl ?_
      refine gv_rldn (pc' := 24) rfl rfl rfl ?_
      obtain ⟨v3, qv3, e⟩ := gv_bind e
      refine gv_fR (pc' := 27) rfl rfl qv3 rfl ?_
      refine gv_ild (pc' := 29) rfl rfl rfl ?_
      obtain ⟨v4, qv4, e⟩ := gv_bind e
      refine gv_iald (pc' := 30) rfl qv4 rfl ?_
      refine gv_rldn (pc' := 31) rfl rfl rfl ?_
      obtain ⟨v5, qv5, e⟩ := gv_bind e
      refine gv_fR (pc' := 34) rfl rfl qv5 rfl ?_
      refine gv_ild (pc' := 36) rfl rfl rfl ?_
      obtain ⟨v6, qv6, e⟩ := gv_bind e
      refine gv_iald (pc' := 37) rfl qv6 rfl ?_
      refine gv_ild (pc' := 39) rfl rfl rfl ?_
      refine gv_ic (pc' := 40) (x := 1) rfl rfl rfl ?_
      refine gv_iadd (pc' := 41) rfl rfl ?_
      obtain ⟨i7, qi7, e⟩ := gv_bind e
      obtain ⟨h9, qv8, e⟩ := gv_bind e
      refine gv_vS (jc := 78) (n := 5) (rest := []) (stk := []) (pc' := 44) rfl rfl rfl rfl rfl rfl rfl rfl rfl (gv_zR (gv_zR (gv_zR (gv_zI (gv_zI (gv_zI gv_z0)))))) rfl (gv_aR (gv_aR (gv_aR (gv_aI (gv_aI (gv_aI gv_a0)))))) (by omega) qi7 (hW _ _ _ _ _ _ _ _ qv8) rfl rfl ?_
      refine gv_inc (pc' := 47) (y := 1) rfl rfl rfl rfl (gv_Ci rfl) rfl ?_
      refine gv_goto (pc' := 11) rfl rfl ?_
      exact gv_weak (ih _ _ _ _ _ _ _ _ e) (gv_S1 rfl (gv_S1 rfl (gv_S1 rfl (gv_S1 rfl (gv_S1 rfl (gv_S1 rfl gv_S0))))))
    rw [if_neg c2] at e
    refine gv_cmT (pc' := 50) rfl (gv_geT2 c2) rfl ?_
    cases e
    exact gv_retV rfl rfl
def cW_writeSet (W : Option Nat → Option Nat → Option Nat → Int32 → Int32 → Int32 → gx_H → Option gx_H) (l0 : Option Nat) (l1 : Option Nat) (l2 : Option Nat) (l3 : Option Nat) (l4 : Int32) (h : gx_H) : Option gx_H :=
  (gv_gI h l3 2 5).bind fun v1 =>
  (gv_is h l0 5).bind fun i2 =>
  (cW_writeByte l0 v1 h).bind fun h4 =>
  cW_writeSet_11 W 1000000000000000 l0 l1 l2 l3 l4 (0 : Int32) h4
theorem cW_writeSet_ok {xs : Option (List Int32)} {D : Nat} (hD : 12 ≤ D) {W : Option Nat → Option Nat → Option Nat → Int32 → Int32 → Int32 → gx_H → Option gx_H} (hW : ∀ (l0 : Option Nat) (l1 : Option Nat) (l2 : Option Nat) (l3 : Int32) (l4 : Int32) (l5 : Int32) (h : gx_H) (r : gx_H), W l0 l1 l2 l3 l4 l5 h = some r → gv_V xs D 78 0 [(0, gv_u l0), (1, gv_u l1), (2, gv_u l2), (3, .int l3), (4, .int l4), (5, .int l5)] [] h (.returned none) r) {l0 : Option Nat} {l1 : Option Nat} {l2 : Option Nat} {l3 : Option Nat} {l4 : Int32} {h : gx_H} {r : gx_H} (e : cW_writeSet W l0 l1 l2 l3 l4 h = some r) : gv_V xs (D + 1) 92 0 [(0, gv_u l0), (1, gv_u l1), (2, gv_u l2), (3, gv_u l3), (4, .int l4)] [] h (.returned none) r := by
  unfold cW_writeSet at e
  refine gv_rldn (pc' := 1) rfl rfl rfl ?_
  refine gv_rldn (pc' := 2) rfl rfl rfl ?_
  obtain ⟨v1, qv1, e⟩ := gv_bind e
  refine gv_fI (pc' := 5) rfl rfl qv1 rfl ?_
  obtain ⟨i2, qi2, e⟩ := gv_bind e
  obtain ⟨h4, qv3, e⟩ := gv_bind e
  refine gv_vS (jc := 77) (n := 1) (rest := []) (stk := []) (pc' := 8) rfl rfl rfl rfl rfl rfl rfl rfl rfl (gv_zR (gv_zI gv_z0)) rfl (gv_aR (gv_aI gv_a0)) (by omega) qi2 (cW_writeByte_ok qv3) rfl rfl ?_
  refine gv_ic (pc' := 9) (x := 0) rfl rfl rfl ?_
  refine gv_ist (pc' := 11) rfl rfl (gv_Ci rfl) rfl ?_
  exact gv_weak (cW_writeSet_11_ok hD hW 1000000000000000 _ _ _ _ _ _ _ _ e) (gv_S1 rfl (gv_S1 rfl (gv_S1 rfl (gv_S1 rfl (gv_S1 rfl (gv_S1 rfl gv_S0))))))
def cW_writeParts (W : Option Nat → Option Nat → Option Nat → Int32 → Int32 → Int32 → gx_H → Option gx_H) (l0 : Option Nat) (l1 : Option Nat) (l2 : Option Nat) (l3 : Option Nat) (l4 : Int32) (h : gx_H) : Option gx_H :=
  (gv_gI h l3 2 4).bind fun v1 =>
  (gv_is h l0 5).bind fun i2 =>
  (cW_writeByte l0 ((8 : Int32) + v1) h).bind fun h4 =>
  (gv_gI h4 l3 2 4).bind fun v5 =>
  if v5 = (0 : Int32) then (
    (gv_is h4 l0 5).bind fun i7 =>
    (cW_writeRecord W l0 l1 l2 l3 l4 h4).bind fun h9 =>
    some h9) else
  if v5 = (1 : Int32) then (
    (gv_is h4 l0 5).bind fun i11 =>
    (cW_writeList W l0 l1 l2 l3 l4 h4).bind fun h13 =>
    some h13) else
  if v5 = (2 : Int32) then (
    (gv_is h4 l0 5).bind fun i15 =>
    (cW_writeMap W l0 l1 l2 l3 l4 h4).bind fun h17 =>
    some h17) else
  if v5 = (3 : Int32) then (
    (gv_is h4 l0 5).bind fun i19 =>
    (cW_writeSet W l0 l1 l2 l3 l4 h4).bind fun h21 =>
    some h21) else
  if v5 = (4 : Int32) then (
    (gv_gJ h4 l3 2 10).bind fun v23 =>
    (gv_gI h4 l3 2 5).bind fun v24 =>
    (gv_is h4 l0 5).bind fun i25 =>
    (cW_writeWord l0 v23 v24 h4).bind fun h27 =>
    some h27) else
  (gv_gJ h4 l3 2 10).bind fun v28 =>
  (gv_is h4 l0 5).bind fun i29 =>
  (cW_writeZigzag l0 v28 h4).bind fun h31 =>
  some h31
theorem cW_writeParts_ok {xs : Option (List Int32)} {D : Nat} (hD : 12 ≤ D) {W : Option Nat → Option Nat → Option Nat → Int32 → Int32 → Int32 → gx_H → Option gx_H} (hW : ∀ (l0 : Option Nat) (l1 : Option Nat) (l2 : Option Nat) (l3 : Int32) (l4 : Int32) (l5 : Int32) (h : gx_H) (r : gx_H), W l0 l1 l2 l3 l4 l5 h = some r → gv_V xs D 78 0 [(0, gv_u l0), (1, gv_u l1), (2, gv_u l2), (3, .int l3), (4, .int l4), (5, .int l5)] [] h (.returned none) r) {l0 : Option Nat} {l1 : Option Nat} {l2 : Option Nat} {l3 : Option Nat} {l4 : Int32} {h : gx_H} {r : gx_H} (e : cW_writeParts W l0 l1 l2 l3 l4 h = some r) : gv_V xs (D + 3) 83 0 [(0, gv_u l0), (1, gv_u l1), (2, gv_u l2), (3, gv_u l3), (4, .int l4)] [] h (.returned none) r := by
  unfold cW_writeParts at e
  refine gv_rldn (pc' := 1) rfl rfl rfl ?_
  refine gv_bp (pc' := 3) (x := 8) rfl rfl rfl ?_
  refine gv_rldn (pc' := 4) rfl rfl rfl ?_
  obtain ⟨v1, qv1, e⟩ := gv_bind e
  refine gv_fI (pc' := 7) rfl rfl qv1 rfl ?_
  refine gv_iadd (pc' := 8) rfl rfl ?_
  obtain ⟨i2, qi2, e⟩ := gv_bind e
  obtain ⟨h4, qv3, e⟩ := gv_bind e
  refine gv_vS (jc := 77) (n := 1) (rest := []) (stk := []) (pc' := 11) rfl rfl rfl rfl rfl rfl rfl rfl rfl (gv_zR (gv_zI gv_z0)) rfl (gv_aR (gv_aI gv_a0)) (by omega) qi2 (cW_writeByte_ok qv3) rfl rfl ?_
  refine gv_rldn (pc' := 12) rfl rfl rfl ?_
  obtain ⟨v5, qv5, e⟩ := gv_bind e
  refine gv_fI (pc' := 15) rfl rfl qv5 rfl ?_
  by_cases c6 : v5 = (0 : Int32)
  · rw [if_pos c6] at e
    refine gv_sw (pc' := 48) (off := 33) rfl (by rw [c6]; rfl) rfl ?_
    refine gv_rldn (pc' := 49) rfl rfl rfl ?_
    refine gv_rldn (pc' := 50) rfl rfl rfl ?_
    refine gv_rldn (pc' := 51) rfl rfl rfl ?_
    refine gv_rldn (pc' := 52) rfl rfl rfl ?_
    refine gv_ild (pc' := 54) rfl rfl rfl ?_
    obtain ⟨i7, qi7, e⟩ := gv_bind e
    obtain ⟨h9, qv8, e⟩ := gv_bind e
    refine gv_vS (jc := 84) (n := 4) (rest := []) (stk := []) (pc' := 57) rfl rfl rfl rfl rfl rfl rfl rfl rfl (gv_zR (gv_zR (gv_zR (gv_zR (gv_zI gv_z0))))) rfl (gv_aR (gv_aR (gv_aR (gv_aR (gv_aI gv_a0))))) (by omega) qi7 (cW_writeRecord_ok hD hW qv8) rfl rfl ?_
    refine gv_goto (pc' := 119) rfl rfl ?_
    cases e
    exact gv_retV rfl rfl
  rw [if_neg c6] at e
  by_cases c10 : v5 = (1 : Int32)
  · rw [if_pos c10] at e
    refine gv_sw (pc' := 60) (off := 45) rfl (by rw [c10]; rfl) rfl ?_
    refine gv_rldn (pc' := 61) rfl rfl rfl ?_
    refine gv_rldn (pc' := 62) rfl rfl rfl ?_
    refine gv_rldn (pc' := 63) rfl rfl rfl ?_
    refine gv_rldn (pc' := 64) rfl rfl rfl ?_
    refine gv_ild (pc' := 66) rfl rfl rfl ?_
    obtain ⟨i11, qi11, e⟩ := gv_bind e
    obtain ⟨h13, qv12, e⟩ := gv_bind e
    refine gv_vS (jc := 90) (n := 4) (rest := []) (stk := []) (pc' := 69) rfl rfl rfl rfl rfl rfl rfl rfl rfl (gv_zR (gv_zR (gv_zR (gv_zR (gv_zI gv_z0))))) rfl (gv_aR (gv_aR (gv_aR (gv_aR (gv_aI gv_a0))))) (by omega) qi11 (cW_writeList_ok hD hW qv12) rfl rfl ?_
    refine gv_goto (pc' := 119) rfl rfl ?_
    cases e
    exact gv_retV rfl rfl
  rw [if_neg c10] at e
  by_cases c14 : v5 = (2 : Int32)
  · rw [if_pos c14] at e
    refine gv_sw (pc' := 72) (off := 57) rfl (by rw [c14]; rfl) rfl ?_
    refine gv_rldn (pc' := 73) rfl rfl rfl ?_
    refine gv_rldn (pc' := 74) rfl rfl rfl ?_
    refine gv_rldn (pc' := 75) rfl rfl rfl ?_
    refine gv_rldn (pc' := 76) rfl rfl rfl ?_
    refine gv_ild (pc' := 78) rfl rfl rfl ?_
    obtain ⟨i15, qi15, e⟩ := gv_bind e
    obtain ⟨h17, qv16, e⟩ := gv_bind e
    refine gv_vS (jc := 91) (n := 4) (rest := []) (stk := []) (pc' := 81) rfl rfl rfl rfl rfl rfl rfl rfl rfl (gv_zR (gv_zR (gv_zR (gv_zR (gv_zI gv_z0))))) rfl (gv_aR (gv_aR (gv_aR (gv_aR (gv_aI gv_a0))))) (by omega) qi15 (cW_writeMap_ok hD hW qv16) rfl rfl ?_
    refine gv_goto (pc' := 119) rfl rfl ?_
    cases e
    exact gv_retV rfl rfl
  rw [if_neg c14] at e
  by_cases c18 : v5 = (3 : Int32)
  · rw [if_pos c18] at e
    refine gv_sw (pc' := 84) (off := 69) rfl (by rw [c18]; rfl) rfl ?_
    refine gv_rldn (pc' := 85) rfl rfl rfl ?_
    refine gv_rldn (pc' := 86) rfl rfl rfl ?_
    refine gv_rldn (pc' := 87) rfl rfl rfl ?_
    refine gv_rldn (pc' := 88) rfl rfl rfl ?_
    refine gv_ild (pc' := 90) rfl rfl rfl ?_
    obtain ⟨i19, qi19, e⟩ := gv_bind e
    obtain ⟨h21, qv20, e⟩ := gv_bind e
    refine gv_vS (jc := 92) (n := 4) (rest := []) (stk := []) (pc' := 93) rfl rfl rfl rfl rfl rfl rfl rfl rfl (gv_zR (gv_zR (gv_zR (gv_zR (gv_zI gv_z0))))) rfl (gv_aR (gv_aR (gv_aR (gv_aR (gv_aI gv_a0))))) (by omega) qi19 (cW_writeSet_ok hD hW qv20) rfl rfl ?_
    refine gv_goto (pc' := 119) rfl rfl ?_
    cases e
    exact gv_retV rfl rfl
  rw [if_neg c18] at e
  by_cases c22 : v5 = (4 : Int32)
  · rw [if_pos c22] at e
    refine gv_sw (pc' := 96) (off := 81) rfl (by rw [c22]; rfl) rfl ?_
    refine gv_rldn (pc' := 97) rfl rfl rfl ?_
    refine gv_rldn (pc' := 98) rfl rfl rfl ?_
    obtain ⟨v23, qv23, e⟩ := gv_bind e
    refine gv_fJ (pc' := 101) rfl rfl qv23 rfl ?_
    refine gv_rldn (pc' := 102) rfl rfl rfl ?_
    obtain ⟨v24, qv24, e⟩ := gv_bind e
    refine gv_fI (pc' := 105) rfl rfl qv24 rfl ?_
    obtain ⟨i25, qi25, e⟩ := gv_bind e
    obtain ⟨h27, qv26, e⟩ := gv_bind e
    refine gv_vS (jc := 93) (n := 2) (rest := []) (stk := []) (pc' := 108) rfl rfl rfl rfl rfl rfl rfl rfl rfl (gv_zR (gv_zJ (gv_zI gv_z0))) rfl (gv_aR (gv_aJ (gv_aI gv_a0))) (by omega) qi25 (cW_writeWord_ok qv26) rfl rfl ?_
    refine gv_goto (pc' := 119) rfl rfl ?_
    cases e
    exact gv_retV rfl rfl
  rw [if_neg c22] at e
  refine gv_sw (pc' := 111) (off := 96) rfl (gv_tabd (gv_N1 c6 (gv_N1 c10 (gv_N1 c14 (gv_N1 c18 (gv_N1 c22 gv_N0))))) (by decide)) rfl ?_
  refine gv_rldn (pc' := 112) rfl rfl rfl ?_
  refine gv_rldn (pc' := 113) rfl rfl rfl ?_
  obtain ⟨v28, qv28, e⟩ := gv_bind e
  refine gv_fJ (pc' := 116) rfl rfl qv28 rfl ?_
  obtain ⟨i29, qi29, e⟩ := gv_bind e
  obtain ⟨h31, qv30, e⟩ := gv_bind e
  refine gv_vS (jc := 89) (n := 1) (rest := []) (stk := []) (pc' := 119) rfl rfl rfl rfl rfl rfl rfl rfl rfl (gv_zR (gv_zJ gv_z0)) rfl (gv_aR (gv_aJ gv_a0)) (by omega) qi29 (cW_writeZigzag_ok qv30) rfl rfl ?_
  cases e
  exact gv_retV rfl rfl
def cW_writeObject (W : Option Nat → Option Nat → Option Nat → Int32 → Int32 → Int32 → gx_H → Option gx_H) (l0 : Option Nat) (l1 : Option Nat) (l2 : Option Nat) (l3 : Int32) (l4 : Int32) (h : gx_H) : Option gx_H :=
  (gv_is h l1 1).bind fun i1 =>
  (cS_thingAt l1 l3 h).bind fun v2 =>
  if v2 = none then (
    (gv_pV h l0 5 4 (.int (1 : Int32))).bind fun h4 =>
    some h4) else
  (gv_gR h l0 5 1).bind fun v5 =>
  (gv_lI h v5 l3).bind fun v6 =>
  if v6 = (-1 : Int32) then (
    (gv_is h l2 4).bind fun i8 =>
    (cH_placeOf l2 l3 h).bind fun v9 =>
    if v9 = (-1 : Int32) then (
      (gv_gI h v2 2 4).bind fun v11 =>
      if v11 = (7 : Int32) then (
        (gv_pV h l0 5 4 (.int (1 : Int32))).bind fun h13 =>
        some h13) else
      (gv_gI h v2 2 6).bind fun v14 =>
      if v14 = 0 then (
        (gv_gI h v2 2 4).bind fun v16 =>
        if v16 = (5 : Int32) then (
          (gv_is h l0 5).bind fun i18 =>
          (cW_writeView W l0 l1 l2 v2 l4 h).bind fun h20 =>
          (gv_is h20 l0 5).bind fun i21 =>
          (cW_givePlace l0 l3 h20).bind fun h23 =>
          some h23) else
        (gv_is h l0 5).bind fun i24 =>
        (cW_givePlace l0 l3 h).bind fun h26 =>
        (gv_is h26 l0 5).bind fun i27 =>
        (cW_writeParts W l0 l1 l2 v2 l4 h26).bind fun h29 =>
        some h29) else
      (gv_pV h l0 5 4 (.int (1 : Int32))).bind fun h30 =>
      some h30) else
    (gv_is h l0 5).bind fun i31 =>
    (cW_writeByte l0 (7 : Int32) h).bind fun h33 =>
    (gv_is h33 l2 4).bind fun i34 =>
    (cH_placeOf l2 l3 h33).bind fun v35 =>
    (gv_is h33 l0 5).bind fun i36 =>
    (cW_writeLengthy l0 (Int32.toInt64 v35) h33).bind fun h38 =>
    some h38) else
  (gv_is h l0 5).bind fun i39 =>
  (cW_writeByte l0 (6 : Int32) h).bind fun h41 =>
  (gv_gR h41 l0 5 1).bind fun v42 =>
  (gv_lI h41 v42 l3).bind fun v43 =>
  (gv_is h41 l0 5).bind fun i44 =>
  (cW_writeLengthy l0 (Int32.toInt64 v43) h41).bind fun h46 =>
  some h46
theorem cW_writeObject_ok {xs : Option (List Int32)} {D : Nat} (hD : 12 ≤ D) {W : Option Nat → Option Nat → Option Nat → Int32 → Int32 → Int32 → gx_H → Option gx_H} (hW : ∀ (l0 : Option Nat) (l1 : Option Nat) (l2 : Option Nat) (l3 : Int32) (l4 : Int32) (l5 : Int32) (h : gx_H) (r : gx_H), W l0 l1 l2 l3 l4 l5 h = some r → gv_V xs D 78 0 [(0, gv_u l0), (1, gv_u l1), (2, gv_u l2), (3, .int l3), (4, .int l4), (5, .int l5)] [] h (.returned none) r) {l0 : Option Nat} {l1 : Option Nat} {l2 : Option Nat} {l3 : Int32} {l4 : Int32} {h : gx_H} {r : gx_H} (e : cW_writeObject W l0 l1 l2 l3 l4 h = some r) : gv_V xs (D + 4) 79 0 [(0, gv_u l0), (1, gv_u l1), (2, gv_u l2), (3, .int l3), (4, .int l4)] [] h (.returned none) r := by
  unfold cW_writeObject at e
  refine gv_rldn (pc' := 1) rfl rfl rfl ?_
  refine gv_ildn (pc' := 2) rfl rfl rfl ?_
  obtain ⟨i1, qi1, e⟩ := gv_bind e
  obtain ⟨v2, qv2, e⟩ := gv_bind e
  refine gv_vS (jc := 10) (n := 1) (rest := []) (stk := [gv_u v2]) (pc' := 5) rfl rfl rfl rfl rfl rfl rfl rfl rfl (gv_zR (gv_zI gv_z0)) rfl (gv_aR (gv_aI gv_a0)) (by omega) qi1 (cS_thingAt_ok qv2) rfl rfl ?_
  refine gv_rst (pc' := 7) rfl rfl (gv_Ci rfl) rfl ?_
  refine gv_rld (pc' := 9) rfl rfl rfl ?_
  by_cases c3 : v2 = none
  · rw [if_pos c3] at e
    refine gv_nnF (pc' := 12) rfl c3 rfl ?_
    refine gv_rldn (pc' := 13) rfl rfl rfl ?_
    refine gv_ic (pc' := 14) (x := 1) rfl rfl rfl ?_
    obtain ⟨h4, qh4, e⟩ := gv_bind e
    refine gv_pI (pc' := 17) rfl rfl rfl qh4 rfl ?_
    refine gv_goto (pc' := 146) rfl rfl ?_
    cases e
    exact gv_retV rfl rfl
  rw [if_neg c3] at e
  refine gv_nnT (pc' := 20) rfl c3 rfl ?_
  refine gv_rldn (pc' := 21) rfl rfl rfl ?_
  obtain ⟨v5, qv5, e⟩ := gv_bind e
  refine gv_fR (pc' := 24) rfl rfl qv5 rfl ?_
  refine gv_ildn (pc' := 25) rfl rfl rfl ?_
  obtain ⟨v6, qv6, e⟩ := gv_bind e
  refine gv_iald (pc' := 26) rfl qv6 rfl ?_
  refine gv_ic (pc' := 27) (x := -1) rfl rfl rfl ?_
  by_cases c7 : v6 = (-1 : Int32)
  · rw [if_pos c7] at e
    refine gv_cmT (pc' := 50) rfl (gv_eqT2 c7) rfl ?_
    refine gv_rldn (pc' := 51) rfl rfl rfl ?_
    refine gv_ildn (pc' := 52) rfl rfl rfl ?_
    obtain ⟨i8, qi8, e⟩ := gv_bind e
    obtain ⟨v9, qv9, e⟩ := gv_bind e
    refine gv_vS (jc := 76) (n := 1) (rest := []) (stk := [.int v9]) (pc' := 55) rfl rfl rfl rfl rfl rfl rfl rfl rfl (gv_zR (gv_zI gv_z0)) rfl (gv_aR (gv_aI gv_a0)) (by omega) qi8 (cH_placeOf_ok qv9) rfl rfl ?_
    refine gv_ic (pc' := 56) (x := -1) rfl rfl rfl ?_
    by_cases c10 : v9 = (-1 : Int32)
    · rw [if_pos c10] at e
      refine gv_cmT (pc' := 78) rfl (gv_eqT2 c10) rfl ?_
      refine gv_rld (pc' := 80) rfl rfl rfl ?_
      obtain ⟨v11, qv11, e⟩ := gv_bind e
      refine gv_fI (pc' := 83) rfl rfl qv11 rfl ?_
      refine gv_bp (pc' := 85) (x := 7) rfl rfl rfl ?_
      by_cases c12 : v11 = (7 : Int32)
      · rw [if_pos c12] at e
        refine gv_cmT (pc' := 96) rfl (gv_eqT2 c12) rfl ?_
        refine gv_rldn (pc' := 97) rfl rfl rfl ?_
        refine gv_ic (pc' := 98) (x := 1) rfl rfl rfl ?_
        obtain ⟨h13, qh13, e⟩ := gv_bind e
        refine gv_pI (pc' := 101) rfl rfl rfl qh13 rfl ?_
        refine gv_goto (pc' := 146) rfl rfl ?_
        cases e
        exact gv_retV rfl rfl
      rw [if_neg c12] at e
      refine gv_cmF (pc' := 88) rfl (gv_eqF2 c12) rfl rfl ?_
      refine gv_rld (pc' := 90) rfl rfl rfl ?_
      obtain ⟨v14, qv14, e⟩ := gv_bind e
      refine gv_fI (pc' := 93) rfl rfl qv14 rfl ?_
      by_cases c15 : v14 = 0
      · rw [if_pos c15] at e
        refine gv_ifT (pc' := 104) rfl (gv_eqT c15) rfl ?_
        refine gv_rld (pc' := 106) rfl rfl rfl ?_
        obtain ⟨v16, qv16, e⟩ := gv_bind e
        refine gv_fI (pc' := 109) rfl rfl qv16 rfl ?_
        refine gv_ic (pc' := 110) (x := 5) rfl rfl rfl ?_
        by_cases c17 : v16 = (5 : Int32)
        · rw [if_pos c17] at e
          refine gv_cmF (pc' := 113) rfl (gv_neF2 c17) rfl rfl ?_
          refine gv_rldn (pc' := 114) rfl rfl rfl ?_
          refine gv_rldn (pc' := 115) rfl rfl rfl ?_
          refine gv_rldn (pc' := 116) rfl rfl rfl ?_
          refine gv_rld (pc' := 118) rfl rfl rfl ?_
          refine gv_ild (pc' := 120) rfl rfl rfl ?_
          obtain ⟨i18, qi18, e⟩ := gv_bind e
          obtain ⟨h20, qv19, e⟩ := gv_bind e
          refine gv_vS (jc := 81) (n := 4) (rest := []) (stk := []) (pc' := 123) rfl rfl rfl rfl rfl rfl rfl rfl rfl (gv_zR (gv_zR (gv_zR (gv_zR (gv_zI gv_z0))))) rfl (gv_aR (gv_aR (gv_aR (gv_aR (gv_aI gv_a0))))) (by omega) qi18 (cW_writeView_ok hD hW qv19) rfl rfl ?_
          refine gv_rldn (pc' := 124) rfl rfl rfl ?_
          refine gv_ildn (pc' := 125) rfl rfl rfl ?_
          obtain ⟨i21, qi21, e⟩ := gv_bind e
          obtain ⟨h23, qv22, e⟩ := gv_bind e
          refine gv_vS (jc := 82) (n := 1) (rest := []) (stk := []) (pc' := 128) rfl rfl rfl rfl rfl rfl rfl rfl rfl (gv_zR (gv_zI gv_z0)) rfl (gv_aR (gv_aI gv_a0)) (by omega) qi21 (cW_givePlace_ok qv22) rfl rfl ?_
          refine gv_goto (pc' := 146) rfl rfl ?_
          cases e
          exact gv_retV rfl rfl
        rw [if_neg c17] at e
        refine gv_cmT (pc' := 131) rfl (gv_neT2 c17) rfl ?_
        refine gv_rldn (pc' := 132) rfl rfl rfl ?_
        refine gv_ildn (pc' := 133) rfl rfl rfl ?_
        obtain ⟨i24, qi24, e⟩ := gv_bind e
        obtain ⟨h26, qv25, e⟩ := gv_bind e
        refine gv_vS (jc := 82) (n := 1) (rest := []) (stk := []) (pc' := 136) rfl rfl rfl rfl rfl rfl rfl rfl rfl (gv_zR (gv_zI gv_z0)) rfl (gv_aR (gv_aI gv_a0)) (by omega) qi24 (cW_givePlace_ok qv25) rfl rfl ?_
        refine gv_rldn (pc' := 137) rfl rfl rfl ?_
        refine gv_rldn (pc' := 138) rfl rfl rfl ?_
        refine gv_rldn (pc' := 139) rfl rfl rfl ?_
        refine gv_rld (pc' := 141) rfl rfl rfl ?_
        refine gv_ild (pc' := 143) rfl rfl rfl ?_
        obtain ⟨i27, qi27, e⟩ := gv_bind e
        obtain ⟨h29, qv28, e⟩ := gv_bind e
        refine gv_vS (jc := 83) (n := 4) (rest := []) (stk := []) (pc' := 146) rfl rfl rfl rfl rfl rfl rfl rfl rfl (gv_zR (gv_zR (gv_zR (gv_zR (gv_zI gv_z0))))) rfl (gv_aR (gv_aR (gv_aR (gv_aR (gv_aI gv_a0))))) (by omega) qi27 (cW_writeParts_ok hD hW qv28) rfl rfl ?_
        cases e
        exact gv_retV rfl rfl
      rw [if_neg c15] at e
      refine gv_ifF (pc' := 96) rfl (gv_eqF c15) rfl rfl ?_
      refine gv_rldn (pc' := 97) rfl rfl rfl ?_
      refine gv_ic (pc' := 98) (x := 1) rfl rfl rfl ?_
      obtain ⟨h30, qh30, e⟩ := gv_bind e
      refine gv_pI (pc' := 101) rfl rfl rfl qh30 rfl ?_
      refine gv_goto (pc' := 146) rfl rfl ?_
      cases e
      exact gv_retV rfl rfl
    rw [if_neg c10] at e
    refine gv_cmF (pc' := 59) rfl (gv_eqF2 c10) rfl rfl ?_
    refine gv_rldn (pc' := 60) rfl rfl rfl ?_
    refine gv_bp (pc' := 62) (x := 7) rfl rfl rfl ?_
    obtain ⟨i31, qi31, e⟩ := gv_bind e
    obtain ⟨h33, qv32, e⟩ := gv_bind e
    refine gv_vS (jc := 77) (n := 1) (rest := []) (stk := []) (pc' := 65) rfl rfl rfl rfl rfl rfl rfl rfl rfl (gv_zR (gv_zI gv_z0)) rfl (gv_aR (gv_aI gv_a0)) (by omega) qi31 (cW_writeByte_ok qv32) rfl rfl ?_
    refine gv_rldn (pc' := 66) rfl rfl rfl ?_
    refine gv_rldn (pc' := 67) rfl rfl rfl ?_
    refine gv_ildn (pc' := 68) rfl rfl rfl ?_
    obtain ⟨i34, qi34, e⟩ := gv_bind e
    obtain ⟨v35, qv35, e⟩ := gv_bind e
    refine gv_vS (jc := 76) (n := 1) (rest := [gv_u l0]) (stk := [.int v35, gv_u l0]) (pc' := 71) rfl rfl rfl rfl rfl rfl rfl rfl rfl (gv_zR (gv_zI gv_z0)) rfl (gv_aR (gv_aI gv_a0)) (by omega) qi34 (cH_placeOf_ok qv35) rfl rfl ?_
    refine gv_i2l (pc' := 72) rfl rfl ?_
    obtain ⟨i36, qi36, e⟩ := gv_bind e
    obtain ⟨h38, qv37, e⟩ := gv_bind e
    refine gv_vS (jc := 80) (n := 1) (rest := []) (stk := []) (pc' := 75) rfl rfl rfl rfl rfl rfl rfl rfl rfl (gv_zR (gv_zJ gv_z0)) rfl (gv_aR (gv_aJ gv_a0)) (by omega) qi36 (cW_writeLengthy_ok qv37) rfl rfl ?_
    refine gv_goto (pc' := 146) rfl rfl ?_
    cases e
    exact gv_retV rfl rfl
  rw [if_neg c7] at e
  refine gv_cmF (pc' := 30) rfl (gv_eqF2 c7) rfl rfl ?_
  refine gv_rldn (pc' := 31) rfl rfl rfl ?_
  refine gv_bp (pc' := 33) (x := 6) rfl rfl rfl ?_
  obtain ⟨i39, qi39, e⟩ := gv_bind e
  obtain ⟨h41, qv40, e⟩ := gv_bind e
  refine gv_vS (jc := 77) (n := 1) (rest := []) (stk := []) (pc' := 36) rfl rfl rfl rfl rfl rfl rfl rfl rfl (gv_zR (gv_zI gv_z0)) rfl (gv_aR (gv_aI gv_a0)) (by omega) qi39 (cW_writeByte_ok qv40) rfl rfl ?_
  refine gv_rldn (pc' := 37) rfl rfl rfl ?_
  refine gv_rldn (pc' := 38) rfl rfl rfl ?_
  obtain ⟨v42, qv42, e⟩ := gv_bind e
  refine gv_fR (pc' := 41) rfl rfl qv42 rfl ?_
  refine gv_ildn (pc' := 42) rfl rfl rfl ?_
  obtain ⟨v43, qv43, e⟩ := gv_bind e
  refine gv_iald (pc' := 43) rfl qv43 rfl ?_
  refine gv_i2l (pc' := 44) rfl rfl ?_
  obtain ⟨i44, qi44, e⟩ := gv_bind e
  obtain ⟨h46, qv45, e⟩ := gv_bind e
  refine gv_vS (jc := 80) (n := 1) (rest := []) (stk := []) (pc' := 47) rfl rfl rfl rfl rfl rfl rfl rfl rfl (gv_zR (gv_zJ gv_z0)) rfl (gv_aR (gv_aJ gv_a0)) (by omega) qi44 (cW_writeLengthy_ok qv45) rfl rfl ?_
  refine gv_goto (pc' := 146) rfl rfl ?_
  cases e
  exact gv_retV rfl rfl
def cW_writeValue : Nat → Option Nat → Option Nat → Option Nat → Int32 → Int32 → Int32 → gx_H → Option gx_H
  | 0, _, _, _, _, _, _, _ => none
  | n + 1, l0, l1, l2, l3, l4, l5, h =>
    (gv_gI h l0 5 4).bind fun v1 =>
    if v1 = 0 then (
      if (12 : Int32) < l5 then (
        (gv_pV h l0 5 4 (.int (1 : Int32))).bind fun h4 =>
        some h4) else
      if l3 = (7 : Int32) then (
        (gv_pV h l0 5 4 (.int (1 : Int32))).bind fun h6 =>
        some h6) else
      if l3 = (6 : Int32) then (
        (gv_is h l0 5).bind fun i8 =>
        (cW_writeObject (cW_writeValue n) l0 l1 l2 l4 l5 h).bind fun h10 =>
        some h10) else
      (gv_is h l0 5).bind fun i11 =>
      (cW_writeByte l0 l3 h).bind fun h13 =>
      if l3 = (4 : Int32) then (
        (gv_is h13 l0 5).bind fun i15 =>
        (cW_writeZigzag l0 (Int32.toInt64 l4) h13).bind fun h17 =>
        some h17) else
      if l3 = (5 : Int32) then (
        (cW_textLength l4).bind fun v19 =>
        (gv_is h13 l0 5).bind fun i20 =>
        (cW_writeWord l0 (Int32.toInt64 l4) v19 h13).bind fun h22 =>
        some h22) else
      some h13) else
    some h
theorem cW_writeValue_ok {xs : Option (List Int32)} : ∀ (n : Nat) (l0 : Option Nat) (l1 : Option Nat) (l2 : Option Nat) (l3 : Int32) (l4 : Int32) (l5 : Int32) (h : gx_H) (r : gx_H), cW_writeValue n l0 l1 l2 l3 l4 l5 h = some r → gv_V xs (12 + 5 * n) 78 0 [(0, gv_u l0), (1, gv_u l1), (2, gv_u l2), (3, .int l3), (4, .int l4), (5, .int l5)] [] h (.returned none) r := by
  intro n
  induction n with
  | zero => intro l0 l1 l2 l3 l4 l5 h r e; cases e
  | succ n hW =>
    intro l0 l1 l2 l3 l4 l5 h r e
    have hD : 12 ≤ 12 + 5 * n := by omega
    have hK : 12 + 5 * (n + 1) = 12 + 5 * n + 5 := by omega
    rw [hK]
    rw [cW_writeValue] at e
    refine gv_rldn (pc' := 1) rfl rfl rfl ?_
    obtain ⟨v1, qv1, e⟩ := gv_bind e
    refine gv_fI (pc' := 4) rfl rfl qv1 rfl ?_
    by_cases c2 : v1 = 0
    · rw [if_pos c2] at e
      refine gv_ifT (pc' := 8) rfl (gv_eqT c2) rfl ?_
      refine gv_ild (pc' := 10) rfl rfl rfl ?_
      refine gv_bp (pc' := 12) (x := 12) rfl rfl rfl ?_
      by_cases c3 : (12 : Int32) < l5
      · rw [if_pos c3] at e
        refine gv_cmT (pc' := 21) rfl (gv_gtT2 c3) rfl ?_
        refine gv_rldn (pc' := 22) rfl rfl rfl ?_
        refine gv_ic (pc' := 23) (x := 1) rfl rfl rfl ?_
        obtain ⟨h4, qh4, e⟩ := gv_bind e
        refine gv_pI (pc' := 26) rfl rfl rfl qh4 rfl ?_
        cases e
        exact gv_retV rfl rfl
      rw [if_neg c3] at e
      refine gv_cmF (pc' := 15) rfl (gv_gtF2 c3) rfl rfl ?_
      refine gv_ildn (pc' := 16) rfl rfl rfl ?_
      refine gv_bp (pc' := 18) (x := 7) rfl rfl rfl ?_
      by_cases c5 : l3 = (7 : Int32)
      · rw [if_pos c5] at e
        refine gv_cmF (pc' := 21) rfl (gv_neF2 c5) rfl rfl ?_
        refine gv_rldn (pc' := 22) rfl rfl rfl ?_
        refine gv_ic (pc' := 23) (x := 1) rfl rfl rfl ?_
        obtain ⟨h6, qh6, e⟩ := gv_bind e
        refine gv_pI (pc' := 26) rfl rfl rfl qh6 rfl ?_
        cases e
        exact gv_retV rfl rfl
      rw [if_neg c5] at e
      refine gv_cmT (pc' := 27) rfl (gv_neT2 c5) rfl ?_
      refine gv_ildn (pc' := 28) rfl rfl rfl ?_
      refine gv_bp (pc' := 30) (x := 6) rfl rfl rfl ?_
      by_cases c7 : l3 = (6 : Int32)
      · rw [if_pos c7] at e
        refine gv_cmF (pc' := 33) rfl (gv_neF2 c7) rfl rfl ?_
        refine gv_rldn (pc' := 34) rfl rfl rfl ?_
        refine gv_rldn (pc' := 35) rfl rfl rfl ?_
        refine gv_rldn (pc' := 36) rfl rfl rfl ?_
        refine gv_ild (pc' := 38) rfl rfl rfl ?_
        refine gv_ild (pc' := 40) rfl rfl rfl ?_
        obtain ⟨i8, qi8, e⟩ := gv_bind e
        obtain ⟨h10, qv9, e⟩ := gv_bind e
        refine gv_vS (jc := 79) (n := 4) (rest := []) (stk := []) (pc' := 43) rfl rfl rfl rfl rfl rfl rfl rfl rfl (gv_zR (gv_zR (gv_zR (gv_zI (gv_zI gv_z0))))) rfl (gv_aR (gv_aR (gv_aR (gv_aI (gv_aI gv_a0))))) (by omega) qi8 (cW_writeObject_ok hD hW qv9) rfl rfl ?_
        cases e
        exact gv_retV rfl rfl
      rw [if_neg c7] at e
      refine gv_cmT (pc' := 44) rfl (gv_neT2 c7) rfl ?_
      refine gv_rldn (pc' := 45) rfl rfl rfl ?_
      refine gv_ildn (pc' := 46) rfl rfl rfl ?_
      obtain ⟨i11, qi11, e⟩ := gv_bind e
      obtain ⟨h13, qv12, e⟩ := gv_bind e
      refine gv_vS (jc := 77) (n := 1) (rest := []) (stk := []) (pc' := 49) rfl rfl rfl rfl rfl rfl rfl rfl rfl (gv_zR (gv_zI gv_z0)) rfl (gv_aR (gv_aI gv_a0)) (by omega) qi11 (cW_writeByte_ok qv12) rfl rfl ?_
      refine gv_ildn (pc' := 50) rfl rfl rfl ?_
      refine gv_ic (pc' := 51) (x := 4) rfl rfl rfl ?_
      by_cases c14 : l3 = (4 : Int32)
      · rw [if_pos c14] at e
        refine gv_cmF (pc' := 54) rfl (gv_neF2 c14) rfl rfl ?_
        refine gv_rldn (pc' := 55) rfl rfl rfl ?_
        refine gv_ild (pc' := 57) rfl rfl rfl ?_
        refine gv_i2l (pc' := 58) rfl rfl ?_
        obtain ⟨i15, qi15, e⟩ := gv_bind e
        obtain ⟨h17, qv16, e⟩ := gv_bind e
        refine gv_vS (jc := 89) (n := 1) (rest := []) (stk := []) (pc' := 61) rfl rfl rfl rfl rfl rfl rfl rfl rfl (gv_zR (gv_zJ gv_z0)) rfl (gv_aR (gv_aJ gv_a0)) (by omega) qi15 (cW_writeZigzag_ok qv16) rfl rfl ?_
        refine gv_goto (pc' := 81) rfl rfl ?_
        cases e
        exact gv_retV rfl rfl
      rw [if_neg c14] at e
      refine gv_cmT (pc' := 64) rfl (gv_neT2 c14) rfl ?_
      refine gv_ildn (pc' := 65) rfl rfl rfl ?_
      refine gv_ic (pc' := 66) (x := 5) rfl rfl rfl ?_
      by_cases c18 : l3 = (5 : Int32)
      · rw [if_pos c18] at e
        refine gv_cmF (pc' := 69) rfl (gv_neF2 c18) rfl rfl ?_
        refine gv_rldn (pc' := 70) rfl rfl rfl ?_
        refine gv_ild (pc' := 72) rfl rfl rfl ?_
        refine gv_i2l (pc' := 73) rfl rfl ?_
        refine gv_ild (pc' := 75) rfl rfl rfl ?_
        obtain ⟨v19, qv19, e⟩ := gv_bind e
        refine gv_sS (jc := 94) (n := 1) (rest := [.long (Int32.toInt64 l4), gv_u l0]) (stk := [.int v19, .long (Int32.toInt64 l4), gv_u l0]) (pc' := 78) rfl rfl rfl rfl rfl rfl rfl rfl rfl (gv_zI gv_z0) rfl (gv_aI gv_a0) (by omega) (cW_textLength_ok qv19) rfl rfl ?_
        obtain ⟨i20, qi20, e⟩ := gv_bind e
        obtain ⟨h22, qv21, e⟩ := gv_bind e
        refine gv_vS (jc := 93) (n := 2) (rest := []) (stk := []) (pc' := 81) rfl rfl rfl rfl rfl rfl rfl rfl rfl (gv_zR (gv_zJ (gv_zI gv_z0))) rfl (gv_aR (gv_aJ (gv_aI gv_a0))) (by omega) qi20 (cW_writeWord_ok qv21) rfl rfl ?_
        cases e
        exact gv_retV rfl rfl
      rw [if_neg c18] at e
      refine gv_cmT (pc' := 81) rfl (gv_neT2 c18) rfl ?_
      cases e
      exact gv_retV rfl rfl
    rw [if_neg c2] at e
    refine gv_ifF (pc' := 7) rfl (gv_eqF c2) rfl rfl ?_
    cases e
    exact gv_retV rfl rfl
def cW_run_80 (l0 : Option Nat) (l1 : Option Nat) (l2 : Option Nat) (l3 : Int32) (l4 : Int32) (s0 : Option Nat) (s1 : Int32) (h : gx_H) : Option (Int32 × gx_H) :=
  (gv_pV h s0 5 4 (.int s1)).bind fun h1 =>
  (gv_is h1 l0 5).bind fun i2 =>
  (cW_writeByte l0 (15 : Int32) h1).bind fun h4 =>
  (gv_is h4 l0 5).bind fun i5 =>
  (cW_writeValue 20 l0 l1 l2 l3 l4 (1 : Int32) h4).bind fun h7 =>
  (gv_gI h7 l0 5 4).bind fun v8 =>
  if v8 = 0 then (
    (gv_is h7 l2 4).bind fun i10 =>
    (cH_areFreeBuffers l2 l1 h7).bind fun v11 =>
    if v11 = 0 then (
      (gv_pV h7 l0 5 4 (.int (1 : Int32))).bind fun h13 =>
      (gv_gI h13 l0 5 4).bind fun v14 =>
      some (v14, h13)) else
    (gv_gI h7 l0 5 4).bind fun v15 =>
    some (v15, h7)) else
  (gv_gI h7 l0 5 4).bind fun v16 =>
  some (v16, h7)
theorem cW_run_80_ok {xs : Option (List Int32)} {l0 : Option Nat} {l1 : Option Nat} {l2 : Option Nat} {l3 : Int32} {l4 : Int32} {s0 : Option Nat} {s1 : Int32} {h : gx_H} {r : (Int32 × gx_H)} (e : cW_run_80 l0 l1 l2 l3 l4 s0 s1 h = some r) : gv_V xs 113 73 80 [(0, gv_u l0), (1, gv_u l1), (2, gv_u l2), (3, .int l3), (4, .int l4)] [.int s1, gv_u s0] h (.returned (some (.int r.1))) r.2 := by
  unfold cW_run_80 at e
  obtain ⟨h1, qh1, e⟩ := gv_bind e
  refine gv_pI (pc' := 83) rfl rfl rfl qh1 rfl ?_
  refine gv_rldn (pc' := 84) rfl rfl rfl ?_
  refine gv_bp (pc' := 86) (x := 15) rfl rfl rfl ?_
  obtain ⟨i2, qi2, e⟩ := gv_bind e
  obtain ⟨h4, qv3, e⟩ := gv_bind e
  refine gv_vS (jc := 77) (n := 1) (rest := []) (stk := []) (pc' := 89) rfl rfl rfl rfl rfl rfl rfl rfl rfl (gv_zR (gv_zI gv_z0)) rfl (gv_aR (gv_aI gv_a0)) (Nat.le_of_ble_eq_true rfl) qi2 (cW_writeByte_ok qv3) rfl rfl ?_
  refine gv_rldn (pc' := 90) rfl rfl rfl ?_
  refine gv_rldn (pc' := 91) rfl rfl rfl ?_
  refine gv_rldn (pc' := 92) rfl rfl rfl ?_
  refine gv_ildn (pc' := 93) rfl rfl rfl ?_
  refine gv_ild (pc' := 95) rfl rfl rfl ?_
  refine gv_ic (pc' := 96) (x := 1) rfl rfl rfl ?_
  obtain ⟨i5, qi5, e⟩ := gv_bind e
  obtain ⟨h7, qv6, e⟩ := gv_bind e
  refine gv_vS (jc := 78) (n := 5) (rest := []) (stk := []) (pc' := 99) rfl rfl rfl rfl rfl rfl rfl rfl rfl (gv_zR (gv_zR (gv_zR (gv_zI (gv_zI (gv_zI gv_z0)))))) rfl (gv_aR (gv_aR (gv_aR (gv_aI (gv_aI (gv_aI gv_a0)))))) (by omega) qi5 (cW_writeValue_ok 20 _ _ _ _ _ _ _ _ qv6) rfl rfl ?_
  refine gv_rldn (pc' := 100) rfl rfl rfl ?_
  obtain ⟨v8, qv8, e⟩ := gv_bind e
  refine gv_fI (pc' := 103) rfl rfl qv8 rfl ?_
  by_cases c9 : v8 = 0
  · rw [if_pos c9] at e
    refine gv_ifF (pc' := 106) rfl (gv_neF c9) rfl rfl ?_
    refine gv_rldn (pc' := 107) rfl rfl rfl ?_
    refine gv_rldn (pc' := 108) rfl rfl rfl ?_
    obtain ⟨i10, qi10, e⟩ := gv_bind e
    obtain ⟨v11, qv11, e⟩ := gv_bind e
    refine gv_vS (jc := 74) (n := 1) (rest := []) (stk := [.int v11]) (pc' := 111) rfl rfl rfl rfl rfl rfl rfl rfl rfl (gv_zR (gv_zR gv_z0)) rfl (gv_aR (gv_aR gv_a0)) (Nat.le_of_ble_eq_true rfl) qi10 (cH_areFreeBuffers_ok qv11) rfl rfl ?_
    by_cases c12 : v11 = 0
    · rw [if_pos c12] at e
      refine gv_ifF (pc' := 114) rfl (gv_neF c12) rfl rfl ?_
      refine gv_rldn (pc' := 115) rfl rfl rfl ?_
      refine gv_ic (pc' := 116) (x := 1) rfl rfl rfl ?_
      obtain ⟨h13, qh13, e⟩ := gv_bind e
      refine gv_pI (pc' := 119) rfl rfl rfl qh13 rfl ?_
      refine gv_rldn (pc' := 120) rfl rfl rfl ?_
      obtain ⟨v14, qv14, e⟩ := gv_bind e
      refine gv_fI (pc' := 123) rfl rfl qv14 rfl ?_
      cases e
      exact gv_retI rfl rfl
    rw [if_neg c12] at e
    refine gv_ifT (pc' := 119) rfl (gv_neT c12) rfl ?_
    refine gv_rldn (pc' := 120) rfl rfl rfl ?_
    obtain ⟨v15, qv15, e⟩ := gv_bind e
    refine gv_fI (pc' := 123) rfl rfl qv15 rfl ?_
    cases e
    exact gv_retI rfl rfl
  rw [if_neg c9] at e
  refine gv_ifT (pc' := 119) rfl (gv_neT c9) rfl ?_
  refine gv_rldn (pc' := 120) rfl rfl rfl ?_
  obtain ⟨v16, qv16, e⟩ := gv_bind e
  refine gv_fI (pc' := 123) rfl rfl qv16 rfl ?_
  cases e
  exact gv_retI rfl rfl
def cW_run_67 (l0 : Option Nat) (l1 : Option Nat) (l2 : Option Nat) (l3 : Int32) (l4 : Int32) (s0 : Int32) (h : gx_H) : Option (Int32 × gx_H) :=
  if s0 = 0 then (
    cW_run_80 l0 l1 l2 l3 l4 l0 (1 : Int32) h) else
  cW_run_80 l0 l1 l2 l3 l4 l0 (0 : Int32) h
theorem cW_run_67_ok {xs : Option (List Int32)} {l0 : Option Nat} {l1 : Option Nat} {l2 : Option Nat} {l3 : Int32} {l4 : Int32} {s0 : Int32} {h : gx_H} {r : (Int32 × gx_H)} (e : cW_run_67 l0 l1 l2 l3 l4 s0 h = some r) : gv_V xs 113 73 67 [(0, gv_u l0), (1, gv_u l1), (2, gv_u l2), (3, .int l3), (4, .int l4)] [.int s0] h (.returned (some (.int r.1))) r.2 := by
  unfold cW_run_67 at e
  refine gv_ist (pc' := 69) rfl rfl (gv_Ci rfl) rfl ?_
  refine gv_rldn (pc' := 70) rfl rfl rfl ?_
  refine gv_ild (pc' := 72) rfl rfl rfl ?_
  by_cases c1 : s0 = 0
  · rw [if_pos c1] at e
    refine gv_ifT (pc' := 79) rfl (gv_eqT c1) rfl ?_
    refine gv_ic (pc' := 80) (x := 1) rfl rfl rfl ?_
    exact gv_weak (cW_run_80_ok e) (gv_S1 rfl (gv_S1 rfl (gv_S1 rfl (gv_S1 rfl (gv_S1 rfl gv_S0)))))
  rw [if_neg c1] at e
  refine gv_ifF (pc' := 75) rfl (gv_eqF c1) rfl rfl ?_
  refine gv_ic (pc' := 76) (x := 0) rfl rfl rfl ?_
  refine gv_goto (pc' := 80) rfl rfl ?_
  exact gv_weak (cW_run_80_ok e) (gv_S1 rfl (gv_S1 rfl (gv_S1 rfl (gv_S1 rfl (gv_S1 rfl gv_S0)))))
def cW_run_66 (l0 : Option Nat) (l1 : Option Nat) (l2 : Option Nat) (l3 : Int32) (l4 : Int32) (h : gx_H) : Option (Int32 × gx_H) :=
  cW_run_67 l0 l1 l2 l3 l4 (0 : Int32) h
theorem cW_run_66_ok {xs : Option (List Int32)} {l0 : Option Nat} {l1 : Option Nat} {l2 : Option Nat} {l3 : Int32} {l4 : Int32} {h : gx_H} {r : (Int32 × gx_H)} (e : cW_run_66 l0 l1 l2 l3 l4 h = some r) : gv_V xs 113 73 66 [(0, gv_u l0), (1, gv_u l1), (2, gv_u l2), (3, .int l3), (4, .int l4)] [] h (.returned (some (.int r.1))) r.2 := by
  unfold cW_run_66 at e
  refine gv_ic (pc' := 67) (x := 0) rfl rfl rfl ?_
  exact gv_weak (cW_run_67_ok e) (gv_S1 rfl (gv_S1 rfl (gv_S1 rfl (gv_S1 rfl (gv_S1 rfl gv_S0)))))
def cW_run_16 : Nat → Option Nat → Option Nat → Option Nat → Int32 → Int32 → Int32 → gx_H → Option (Int32 × gx_H)
  | 0, _, _, _, _, _, _, _ => none
  | n + 1, l0, l1, l2, l3, l4, l5, h =>
    if l5 < (32 : Int32) then (
      (gv_gR h l0 5 1).bind fun v2 =>
      (gv_wI h v2 l5 (-1 : Int32)).bind fun h3 =>
      cW_run_16 n l0 l1 l2 l3 l4 (l5 + 1) h3) else
    (gv_is h l1 1).bind fun i4 =>
    (cS_isValue l1 l3 l4 h).bind fun v5 =>
    if v5 = 0 then (
      cW_run_66 l0 l1 l2 l3 l4 h) else
    (gv_is h l2 4).bind fun i7 =>
    (cH_areFreeBuffers l2 l1 h).bind fun v8 =>
    if v8 = 0 then (
      cW_run_66 l0 l1 l2 l3 l4 h) else
    (gv_is h l2 4).bind fun i10 =>
    (cH_noneTwice l2 h).bind fun v11 =>
    if v11 = 0 then (
      cW_run_66 l0 l1 l2 l3 l4 h) else
    cW_run_67 l0 l1 l2 l3 l4 (1 : Int32) h
theorem cW_run_16_ok {xs : Option (List Int32)} : ∀ (n : Nat) (l0 : Option Nat) (l1 : Option Nat) (l2 : Option Nat) (l3 : Int32) (l4 : Int32) (l5 : Int32) (h : gx_H) (r : (Int32 × gx_H)), cW_run_16 n l0 l1 l2 l3 l4 l5 h = some r → gv_V xs 113 73 16 [(0, gv_u l0), (1, gv_u l1), (2, gv_u l2), (3, .int l3), (4, .int l4), (5, .int l5)] [] h (.returned (some (.int r.1))) r.2 := by
  intro n
  induction n with
  | zero => intro l0 l1 l2 l3 l4 l5 h r e; cases e
  | succ n ih =>
    intro l0 l1 l2 l3 l4 l5 h r e
    rw [cW_run_16] at e
    refine gv_ild (pc' := 18) rfl rfl rfl ?_
    refine gv_bp (pc' := 20) (x := 32) rfl rfl rfl ?_
    by_cases c1 : l5 < (32 : Int32)
    · rw [if_pos c1] at e
      refine gv_cmF (pc' := 23) rfl (gv_geF2 c1) rfl rfl ?_
      refine gv_rldn (pc' := 24) rfl rfl rfl ?_
      obtain ⟨v2, qv2, e⟩ := gv_bind e
      refine gv_fR (pc' := 27) rfl rfl qv2 rfl ?_
      refine gv_ild (pc' := 29) rfl rfl rfl ?_
      refine gv_ic (pc' := 30) (x := -1) rfl rfl rfl ?_
      obtain ⟨h3, qh3, e⟩ := gv_bind e
      refine gv_iast (pc' := 31) rfl qh3 rfl ?_
      refine gv_inc (pc' := 34) (y := 1) rfl rfl rfl rfl (gv_Ci rfl) rfl ?_
      refine gv_goto (pc' := 16) rfl rfl ?_
      exact gv_weak (ih _ _ _ _ _ _ _ _ e) (gv_S1 rfl (gv_S1 rfl (gv_S1 rfl (gv_S1 rfl (gv_S1 rfl (gv_S1 rfl gv_S0))))))
    rw [if_neg c1] at e
    refine gv_cmT (pc' := 37) rfl (gv_geT2 c1) rfl ?_
    refine gv_rldn (pc' := 38) rfl rfl rfl ?_
    refine gv_ildn (pc' := 39) rfl rfl rfl ?_
    refine gv_ild (pc' := 41) rfl rfl rfl ?_
    obtain ⟨i4, qi4, e⟩ := gv_bind e
    obtain ⟨v5, qv5, e⟩ := gv_bind e
    refine gv_vS (jc := 40) (n := 2) (rest := []) (stk := [.int v5]) (pc' := 44) rfl rfl rfl rfl rfl rfl rfl rfl rfl (gv_zR (gv_zI (gv_zI gv_z0))) rfl (gv_aR (gv_aI (gv_aI gv_a0))) (Nat.le_of_ble_eq_true rfl) qi4 (cS_isValue_ok qv5) rfl rfl ?_
    by_cases c6 : v5 = 0
    · rw [if_pos c6] at e
      refine gv_ifT (pc' := 66) rfl (gv_eqT c6) rfl ?_
      exact gv_weak (cW_run_66_ok e) (gv_S1 rfl (gv_S1 rfl (gv_S1 rfl (gv_S1 rfl (gv_S1 rfl gv_S0)))))
    rw [if_neg c6] at e
    refine gv_ifF (pc' := 47) rfl (gv_eqF c6) rfl rfl ?_
    refine gv_rldn (pc' := 48) rfl rfl rfl ?_
    refine gv_rldn (pc' := 49) rfl rfl rfl ?_
    obtain ⟨i7, qi7, e⟩ := gv_bind e
    obtain ⟨v8, qv8, e⟩ := gv_bind e
    refine gv_vS (jc := 74) (n := 1) (rest := []) (stk := [.int v8]) (pc' := 52) rfl rfl rfl rfl rfl rfl rfl rfl rfl (gv_zR (gv_zR gv_z0)) rfl (gv_aR (gv_aR gv_a0)) (Nat.le_of_ble_eq_true rfl) qi7 (cH_areFreeBuffers_ok qv8) rfl rfl ?_
    by_cases c9 : v8 = 0
    · rw [if_pos c9] at e
      refine gv_ifT (pc' := 66) rfl (gv_eqT c9) rfl ?_
      exact gv_weak (cW_run_66_ok e) (gv_S1 rfl (gv_S1 rfl (gv_S1 rfl (gv_S1 rfl (gv_S1 rfl gv_S0)))))
    rw [if_neg c9] at e
    refine gv_ifF (pc' := 55) rfl (gv_eqF c9) rfl rfl ?_
    refine gv_rldn (pc' := 56) rfl rfl rfl ?_
    obtain ⟨i10, qi10, e⟩ := gv_bind e
    obtain ⟨v11, qv11, e⟩ := gv_bind e
    refine gv_vS (jc := 75) (n := 0) (rest := []) (stk := [.int v11]) (pc' := 59) rfl rfl rfl rfl rfl rfl rfl rfl rfl (gv_zR gv_z0) rfl (gv_aR gv_a0) (Nat.le_of_ble_eq_true rfl) qi10 (cH_noneTwice_ok qv11) rfl rfl ?_
    by_cases c12 : v11 = 0
    · rw [if_pos c12] at e
      refine gv_ifT (pc' := 66) rfl (gv_eqT c12) rfl ?_
      exact gv_weak (cW_run_66_ok e) (gv_S1 rfl (gv_S1 rfl (gv_S1 rfl (gv_S1 rfl (gv_S1 rfl gv_S0)))))
    rw [if_neg c12] at e
    refine gv_ifF (pc' := 62) rfl (gv_eqF c12) rfl rfl ?_
    refine gv_ic (pc' := 63) (x := 1) rfl rfl rfl ?_
    refine gv_goto (pc' := 67) rfl rfl ?_
    exact gv_weak (cW_run_67_ok e) (gv_S1 rfl (gv_S1 rfl (gv_S1 rfl (gv_S1 rfl (gv_S1 rfl gv_S0)))))
def cW_run (l0 : Option Nat) (l1 : Option Nat) (l2 : Option Nat) (l3 : Int32) (l4 : Int32) (h : gx_H) : Option (Int32 × gx_H) :=
  (gv_gR h l0 5 0).bind fun v1 =>
  (gv_pV h v1 3 1 (.int (0 : Int32))).bind fun h2 =>
  (gv_pV h2 l0 5 2 (.int (0 : Int32))).bind fun h3 =>
  cW_run_16 1000000000000000 l0 l1 l2 l3 l4 (0 : Int32) h3
theorem cW_run_ok {xs : Option (List Int32)} {l0 : Option Nat} {l1 : Option Nat} {l2 : Option Nat} {l3 : Int32} {l4 : Int32} {h : gx_H} {r : (Int32 × gx_H)} (e : cW_run l0 l1 l2 l3 l4 h = some r) : gv_V xs 113 73 0 [(0, gv_u l0), (1, gv_u l1), (2, gv_u l2), (3, .int l3), (4, .int l4)] [] h (.returned (some (.int r.1))) r.2 := by
  unfold cW_run at e
  refine gv_rldn (pc' := 1) rfl rfl rfl ?_
  obtain ⟨v1, qv1, e⟩ := gv_bind e
  refine gv_fR (pc' := 4) rfl rfl qv1 rfl ?_
  refine gv_ic (pc' := 5) (x := 0) rfl rfl rfl ?_
  obtain ⟨h2, qh2, e⟩ := gv_bind e
  refine gv_pI (pc' := 8) rfl rfl rfl qh2 rfl ?_
  refine gv_rldn (pc' := 9) rfl rfl rfl ?_
  refine gv_ic (pc' := 10) (x := 0) rfl rfl rfl ?_
  obtain ⟨h3, qh3, e⟩ := gv_bind e
  refine gv_pI (pc' := 13) rfl rfl rfl qh3 rfl ?_
  refine gv_ic (pc' := 14) (x := 0) rfl rfl rfl ?_
  refine gv_ist (pc' := 16) rfl rfl (gv_Ci rfl) rfl ?_
  exact gv_weak (cW_run_16_ok 1000000000000000 _ _ _ _ _ _ _ _ e) (gv_S1 rfl (gv_S1 rfl (gv_S1 rfl (gv_S1 rfl (gv_S1 rfl (gv_S1 rfl gv_S0))))))
def cR_beginThing_16 (l1 : Option Nat) (l3 : Int32) (h : gx_H) : Option ((Option Nat) × gx_H) :=
  (gv_is h l1 1).bind fun i1 =>
  (cS_thingAt l1 l3 h).bind fun v2 =>
  some (v2, h)
theorem cR_beginThing_16_ok {xs : Option (List Int32)} {l1 : Option Nat} {l3 : Int32} {h : gx_H} {r : ((Option Nat) × gx_H)} (e : cR_beginThing_16 l1 l3 h = some r) : gv_V xs 2 101 16 [(1, gv_u l1), (3, .int l3)] [] h (.returned (some (gv_u r.1))) r.2 := by
  unfold cR_beginThing_16 at e
  refine gv_rldn (pc' := 17) rfl rfl rfl ?_
  refine gv_ildn (pc' := 18) rfl rfl rfl ?_
  obtain ⟨i1, qi1, e⟩ := gv_bind e
  obtain ⟨v2, qv2, e⟩ := gv_bind e
  refine gv_vS (jc := 10) (n := 1) (rest := []) (stk := [gv_u v2]) (pc' := 21) rfl rfl rfl rfl rfl rfl rfl rfl rfl (gv_zR (gv_zI gv_z0)) rfl (gv_aR (gv_aI gv_a0)) (Nat.le_of_ble_eq_true rfl) qi1 (cS_thingAt_ok qv2) rfl rfl ?_
  cases e
  exact gv_retR rfl rfl
def cR_beginThing (l0 : Option Nat) (l1 : Option Nat) (l2 : Int32) (h : gx_H) : Option ((Option Nat) × gx_H) :=
  (gv_is h l1 1).bind fun i1 =>
  (cS_begin l1 l2 h).bind fun r4 =>
  if r4.1 = (-1 : Int32) then (
    (gv_pV r4.2 l0 6 1 (.int (1 : Int32))).bind fun h6 =>
    cR_beginThing_16 l1 r4.1 h6) else
  cR_beginThing_16 l1 r4.1 r4.2
theorem cR_beginThing_ok {xs : Option (List Int32)} {l0 : Option Nat} {l1 : Option Nat} {l2 : Int32} {h : gx_H} {r : ((Option Nat) × gx_H)} (e : cR_beginThing l0 l1 l2 h = some r) : gv_V xs 2 101 0 [(0, gv_u l0), (1, gv_u l1), (2, .int l2)] [] h (.returned (some (gv_u r.1))) r.2 := by
  unfold cR_beginThing at e
  refine gv_rldn (pc' := 1) rfl rfl rfl ?_
  refine gv_ildn (pc' := 2) rfl rfl rfl ?_
  obtain ⟨i1, qi1, e⟩ := gv_bind e
  obtain ⟨⟨v2, h3⟩, qv2, e⟩ := gv_bind e
  refine gv_vS (jc := 26) (n := 1) (rest := []) (stk := [.int v2]) (pc' := 5) rfl rfl rfl rfl rfl rfl rfl rfl rfl (gv_zR (gv_zI gv_z0)) rfl (gv_aR (gv_aI gv_a0)) (Nat.le_of_ble_eq_true rfl) qi1 (cS_begin_ok qv2) rfl rfl ?_
  refine gv_istn (pc' := 6) rfl rfl (gv_Ci rfl) rfl ?_
  refine gv_ildn (pc' := 7) rfl rfl rfl ?_
  refine gv_ic (pc' := 8) (x := -1) rfl rfl rfl ?_
  by_cases c5 : v2 = (-1 : Int32)
  · rw [if_pos c5] at e
    refine gv_cmF (pc' := 11) rfl (gv_neF2 c5) rfl rfl ?_
    refine gv_rldn (pc' := 12) rfl rfl rfl ?_
    refine gv_ic (pc' := 13) (x := 1) rfl rfl rfl ?_
    obtain ⟨h6, qh6, e⟩ := gv_bind e
    refine gv_pZ (pc' := 16) rfl rfl rfl (by decide) qh6 rfl ?_
    exact gv_weak (cR_beginThing_16_ok e) (gv_S1 rfl (gv_S1 rfl gv_S0))
  rw [if_neg c5] at e
  refine gv_cmT (pc' := 16) rfl (gv_neT2 c5) rfl ?_
  exact gv_weak (cR_beginThing_16_ok e) (gv_S1 rfl (gv_S1 rfl gv_S0))
def cR_makeHanded_56 (rec18 : Option Nat → Option Nat → Option Nat → Int32 → gx_H → Option gx_H) (l0 : Option Nat) (l1 : Option Nat) (l2 : Option Nat) (l3 : Int32) (h : gx_H) : Option gx_H :=
  rec18 l0 l1 l2 (l3 + 1) h
theorem cR_makeHanded_56_ok {xs : Option (List Int32)} {rec18 : Option Nat → Option Nat → Option Nat → Int32 → gx_H → Option gx_H} (hrec18 : ∀ (l0 : Option Nat) (l1 : Option Nat) (l2 : Option Nat) (l3 : Int32) (h : gx_H) (r : gx_H), rec18 l0 l1 l2 l3 h = some r → gv_V xs 3 100 18 [(0, gv_u l0), (1, gv_u l1), (2, gv_u l2), (3, .int l3)] [] h (.returned none) r) {l0 : Option Nat} {l1 : Option Nat} {l2 : Option Nat} {l3 : Int32} {h : gx_H} {r : gx_H} (e : cR_makeHanded_56 rec18 l0 l1 l2 l3 h = some r) : gv_V xs 3 100 56 [(0, gv_u l0), (1, gv_u l1), (2, gv_u l2), (3, .int l3)] [] h (.returned none) r := by
  unfold cR_makeHanded_56 at e
  refine gv_inc (pc' := 59) (y := 1) rfl rfl rfl rfl (gv_Cr rfl) rfl ?_
  refine gv_goto (pc' := 18) rfl rfl ?_
  exact gv_weak (hrec18 _ _ _ _ _ _ e) (gv_S1 rfl (gv_S1 rfl (gv_S1 rfl (gv_S1 rfl gv_S0))))
def cR_makeHanded_18 : Nat → Option Nat → Option Nat → Option Nat → Int32 → gx_H → Option gx_H
  | 0, _, _, _, _, _ => none
  | n + 1, l0, l1, l2, l3, h =>
    (gv_gI h l0 6 5).bind fun v1 =>
    if l3 < v1 then (
      (gv_is h l0 6).bind fun i3 =>
      (cR_beginThing l0 l1 (4 : Int32) h).bind fun r6 =>
      if r6.1 = none then (
        cR_makeHanded_56 (cR_makeHanded_18 n) l0 l1 l2 l3 r6.2) else
      (gv_gR r6.2 l2 4 2).bind fun v8 =>
      (gv_lJ r6.2 v8 l3).bind fun v9 =>
      (gv_gR r6.2 l2 4 3).bind fun v10 =>
      (gv_lI r6.2 v10 l3).bind fun v11 =>
      (gv_is r6.2 r6.1 2).bind fun i12 =>
      (cT_holdBytes r6.1 v9 v11 r6.2).bind fun h14 =>
      cR_makeHanded_56 (cR_makeHanded_18 n) l0 l1 l2 l3 h14) else
    (gv_gI h l1 1 1).bind fun v15 =>
    (gv_pV h l0 6 6 (.int v15)).bind fun h16 =>
    some h16
theorem cR_makeHanded_18_ok {xs : Option (List Int32)} : ∀ (n : Nat) (l0 : Option Nat) (l1 : Option Nat) (l2 : Option Nat) (l3 : Int32) (h : gx_H) (r : gx_H), cR_makeHanded_18 n l0 l1 l2 l3 h = some r → gv_V xs 3 100 18 [(0, gv_u l0), (1, gv_u l1), (2, gv_u l2), (3, .int l3)] [] h (.returned none) r := by
  intro n
  induction n with
  | zero => intro l0 l1 l2 l3 h r e; cases e
  | succ n ih =>
    intro l0 l1 l2 l3 h r e
    rw [cR_makeHanded_18] at e
    refine gv_ildn (pc' := 19) rfl rfl rfl ?_
    refine gv_rldn (pc' := 20) rfl rfl rfl ?_
    obtain ⟨v1, qv1, e⟩ := gv_bind e
    refine gv_fI (pc' := 23) rfl rfl qv1 rfl ?_
    by_cases c2 : l3 < v1
    · rw [if_pos c2] at e
      refine gv_cmF (pc' := 26) rfl (gv_geF2 c2) rfl rfl ?_
      refine gv_rldn (pc' := 27) rfl rfl rfl ?_
      refine gv_rldn (pc' := 28) rfl rfl rfl ?_
      refine gv_ic (pc' := 29) (x := 4) rfl rfl rfl ?_
      obtain ⟨i3, qi3, e⟩ := gv_bind e
      obtain ⟨⟨v4, h5⟩, qv4, e⟩ := gv_bind e
      refine gv_vS (jc := 101) (n := 2) (rest := []) (stk := [gv_u v4]) (pc' := 32) rfl rfl rfl rfl rfl rfl rfl rfl rfl (gv_zR (gv_zR (gv_zI gv_z0))) rfl (gv_aR (gv_aR (gv_aI gv_a0))) (Nat.le_of_ble_eq_true rfl) qi3 (cR_beginThing_ok qv4) rfl rfl ?_
      refine gv_rst (pc' := 34) rfl rfl (gv_Ci rfl) rfl ?_
      refine gv_rld (pc' := 36) rfl rfl rfl ?_
      by_cases c7 : v4 = none
      · rw [if_pos c7] at e
        refine gv_nuT (pc' := 56) rfl c7 rfl ?_
        exact gv_weak (cR_makeHanded_56_ok ih e) (gv_S1 rfl (gv_S1 rfl (gv_S1 rfl (gv_S1 rfl gv_S0))))
      rw [if_neg c7] at e
      refine gv_nuF (pc' := 39) rfl c7 rfl ?_
      refine gv_rld (pc' := 41) rfl rfl rfl ?_
      refine gv_rldn (pc' := 42) rfl rfl rfl ?_
      obtain ⟨v8, qv8, e⟩ := gv_bind e
      refine gv_fR (pc' := 45) rfl rfl qv8 rfl ?_
      refine gv_ildn (pc' := 46) rfl rfl rfl ?_
      obtain ⟨v9, qv9, e⟩ := gv_bind e
      refine gv_lald (pc' := 47) rfl qv9 rfl ?_
      refine gv_rldn (pc' := 48) rfl rfl rfl ?_
      obtain ⟨v10, qv10, e⟩ := gv_bind e
      refine gv_fR (pc' := 51) rfl rfl qv10 rfl ?_
      refine gv_ildn (pc' := 52) rfl rfl rfl ?_
      obtain ⟨v11, qv11, e⟩ := gv_bind e
      refine gv_iald (pc' := 53) rfl qv11 rfl ?_
      obtain ⟨i12, qi12, e⟩ := gv_bind e
      obtain ⟨h14, qv13, e⟩ := gv_bind e
      refine gv_vS (jc := 30) (n := 2) (rest := []) (stk := []) (pc' := 56) rfl rfl rfl rfl rfl rfl rfl rfl rfl (gv_zR (gv_zJ (gv_zI gv_z0))) rfl (gv_aR (gv_aJ (gv_aI gv_a0))) (Nat.le_of_ble_eq_true rfl) qi12 (cT_holdBytes_ok qv13) rfl rfl ?_
      exact gv_weak (cR_makeHanded_56_ok ih e) (gv_S1 rfl (gv_S1 rfl (gv_S1 rfl (gv_S1 rfl gv_S0))))
    rw [if_neg c2] at e
    refine gv_cmT (pc' := 62) rfl (gv_geT2 c2) rfl ?_
    refine gv_rldn (pc' := 63) rfl rfl rfl ?_
    refine gv_rldn (pc' := 64) rfl rfl rfl ?_
    obtain ⟨v15, qv15, e⟩ := gv_bind e
    refine gv_fI (pc' := 67) rfl rfl qv15 rfl ?_
    obtain ⟨h16, qh16, e⟩ := gv_bind e
    refine gv_pI (pc' := 70) rfl rfl rfl qh16 rfl ?_
    cases e
    exact gv_retV rfl rfl
def cR_makeHanded (l0 : Option Nat) (l1 : Option Nat) (l2 : Option Nat) (h : gx_H) : Option gx_H :=
  (gv_gI h l1 1 1).bind fun v1 =>
  (gv_pV h l0 6 4 (.int v1)).bind fun h2 =>
  (gv_gI h2 l2 4 4).bind fun v3 =>
  (gv_pV h2 l0 6 5 (.int v3)).bind fun h4 =>
  cR_makeHanded_18 1000000000000000 l0 l1 l2 (0 : Int32) h4
theorem cR_makeHanded_ok {xs : Option (List Int32)} {l0 : Option Nat} {l1 : Option Nat} {l2 : Option Nat} {h : gx_H} {r : gx_H} (e : cR_makeHanded l0 l1 l2 h = some r) : gv_V xs 3 100 0 [(0, gv_u l0), (1, gv_u l1), (2, gv_u l2)] [] h (.returned none) r := by
  unfold cR_makeHanded at e
  refine gv_rldn (pc' := 1) rfl rfl rfl ?_
  refine gv_rldn (pc' := 2) rfl rfl rfl ?_
  obtain ⟨v1, qv1, e⟩ := gv_bind e
  refine gv_fI (pc' := 5) rfl rfl qv1 rfl ?_
  obtain ⟨h2, qh2, e⟩ := gv_bind e
  refine gv_pI (pc' := 8) rfl rfl rfl qh2 rfl ?_
  refine gv_rldn (pc' := 9) rfl rfl rfl ?_
  refine gv_rldn (pc' := 10) rfl rfl rfl ?_
  obtain ⟨v3, qv3, e⟩ := gv_bind e
  refine gv_fI (pc' := 13) rfl rfl qv3 rfl ?_
  obtain ⟨h4, qh4, e⟩ := gv_bind e
  refine gv_pI (pc' := 16) rfl rfl rfl qh4 rfl ?_
  refine gv_ic (pc' := 17) (x := 0) rfl rfl rfl ?_
  refine gv_istn (pc' := 18) rfl rfl (gv_Cr rfl) rfl ?_
  exact gv_weak (cR_makeHanded_18_ok 1000000000000000 _ _ _ _ _ _ e) (gv_S1 rfl (gv_S1 rfl (gv_S1 rfl (gv_S1 rfl gv_S0))))
def cR_nextByte (l0 : Option Nat) (l1 : Option Nat) (h : gx_H) : Option (Int32 × gx_H) :=
  (gv_gI h l0 6 1).bind fun v1 =>
  if v1 = 0 then (
    (gv_gI h l0 6 0).bind fun v3 =>
    (gv_gI h l1 3 1).bind fun v4 =>
    if v3 < v4 then (
      (gv_gI h l0 6 0).bind fun v6 =>
      (gv_pV h l0 6 0 (.int (v6 + (1 : Int32)))).bind fun h7 =>
      (gv_gR h7 l1 3 0).bind fun v8 =>
      (gv_gI h7 l0 6 0).bind fun v9 =>
      (gv_lI h7 v8 (v9 - (1 : Int32))).bind fun v10 =>
      some (v10, h7)) else
    (gv_pV h l0 6 1 (.int (1 : Int32))).bind fun h11 =>
    some ((0 : Int32), h11)) else
  (gv_pV h l0 6 1 (.int (1 : Int32))).bind fun h12 =>
  some ((0 : Int32), h12)
theorem cR_nextByte_ok {xs : Option (List Int32)} {l0 : Option Nat} {l1 : Option Nat} {h : gx_H} {r : (Int32 × gx_H)} (e : cR_nextByte l0 l1 h = some r) : gv_V xs 0 102 0 [(0, gv_u l0), (1, gv_u l1)] [] h (.returned (some (.int r.1))) r.2 := by
  unfold cR_nextByte at e
  refine gv_rldn (pc' := 1) rfl rfl rfl ?_
  obtain ⟨v1, qv1, e⟩ := gv_bind e
  refine gv_fI (pc' := 4) rfl rfl qv1 rfl ?_
  by_cases c2 : v1 = 0
  · rw [if_pos c2] at e
    refine gv_ifF (pc' := 7) rfl (gv_neF c2) rfl rfl ?_
    refine gv_rldn (pc' := 8) rfl rfl rfl ?_
    obtain ⟨v3, qv3, e⟩ := gv_bind e
    refine gv_fI (pc' := 11) rfl rfl qv3 rfl ?_
    refine gv_rldn (pc' := 12) rfl rfl rfl ?_
    obtain ⟨v4, qv4, e⟩ := gv_bind e
    refine gv_fI (pc' := 15) rfl rfl qv4 rfl ?_
    by_cases c5 : v3 < v4
    · rw [if_pos c5] at e
      refine gv_cmT (pc' := 25) rfl (gv_ltT2 c5) rfl ?_
      refine gv_rldn (pc' := 26) rfl rfl rfl ?_
      refine gv_dup (pc' := 27) rfl (gv_u_cat _) rfl ?_
      obtain ⟨v6, qv6, e⟩ := gv_bind e
      refine gv_fI (pc' := 30) rfl rfl qv6 rfl ?_
      refine gv_ic (pc' := 31) (x := 1) rfl rfl rfl ?_
      refine gv_iadd (pc' := 32) rfl rfl ?_
      obtain ⟨h7, qh7, e⟩ := gv_bind e
      refine gv_pI (pc' := 35) rfl rfl rfl qh7 rfl ?_
      refine gv_rldn (pc' := 36) rfl rfl rfl ?_
      obtain ⟨v8, qv8, e⟩ := gv_bind e
      refine gv_fR (pc' := 39) rfl rfl qv8 rfl ?_
      refine gv_rldn (pc' := 40) rfl rfl rfl ?_
      obtain ⟨v9, qv9, e⟩ := gv_bind e
      refine gv_fI (pc' := 43) rfl rfl qv9 rfl ?_
      refine gv_ic (pc' := 44) (x := 1) rfl rfl rfl ?_
      refine gv_isub (pc' := 45) rfl rfl ?_
      obtain ⟨v10, qv10, e⟩ := gv_bind e
      refine gv_iald (pc' := 46) rfl qv10 rfl ?_
      cases e
      exact gv_retI rfl rfl
    rw [if_neg c5] at e
    refine gv_cmF (pc' := 18) rfl (gv_ltF2 c5) rfl rfl ?_
    refine gv_rldn (pc' := 19) rfl rfl rfl ?_
    refine gv_ic (pc' := 20) (x := 1) rfl rfl rfl ?_
    obtain ⟨h11, qh11, e⟩ := gv_bind e
    refine gv_pZ (pc' := 23) rfl rfl rfl (by decide) qh11 rfl ?_
    refine gv_ic (pc' := 24) (x := 0) rfl rfl rfl ?_
    cases e
    exact gv_retI rfl rfl
  rw [if_neg c2] at e
  refine gv_ifT (pc' := 18) rfl (gv_neT c2) rfl ?_
  refine gv_rldn (pc' := 19) rfl rfl rfl ?_
  refine gv_ic (pc' := 20) (x := 1) rfl rfl rfl ?_
  obtain ⟨h12, qh12, e⟩ := gv_bind e
  refine gv_pZ (pc' := 23) rfl rfl rfl (by decide) qh12 rfl ?_
  refine gv_ic (pc' := 24) (x := 0) rfl rfl rfl ?_
  cases e
  exact gv_retI rfl rfl
def cR_nextUpTo (l0 : Option Nat) (l1 : Option Nat) (l2 : Int32) (h : gx_H) : Option (Int32 × gx_H) :=
  (gv_is h l0 6).bind fun i1 =>
  (cR_nextByte l0 l1 h).bind fun r4 =>
  if l2 < r4.1 then (
    (gv_pV r4.2 l0 6 1 (.int (1 : Int32))).bind fun h6 =>
    some ((0 : Int32), h6)) else
  some (r4.1, r4.2)
theorem cR_nextUpTo_ok {xs : Option (List Int32)} {l0 : Option Nat} {l1 : Option Nat} {l2 : Int32} {h : gx_H} {r : (Int32 × gx_H)} (e : cR_nextUpTo l0 l1 l2 h = some r) : gv_V xs 1 104 0 [(0, gv_u l0), (1, gv_u l1), (2, .int l2)] [] h (.returned (some (.int r.1))) r.2 := by
  unfold cR_nextUpTo at e
  refine gv_rldn (pc' := 1) rfl rfl rfl ?_
  refine gv_rldn (pc' := 2) rfl rfl rfl ?_
  obtain ⟨i1, qi1, e⟩ := gv_bind e
  obtain ⟨⟨v2, h3⟩, qv2, e⟩ := gv_bind e
  refine gv_vS (jc := 102) (n := 1) (rest := []) (stk := [.int v2]) (pc' := 5) rfl rfl rfl rfl rfl rfl rfl rfl rfl (gv_zR (gv_zR gv_z0)) rfl (gv_aR (gv_aR gv_a0)) (Nat.le_of_ble_eq_true rfl) qi1 (cR_nextByte_ok qv2) rfl rfl ?_
  refine gv_istn (pc' := 6) rfl rfl (gv_Ci rfl) rfl ?_
  refine gv_ildn (pc' := 7) rfl rfl rfl ?_
  refine gv_ildn (pc' := 8) rfl rfl rfl ?_
  by_cases c5 : l2 < v2
  · rw [if_pos c5] at e
    refine gv_cmF (pc' := 11) rfl (gv_leF2 c5) rfl rfl ?_
    refine gv_rldn (pc' := 12) rfl rfl rfl ?_
    refine gv_ic (pc' := 13) (x := 1) rfl rfl rfl ?_
    obtain ⟨h6, qh6, e⟩ := gv_bind e
    refine gv_pZ (pc' := 16) rfl rfl rfl (by decide) qh6 rfl ?_
    refine gv_ic (pc' := 17) (x := 0) rfl rfl rfl ?_
    cases e
    exact gv_retI rfl rfl
  rw [if_neg c5] at e
  refine gv_cmT (pc' := 18) rfl (gv_leT2 c5) rfl ?_
  refine gv_ildn (pc' := 19) rfl rfl rfl ?_
  cases e
  exact gv_retI rfl rfl
def cR_nextLengthy_77 (l0 : Option Nat) (l2 : Int64) (l6 : Int32) (s0 : Int32) (h : gx_H) : Option (Int64 × gx_H) :=
  (gv_gI h l0 6 1).bind fun v1 =>
  if v1 = 0 then (
    if l6 = 0 then (
      if s0 = 0 then (
        (gv_pV h l0 6 1 (.int (0 : Int32))).bind fun h5 =>
        some (l2, h5)) else
      (gv_pV h l0 6 1 (.int (1 : Int32))).bind fun h6 =>
      some (l2, h6)) else
    (gv_pV h l0 6 1 (.int (1 : Int32))).bind fun h7 =>
    some (l2, h7)) else
  (gv_pV h l0 6 1 (.int (1 : Int32))).bind fun h8 =>
  some (l2, h8)
theorem cR_nextLengthy_77_ok {xs : Option (List Int32)} {l0 : Option Nat} {l2 : Int64} {l6 : Int32} {s0 : Int32} {h : gx_H} {r : (Int64 × gx_H)} (e : cR_nextLengthy_77 l0 l2 l6 s0 h = some r) : gv_V xs 1 107 77 [(0, gv_u l0), (2, .long l2), (6, .int l6)] [.int s0] h (.returned (some (.long r.1))) r.2 := by
  unfold cR_nextLengthy_77 at e
  refine gv_ist (pc' := 79) rfl rfl (gv_Ci rfl) rfl ?_
  refine gv_rldn (pc' := 80) rfl rfl rfl ?_
  refine gv_rldn (pc' := 81) rfl rfl rfl ?_
  obtain ⟨v1, qv1, e⟩ := gv_bind e
  refine gv_fI (pc' := 84) rfl rfl qv1 rfl ?_
  by_cases c2 : v1 = 0
  · rw [if_pos c2] at e
    refine gv_ifF (pc' := 87) rfl (gv_neF c2) rfl rfl ?_
    refine gv_ild (pc' := 89) rfl rfl rfl ?_
    by_cases c3 : l6 = 0
    · rw [if_pos c3] at e
      refine gv_ifF (pc' := 92) rfl (gv_neF c3) rfl rfl ?_
      refine gv_ild (pc' := 94) rfl rfl rfl ?_
      by_cases c4 : s0 = 0
      · rw [if_pos c4] at e
        refine gv_ifT (pc' := 101) rfl (gv_eqT c4) rfl ?_
        refine gv_ic (pc' := 102) (x := 0) rfl rfl rfl ?_
        obtain ⟨h5, qh5, e⟩ := gv_bind e
        refine gv_pZ (pc' := 105) rfl rfl rfl (by decide) qh5 rfl ?_
        refine gv_jldn (pc' := 106) rfl rfl rfl ?_
        cases e
        exact gv_retJ rfl rfl
      rw [if_neg c4] at e
      refine gv_ifF (pc' := 97) rfl (gv_eqF c4) rfl rfl ?_
      refine gv_ic (pc' := 98) (x := 1) rfl rfl rfl ?_
      refine gv_goto (pc' := 102) rfl rfl ?_
      obtain ⟨h6, qh6, e⟩ := gv_bind e
      refine gv_pZ (pc' := 105) rfl rfl rfl (by decide) qh6 rfl ?_
      refine gv_jldn (pc' := 106) rfl rfl rfl ?_
      cases e
      exact gv_retJ rfl rfl
    rw [if_neg c3] at e
    refine gv_ifT (pc' := 97) rfl (gv_neT c3) rfl ?_
    refine gv_ic (pc' := 98) (x := 1) rfl rfl rfl ?_
    refine gv_goto (pc' := 102) rfl rfl ?_
    obtain ⟨h7, qh7, e⟩ := gv_bind e
    refine gv_pZ (pc' := 105) rfl rfl rfl (by decide) qh7 rfl ?_
    refine gv_jldn (pc' := 106) rfl rfl rfl ?_
    cases e
    exact gv_retJ rfl rfl
  rw [if_neg c2] at e
  refine gv_ifT (pc' := 97) rfl (gv_neT c2) rfl ?_
  refine gv_ic (pc' := 98) (x := 1) rfl rfl rfl ?_
  refine gv_goto (pc' := 102) rfl rfl ?_
  obtain ⟨h8, qh8, e⟩ := gv_bind e
  refine gv_pZ (pc' := 105) rfl rfl rfl (by decide) qh8 rfl ?_
  refine gv_jldn (pc' := 106) rfl rfl rfl ?_
  cases e
  exact gv_retJ rfl rfl
def cR_nextLengthy_76 (l0 : Option Nat) (l2 : Int64) (l6 : Int32) (h : gx_H) : Option (Int64 × gx_H) :=
  cR_nextLengthy_77 l0 l2 l6 (0 : Int32) h
theorem cR_nextLengthy_76_ok {xs : Option (List Int32)} {l0 : Option Nat} {l2 : Int64} {l6 : Int32} {h : gx_H} {r : (Int64 × gx_H)} (e : cR_nextLengthy_76 l0 l2 l6 h = some r) : gv_V xs 1 107 76 [(0, gv_u l0), (2, .long l2), (6, .int l6)] [] h (.returned (some (.long r.1))) r.2 := by
  unfold cR_nextLengthy_76 at e
  refine gv_ic (pc' := 77) (x := 0) rfl rfl rfl ?_
  exact gv_weak (cR_nextLengthy_77_ok e) (gv_S1 rfl (gv_S1 rfl (gv_S1 rfl gv_S0)))
def cR_nextLengthy_57 (l0 : Option Nat) (l2 : Int64) (l4 : Int32) (l5 : Int32) (s0 : Int32) (h : gx_H) : Option (Int64 × gx_H) :=
  if l4 = (9 : Int32) then (
    if (1 : Int32) < l5 then (
      cR_nextLengthy_77 l0 l2 s0 (1 : Int32) h) else
    cR_nextLengthy_76 l0 l2 s0 h) else
  cR_nextLengthy_76 l0 l2 s0 h
theorem cR_nextLengthy_57_ok {xs : Option (List Int32)} {l0 : Option Nat} {l2 : Int64} {l4 : Int32} {l5 : Int32} {s0 : Int32} {h : gx_H} {r : (Int64 × gx_H)} (e : cR_nextLengthy_57 l0 l2 l4 l5 s0 h = some r) : gv_V xs 1 107 57 [(0, gv_u l0), (2, .long l2), (4, .int l4), (5, .int l5)] [.int s0] h (.returned (some (.long r.1))) r.2 := by
  unfold cR_nextLengthy_57 at e
  refine gv_ist (pc' := 59) rfl rfl (gv_Ci rfl) rfl ?_
  refine gv_ild (pc' := 61) rfl rfl rfl ?_
  refine gv_bp (pc' := 63) (x := 9) rfl rfl rfl ?_
  by_cases c1 : l4 = (9 : Int32)
  · rw [if_pos c1] at e
    refine gv_cmF (pc' := 66) rfl (gv_neF2 c1) rfl rfl ?_
    refine gv_ild (pc' := 68) rfl rfl rfl ?_
    refine gv_ic (pc' := 69) (x := 1) rfl rfl rfl ?_
    by_cases c2 : (1 : Int32) < l5
    · rw [if_pos c2] at e
      refine gv_cmF (pc' := 72) rfl (gv_leF2 c2) rfl rfl ?_
      refine gv_ic (pc' := 73) (x := 1) rfl rfl rfl ?_
      refine gv_goto (pc' := 77) rfl rfl ?_
      exact gv_weak (cR_nextLengthy_77_ok e) (gv_S1 rfl (gv_S1 rfl (gv_S1 rfl gv_S0)))
    rw [if_neg c2] at e
    refine gv_cmT (pc' := 76) rfl (gv_leT2 c2) rfl ?_
    exact gv_weak (cR_nextLengthy_76_ok e) (gv_S1 rfl (gv_S1 rfl (gv_S1 rfl gv_S0)))
  rw [if_neg c1] at e
  refine gv_cmT (pc' := 76) rfl (gv_neT2 c1) rfl ?_
  exact gv_weak (cR_nextLengthy_76_ok e) (gv_S1 rfl (gv_S1 rfl (gv_S1 rfl gv_S0)))
def cR_nextLengthy_56 (l0 : Option Nat) (l2 : Int64) (l4 : Int32) (l5 : Int32) (h : gx_H) : Option (Int64 × gx_H) :=
  cR_nextLengthy_57 l0 l2 l4 l5 (0 : Int32) h
theorem cR_nextLengthy_56_ok {xs : Option (List Int32)} {l0 : Option Nat} {l2 : Int64} {l4 : Int32} {l5 : Int32} {h : gx_H} {r : (Int64 × gx_H)} (e : cR_nextLengthy_56 l0 l2 l4 l5 h = some r) : gv_V xs 1 107 56 [(0, gv_u l0), (2, .long l2), (4, .int l4), (5, .int l5)] [] h (.returned (some (.long r.1))) r.2 := by
  unfold cR_nextLengthy_56 at e
  refine gv_ic (pc' := 57) (x := 0) rfl rfl rfl ?_
  exact gv_weak (cR_nextLengthy_57_ok e) (gv_S1 rfl (gv_S1 rfl (gv_S1 rfl (gv_S1 rfl gv_S0))))
def cR_nextLengthy_5 : Nat → Option Nat → Option Nat → Int64 → Int32 → gx_H → Option (Int64 × gx_H)
  | 0, _, _, _, _, _ => none
  | n + 1, l0, l1, l2, l4, h =>
    if l4 < (10 : Int32) then (
      (gv_is h l0 6).bind fun i2 =>
      (cR_nextByte l0 l1 h).bind fun r5 =>
      if r5.1 < (128 : Int32) then (
        if 0 < l4 then (
          if r5.1 = 0 then (
            cR_nextLengthy_57 l0 (l2 ||| ((Int32.toInt64 (r5.1 &&& (127 : Int32))) <<< (Int32.toInt64 ((7 : Int32) * l4) &&& 63))) l4 r5.1 (1 : Int32) r5.2) else
          cR_nextLengthy_56 l0 (l2 ||| ((Int32.toInt64 (r5.1 &&& (127 : Int32))) <<< (Int32.toInt64 ((7 : Int32) * l4) &&& 63))) l4 r5.1 r5.2) else
        cR_nextLengthy_56 l0 (l2 ||| ((Int32.toInt64 (r5.1 &&& (127 : Int32))) <<< (Int32.toInt64 ((7 : Int32) * l4) &&& 63))) l4 r5.1 r5.2) else
      cR_nextLengthy_5 n l0 l1 (l2 ||| ((Int32.toInt64 (r5.1 &&& (127 : Int32))) <<< (Int32.toInt64 ((7 : Int32) * l4) &&& 63))) (l4 + 1) r5.2) else
    (gv_pV h l0 6 1 (.int (1 : Int32))).bind fun h9 =>
    some (l2, h9)
theorem cR_nextLengthy_5_ok {xs : Option (List Int32)} : ∀ (n : Nat) (l0 : Option Nat) (l1 : Option Nat) (l2 : Int64) (l4 : Int32) (h : gx_H) (r : (Int64 × gx_H)), cR_nextLengthy_5 n l0 l1 l2 l4 h = some r → gv_V xs 1 107 5 [(0, gv_u l0), (1, gv_u l1), (2, .long l2), (4, .int l4)] [] h (.returned (some (.long r.1))) r.2 := by
  intro n
  induction n with
  | zero => intro l0 l1 l2 l4 h r e; cases e
  | succ n ih =>
    intro l0 l1 l2 l4 h r e
    rw [cR_nextLengthy_5] at e
    refine gv_ild (pc' := 7) rfl rfl rfl ?_
    refine gv_bp (pc' := 9) (x := 10) rfl rfl rfl ?_
    by_cases c1 : l4 < (10 : Int32)
    · rw [if_pos c1] at e
      refine gv_cmF (pc' := 12) rfl (gv_geF2 c1) rfl rfl ?_
      refine gv_rldn (pc' := 13) rfl rfl rfl ?_
      refine gv_rldn (pc' := 14) rfl rfl rfl ?_
      obtain ⟨i2, qi2, e⟩ := gv_bind e
      obtain ⟨⟨v3, h4⟩, qv3, e⟩ := gv_bind e
      refine gv_vS (jc := 102) (n := 1) (rest := []) (stk := [.int v3]) (pc' := 17) rfl rfl rfl rfl rfl rfl rfl rfl rfl (gv_zR (gv_zR gv_z0)) rfl (gv_aR (gv_aR gv_a0)) (Nat.le_of_ble_eq_true rfl) qi2 (cR_nextByte_ok qv3) rfl rfl ?_
      refine gv_ist (pc' := 19) rfl rfl (gv_Ci rfl) rfl ?_
      refine gv_jldn (pc' := 20) rfl rfl rfl ?_
      refine gv_ild (pc' := 22) rfl rfl rfl ?_
      refine gv_bp (pc' := 24) (x := 127) rfl rfl rfl ?_
      refine gv_iand (pc' := 25) rfl rfl ?_
      refine gv_i2l (pc' := 26) rfl rfl ?_
      refine gv_bp (pc' := 28) (x := 7) rfl rfl rfl ?_
      refine gv_ild (pc' := 30) rfl rfl rfl ?_
      refine gv_imul (pc' := 31) rfl rfl ?_
      refine gv_lshl (pc' := 32) rfl rfl ?_
      refine gv_lor (pc' := 33) rfl rfl ?_
      refine gv_jstn (pc' := 34) rfl rfl (gv_Cr rfl) rfl rfl ?_
      refine gv_ild (pc' := 36) rfl rfl rfl ?_
      refine gv_sp (pc' := 39) (x := 128) rfl rfl rfl ?_
      by_cases c6 : v3 < (128 : Int32)
      · rw [if_pos c6] at e
        refine gv_cmF (pc' := 42) rfl (gv_geF2 c6) rfl rfl ?_
        refine gv_ild (pc' := 44) rfl rfl rfl ?_
        by_cases c7 : 0 < l4
        · rw [if_pos c7] at e
          refine gv_ifF (pc' := 47) rfl (gv_leF c7) rfl rfl ?_
          refine gv_ild (pc' := 49) rfl rfl rfl ?_
          by_cases c8 : v3 = 0
          · rw [if_pos c8] at e
            refine gv_ifF (pc' := 52) rfl (gv_neF c8) rfl rfl ?_
            refine gv_ic (pc' := 53) (x := 1) rfl rfl rfl ?_
            refine gv_goto (pc' := 57) rfl rfl ?_
            exact gv_weak (cR_nextLengthy_57_ok e) (gv_S1 rfl (gv_S1 rfl (gv_S1 rfl (gv_S1 rfl gv_S0))))
          rw [if_neg c8] at e
          refine gv_ifT (pc' := 56) rfl (gv_neT c8) rfl ?_
          exact gv_weak (cR_nextLengthy_56_ok e) (gv_S1 rfl (gv_S1 rfl (gv_S1 rfl (gv_S1 rfl gv_S0))))
        rw [if_neg c7] at e
        refine gv_ifT (pc' := 56) rfl (gv_leT c7) rfl ?_
        exact gv_weak (cR_nextLengthy_56_ok e) (gv_S1 rfl (gv_S1 rfl (gv_S1 rfl (gv_S1 rfl gv_S0))))
      rw [if_neg c6] at e
      refine gv_cmT (pc' := 107) rfl (gv_geT2 c6) rfl ?_
      refine gv_inc (pc' := 110) (y := 1) rfl rfl rfl rfl (gv_Cn rfl) rfl ?_
      refine gv_goto (pc' := 5) rfl rfl ?_
      exact gv_weak (ih _ _ _ _ _ _ e) (gv_S1 rfl (gv_S1 rfl (gv_S1 rfl (gv_S1 rfl gv_S0))))
    rw [if_neg c1] at e
    refine gv_cmT (pc' := 113) rfl (gv_geT2 c1) rfl ?_
    refine gv_rldn (pc' := 114) rfl rfl rfl ?_
    refine gv_ic (pc' := 115) (x := 1) rfl rfl rfl ?_
    obtain ⟨h9, qh9, e⟩ := gv_bind e
    refine gv_pZ (pc' := 118) rfl rfl rfl (by decide) qh9 rfl ?_
    refine gv_jldn (pc' := 119) rfl rfl rfl ?_
    cases e
    exact gv_retJ rfl rfl
def cR_nextLengthy (l0 : Option Nat) (l1 : Option Nat) (h : gx_H) : Option (Int64 × gx_H) :=
  cR_nextLengthy_5 1000000000000000 l0 l1 (0 : Int64) (0 : Int32) h
theorem cR_nextLengthy_ok {xs : Option (List Int32)} {l0 : Option Nat} {l1 : Option Nat} {h : gx_H} {r : (Int64 × gx_H)} (e : cR_nextLengthy l0 l1 h = some r) : gv_V xs 1 107 0 [(0, gv_u l0), (1, gv_u l1)] [] h (.returned (some (.long r.1))) r.2 := by
  unfold cR_nextLengthy at e
  refine gv_lc (pc' := 1) (x := 0) rfl rfl rfl ?_
  refine gv_jstn (pc' := 2) rfl rfl (gv_Cr rfl) rfl rfl ?_
  refine gv_ic (pc' := 3) (x := 0) rfl rfl rfl ?_
  refine gv_ist (pc' := 5) rfl rfl (gv_Cn rfl) rfl ?_
  exact gv_weak (cR_nextLengthy_5_ok 1000000000000000 _ _ _ _ _ _ e) (gv_S1 rfl (gv_S1 rfl (gv_S1 rfl (gv_S1 rfl gv_S0))))
def cR_nextZigzag (l0 : Option Nat) (l1 : Option Nat) (h : gx_H) : Option (Int64 × gx_H) :=
  (gv_is h l0 6).bind fun i1 =>
  (cR_nextLengthy l0 l1 h).bind fun r4 =>
  some ((((Int64.toUInt64 r4.1 >>> ((Int32.toInt64 (1 : Int32)).toUInt64 &&& Int64.toUInt64 63)).toInt64) ^^^ (-(r4.1 &&& (1 : Int64)))), r4.2)
theorem cR_nextZigzag_ok {xs : Option (List Int32)} {l0 : Option Nat} {l1 : Option Nat} {h : gx_H} {r : (Int64 × gx_H)} (e : cR_nextZigzag l0 l1 h = some r) : gv_V xs 2 106 0 [(0, gv_u l0), (1, gv_u l1)] [] h (.returned (some (.long r.1))) r.2 := by
  unfold cR_nextZigzag at e
  refine gv_rldn (pc' := 1) rfl rfl rfl ?_
  refine gv_rldn (pc' := 2) rfl rfl rfl ?_
  obtain ⟨i1, qi1, e⟩ := gv_bind e
  obtain ⟨⟨v2, h3⟩, qv2, e⟩ := gv_bind e
  refine gv_vS (jc := 107) (n := 1) (rest := []) (stk := [.long v2]) (pc' := 5) rfl rfl rfl rfl rfl rfl rfl rfl rfl (gv_zR (gv_zR gv_z0)) rfl (gv_aR (gv_aR gv_a0)) (Nat.le_of_ble_eq_true rfl) qi1 (cR_nextLengthy_ok qv2) rfl rfl ?_
  refine gv_jstn (pc' := 6) rfl rfl (gv_Cr rfl) rfl rfl ?_
  refine gv_jldn (pc' := 7) rfl rfl rfl ?_
  refine gv_ic (pc' := 8) (x := 1) rfl rfl rfl ?_
  refine gv_lushr (pc' := 9) rfl rfl ?_
  refine gv_jldn (pc' := 10) rfl rfl rfl ?_
  refine gv_lc (pc' := 11) (x := 1) rfl rfl rfl ?_
  refine gv_land (pc' := 12) rfl rfl ?_
  refine gv_lneg (pc' := 13) rfl rfl ?_
  refine gv_lxor (pc' := 14) rfl rfl ?_
  cases e
  exact gv_retJ rfl rfl
def cR_nextInt (l0 : Option Nat) (l1 : Option Nat) (h : gx_H) : Option (Int32 × gx_H) :=
  (gv_is h l0 6).bind fun i1 =>
  (cR_nextZigzag l0 l1 h).bind fun r4 =>
  if r4.1 = (Int32.toInt64 (Int64.toInt32 r4.1)) then (
    some ((Int64.toInt32 r4.1), r4.2)) else
  (gv_pV r4.2 l0 6 1 (.int (1 : Int32))).bind fun h6 =>
  some ((Int64.toInt32 r4.1), h6)
theorem cR_nextInt_ok {xs : Option (List Int32)} {l0 : Option Nat} {l1 : Option Nat} {h : gx_H} {r : (Int32 × gx_H)} (e : cR_nextInt l0 l1 h = some r) : gv_V xs 3 105 0 [(0, gv_u l0), (1, gv_u l1)] [] h (.returned (some (.int r.1))) r.2 := by
  unfold cR_nextInt at e
  refine gv_rldn (pc' := 1) rfl rfl rfl ?_
  refine gv_rldn (pc' := 2) rfl rfl rfl ?_
  obtain ⟨i1, qi1, e⟩ := gv_bind e
  obtain ⟨⟨v2, h3⟩, qv2, e⟩ := gv_bind e
  refine gv_vS (jc := 106) (n := 1) (rest := []) (stk := [.long v2]) (pc' := 5) rfl rfl rfl rfl rfl rfl rfl rfl rfl (gv_zR (gv_zR gv_z0)) rfl (gv_aR (gv_aR gv_a0)) (Nat.le_of_ble_eq_true rfl) qi1 (cR_nextZigzag_ok qv2) rfl rfl ?_
  refine gv_jstn (pc' := 6) rfl rfl (gv_Cr rfl) rfl rfl ?_
  refine gv_jldn (pc' := 7) rfl rfl rfl ?_
  refine gv_jldn (pc' := 8) rfl rfl rfl ?_
  refine gv_l2i (pc' := 9) rfl rfl ?_
  refine gv_i2l (pc' := 10) rfl rfl ?_
  refine gv_lcmp (pc' := 11) rfl rfl ?_
  by_cases c5 : v2 = (Int32.toInt64 (Int64.toInt32 v2))
  · rw [if_pos c5] at e
    refine gv_ifT (pc' := 19) rfl (gv_eqTL c5) rfl ?_
    refine gv_jldn (pc' := 20) rfl rfl rfl ?_
    refine gv_l2i (pc' := 21) rfl rfl ?_
    cases e
    exact gv_retI rfl rfl
  rw [if_neg c5] at e
  refine gv_ifF (pc' := 14) rfl (gv_eqFL c5) rfl rfl ?_
  refine gv_rldn (pc' := 15) rfl rfl rfl ?_
  refine gv_ic (pc' := 16) (x := 1) rfl rfl rfl ?_
  obtain ⟨h6, qh6, e⟩ := gv_bind e
  refine gv_pZ (pc' := 19) rfl rfl rfl (by decide) qh6 rfl ?_
  refine gv_jldn (pc' := 20) rfl rfl rfl ?_
  refine gv_l2i (pc' := 21) rfl rfl ?_
  cases e
  exact gv_retI rfl rfl
def cR_settle (l0 : Option Nat) (l1 : Int32) (l2 : Int32) (h : gx_H) : Option gx_H :=
  (gv_pV h l0 6 2 (.int l1)).bind fun h1 =>
  (gv_pV h1 l0 6 3 (.int l2)).bind fun h2 =>
  some h2
theorem cR_settle_ok {xs : Option (List Int32)} {l0 : Option Nat} {l1 : Int32} {l2 : Int32} {h : gx_H} {r : gx_H} (e : cR_settle l0 l1 l2 h = some r) : gv_V xs 0 108 0 [(0, gv_u l0), (1, .int l1), (2, .int l2)] [] h (.returned none) r := by
  unfold cR_settle at e
  refine gv_rldn (pc' := 1) rfl rfl rfl ?_
  refine gv_ildn (pc' := 2) rfl rfl rfl ?_
  obtain ⟨h1, qh1, e⟩ := gv_bind e
  refine gv_pI (pc' := 5) rfl rfl rfl qh1 rfl ?_
  refine gv_rldn (pc' := 6) rfl rfl rfl ?_
  refine gv_ildn (pc' := 7) rfl rfl rfl ?_
  obtain ⟨h2, qh2, e⟩ := gv_bind e
  refine gv_pI (pc' := 10) rfl rfl rfl qh2 rfl ?_
  cases e
  exact gv_retV rfl rfl
def cR_nextWord_5 : Nat → Option Nat → Option Nat → Int32 → Int64 → Int32 → gx_H → Option (Int64 × gx_H)
  | 0, _, _, _, _, _, _ => none
  | n + 1, l0, l1, l2, l3, l5, h =>
    if l5 < l2 then (
      (gv_is h l0 6).bind fun i2 =>
      (cR_nextByte l0 l1 h).bind fun r5 =>
      cR_nextWord_5 n l0 l1 l2 (l3 ||| ((Int32.toInt64 r5.1) <<< (Int32.toInt64 ((8 : Int32) * l5) &&& 63))) (l5 + 1) r5.2) else
    some (l3, h)
theorem cR_nextWord_5_ok {xs : Option (List Int32)} : ∀ (n : Nat) (l0 : Option Nat) (l1 : Option Nat) (l2 : Int32) (l3 : Int64) (l5 : Int32) (h : gx_H) (r : (Int64 × gx_H)), cR_nextWord_5 n l0 l1 l2 l3 l5 h = some r → gv_V xs 1 110 5 [(0, gv_u l0), (1, gv_u l1), (2, .int l2), (3, .long l3), (5, .int l5)] [] h (.returned (some (.long r.1))) r.2 := by
  intro n
  induction n with
  | zero => intro l0 l1 l2 l3 l5 h r e; cases e
  | succ n ih =>
    intro l0 l1 l2 l3 l5 h r e
    rw [cR_nextWord_5] at e
    refine gv_ild (pc' := 7) rfl rfl rfl ?_
    refine gv_ildn (pc' := 8) rfl rfl rfl ?_
    by_cases c1 : l5 < l2
    · rw [if_pos c1] at e
      refine gv_cmF (pc' := 11) rfl (gv_geF2 c1) rfl rfl ?_
      refine gv_jldn (pc' := 12) rfl rfl rfl ?_
      refine gv_rldn (pc' := 13) rfl rfl rfl ?_
      refine gv_rldn (pc' := 14) rfl rfl rfl ?_
      obtain ⟨i2, qi2, e⟩ := gv_bind e
      obtain ⟨⟨v3, h4⟩, qv3, e⟩ := gv_bind e
      refine gv_vS (jc := 102) (n := 1) (rest := [.long l3]) (stk := [.int v3, .long l3]) (pc' := 17) rfl rfl rfl rfl rfl rfl rfl rfl rfl (gv_zR (gv_zR gv_z0)) rfl (gv_aR (gv_aR gv_a0)) (Nat.le_of_ble_eq_true rfl) qi2 (cR_nextByte_ok qv3) rfl rfl ?_
      refine gv_i2l (pc' := 18) rfl rfl ?_
      refine gv_bp (pc' := 20) (x := 8) rfl rfl rfl ?_
      refine gv_ild (pc' := 22) rfl rfl rfl ?_
      refine gv_imul (pc' := 23) rfl rfl ?_
      refine gv_lshl (pc' := 24) rfl rfl ?_
      refine gv_lor (pc' := 25) rfl rfl ?_
      refine gv_jstn (pc' := 26) rfl rfl (gv_Ci rfl) rfl rfl ?_
      refine gv_inc (pc' := 29) (y := 1) rfl rfl rfl rfl (gv_Cn rfl) rfl ?_
      refine gv_goto (pc' := 5) rfl rfl ?_
      exact gv_weak (ih _ _ _ _ _ _ _ e) (gv_S1 rfl (gv_S1 rfl (gv_S1 rfl (gv_S1 rfl (gv_S1 rfl gv_S0)))))
    rw [if_neg c1] at e
    refine gv_cmT (pc' := 32) rfl (gv_geT2 c1) rfl ?_
    refine gv_jldn (pc' := 33) rfl rfl rfl ?_
    cases e
    exact gv_retJ rfl rfl
def cR_nextWord (l0 : Option Nat) (l1 : Option Nat) (l2 : Int32) (h : gx_H) : Option (Int64 × gx_H) :=
  cR_nextWord_5 1000000000000000 l0 l1 l2 (0 : Int64) (0 : Int32) h
theorem cR_nextWord_ok {xs : Option (List Int32)} {l0 : Option Nat} {l1 : Option Nat} {l2 : Int32} {h : gx_H} {r : (Int64 × gx_H)} (e : cR_nextWord l0 l1 l2 h = some r) : gv_V xs 1 110 0 [(0, gv_u l0), (1, gv_u l1), (2, .int l2)] [] h (.returned (some (.long r.1))) r.2 := by
  unfold cR_nextWord at e
  refine gv_lc (pc' := 1) (x := 0) rfl rfl rfl ?_
  refine gv_jstn (pc' := 2) rfl rfl (gv_Ci rfl) rfl rfl ?_
  refine gv_ic (pc' := 3) (x := 0) rfl rfl rfl ?_
  refine gv_ist (pc' := 5) rfl rfl (gv_Cn rfl) rfl ?_
  exact gv_weak (cR_nextWord_5_ok 1000000000000000 _ _ _ _ _ _ _ e) (gv_S1 rfl (gv_S1 rfl (gv_S1 rfl (gv_S1 rfl (gv_S1 rfl gv_S0)))))
def cR_readText_39 (rec18 : Option Nat → Int32 → Int32 → Int32 → gx_H → Option gx_H) (l0 : Option Nat) (l2 : Int32) (l3 : Int32) (l4 : Int32) (h : gx_H) : Option gx_H :=
  rec18 l0 l2 l3 (l4 + 1) h
theorem cR_readText_39_ok {xs : Option (List Int32)} {rec18 : Option Nat → Int32 → Int32 → Int32 → gx_H → Option gx_H} (hrec18 : ∀ (l0 : Option Nat) (l2 : Int32) (l3 : Int32) (l4 : Int32) (h : gx_H) (r : gx_H), rec18 l0 l2 l3 l4 h = some r → gv_V xs 2 109 18 [(0, gv_u l0), (2, .int l2), (3, .int l3), (4, .int l4)] [] h (.returned none) r) {l0 : Option Nat} {l2 : Int32} {l3 : Int32} {l4 : Int32} {h : gx_H} {r : gx_H} (e : cR_readText_39 rec18 l0 l2 l3 l4 h = some r) : gv_V xs 2 109 39 [(0, gv_u l0), (2, .int l2), (3, .int l3), (4, .int l4)] [] h (.returned none) r := by
  unfold cR_readText_39 at e
  refine gv_inc (pc' := 42) (y := 1) rfl rfl rfl rfl (gv_Ci rfl) rfl ?_
  refine gv_goto (pc' := 18) rfl rfl ?_
  exact gv_weak (hrec18 _ _ _ _ _ _ e) (gv_S1 rfl (gv_S1 rfl (gv_S1 rfl (gv_S1 rfl gv_S0))))
def cR_readText_18 : Nat → Option Nat → Int32 → Int32 → Int32 → gx_H → Option gx_H
  | 0, _, _, _, _, _ => none
  | n + 1, l0, l2, l3, l4, h =>
    if l4 < l2 then (
      (cG_byteOf (Int32.toInt64 l3) l4).bind fun v2 =>
      if v2 = 0 then (
        (gv_pV h l0 6 1 (.int (1 : Int32))).bind fun h4 =>
        cR_readText_39 (cR_readText_18 n) l0 l2 l3 l4 h4) else
      cR_readText_39 (cR_readText_18 n) l0 l2 l3 l4 h) else
    (gv_is h l0 6).bind fun i5 =>
    (cR_settle l0 (5 : Int32) l3 h).bind fun h7 =>
    some h7
theorem cR_readText_18_ok {xs : Option (List Int32)} : ∀ (n : Nat) (l0 : Option Nat) (l2 : Int32) (l3 : Int32) (l4 : Int32) (h : gx_H) (r : gx_H), cR_readText_18 n l0 l2 l3 l4 h = some r → gv_V xs 2 109 18 [(0, gv_u l0), (2, .int l2), (3, .int l3), (4, .int l4)] [] h (.returned none) r := by
  intro n
  induction n with
  | zero => intro l0 l2 l3 l4 h r e; cases e
  | succ n ih =>
    intro l0 l2 l3 l4 h r e
    rw [cR_readText_18] at e
    refine gv_ild (pc' := 20) rfl rfl rfl ?_
    refine gv_ildn (pc' := 21) rfl rfl rfl ?_
    by_cases c1 : l4 < l2
    · rw [if_pos c1] at e
      refine gv_cmF (pc' := 24) rfl (gv_geF2 c1) rfl rfl ?_
      refine gv_ildn (pc' := 25) rfl rfl rfl ?_
      refine gv_i2l (pc' := 26) rfl rfl ?_
      refine gv_ild (pc' := 28) rfl rfl rfl ?_
      obtain ⟨v2, qv2, e⟩ := gv_bind e
      refine gv_sS (jc := 18) (n := 2) (rest := []) (stk := [.int v2]) (pc' := 31) rfl rfl rfl rfl rfl rfl rfl rfl rfl (gv_zJ (gv_zI gv_z0)) rfl (gv_aJ (gv_aI gv_a0)) (Nat.le_of_ble_eq_true rfl) (cG_byteOf_ok qv2) rfl rfl ?_
      by_cases c3 : v2 = 0
      · rw [if_pos c3] at e
        refine gv_ifF (pc' := 34) rfl (gv_neF c3) rfl rfl ?_
        refine gv_rldn (pc' := 35) rfl rfl rfl ?_
        refine gv_ic (pc' := 36) (x := 1) rfl rfl rfl ?_
        obtain ⟨h4, qh4, e⟩ := gv_bind e
        refine gv_pZ (pc' := 39) rfl rfl rfl (by decide) qh4 rfl ?_
        exact gv_weak (cR_readText_39_ok ih e) (gv_S1 rfl (gv_S1 rfl (gv_S1 rfl (gv_S1 rfl gv_S0))))
      rw [if_neg c3] at e
      refine gv_ifT (pc' := 39) rfl (gv_neT c3) rfl ?_
      exact gv_weak (cR_readText_39_ok ih e) (gv_S1 rfl (gv_S1 rfl (gv_S1 rfl (gv_S1 rfl gv_S0))))
    rw [if_neg c1] at e
    refine gv_cmT (pc' := 45) rfl (gv_geT2 c1) rfl ?_
    refine gv_rldn (pc' := 46) rfl rfl rfl ?_
    refine gv_ic (pc' := 47) (x := 5) rfl rfl rfl ?_
    refine gv_ildn (pc' := 48) rfl rfl rfl ?_
    obtain ⟨i5, qi5, e⟩ := gv_bind e
    obtain ⟨h7, qv6, e⟩ := gv_bind e
    refine gv_vS (jc := 108) (n := 2) (rest := []) (stk := []) (pc' := 51) rfl rfl rfl rfl rfl rfl rfl rfl rfl (gv_zR (gv_zI (gv_zI gv_z0))) rfl (gv_aR (gv_aI (gv_aI gv_a0))) (Nat.le_of_ble_eq_true rfl) qi5 (cR_settle_ok qv6) rfl rfl ?_
    cases e
    exact gv_retV rfl rfl
def cR_readText (l0 : Option Nat) (l1 : Option Nat) (h : gx_H) : Option gx_H :=
  (gv_is h l0 6).bind fun i1 =>
  (cR_nextUpTo l0 l1 (4 : Int32) h).bind fun r4 =>
  (gv_is r4.2 l0 6).bind fun i5 =>
  (cR_nextWord l0 l1 r4.1 r4.2).bind fun r8 =>
  cR_readText_18 1000000000000000 l0 r4.1 (Int64.toInt32 r8.1) (0 : Int32) r8.2
theorem cR_readText_ok {xs : Option (List Int32)} {l0 : Option Nat} {l1 : Option Nat} {h : gx_H} {r : gx_H} (e : cR_readText l0 l1 h = some r) : gv_V xs 2 109 0 [(0, gv_u l0), (1, gv_u l1)] [] h (.returned none) r := by
  unfold cR_readText at e
  refine gv_rldn (pc' := 1) rfl rfl rfl ?_
  refine gv_rldn (pc' := 2) rfl rfl rfl ?_
  refine gv_ic (pc' := 3) (x := 4) rfl rfl rfl ?_
  obtain ⟨i1, qi1, e⟩ := gv_bind e
  obtain ⟨⟨v2, h3⟩, qv2, e⟩ := gv_bind e
  refine gv_vS (jc := 104) (n := 2) (rest := []) (stk := [.int v2]) (pc' := 6) rfl rfl rfl rfl rfl rfl rfl rfl rfl (gv_zR (gv_zR (gv_zI gv_z0))) rfl (gv_aR (gv_aR (gv_aI gv_a0))) (Nat.le_of_ble_eq_true rfl) qi1 (cR_nextUpTo_ok qv2) rfl rfl ?_
  refine gv_istn (pc' := 7) rfl rfl (gv_Cr rfl) rfl ?_
  refine gv_rldn (pc' := 8) rfl rfl rfl ?_
  refine gv_rldn (pc' := 9) rfl rfl rfl ?_
  refine gv_ildn (pc' := 10) rfl rfl rfl ?_
  obtain ⟨i5, qi5, e⟩ := gv_bind e
  obtain ⟨⟨v6, h7⟩, qv6, e⟩ := gv_bind e
  refine gv_vS (jc := 110) (n := 2) (rest := []) (stk := [.long v6]) (pc' := 13) rfl rfl rfl rfl rfl rfl rfl rfl rfl (gv_zR (gv_zR (gv_zI gv_z0))) rfl (gv_aR (gv_aR (gv_aI gv_a0))) (Nat.le_of_ble_eq_true rfl) qi5 (cR_nextWord_ok qv6) rfl rfl ?_
  refine gv_l2i (pc' := 14) rfl rfl ?_
  refine gv_istn (pc' := 15) rfl rfl (gv_Ci rfl) rfl ?_
  refine gv_ic (pc' := 16) (x := 0) rfl rfl rfl ?_
  refine gv_ist (pc' := 18) rfl rfl (gv_Ci rfl) rfl ?_
  exact gv_weak (cR_readText_18_ok 1000000000000000 _ _ _ _ _ _ e) (gv_S1 rfl (gv_S1 rfl (gv_S1 rfl (gv_S1 rfl gv_S0))))
def cR_readPlace (l0 : Option Nat) (l1 : Option Nat) (l2 : Int32) (l3 : Int32) (h : gx_H) : Option gx_H :=
  (gv_is h l0 6).bind fun i1 =>
  (cR_nextLengthy l0 l1 h).bind fun r4 =>
  if r4.1 < (0 : Int64) then (
    (gv_pV r4.2 l0 6 1 (.int (1 : Int32))).bind fun h6 =>
    some h6) else
  if r4.1 < (Int32.toInt64 l3) then (
    (gv_is r4.2 l0 6).bind fun i8 =>
    (cR_settle l0 (6 : Int32) (l2 + (Int64.toInt32 r4.1)) r4.2).bind fun h10 =>
    some h10) else
  (gv_pV r4.2 l0 6 1 (.int (1 : Int32))).bind fun h11 =>
  some h11
theorem cR_readPlace_ok {xs : Option (List Int32)} {l0 : Option Nat} {l1 : Option Nat} {l2 : Int32} {l3 : Int32} {h : gx_H} {r : gx_H} (e : cR_readPlace l0 l1 l2 l3 h = some r) : gv_V xs 2 111 0 [(0, gv_u l0), (1, gv_u l1), (2, .int l2), (3, .int l3)] [] h (.returned none) r := by
  unfold cR_readPlace at e
  refine gv_rldn (pc' := 1) rfl rfl rfl ?_
  refine gv_rldn (pc' := 2) rfl rfl rfl ?_
  obtain ⟨i1, qi1, e⟩ := gv_bind e
  obtain ⟨⟨v2, h3⟩, qv2, e⟩ := gv_bind e
  refine gv_vS (jc := 107) (n := 1) (rest := []) (stk := [.long v2]) (pc' := 5) rfl rfl rfl rfl rfl rfl rfl rfl rfl (gv_zR (gv_zR gv_z0)) rfl (gv_aR (gv_aR gv_a0)) (Nat.le_of_ble_eq_true rfl) qi1 (cR_nextLengthy_ok qv2) rfl rfl ?_
  refine gv_jst (pc' := 7) rfl rfl (gv_Ci rfl) rfl rfl ?_
  refine gv_jld (pc' := 9) rfl rfl rfl ?_
  refine gv_lc (pc' := 10) (x := 0) rfl rfl rfl ?_
  refine gv_lcmp (pc' := 11) rfl rfl ?_
  by_cases c5 : v2 < (0 : Int64)
  · rw [if_pos c5] at e
    refine gv_ifT (pc' := 22) rfl (gv_ltTL c5) rfl ?_
    refine gv_rldn (pc' := 23) rfl rfl rfl ?_
    refine gv_ic (pc' := 24) (x := 1) rfl rfl rfl ?_
    obtain ⟨h6, qh6, e⟩ := gv_bind e
    refine gv_pZ (pc' := 27) rfl rfl rfl (by decide) qh6 rfl ?_
    cases e
    exact gv_retV rfl rfl
  rw [if_neg c5] at e
  refine gv_ifF (pc' := 14) rfl (gv_ltFL c5) rfl rfl ?_
  refine gv_jld (pc' := 16) rfl rfl rfl ?_
  refine gv_ildn (pc' := 17) rfl rfl rfl ?_
  refine gv_i2l (pc' := 18) rfl rfl ?_
  refine gv_lcmp (pc' := 19) rfl rfl ?_
  by_cases c7 : v2 < (Int32.toInt64 l3)
  · rw [if_pos c7] at e
    refine gv_ifT (pc' := 28) rfl (gv_ltTL c7) rfl ?_
    refine gv_rldn (pc' := 29) rfl rfl rfl ?_
    refine gv_bp (pc' := 31) (x := 6) rfl rfl rfl ?_
    refine gv_ildn (pc' := 32) rfl rfl rfl ?_
    refine gv_jld (pc' := 34) rfl rfl rfl ?_
    refine gv_l2i (pc' := 35) rfl rfl ?_
    refine gv_iadd (pc' := 36) rfl rfl ?_
    obtain ⟨i8, qi8, e⟩ := gv_bind e
    obtain ⟨h10, qv9, e⟩ := gv_bind e
    refine gv_vS (jc := 108) (n := 2) (rest := []) (stk := []) (pc' := 39) rfl rfl rfl rfl rfl rfl rfl rfl rfl (gv_zR (gv_zI (gv_zI gv_z0))) rfl (gv_aR (gv_aI (gv_aI gv_a0))) (Nat.le_of_ble_eq_true rfl) qi8 (cR_settle_ok qv9) rfl rfl ?_
    cases e
    exact gv_retV rfl rfl
  rw [if_neg c7] at e
  refine gv_ifF (pc' := 22) rfl (gv_ltFL c7) rfl rfl ?_
  refine gv_rldn (pc' := 23) rfl rfl rfl ?_
  refine gv_ic (pc' := 24) (x := 1) rfl rfl rfl ?_
  obtain ⟨h11, qh11, e⟩ := gv_bind e
  refine gv_pZ (pc' := 27) rfl rfl rfl (by decide) qh11 rfl ?_
  cases e
  exact gv_retV rfl rfl
def cR_readBuffer (l0 : Option Nat) (l1 : Option Nat) (l2 : Option Nat) (h : gx_H) : Option gx_H :=
  (gv_is h l0 6).bind fun i1 =>
  (cR_nextUpTo l0 l1 (8 : Int32) h).bind fun r4 =>
  (gv_is r4.2 l0 6).bind fun i5 =>
  (cR_nextWord l0 l1 r4.1 r4.2).bind fun r8 =>
  (gv_is r8.2 l2 2).bind fun i9 =>
  (cT_holdBytes l2 r8.1 r4.1 r8.2).bind fun h11 =>
  some h11
theorem cR_readBuffer_ok {xs : Option (List Int32)} {l0 : Option Nat} {l1 : Option Nat} {l2 : Option Nat} {h : gx_H} {r : gx_H} (e : cR_readBuffer l0 l1 l2 h = some r) : gv_V xs 2 118 0 [(0, gv_u l0), (1, gv_u l1), (2, gv_u l2)] [] h (.returned none) r := by
  unfold cR_readBuffer at e
  refine gv_rldn (pc' := 1) rfl rfl rfl ?_
  refine gv_rldn (pc' := 2) rfl rfl rfl ?_
  refine gv_bp (pc' := 4) (x := 8) rfl rfl rfl ?_
  obtain ⟨i1, qi1, e⟩ := gv_bind e
  obtain ⟨⟨v2, h3⟩, qv2, e⟩ := gv_bind e
  refine gv_vS (jc := 104) (n := 2) (rest := []) (stk := [.int v2]) (pc' := 7) rfl rfl rfl rfl rfl rfl rfl rfl rfl (gv_zR (gv_zR (gv_zI gv_z0))) rfl (gv_aR (gv_aR (gv_aI gv_a0))) (Nat.le_of_ble_eq_true rfl) qi1 (cR_nextUpTo_ok qv2) rfl rfl ?_
  refine gv_istn (pc' := 8) rfl rfl (gv_Cr rfl) rfl ?_
  refine gv_rldn (pc' := 9) rfl rfl rfl ?_
  refine gv_rldn (pc' := 10) rfl rfl rfl ?_
  refine gv_rldn (pc' := 11) rfl rfl rfl ?_
  refine gv_ildn (pc' := 12) rfl rfl rfl ?_
  obtain ⟨i5, qi5, e⟩ := gv_bind e
  obtain ⟨⟨v6, h7⟩, qv6, e⟩ := gv_bind e
  refine gv_vS (jc := 110) (n := 2) (rest := [gv_u l2]) (stk := [.long v6, gv_u l2]) (pc' := 15) rfl rfl rfl rfl rfl rfl rfl rfl rfl (gv_zR (gv_zR (gv_zI gv_z0))) rfl (gv_aR (gv_aR (gv_aI gv_a0))) (Nat.le_of_ble_eq_true rfl) qi5 (cR_nextWord_ok qv6) rfl rfl ?_
  refine gv_ildn (pc' := 16) rfl rfl rfl ?_
  obtain ⟨i9, qi9, e⟩ := gv_bind e
  obtain ⟨h11, qv10, e⟩ := gv_bind e
  refine gv_vS (jc := 30) (n := 2) (rest := []) (stk := []) (pc' := 19) rfl rfl rfl rfl rfl rfl rfl rfl rfl (gv_zR (gv_zJ (gv_zI gv_z0))) rfl (gv_aR (gv_aJ (gv_aI gv_a0))) (Nat.le_of_ble_eq_true rfl) qi9 (cT_holdBytes_ok qv10) rfl rfl ?_
  cases e
  exact gv_retV rfl rfl
def cR_readView (W : Option Nat → Option Nat → Option Nat → Int32 → gx_H → Option gx_H) (l0 : Option Nat) (l1 : Option Nat) (l2 : Option Nat) (l3 : Int32) (h : gx_H) : Option gx_H :=
  (gv_is h l0 6).bind fun i1 =>
  (cR_nextByte l0 l2 h).bind fun r4 =>
  (gv_is r4.2 l0 6).bind fun i5 =>
  (cR_nextByte l0 l2 r4.2).bind fun r8 =>
  (gv_is r8.2 l0 6).bind fun i9 =>
  (cR_nextByte l0 l2 r8.2).bind fun r12 =>
  (gv_is r12.2 l0 6).bind fun i13 =>
  (W l0 l1 l2 (l3 + (1 : Int32)) r12.2).bind fun h15 =>
  (gv_gI h15 l0 6 1).bind fun v16 =>
  if v16 = 0 then (
    (gv_gI h15 l0 6 3).bind fun v18 =>
    (gv_is h15 l1 1).bind fun i19 =>
    (cS_thingAt l1 v18 h15).bind fun v20 =>
    (gv_gI h15 l0 6 2).bind fun v21 =>
    if v21 = (6 : Int32) then (
      if v20 = none then (
        (gv_pV h15 l0 6 1 (.int (1 : Int32))).bind fun h24 =>
        some h24) else
      (gv_is h15 v20 2).bind fun i25 =>
      (cT_canBeViewed v20 r4.1 r8.1 r12.1 h15).bind fun v26 =>
      if v26 = 0 then (
        (gv_pV h15 l0 6 1 (.int (1 : Int32))).bind fun h28 =>
        some h28) else
      (gv_is h15 l0 6).bind fun i29 =>
      (cR_beginThing l0 l1 (5 : Int32) h15).bind fun r32 =>
      if r32.1 = none then (
        some r32.2) else
      (gv_is r32.2 r32.1 2).bind fun i34 =>
      (cT_lookAt r32.1 v18 r4.1 r8.1 r12.1 r32.2).bind fun h36 =>
      (gv_gI h36 l1 1 1).bind fun v37 =>
      (gv_is h36 l0 6).bind fun i38 =>
      (cR_settle l0 (6 : Int32) (v37 - (1 : Int32)) h36).bind fun h40 =>
      some h40) else
    (gv_pV h15 l0 6 1 (.int (1 : Int32))).bind fun h41 =>
    some h41) else
  some h15
theorem cR_readView_ok {xs : Option (List Int32)} {D : Nat} (hD : 12 ≤ D) {W : Option Nat → Option Nat → Option Nat → Int32 → gx_H → Option gx_H} (hW : ∀ (l0 : Option Nat) (l1 : Option Nat) (l2 : Option Nat) (l3 : Int32) (h : gx_H) (r : gx_H), W l0 l1 l2 l3 h = some r → gv_V xs D 103 0 [(0, gv_u l0), (1, gv_u l1), (2, gv_u l2), (3, .int l3)] [] h (.returned none) r) {l0 : Option Nat} {l1 : Option Nat} {l2 : Option Nat} {l3 : Int32} {h : gx_H} {r : gx_H} (e : cR_readView W l0 l1 l2 l3 h = some r) : gv_V xs (D + 1) 112 0 [(0, gv_u l0), (1, gv_u l1), (2, gv_u l2), (3, .int l3)] [] h (.returned none) r := by
  unfold cR_readView at e
  refine gv_rldn (pc' := 1) rfl rfl rfl ?_
  refine gv_rldn (pc' := 2) rfl rfl rfl ?_
  obtain ⟨i1, qi1, e⟩ := gv_bind e
  obtain ⟨⟨v2, h3⟩, qv2, e⟩ := gv_bind e
  refine gv_vS (jc := 102) (n := 1) (rest := []) (stk := [.int v2]) (pc' := 5) rfl rfl rfl rfl rfl rfl rfl rfl rfl (gv_zR (gv_zR gv_z0)) rfl (gv_aR (gv_aR gv_a0)) (by omega) qi1 (cR_nextByte_ok qv2) rfl rfl ?_
  refine gv_ist (pc' := 7) rfl rfl (gv_Ci rfl) rfl ?_
  refine gv_rldn (pc' := 8) rfl rfl rfl ?_
  refine gv_rldn (pc' := 9) rfl rfl rfl ?_
  obtain ⟨i5, qi5, e⟩ := gv_bind e
  obtain ⟨⟨v6, h7⟩, qv6, e⟩ := gv_bind e
  refine gv_vS (jc := 102) (n := 1) (rest := []) (stk := [.int v6]) (pc' := 12) rfl rfl rfl rfl rfl rfl rfl rfl rfl (gv_zR (gv_zR gv_z0)) rfl (gv_aR (gv_aR gv_a0)) (by omega) qi5 (cR_nextByte_ok qv6) rfl rfl ?_
  refine gv_ist (pc' := 14) rfl rfl (gv_Ci rfl) rfl ?_
  refine gv_rldn (pc' := 15) rfl rfl rfl ?_
  refine gv_rldn (pc' := 16) rfl rfl rfl ?_
  obtain ⟨i9, qi9, e⟩ := gv_bind e
  obtain ⟨⟨v10, h11⟩, qv10, e⟩ := gv_bind e
  refine gv_vS (jc := 102) (n := 1) (rest := []) (stk := [.int v10]) (pc' := 19) rfl rfl rfl rfl rfl rfl rfl rfl rfl (gv_zR (gv_zR gv_z0)) rfl (gv_aR (gv_aR gv_a0)) (by omega) qi9 (cR_nextByte_ok qv10) rfl rfl ?_
  refine gv_ist (pc' := 21) rfl rfl (gv_Ci rfl) rfl ?_
  refine gv_rldn (pc' := 22) rfl rfl rfl ?_
  refine gv_rldn (pc' := 23) rfl rfl rfl ?_
  refine gv_rldn (pc' := 24) rfl rfl rfl ?_
  refine gv_ildn (pc' := 25) rfl rfl rfl ?_
  refine gv_ic (pc' := 26) (x := 1) rfl rfl rfl ?_
  refine gv_iadd (pc' := 27) rfl rfl ?_
  obtain ⟨i13, qi13, e⟩ := gv_bind e
  obtain ⟨h15, qv14, e⟩ := gv_bind e
  refine gv_vS (jc := 103) (n := 3) (rest := []) (stk := []) (pc' := 30) rfl rfl rfl rfl rfl rfl rfl rfl rfl (gv_zR (gv_zR (gv_zR (gv_zI gv_z0)))) rfl (gv_aR (gv_aR (gv_aR (gv_aI gv_a0)))) (by omega) qi13 (hW _ _ _ _ _ _ qv14) rfl rfl ?_
  refine gv_rldn (pc' := 31) rfl rfl rfl ?_
  obtain ⟨v16, qv16, e⟩ := gv_bind e
  refine gv_fI (pc' := 34) rfl rfl qv16 rfl ?_
  by_cases c17 : v16 = 0
  · rw [if_pos c17] at e
    refine gv_ifT (pc' := 38) rfl (gv_eqT c17) rfl ?_
    refine gv_rldn (pc' := 39) rfl rfl rfl ?_
    obtain ⟨v18, qv18, e⟩ := gv_bind e
    refine gv_fI (pc' := 42) rfl rfl qv18 rfl ?_
    refine gv_ist (pc' := 44) rfl rfl (gv_Ci rfl) rfl ?_
    refine gv_rldn (pc' := 45) rfl rfl rfl ?_
    refine gv_ild (pc' := 47) rfl rfl rfl ?_
    obtain ⟨i19, qi19, e⟩ := gv_bind e
    obtain ⟨v20, qv20, e⟩ := gv_bind e
    refine gv_vS (jc := 10) (n := 1) (rest := []) (stk := [gv_u v20]) (pc' := 50) rfl rfl rfl rfl rfl rfl rfl rfl rfl (gv_zR (gv_zI gv_z0)) rfl (gv_aR (gv_aI gv_a0)) (by omega) qi19 (cS_thingAt_ok qv20) rfl rfl ?_
    refine gv_rst (pc' := 52) rfl rfl (gv_Ci rfl) rfl ?_
    refine gv_rldn (pc' := 53) rfl rfl rfl ?_
    obtain ⟨v21, qv21, e⟩ := gv_bind e
    refine gv_fI (pc' := 56) rfl rfl qv21 rfl ?_
    refine gv_bp (pc' := 58) (x := 6) rfl rfl rfl ?_
    by_cases c22 : v21 = (6 : Int32)
    · rw [if_pos c22] at e
      refine gv_cmF (pc' := 61) rfl (gv_neF2 c22) rfl rfl ?_
      refine gv_rld (pc' := 63) rfl rfl rfl ?_
      by_cases c23 : v20 = none
      · rw [if_pos c23] at e
        refine gv_nuT (pc' := 80) rfl c23 rfl ?_
        refine gv_rldn (pc' := 81) rfl rfl rfl ?_
        refine gv_ic (pc' := 82) (x := 1) rfl rfl rfl ?_
        obtain ⟨h24, qh24, e⟩ := gv_bind e
        refine gv_pZ (pc' := 85) rfl rfl rfl (by decide) qh24 rfl ?_
        cases e
        exact gv_retV rfl rfl
      rw [if_neg c23] at e
      refine gv_nuF (pc' := 66) rfl c23 rfl ?_
      refine gv_rld (pc' := 68) rfl rfl rfl ?_
      refine gv_ild (pc' := 70) rfl rfl rfl ?_
      refine gv_ild (pc' := 72) rfl rfl rfl ?_
      refine gv_ild (pc' := 74) rfl rfl rfl ?_
      obtain ⟨i25, qi25, e⟩ := gv_bind e
      obtain ⟨v26, qv26, e⟩ := gv_bind e
      refine gv_vS (jc := 33) (n := 3) (rest := []) (stk := [.int v26]) (pc' := 77) rfl rfl rfl rfl rfl rfl rfl rfl rfl (gv_zR (gv_zI (gv_zI (gv_zI gv_z0)))) rfl (gv_aR (gv_aI (gv_aI (gv_aI gv_a0)))) (by omega) qi25 (cT_canBeViewed_ok qv26) rfl rfl ?_
      by_cases c27 : v26 = 0
      · rw [if_pos c27] at e
        refine gv_ifF (pc' := 80) rfl (gv_neF c27) rfl rfl ?_
        refine gv_rldn (pc' := 81) rfl rfl rfl ?_
        refine gv_ic (pc' := 82) (x := 1) rfl rfl rfl ?_
        obtain ⟨h28, qh28, e⟩ := gv_bind e
        refine gv_pZ (pc' := 85) rfl rfl rfl (by decide) qh28 rfl ?_
        cases e
        exact gv_retV rfl rfl
      rw [if_neg c27] at e
      refine gv_ifT (pc' := 86) rfl (gv_neT c27) rfl ?_
      refine gv_rldn (pc' := 87) rfl rfl rfl ?_
      refine gv_rldn (pc' := 88) rfl rfl rfl ?_
      refine gv_ic (pc' := 89) (x := 5) rfl rfl rfl ?_
      obtain ⟨i29, qi29, e⟩ := gv_bind e
      obtain ⟨⟨v30, h31⟩, qv30, e⟩ := gv_bind e
      refine gv_vS (jc := 101) (n := 2) (rest := []) (stk := [gv_u v30]) (pc' := 92) rfl rfl rfl rfl rfl rfl rfl rfl rfl (gv_zR (gv_zR (gv_zI gv_z0))) rfl (gv_aR (gv_aR (gv_aI gv_a0))) (by omega) qi29 (cR_beginThing_ok qv30) rfl rfl ?_
      refine gv_rst (pc' := 94) rfl rfl (gv_Cr rfl) rfl ?_
      refine gv_rld (pc' := 96) rfl rfl rfl ?_
      by_cases c33 : v30 = none
      · rw [if_pos c33] at e
        refine gv_nuT (pc' := 124) rfl c33 rfl ?_
        cases e
        exact gv_retV rfl rfl
      rw [if_neg c33] at e
      refine gv_nuF (pc' := 99) rfl c33 rfl ?_
      refine gv_rld (pc' := 101) rfl rfl rfl ?_
      refine gv_ild (pc' := 103) rfl rfl rfl ?_
      refine gv_ild (pc' := 105) rfl rfl rfl ?_
      refine gv_ild (pc' := 107) rfl rfl rfl ?_
      refine gv_ild (pc' := 109) rfl rfl rfl ?_
      obtain ⟨i34, qi34, e⟩ := gv_bind e
      obtain ⟨h36, qv35, e⟩ := gv_bind e
      refine gv_vS (jc := 34) (n := 4) (rest := []) (stk := []) (pc' := 112) rfl rfl rfl rfl rfl rfl rfl rfl rfl (gv_zR (gv_zI (gv_zI (gv_zI (gv_zI gv_z0))))) rfl (gv_aR (gv_aI (gv_aI (gv_aI (gv_aI gv_a0))))) (by omega) qi34 (cT_lookAt_ok qv35) rfl rfl ?_
      refine gv_rldn (pc' := 113) rfl rfl rfl ?_
      refine gv_bp (pc' := 115) (x := 6) rfl rfl rfl ?_
      refine gv_rldn (pc' := 116) rfl rfl rfl ?_
      obtain ⟨v37, qv37, e⟩ := gv_bind e
      refine gv_fI (pc' := 119) rfl rfl qv37 rfl ?_
      refine gv_ic (pc' := 120) (x := 1) rfl rfl rfl ?_
      refine gv_isub (pc' := 121) rfl rfl ?_
      obtain ⟨i38, qi38, e⟩ := gv_bind e
      obtain ⟨h40, qv39, e⟩ := gv_bind e
      refine gv_vS (jc := 108) (n := 2) (rest := []) (stk := []) (pc' := 124) rfl rfl rfl rfl rfl rfl rfl rfl rfl (gv_zR (gv_zI (gv_zI gv_z0))) rfl (gv_aR (gv_aI (gv_aI gv_a0))) (by omega) qi38 (cR_settle_ok qv39) rfl rfl ?_
      cases e
      exact gv_retV rfl rfl
    rw [if_neg c22] at e
    refine gv_cmT (pc' := 80) rfl (gv_neT2 c22) rfl ?_
    refine gv_rldn (pc' := 81) rfl rfl rfl ?_
    refine gv_ic (pc' := 82) (x := 1) rfl rfl rfl ?_
    obtain ⟨h41, qh41, e⟩ := gv_bind e
    refine gv_pZ (pc' := 85) rfl rfl rfl (by decide) qh41 rfl ?_
    cases e
    exact gv_retV rfl rfl
  rw [if_neg c17] at e
  refine gv_ifF (pc' := 37) rfl (gv_eqF c17) rfl rfl ?_
  cases e
  exact gv_retV rfl rfl
def cR_readRecord_3 (W : Option Nat → Option Nat → Option Nat → Int32 → gx_H → Option gx_H) : Nat → Option Nat → Option Nat → Option Nat → Option Nat → Int32 → Int32 → gx_H → Option gx_H
  | 0, _, _, _, _, _, _, _ => none
  | n + 1, l0, l1, l2, l3, l4, l5, h =>
    if (6 : Int32) < l5 then (
      some h) else
    (gv_is h l0 6).bind fun i2 =>
    (cR_nextUpTo l0 l2 (1 : Int32) h).bind fun r5 =>
    (gv_gI r5.2 l0 6 1).bind fun v6 =>
    if v6 = 0 then (
      if r5.1 = 0 then (
        some r5.2) else
      (gv_is r5.2 l0 6).bind fun i9 =>
      (cR_nextInt l0 l2 r5.2).bind fun r12 =>
      (gv_is r12.2 l0 6).bind fun i13 =>
      (W l0 l1 l2 (l4 + (1 : Int32)) r12.2).bind fun h15 =>
      (gv_gI h15 l0 6 1).bind fun v16 =>
      if v16 = 0 then (
        (gv_is h15 l3 2).bind fun i18 =>
        (cT_indexOfKey l3 (4 : Int32) r12.1 h15).bind fun v19 =>
        if v19 = (-1 : Int32) then (
          (gv_gI h15 l0 6 2).bind fun v21 =>
          (gv_gI h15 l0 6 3).bind fun v22 =>
          (gv_is h15 l3 2).bind fun i23 =>
          (cT_setProperty l3 r12.1 v21 v22 h15).bind fun r26 =>
          if r26.1 = 0 then (
            (gv_pV r26.2 l0 6 1 (.int (1 : Int32))).bind fun h28 =>
            some h28) else
          cR_readRecord_3 W n l0 l1 l2 l3 l4 (l5 + 1) r26.2) else
        (gv_pV h15 l0 6 1 (.int (1 : Int32))).bind fun h29 =>
        some h29) else
      (gv_pV h15 l0 6 1 (.int (1 : Int32))).bind fun h30 =>
      some h30) else
    some r5.2
theorem cR_readRecord_3_ok {xs : Option (List Int32)} {D : Nat} (hD : 12 ≤ D) {W : Option Nat → Option Nat → Option Nat → Int32 → gx_H → Option gx_H} (hW : ∀ (l0 : Option Nat) (l1 : Option Nat) (l2 : Option Nat) (l3 : Int32) (h : gx_H) (r : gx_H), W l0 l1 l2 l3 h = some r → gv_V xs D 103 0 [(0, gv_u l0), (1, gv_u l1), (2, gv_u l2), (3, .int l3)] [] h (.returned none) r) : ∀ (n : Nat) (l0 : Option Nat) (l1 : Option Nat) (l2 : Option Nat) (l3 : Option Nat) (l4 : Int32) (l5 : Int32) (h : gx_H) (r : gx_H), cR_readRecord_3 W n l0 l1 l2 l3 l4 l5 h = some r → gv_V xs (D + 1) 114 3 [(0, gv_u l0), (1, gv_u l1), (2, gv_u l2), (3, gv_u l3), (4, .int l4), (5, .int l5)] [] h (.returned none) r := by
  intro n
  induction n with
  | zero => intro l0 l1 l2 l3 l4 l5 h r e; cases e
  | succ n ih =>
    intro l0 l1 l2 l3 l4 l5 h r e
    rw [cR_readRecord_3] at e
    refine gv_ild (pc' := 5) rfl rfl rfl ?_
    refine gv_bp (pc' := 7) (x := 6) rfl rfl rfl ?_
    by_cases c1 : (6 : Int32) < l5
    · rw [if_pos c1] at e
      refine gv_cmT (pc' := 95) rfl (gv_gtT2 c1) rfl ?_
      cases e
      exact gv_retV rfl rfl
    rw [if_neg c1] at e
    refine gv_cmF (pc' := 10) rfl (gv_gtF2 c1) rfl rfl ?_
    refine gv_rldn (pc' := 11) rfl rfl rfl ?_
    refine gv_rldn (pc' := 12) rfl rfl rfl ?_
    refine gv_ic (pc' := 13) (x := 1) rfl rfl rfl ?_
    obtain ⟨i2, qi2, e⟩ := gv_bind e
    obtain ⟨⟨v3, h4⟩, qv3, e⟩ := gv_bind e
    refine gv_vS (jc := 104) (n := 2) (rest := []) (stk := [.int v3]) (pc' := 16) rfl rfl rfl rfl rfl rfl rfl rfl rfl (gv_zR (gv_zR (gv_zI gv_z0))) rfl (gv_aR (gv_aR (gv_aI gv_a0))) (by omega) qi2 (cR_nextUpTo_ok qv3) rfl rfl ?_
    refine gv_ist (pc' := 18) rfl rfl (gv_Ci rfl) rfl ?_
    refine gv_rldn (pc' := 19) rfl rfl rfl ?_
    obtain ⟨v6, qv6, e⟩ := gv_bind e
    refine gv_fI (pc' := 22) rfl rfl qv6 rfl ?_
    by_cases c7 : v6 = 0
    · rw [if_pos c7] at e
      refine gv_ifF (pc' := 25) rfl (gv_neF c7) rfl rfl ?_
      refine gv_ild (pc' := 27) rfl rfl rfl ?_
      by_cases c8 : v3 = 0
      · rw [if_pos c8] at e
        refine gv_ifF (pc' := 30) rfl (gv_neF c8) rfl rfl ?_
        cases e
        exact gv_retV rfl rfl
      rw [if_neg c8] at e
      refine gv_ifT (pc' := 31) rfl (gv_neT c8) rfl ?_
      refine gv_rldn (pc' := 32) rfl rfl rfl ?_
      refine gv_rldn (pc' := 33) rfl rfl rfl ?_
      obtain ⟨i9, qi9, e⟩ := gv_bind e
      obtain ⟨⟨v10, h11⟩, qv10, e⟩ := gv_bind e
      refine gv_vS (jc := 105) (n := 1) (rest := []) (stk := [.int v10]) (pc' := 36) rfl rfl rfl rfl rfl rfl rfl rfl rfl (gv_zR (gv_zR gv_z0)) rfl (gv_aR (gv_aR gv_a0)) (by omega) qi9 (cR_nextInt_ok qv10) rfl rfl ?_
      refine gv_ist (pc' := 38) rfl rfl (gv_Ci rfl) rfl ?_
      refine gv_rldn (pc' := 39) rfl rfl rfl ?_
      refine gv_rldn (pc' := 40) rfl rfl rfl ?_
      refine gv_rldn (pc' := 41) rfl rfl rfl ?_
      refine gv_ild (pc' := 43) rfl rfl rfl ?_
      refine gv_ic (pc' := 44) (x := 1) rfl rfl rfl ?_
      refine gv_iadd (pc' := 45) rfl rfl ?_
      obtain ⟨i13, qi13, e⟩ := gv_bind e
      obtain ⟨h15, qv14, e⟩ := gv_bind e
      refine gv_vS (jc := 103) (n := 3) (rest := []) (stk := []) (pc' := 48) rfl rfl rfl rfl rfl rfl rfl rfl rfl (gv_zR (gv_zR (gv_zR (gv_zI gv_z0)))) rfl (gv_aR (gv_aR (gv_aR (gv_aI gv_a0)))) (by omega) qi13 (hW _ _ _ _ _ _ qv14) rfl rfl ?_
      refine gv_rldn (pc' := 49) rfl rfl rfl ?_
      obtain ⟨v16, qv16, e⟩ := gv_bind e
      refine gv_fI (pc' := 52) rfl rfl qv16 rfl ?_
      by_cases c17 : v16 = 0
      · rw [if_pos c17] at e
        refine gv_ifF (pc' := 55) rfl (gv_neF c17) rfl rfl ?_
        refine gv_rldn (pc' := 56) rfl rfl rfl ?_
        refine gv_ic (pc' := 57) (x := 4) rfl rfl rfl ?_
        refine gv_ild (pc' := 59) rfl rfl rfl ?_
        obtain ⟨i18, qi18, e⟩ := gv_bind e
        obtain ⟨v19, qv19, e⟩ := gv_bind e
        refine gv_vS (jc := 47) (n := 2) (rest := []) (stk := [.int v19]) (pc' := 62) rfl rfl rfl rfl rfl rfl rfl rfl rfl (gv_zR (gv_zI (gv_zI gv_z0))) rfl (gv_aR (gv_aI (gv_aI gv_a0))) (by omega) qi18 (cT_indexOfKey_ok qv19) rfl rfl ?_
        refine gv_ic (pc' := 63) (x := -1) rfl rfl rfl ?_
        by_cases c20 : v19 = (-1 : Int32)
        · rw [if_pos c20] at e
          refine gv_cmF (pc' := 66) rfl (gv_neF2 c20) rfl rfl ?_
          refine gv_rldn (pc' := 67) rfl rfl rfl ?_
          refine gv_ild (pc' := 69) rfl rfl rfl ?_
          refine gv_rldn (pc' := 70) rfl rfl rfl ?_
          obtain ⟨v21, qv21, e⟩ := gv_bind e
          refine gv_fI (pc' := 73) rfl rfl qv21 rfl ?_
          refine gv_rldn (pc' := 74) rfl rfl rfl ?_
          obtain ⟨v22, qv22, e⟩ := gv_bind e
          refine gv_fI (pc' := 77) rfl rfl qv22 rfl ?_
          obtain ⟨i23, qi23, e⟩ := gv_bind e
          obtain ⟨⟨v24, h25⟩, qv24, e⟩ := gv_bind e
          refine gv_vS (jc := 46) (n := 3) (rest := []) (stk := [.int v24]) (pc' := 80) rfl rfl rfl rfl rfl rfl rfl rfl rfl (gv_zR (gv_zI (gv_zI (gv_zI gv_z0)))) rfl (gv_aR (gv_aI (gv_aI (gv_aI gv_a0)))) (by omega) qi23 (cT_setProperty_ok qv24) rfl rfl ?_
          by_cases c27 : v24 = 0
          · rw [if_pos c27] at e
            refine gv_ifF (pc' := 83) rfl (gv_neF c27) rfl rfl ?_
            refine gv_rldn (pc' := 84) rfl rfl rfl ?_
            refine gv_ic (pc' := 85) (x := 1) rfl rfl rfl ?_
            obtain ⟨h28, qh28, e⟩ := gv_bind e
            refine gv_pZ (pc' := 88) rfl rfl rfl (by decide) qh28 rfl ?_
            cases e
            exact gv_retV rfl rfl
          rw [if_neg c27] at e
          refine gv_ifT (pc' := 89) rfl (gv_neT c27) rfl ?_
          refine gv_inc (pc' := 92) (y := 1) rfl rfl rfl rfl (gv_Ci rfl) rfl ?_
          refine gv_goto (pc' := 3) rfl rfl ?_
          exact gv_weak (ih _ _ _ _ _ _ _ _ e) (gv_S1 rfl (gv_S1 rfl (gv_S1 rfl (gv_S1 rfl (gv_S1 rfl (gv_S1 rfl gv_S0))))))
        rw [if_neg c20] at e
        refine gv_cmT (pc' := 83) rfl (gv_neT2 c20) rfl ?_
        refine gv_rldn (pc' := 84) rfl rfl rfl ?_
        refine gv_ic (pc' := 85) (x := 1) rfl rfl rfl ?_
        obtain ⟨h29, qh29, e⟩ := gv_bind e
        refine gv_pZ (pc' := 88) rfl rfl rfl (by decide) qh29 rfl ?_
        cases e
        exact gv_retV rfl rfl
      rw [if_neg c17] at e
      refine gv_ifT (pc' := 83) rfl (gv_neT c17) rfl ?_
      refine gv_rldn (pc' := 84) rfl rfl rfl ?_
      refine gv_ic (pc' := 85) (x := 1) rfl rfl rfl ?_
      obtain ⟨h30, qh30, e⟩ := gv_bind e
      refine gv_pZ (pc' := 88) rfl rfl rfl (by decide) qh30 rfl ?_
      cases e
      exact gv_retV rfl rfl
    rw [if_neg c7] at e
    refine gv_ifT (pc' := 30) rfl (gv_neT c7) rfl ?_
    cases e
    exact gv_retV rfl rfl
def cR_readRecord (W : Option Nat → Option Nat → Option Nat → Int32 → gx_H → Option gx_H) (l0 : Option Nat) (l1 : Option Nat) (l2 : Option Nat) (l3 : Option Nat) (l4 : Int32) (h : gx_H) : Option gx_H :=
  cR_readRecord_3 W 1000000000000000 l0 l1 l2 l3 l4 (0 : Int32) h
theorem cR_readRecord_ok {xs : Option (List Int32)} {D : Nat} (hD : 12 ≤ D) {W : Option Nat → Option Nat → Option Nat → Int32 → gx_H → Option gx_H} (hW : ∀ (l0 : Option Nat) (l1 : Option Nat) (l2 : Option Nat) (l3 : Int32) (h : gx_H) (r : gx_H), W l0 l1 l2 l3 h = some r → gv_V xs D 103 0 [(0, gv_u l0), (1, gv_u l1), (2, gv_u l2), (3, .int l3)] [] h (.returned none) r) {l0 : Option Nat} {l1 : Option Nat} {l2 : Option Nat} {l3 : Option Nat} {l4 : Int32} {h : gx_H} {r : gx_H} (e : cR_readRecord W l0 l1 l2 l3 l4 h = some r) : gv_V xs (D + 1) 114 0 [(0, gv_u l0), (1, gv_u l1), (2, gv_u l2), (3, gv_u l3), (4, .int l4)] [] h (.returned none) r := by
  unfold cR_readRecord at e
  refine gv_ic (pc' := 1) (x := 0) rfl rfl rfl ?_
  refine gv_ist (pc' := 3) rfl rfl (gv_Ci rfl) rfl ?_
  exact gv_weak (cR_readRecord_3_ok hD hW 1000000000000000 _ _ _ _ _ _ _ _ e) (gv_S1 rfl (gv_S1 rfl (gv_S1 rfl (gv_S1 rfl (gv_S1 rfl (gv_S1 rfl gv_S0))))))
def cR_readList_75 (W : Option Nat → Option Nat → Option Nat → Int32 → gx_H → Option gx_H) (rec12 : Option Nat → Option Nat → Option Nat → Option Nat → Int32 → Int32 → Int32 → gx_H → Option gx_H) (l0 : Option Nat) (l1 : Option Nat) (l2 : Option Nat) (l3 : Option Nat) (l4 : Int32) (l5 : Int32) (l6 : Int32) (h : gx_H) : Option gx_H :=
  rec12 l0 l1 l2 l3 l4 l5 (l6 + 1) h
theorem cR_readList_75_ok {xs : Option (List Int32)} {D : Nat} (hD : 12 ≤ D) {W : Option Nat → Option Nat → Option Nat → Int32 → gx_H → Option gx_H} (hW : ∀ (l0 : Option Nat) (l1 : Option Nat) (l2 : Option Nat) (l3 : Int32) (h : gx_H) (r : gx_H), W l0 l1 l2 l3 h = some r → gv_V xs D 103 0 [(0, gv_u l0), (1, gv_u l1), (2, gv_u l2), (3, .int l3)] [] h (.returned none) r) {rec12 : Option Nat → Option Nat → Option Nat → Option Nat → Int32 → Int32 → Int32 → gx_H → Option gx_H} (hrec12 : ∀ (l0 : Option Nat) (l1 : Option Nat) (l2 : Option Nat) (l3 : Option Nat) (l4 : Int32) (l5 : Int32) (l6 : Int32) (h : gx_H) (r : gx_H), rec12 l0 l1 l2 l3 l4 l5 l6 h = some r → gv_V xs (D + 1) 115 12 [(0, gv_u l0), (1, gv_u l1), (2, gv_u l2), (3, gv_u l3), (4, .int l4), (5, .int l5), (6, .int l6)] [] h (.returned none) r) {l0 : Option Nat} {l1 : Option Nat} {l2 : Option Nat} {l3 : Option Nat} {l4 : Int32} {l5 : Int32} {l6 : Int32} {h : gx_H} {r : gx_H} (e : cR_readList_75 W rec12 l0 l1 l2 l3 l4 l5 l6 h = some r) : gv_V xs (D + 1) 115 75 [(0, gv_u l0), (1, gv_u l1), (2, gv_u l2), (3, gv_u l3), (4, .int l4), (5, .int l5), (6, .int l6)] [] h (.returned none) r := by
  unfold cR_readList_75 at e
  refine gv_inc (pc' := 78) (y := 1) rfl rfl rfl rfl (gv_Ci rfl) rfl ?_
  refine gv_goto (pc' := 12) rfl rfl ?_
  exact gv_weak (hrec12 _ _ _ _ _ _ _ _ _ e) (gv_S1 rfl (gv_S1 rfl (gv_S1 rfl (gv_S1 rfl (gv_S1 rfl (gv_S1 rfl (gv_S1 rfl gv_S0)))))))
def cR_readList_12 (W : Option Nat → Option Nat → Option Nat → Int32 → gx_H → Option gx_H) : Nat → Option Nat → Option Nat → Option Nat → Option Nat → Int32 → Int32 → Int32 → gx_H → Option gx_H
  | 0, _, _, _, _, _, _, _, _ => none
  | n + 1, l0, l1, l2, l3, l4, l5, l6, h =>
    if l6 < l5 then (
      (gv_gI h l0 6 1).bind fun v2 =>
      if v2 = 0 then (
        (gv_is h l0 6).bind fun i4 =>
        (cR_nextUpTo l0 l2 (1 : Int32) h).bind fun r7 =>
        if r7.1 = (1 : Int32) then (
          (gv_is r7.2 l0 6).bind fun i9 =>
          (W l0 l1 l2 (l4 + (1 : Int32)) r7.2).bind fun h11 =>
          (gv_gI h11 l0 6 2).bind fun v12 =>
          (gv_gI h11 l0 6 3).bind fun v13 =>
          (gv_is h11 l3 2).bind fun i14 =>
          (cT_setPlace l3 l6 v12 v13 h11).bind fun h16 =>
          cR_readList_75 W (cR_readList_12 W n) l0 l1 l2 l3 l4 l5 l6 h16) else
        (gv_is r7.2 l3 2).bind fun i17 =>
        (cT_setPlace l3 l6 (-1 : Int32) (0 : Int32) r7.2).bind fun h19 =>
        cR_readList_75 W (cR_readList_12 W n) l0 l1 l2 l3 l4 l5 l6 h19) else
      some h) else
    some h
theorem cR_readList_12_ok {xs : Option (List Int32)} {D : Nat} (hD : 12 ≤ D) {W : Option Nat → Option Nat → Option Nat → Int32 → gx_H → Option gx_H} (hW : ∀ (l0 : Option Nat) (l1 : Option Nat) (l2 : Option Nat) (l3 : Int32) (h : gx_H) (r : gx_H), W l0 l1 l2 l3 h = some r → gv_V xs D 103 0 [(0, gv_u l0), (1, gv_u l1), (2, gv_u l2), (3, .int l3)] [] h (.returned none) r) : ∀ (n : Nat) (l0 : Option Nat) (l1 : Option Nat) (l2 : Option Nat) (l3 : Option Nat) (l4 : Int32) (l5 : Int32) (l6 : Int32) (h : gx_H) (r : gx_H), cR_readList_12 W n l0 l1 l2 l3 l4 l5 l6 h = some r → gv_V xs (D + 1) 115 12 [(0, gv_u l0), (1, gv_u l1), (2, gv_u l2), (3, gv_u l3), (4, .int l4), (5, .int l5), (6, .int l6)] [] h (.returned none) r := by
  intro n
  induction n with
  | zero => intro l0 l1 l2 l3 l4 l5 l6 h r e; cases e
  | succ n ih =>
    intro l0 l1 l2 l3 l4 l5 l6 h r e
    rw [cR_readList_12] at e
    refine gv_ild (pc' := 14) rfl rfl rfl ?_
    refine gv_ild (pc' := 16) rfl rfl rfl ?_
    by_cases c1 : l6 < l5
    · rw [if_pos c1] at e
      refine gv_cmF (pc' := 19) rfl (gv_geF2 c1) rfl rfl ?_
      refine gv_rldn (pc' := 20) rfl rfl rfl ?_
      obtain ⟨v2, qv2, e⟩ := gv_bind e
      refine gv_fI (pc' := 23) rfl rfl qv2 rfl ?_
      by_cases c3 : v2 = 0
      · rw [if_pos c3] at e
        refine gv_ifF (pc' := 26) rfl (gv_neF c3) rfl rfl ?_
        refine gv_rldn (pc' := 27) rfl rfl rfl ?_
        refine gv_rldn (pc' := 28) rfl rfl rfl ?_
        refine gv_ic (pc' := 29) (x := 1) rfl rfl rfl ?_
        obtain ⟨i4, qi4, e⟩ := gv_bind e
        obtain ⟨⟨v5, h6⟩, qv5, e⟩ := gv_bind e
        refine gv_vS (jc := 104) (n := 2) (rest := []) (stk := [.int v5]) (pc' := 32) rfl rfl rfl rfl rfl rfl rfl rfl rfl (gv_zR (gv_zR (gv_zI gv_z0))) rfl (gv_aR (gv_aR (gv_aI gv_a0))) (by omega) qi4 (cR_nextUpTo_ok qv5) rfl rfl ?_
        refine gv_ist (pc' := 34) rfl rfl (gv_Ci rfl) rfl ?_
        refine gv_ild (pc' := 36) rfl rfl rfl ?_
        refine gv_ic (pc' := 37) (x := 1) rfl rfl rfl ?_
        by_cases c8 : v5 = (1 : Int32)
        · rw [if_pos c8] at e
          refine gv_cmF (pc' := 40) rfl (gv_neF2 c8) rfl rfl ?_
          refine gv_rldn (pc' := 41) rfl rfl rfl ?_
          refine gv_rldn (pc' := 42) rfl rfl rfl ?_
          refine gv_rldn (pc' := 43) rfl rfl rfl ?_
          refine gv_ild (pc' := 45) rfl rfl rfl ?_
          refine gv_ic (pc' := 46) (x := 1) rfl rfl rfl ?_
          refine gv_iadd (pc' := 47) rfl rfl ?_
          obtain ⟨i9, qi9, e⟩ := gv_bind e
          obtain ⟨h11, qv10, e⟩ := gv_bind e
          refine gv_vS (jc := 103) (n := 3) (rest := []) (stk := []) (pc' := 50) rfl rfl rfl rfl rfl rfl rfl rfl rfl (gv_zR (gv_zR (gv_zR (gv_zI gv_z0)))) rfl (gv_aR (gv_aR (gv_aR (gv_aI gv_a0)))) (by omega) qi9 (hW _ _ _ _ _ _ qv10) rfl rfl ?_
          refine gv_rldn (pc' := 51) rfl rfl rfl ?_
          refine gv_ild (pc' := 53) rfl rfl rfl ?_
          refine gv_rldn (pc' := 54) rfl rfl rfl ?_
          obtain ⟨v12, qv12, e⟩ := gv_bind e
          refine gv_fI (pc' := 57) rfl rfl qv12 rfl ?_
          refine gv_rldn (pc' := 58) rfl rfl rfl ?_
          obtain ⟨v13, qv13, e⟩ := gv_bind e
          refine gv_fI (pc' := 61) rfl rfl qv13 rfl ?_
          obtain ⟨i14, qi14, e⟩ := gv_bind e
          obtain ⟨h16, qv15, e⟩ := gv_bind e
          refine gv_vS (jc := 43) (n := 3) (rest := []) (stk := []) (pc' := 64) rfl rfl rfl rfl rfl rfl rfl rfl rfl (gv_zR (gv_zI (gv_zI (gv_zI gv_z0)))) rfl (gv_aR (gv_aI (gv_aI (gv_aI gv_a0)))) (by omega) qi14 (cT_setPlace_ok qv15) rfl rfl ?_
          refine gv_goto (pc' := 75) rfl rfl ?_
          exact gv_weak (cR_readList_75_ok hD hW ih e) (gv_S1 rfl (gv_S1 rfl (gv_S1 rfl (gv_S1 rfl (gv_S1 rfl (gv_S1 rfl (gv_S1 rfl gv_S0)))))))
        rw [if_neg c8] at e
        refine gv_cmT (pc' := 67) rfl (gv_neT2 c8) rfl ?_
        refine gv_rldn (pc' := 68) rfl rfl rfl ?_
        refine gv_ild (pc' := 70) rfl rfl rfl ?_
        refine gv_ic (pc' := 71) (x := -1) rfl rfl rfl ?_
        refine gv_ic (pc' := 72) (x := 0) rfl rfl rfl ?_
        obtain ⟨i17, qi17, e⟩ := gv_bind e
        obtain ⟨h19, qv18, e⟩ := gv_bind e
        refine gv_vS (jc := 43) (n := 3) (rest := []) (stk := []) (pc' := 75) rfl rfl rfl rfl rfl rfl rfl rfl rfl (gv_zR (gv_zI (gv_zI (gv_zI gv_z0)))) rfl (gv_aR (gv_aI (gv_aI (gv_aI gv_a0)))) (by omega) qi17 (cT_setPlace_ok qv18) rfl rfl ?_
        exact gv_weak (cR_readList_75_ok hD hW ih e) (gv_S1 rfl (gv_S1 rfl (gv_S1 rfl (gv_S1 rfl (gv_S1 rfl (gv_S1 rfl (gv_S1 rfl gv_S0)))))))
      rw [if_neg c3] at e
      refine gv_ifT (pc' := 81) rfl (gv_neT c3) rfl ?_
      cases e
      exact gv_retV rfl rfl
    rw [if_neg c1] at e
    refine gv_cmT (pc' := 81) rfl (gv_geT2 c1) rfl ?_
    cases e
    exact gv_retV rfl rfl
def cR_readList (W : Option Nat → Option Nat → Option Nat → Int32 → gx_H → Option gx_H) (l0 : Option Nat) (l1 : Option Nat) (l2 : Option Nat) (l3 : Option Nat) (l4 : Int32) (h : gx_H) : Option gx_H :=
  (gv_is h l0 6).bind fun i1 =>
  (cR_nextUpTo l0 l2 (8 : Int32) h).bind fun r4 =>
  cR_readList_12 W 1000000000000000 l0 l1 l2 l3 l4 r4.1 (0 : Int32) r4.2
theorem cR_readList_ok {xs : Option (List Int32)} {D : Nat} (hD : 12 ≤ D) {W : Option Nat → Option Nat → Option Nat → Int32 → gx_H → Option gx_H} (hW : ∀ (l0 : Option Nat) (l1 : Option Nat) (l2 : Option Nat) (l3 : Int32) (h : gx_H) (r : gx_H), W l0 l1 l2 l3 h = some r → gv_V xs D 103 0 [(0, gv_u l0), (1, gv_u l1), (2, gv_u l2), (3, .int l3)] [] h (.returned none) r) {l0 : Option Nat} {l1 : Option Nat} {l2 : Option Nat} {l3 : Option Nat} {l4 : Int32} {h : gx_H} {r : gx_H} (e : cR_readList W l0 l1 l2 l3 l4 h = some r) : gv_V xs (D + 1) 115 0 [(0, gv_u l0), (1, gv_u l1), (2, gv_u l2), (3, gv_u l3), (4, .int l4)] [] h (.returned none) r := by
  unfold cR_readList at e
  refine gv_rldn (pc' := 1) rfl rfl rfl ?_
  refine gv_rldn (pc' := 2) rfl rfl rfl ?_
  refine gv_bp (pc' := 4) (x := 8) rfl rfl rfl ?_
  obtain ⟨i1, qi1, e⟩ := gv_bind e
  obtain ⟨⟨v2, h3⟩, qv2, e⟩ := gv_bind e
  refine gv_vS (jc := 104) (n := 2) (rest := []) (stk := [.int v2]) (pc' := 7) rfl rfl rfl rfl rfl rfl rfl rfl rfl (gv_zR (gv_zR (gv_zI gv_z0))) rfl (gv_aR (gv_aR (gv_aI gv_a0))) (by omega) qi1 (cR_nextUpTo_ok qv2) rfl rfl ?_
  refine gv_ist (pc' := 9) rfl rfl (gv_Ci rfl) rfl ?_
  refine gv_ic (pc' := 10) (x := 0) rfl rfl rfl ?_
  refine gv_ist (pc' := 12) rfl rfl (gv_Ci rfl) rfl ?_
  exact gv_weak (cR_readList_12_ok hD hW 1000000000000000 _ _ _ _ _ _ _ _ _ e) (gv_S1 rfl (gv_S1 rfl (gv_S1 rfl (gv_S1 rfl (gv_S1 rfl (gv_S1 rfl (gv_S1 rfl gv_S0)))))))
def cR_readMap_100 (W : Option Nat → Option Nat → Option Nat → Int32 → gx_H → Option gx_H) (rec11 : Option Nat → Option Nat → Option Nat → Option Nat → Int32 → Int32 → Int32 → gx_H → Option gx_H) (l0 : Option Nat) (l1 : Option Nat) (l2 : Option Nat) (l3 : Option Nat) (l4 : Int32) (l5 : Int32) (l6 : Int32) (h : gx_H) : Option gx_H :=
  rec11 l0 l1 l2 l3 l4 l5 (l6 + 1) h
theorem cR_readMap_100_ok {xs : Option (List Int32)} {D : Nat} (hD : 12 ≤ D) {W : Option Nat → Option Nat → Option Nat → Int32 → gx_H → Option gx_H} (hW : ∀ (l0 : Option Nat) (l1 : Option Nat) (l2 : Option Nat) (l3 : Int32) (h : gx_H) (r : gx_H), W l0 l1 l2 l3 h = some r → gv_V xs D 103 0 [(0, gv_u l0), (1, gv_u l1), (2, gv_u l2), (3, .int l3)] [] h (.returned none) r) {rec11 : Option Nat → Option Nat → Option Nat → Option Nat → Int32 → Int32 → Int32 → gx_H → Option gx_H} (hrec11 : ∀ (l0 : Option Nat) (l1 : Option Nat) (l2 : Option Nat) (l3 : Option Nat) (l4 : Int32) (l5 : Int32) (l6 : Int32) (h : gx_H) (r : gx_H), rec11 l0 l1 l2 l3 l4 l5 l6 h = some r → gv_V xs (D + 1) 116 11 [(0, gv_u l0), (1, gv_u l1), (2, gv_u l2), (3, gv_u l3), (4, .int l4), (5, .int l5), (6, .int l6)] [] h (.returned none) r) {l0 : Option Nat} {l1 : Option Nat} {l2 : Option Nat} {l3 : Option Nat} {l4 : Int32} {l5 : Int32} {l6 : Int32} {h : gx_H} {r : gx_H} (e : cR_readMap_100 W rec11 l0 l1 l2 l3 l4 l5 l6 h = some r) : gv_V xs (D + 1) 116 100 [(0, gv_u l0), (1, gv_u l1), (2, gv_u l2), (3, gv_u l3), (4, .int l4), (5, .int l5), (6, .int l6)] [] h (.returned none) r := by
  unfold cR_readMap_100 at e
  refine gv_inc (pc' := 103) (y := 1) rfl rfl rfl rfl (gv_Ci rfl) rfl ?_
  refine gv_goto (pc' := 11) rfl rfl ?_
  exact gv_weak (hrec11 _ _ _ _ _ _ _ _ _ e) (gv_S1 rfl (gv_S1 rfl (gv_S1 rfl (gv_S1 rfl (gv_S1 rfl (gv_S1 rfl (gv_S1 rfl gv_S0)))))))
def cR_readMap_95 (W : Option Nat → Option Nat → Option Nat → Int32 → gx_H → Option gx_H) (rec11 : Option Nat → Option Nat → Option Nat → Option Nat → Int32 → Int32 → Int32 → gx_H → Option gx_H) (l0 : Option Nat) (l1 : Option Nat) (l2 : Option Nat) (l3 : Option Nat) (l4 : Int32) (l5 : Int32) (l6 : Int32) (h : gx_H) : Option gx_H :=
  (gv_pV h l0 6 1 (.int (1 : Int32))).bind fun h1 =>
  cR_readMap_100 W rec11 l0 l1 l2 l3 l4 l5 l6 h1
theorem cR_readMap_95_ok {xs : Option (List Int32)} {D : Nat} (hD : 12 ≤ D) {W : Option Nat → Option Nat → Option Nat → Int32 → gx_H → Option gx_H} (hW : ∀ (l0 : Option Nat) (l1 : Option Nat) (l2 : Option Nat) (l3 : Int32) (h : gx_H) (r : gx_H), W l0 l1 l2 l3 h = some r → gv_V xs D 103 0 [(0, gv_u l0), (1, gv_u l1), (2, gv_u l2), (3, .int l3)] [] h (.returned none) r) {rec11 : Option Nat → Option Nat → Option Nat → Option Nat → Int32 → Int32 → Int32 → gx_H → Option gx_H} (hrec11 : ∀ (l0 : Option Nat) (l1 : Option Nat) (l2 : Option Nat) (l3 : Option Nat) (l4 : Int32) (l5 : Int32) (l6 : Int32) (h : gx_H) (r : gx_H), rec11 l0 l1 l2 l3 l4 l5 l6 h = some r → gv_V xs (D + 1) 116 11 [(0, gv_u l0), (1, gv_u l1), (2, gv_u l2), (3, gv_u l3), (4, .int l4), (5, .int l5), (6, .int l6)] [] h (.returned none) r) {l0 : Option Nat} {l1 : Option Nat} {l2 : Option Nat} {l3 : Option Nat} {l4 : Int32} {l5 : Int32} {l6 : Int32} {h : gx_H} {r : gx_H} (e : cR_readMap_95 W rec11 l0 l1 l2 l3 l4 l5 l6 h = some r) : gv_V xs (D + 1) 116 95 [(0, gv_u l0), (1, gv_u l1), (2, gv_u l2), (3, gv_u l3), (4, .int l4), (5, .int l5), (6, .int l6)] [] h (.returned none) r := by
  unfold cR_readMap_95 at e
  refine gv_rldn (pc' := 96) rfl rfl rfl ?_
  refine gv_ic (pc' := 97) (x := 1) rfl rfl rfl ?_
  obtain ⟨h1, qh1, e⟩ := gv_bind e
  refine gv_pZ (pc' := 100) rfl rfl rfl (by decide) qh1 rfl ?_
  exact gv_weak (cR_readMap_100_ok hD hW hrec11 e) (gv_S1 rfl (gv_S1 rfl (gv_S1 rfl (gv_S1 rfl (gv_S1 rfl (gv_S1 rfl (gv_S1 rfl gv_S0)))))))
def cR_readMap_11 (W : Option Nat → Option Nat → Option Nat → Int32 → gx_H → Option gx_H) : Nat → Option Nat → Option Nat → Option Nat → Option Nat → Int32 → Int32 → Int32 → gx_H → Option gx_H
  | 0, _, _, _, _, _, _, _, _ => none
  | n + 1, l0, l1, l2, l3, l4, l5, l6, h =>
    if l6 < l5 then (
      (gv_gI h l0 6 1).bind fun v2 =>
      if v2 = 0 then (
        (gv_is h l0 6).bind fun i4 =>
        (W l0 l1 l2 (l4 + (1 : Int32)) h).bind fun h6 =>
        (gv_gI h6 l0 6 2).bind fun v7 =>
        (gv_gI h6 l0 6 3).bind fun v8 =>
        (gv_is h6 l0 6).bind fun i9 =>
        (W l0 l1 l2 (l4 + (1 : Int32)) h6).bind fun h11 =>
        (gv_gI h11 l0 6 1).bind fun v12 =>
        if v12 = 0 then (
          (gv_is h11 l3 2).bind fun i14 =>
          (cT_indexOfKey l3 v7 v8 h11).bind fun v15 =>
          if v15 = (-1 : Int32) then (
            (gv_gI h11 l0 6 2).bind fun v17 =>
            (gv_gI h11 l0 6 3).bind fun v18 =>
            (gv_is h11 l3 2).bind fun i19 =>
            (cT_setEntry l3 v7 v8 v17 v18 h11).bind fun r22 =>
            if r22.1 = 0 then (
              cR_readMap_95 W (cR_readMap_11 W n) l0 l1 l2 l3 l4 l5 l6 r22.2) else
            cR_readMap_100 W (cR_readMap_11 W n) l0 l1 l2 l3 l4 l5 l6 r22.2) else
          cR_readMap_95 W (cR_readMap_11 W n) l0 l1 l2 l3 l4 l5 l6 h11) else
        cR_readMap_95 W (cR_readMap_11 W n) l0 l1 l2 l3 l4 l5 l6 h11) else
      some h) else
    some h
theorem cR_readMap_11_ok {xs : Option (List Int32)} {D : Nat} (hD : 12 ≤ D) {W : Option Nat → Option Nat → Option Nat → Int32 → gx_H → Option gx_H} (hW : ∀ (l0 : Option Nat) (l1 : Option Nat) (l2 : Option Nat) (l3 : Int32) (h : gx_H) (r : gx_H), W l0 l1 l2 l3 h = some r → gv_V xs D 103 0 [(0, gv_u l0), (1, gv_u l1), (2, gv_u l2), (3, .int l3)] [] h (.returned none) r) : ∀ (n : Nat) (l0 : Option Nat) (l1 : Option Nat) (l2 : Option Nat) (l3 : Option Nat) (l4 : Int32) (l5 : Int32) (l6 : Int32) (h : gx_H) (r : gx_H), cR_readMap_11 W n l0 l1 l2 l3 l4 l5 l6 h = some r → gv_V xs (D + 1) 116 11 [(0, gv_u l0), (1, gv_u l1), (2, gv_u l2), (3, gv_u l3), (4, .int l4), (5, .int l5), (6, .int l6)] [] h (.returned none) r := by
  intro n
  induction n with
  | zero => intro l0 l1 l2 l3 l4 l5 l6 h r e; cases e
  | succ n ih =>
    intro l0 l1 l2 l3 l4 l5 l6 h r e
    rw [cR_readMap_11] at e
    refine gv_ild (pc' := 13) rfl rfl rfl ?_
    refine gv_ild (pc' := 15) rfl rfl rfl ?_
    by_cases c1 : l6 < l5
    · rw [if_pos c1] at e
      refine gv_cmF (pc' := 18) rfl (gv_geF2 c1) rfl rfl ?_
      refine gv_rldn (pc' := 19) rfl rfl rfl ?_
      obtain ⟨v2, qv2, e⟩ := gv_bind e
      refine gv_fI (pc' := 22) rfl rfl qv2 rfl ?_
      by_cases c3 : v2 = 0
      · rw [if_pos c3] at e
        refine gv_ifF (pc' := 25) rfl (gv_neF c3) rfl rfl ?_
        refine gv_rldn (pc' := 26) rfl rfl rfl ?_
        refine gv_rldn (pc' := 27) rfl rfl rfl ?_
        refine gv_rldn (pc' := 28) rfl rfl rfl ?_
        refine gv_ild (pc' := 30) rfl rfl rfl ?_
        refine gv_ic (pc' := 31) (x := 1) rfl rfl rfl ?_
        refine gv_iadd (pc' := 32) rfl rfl ?_
        obtain ⟨i4, qi4, e⟩ := gv_bind e
        obtain ⟨h6, qv5, e⟩ := gv_bind e
        refine gv_vS (jc := 103) (n := 3) (rest := []) (stk := []) (pc' := 35) rfl rfl rfl rfl rfl rfl rfl rfl rfl (gv_zR (gv_zR (gv_zR (gv_zI gv_z0)))) rfl (gv_aR (gv_aR (gv_aR (gv_aI gv_a0)))) (by omega) qi4 (hW _ _ _ _ _ _ qv5) rfl rfl ?_
        refine gv_rldn (pc' := 36) rfl rfl rfl ?_
        obtain ⟨v7, qv7, e⟩ := gv_bind e
        refine gv_fI (pc' := 39) rfl rfl qv7 rfl ?_
        refine gv_ist (pc' := 41) rfl rfl (gv_Ci rfl) rfl ?_
        refine gv_rldn (pc' := 42) rfl rfl rfl ?_
        obtain ⟨v8, qv8, e⟩ := gv_bind e
        refine gv_fI (pc' := 45) rfl rfl qv8 rfl ?_
        refine gv_ist (pc' := 47) rfl rfl (gv_Ci rfl) rfl ?_
        refine gv_rldn (pc' := 48) rfl rfl rfl ?_
        refine gv_rldn (pc' := 49) rfl rfl rfl ?_
        refine gv_rldn (pc' := 50) rfl rfl rfl ?_
        refine gv_ild (pc' := 52) rfl rfl rfl ?_
        refine gv_ic (pc' := 53) (x := 1) rfl rfl rfl ?_
        refine gv_iadd (pc' := 54) rfl rfl ?_
        obtain ⟨i9, qi9, e⟩ := gv_bind e
        obtain ⟨h11, qv10, e⟩ := gv_bind e
        refine gv_vS (jc := 103) (n := 3) (rest := []) (stk := []) (pc' := 57) rfl rfl rfl rfl rfl rfl rfl rfl rfl (gv_zR (gv_zR (gv_zR (gv_zI gv_z0)))) rfl (gv_aR (gv_aR (gv_aR (gv_aI gv_a0)))) (by omega) qi9 (hW _ _ _ _ _ _ qv10) rfl rfl ?_
        refine gv_rldn (pc' := 58) rfl rfl rfl ?_
        obtain ⟨v12, qv12, e⟩ := gv_bind e
        refine gv_fI (pc' := 61) rfl rfl qv12 rfl ?_
        by_cases c13 : v12 = 0
        · rw [if_pos c13] at e
          refine gv_ifF (pc' := 64) rfl (gv_neF c13) rfl rfl ?_
          refine gv_rldn (pc' := 65) rfl rfl rfl ?_
          refine gv_ild (pc' := 67) rfl rfl rfl ?_
          refine gv_ild (pc' := 69) rfl rfl rfl ?_
          obtain ⟨i14, qi14, e⟩ := gv_bind e
          obtain ⟨v15, qv15, e⟩ := gv_bind e
          refine gv_vS (jc := 47) (n := 2) (rest := []) (stk := [.int v15]) (pc' := 72) rfl rfl rfl rfl rfl rfl rfl rfl rfl (gv_zR (gv_zI (gv_zI gv_z0))) rfl (gv_aR (gv_aI (gv_aI gv_a0))) (by omega) qi14 (cT_indexOfKey_ok qv15) rfl rfl ?_
          refine gv_ic (pc' := 73) (x := -1) rfl rfl rfl ?_
          by_cases c16 : v15 = (-1 : Int32)
          · rw [if_pos c16] at e
            refine gv_cmF (pc' := 76) rfl (gv_neF2 c16) rfl rfl ?_
            refine gv_rldn (pc' := 77) rfl rfl rfl ?_
            refine gv_ild (pc' := 79) rfl rfl rfl ?_
            refine gv_ild (pc' := 81) rfl rfl rfl ?_
            refine gv_rldn (pc' := 82) rfl rfl rfl ?_
            obtain ⟨v17, qv17, e⟩ := gv_bind e
            refine gv_fI (pc' := 85) rfl rfl qv17 rfl ?_
            refine gv_rldn (pc' := 86) rfl rfl rfl ?_
            obtain ⟨v18, qv18, e⟩ := gv_bind e
            refine gv_fI (pc' := 89) rfl rfl qv18 rfl ?_
            obtain ⟨i19, qi19, e⟩ := gv_bind e
            obtain ⟨⟨v20, h21⟩, qv20, e⟩ := gv_bind e
            refine gv_vS (jc := 56) (n := 4) (rest := []) (stk := [.int v20]) (pc' := 92) rfl rfl rfl rfl rfl rfl rfl rfl rfl (gv_zR (gv_zI (gv_zI (gv_zI (gv_zI gv_z0))))) rfl (gv_aR (gv_aI (gv_aI (gv_aI (gv_aI gv_a0))))) (by omega) qi19 (cT_setEntry_ok qv20) rfl rfl ?_
            by_cases c23 : v20 = 0
            · rw [if_pos c23] at e
              refine gv_ifF (pc' := 95) rfl (gv_neF c23) rfl rfl ?_
              exact gv_weak (cR_readMap_95_ok hD hW ih e) (gv_S1 rfl (gv_S1 rfl (gv_S1 rfl (gv_S1 rfl (gv_S1 rfl (gv_S1 rfl (gv_S1 rfl gv_S0)))))))
            rw [if_neg c23] at e
            refine gv_ifT (pc' := 100) rfl (gv_neT c23) rfl ?_
            exact gv_weak (cR_readMap_100_ok hD hW ih e) (gv_S1 rfl (gv_S1 rfl (gv_S1 rfl (gv_S1 rfl (gv_S1 rfl (gv_S1 rfl (gv_S1 rfl gv_S0)))))))
          rw [if_neg c16] at e
          refine gv_cmT (pc' := 95) rfl (gv_neT2 c16) rfl ?_
          exact gv_weak (cR_readMap_95_ok hD hW ih e) (gv_S1 rfl (gv_S1 rfl (gv_S1 rfl (gv_S1 rfl (gv_S1 rfl (gv_S1 rfl (gv_S1 rfl gv_S0)))))))
        rw [if_neg c13] at e
        refine gv_ifT (pc' := 95) rfl (gv_neT c13) rfl ?_
        exact gv_weak (cR_readMap_95_ok hD hW ih e) (gv_S1 rfl (gv_S1 rfl (gv_S1 rfl (gv_S1 rfl (gv_S1 rfl (gv_S1 rfl (gv_S1 rfl gv_S0)))))))
      rw [if_neg c3] at e
      refine gv_ifT (pc' := 106) rfl (gv_neT c3) rfl ?_
      cases e
      exact gv_retV rfl rfl
    rw [if_neg c1] at e
    refine gv_cmT (pc' := 106) rfl (gv_geT2 c1) rfl ?_
    cases e
    exact gv_retV rfl rfl
def cR_readMap (W : Option Nat → Option Nat → Option Nat → Int32 → gx_H → Option gx_H) (l0 : Option Nat) (l1 : Option Nat) (l2 : Option Nat) (l3 : Option Nat) (l4 : Int32) (h : gx_H) : Option gx_H :=
  (gv_is h l0 6).bind fun i1 =>
  (cR_nextUpTo l0 l2 (4 : Int32) h).bind fun r4 =>
  cR_readMap_11 W 1000000000000000 l0 l1 l2 l3 l4 r4.1 (0 : Int32) r4.2
theorem cR_readMap_ok {xs : Option (List Int32)} {D : Nat} (hD : 12 ≤ D) {W : Option Nat → Option Nat → Option Nat → Int32 → gx_H → Option gx_H} (hW : ∀ (l0 : Option Nat) (l1 : Option Nat) (l2 : Option Nat) (l3 : Int32) (h : gx_H) (r : gx_H), W l0 l1 l2 l3 h = some r → gv_V xs D 103 0 [(0, gv_u l0), (1, gv_u l1), (2, gv_u l2), (3, .int l3)] [] h (.returned none) r) {l0 : Option Nat} {l1 : Option Nat} {l2 : Option Nat} {l3 : Option Nat} {l4 : Int32} {h : gx_H} {r : gx_H} (e : cR_readMap W l0 l1 l2 l3 l4 h = some r) : gv_V xs (D + 1) 116 0 [(0, gv_u l0), (1, gv_u l1), (2, gv_u l2), (3, gv_u l3), (4, .int l4)] [] h (.returned none) r := by
  unfold cR_readMap at e
  refine gv_rldn (pc' := 1) rfl rfl rfl ?_
  refine gv_rldn (pc' := 2) rfl rfl rfl ?_
  refine gv_ic (pc' := 3) (x := 4) rfl rfl rfl ?_
  obtain ⟨i1, qi1, e⟩ := gv_bind e
  obtain ⟨⟨v2, h3⟩, qv2, e⟩ := gv_bind e
  refine gv_vS (jc := 104) (n := 2) (rest := []) (stk := [.int v2]) (pc' := 6) rfl rfl rfl rfl rfl rfl rfl rfl rfl (gv_zR (gv_zR (gv_zI gv_z0))) rfl (gv_aR (gv_aR (gv_aI gv_a0))) (by omega) qi1 (cR_nextUpTo_ok qv2) rfl rfl ?_
  refine gv_ist (pc' := 8) rfl rfl (gv_Ci rfl) rfl ?_
  refine gv_ic (pc' := 9) (x := 0) rfl rfl rfl ?_
  refine gv_ist (pc' := 11) rfl rfl (gv_Ci rfl) rfl ?_
  exact gv_weak (cR_readMap_11_ok hD hW 1000000000000000 _ _ _ _ _ _ _ _ _ e) (gv_S1 rfl (gv_S1 rfl (gv_S1 rfl (gv_S1 rfl (gv_S1 rfl (gv_S1 rfl (gv_S1 rfl gv_S0)))))))
def cR_readSet_77 (W : Option Nat → Option Nat → Option Nat → Int32 → gx_H → Option gx_H) (rec11 : Option Nat → Option Nat → Option Nat → Option Nat → Int32 → Int32 → Int32 → gx_H → Option gx_H) (l0 : Option Nat) (l1 : Option Nat) (l2 : Option Nat) (l3 : Option Nat) (l4 : Int32) (l5 : Int32) (l6 : Int32) (h : gx_H) : Option gx_H :=
  rec11 l0 l1 l2 l3 l4 l5 (l6 + 1) h
theorem cR_readSet_77_ok {xs : Option (List Int32)} {D : Nat} (hD : 12 ≤ D) {W : Option Nat → Option Nat → Option Nat → Int32 → gx_H → Option gx_H} (hW : ∀ (l0 : Option Nat) (l1 : Option Nat) (l2 : Option Nat) (l3 : Int32) (h : gx_H) (r : gx_H), W l0 l1 l2 l3 h = some r → gv_V xs D 103 0 [(0, gv_u l0), (1, gv_u l1), (2, gv_u l2), (3, .int l3)] [] h (.returned none) r) {rec11 : Option Nat → Option Nat → Option Nat → Option Nat → Int32 → Int32 → Int32 → gx_H → Option gx_H} (hrec11 : ∀ (l0 : Option Nat) (l1 : Option Nat) (l2 : Option Nat) (l3 : Option Nat) (l4 : Int32) (l5 : Int32) (l6 : Int32) (h : gx_H) (r : gx_H), rec11 l0 l1 l2 l3 l4 l5 l6 h = some r → gv_V xs (D + 1) 117 11 [(0, gv_u l0), (1, gv_u l1), (2, gv_u l2), (3, gv_u l3), (4, .int l4), (5, .int l5), (6, .int l6)] [] h (.returned none) r) {l0 : Option Nat} {l1 : Option Nat} {l2 : Option Nat} {l3 : Option Nat} {l4 : Int32} {l5 : Int32} {l6 : Int32} {h : gx_H} {r : gx_H} (e : cR_readSet_77 W rec11 l0 l1 l2 l3 l4 l5 l6 h = some r) : gv_V xs (D + 1) 117 77 [(0, gv_u l0), (1, gv_u l1), (2, gv_u l2), (3, gv_u l3), (4, .int l4), (5, .int l5), (6, .int l6)] [] h (.returned none) r := by
  unfold cR_readSet_77 at e
  refine gv_inc (pc' := 80) (y := 1) rfl rfl rfl rfl (gv_Ci rfl) rfl ?_
  refine gv_goto (pc' := 11) rfl rfl ?_
  exact gv_weak (hrec11 _ _ _ _ _ _ _ _ _ e) (gv_S1 rfl (gv_S1 rfl (gv_S1 rfl (gv_S1 rfl (gv_S1 rfl (gv_S1 rfl (gv_S1 rfl gv_S0)))))))
def cR_readSet_72 (W : Option Nat → Option Nat → Option Nat → Int32 → gx_H → Option gx_H) (rec11 : Option Nat → Option Nat → Option Nat → Option Nat → Int32 → Int32 → Int32 → gx_H → Option gx_H) (l0 : Option Nat) (l1 : Option Nat) (l2 : Option Nat) (l3 : Option Nat) (l4 : Int32) (l5 : Int32) (l6 : Int32) (h : gx_H) : Option gx_H :=
  (gv_pV h l0 6 1 (.int (1 : Int32))).bind fun h1 =>
  cR_readSet_77 W rec11 l0 l1 l2 l3 l4 l5 l6 h1
theorem cR_readSet_72_ok {xs : Option (List Int32)} {D : Nat} (hD : 12 ≤ D) {W : Option Nat → Option Nat → Option Nat → Int32 → gx_H → Option gx_H} (hW : ∀ (l0 : Option Nat) (l1 : Option Nat) (l2 : Option Nat) (l3 : Int32) (h : gx_H) (r : gx_H), W l0 l1 l2 l3 h = some r → gv_V xs D 103 0 [(0, gv_u l0), (1, gv_u l1), (2, gv_u l2), (3, .int l3)] [] h (.returned none) r) {rec11 : Option Nat → Option Nat → Option Nat → Option Nat → Int32 → Int32 → Int32 → gx_H → Option gx_H} (hrec11 : ∀ (l0 : Option Nat) (l1 : Option Nat) (l2 : Option Nat) (l3 : Option Nat) (l4 : Int32) (l5 : Int32) (l6 : Int32) (h : gx_H) (r : gx_H), rec11 l0 l1 l2 l3 l4 l5 l6 h = some r → gv_V xs (D + 1) 117 11 [(0, gv_u l0), (1, gv_u l1), (2, gv_u l2), (3, gv_u l3), (4, .int l4), (5, .int l5), (6, .int l6)] [] h (.returned none) r) {l0 : Option Nat} {l1 : Option Nat} {l2 : Option Nat} {l3 : Option Nat} {l4 : Int32} {l5 : Int32} {l6 : Int32} {h : gx_H} {r : gx_H} (e : cR_readSet_72 W rec11 l0 l1 l2 l3 l4 l5 l6 h = some r) : gv_V xs (D + 1) 117 72 [(0, gv_u l0), (1, gv_u l1), (2, gv_u l2), (3, gv_u l3), (4, .int l4), (5, .int l5), (6, .int l6)] [] h (.returned none) r := by
  unfold cR_readSet_72 at e
  refine gv_rldn (pc' := 73) rfl rfl rfl ?_
  refine gv_ic (pc' := 74) (x := 1) rfl rfl rfl ?_
  obtain ⟨h1, qh1, e⟩ := gv_bind e
  refine gv_pZ (pc' := 77) rfl rfl rfl (by decide) qh1 rfl ?_
  exact gv_weak (cR_readSet_77_ok hD hW hrec11 e) (gv_S1 rfl (gv_S1 rfl (gv_S1 rfl (gv_S1 rfl (gv_S1 rfl (gv_S1 rfl (gv_S1 rfl gv_S0)))))))
def cR_readSet_11 (W : Option Nat → Option Nat → Option Nat → Int32 → gx_H → Option gx_H) : Nat → Option Nat → Option Nat → Option Nat → Option Nat → Int32 → Int32 → Int32 → gx_H → Option gx_H
  | 0, _, _, _, _, _, _, _, _ => none
  | n + 1, l0, l1, l2, l3, l4, l5, l6, h =>
    if l6 < l5 then (
      (gv_gI h l0 6 1).bind fun v2 =>
      if v2 = 0 then (
        (gv_is h l0 6).bind fun i4 =>
        (W l0 l1 l2 (l4 + (1 : Int32)) h).bind fun h6 =>
        (gv_gI h6 l0 6 1).bind fun v7 =>
        if v7 = 0 then (
          (gv_gI h6 l0 6 2).bind fun v9 =>
          (gv_gI h6 l0 6 3).bind fun v10 =>
          (gv_is h6 l3 2).bind fun i11 =>
          (cT_hasMember l3 v9 v10 h6).bind fun v12 =>
          if v12 = 0 then (
            (gv_gI h6 l0 6 2).bind fun v14 =>
            (gv_gI h6 l0 6 3).bind fun v15 =>
            (gv_is h6 l3 2).bind fun i16 =>
            (cT_appendMember l3 v14 v15 h6).bind fun r19 =>
            if r19.1 = 0 then (
              cR_readSet_72 W (cR_readSet_11 W n) l0 l1 l2 l3 l4 l5 l6 r19.2) else
            cR_readSet_77 W (cR_readSet_11 W n) l0 l1 l2 l3 l4 l5 l6 r19.2) else
          cR_readSet_72 W (cR_readSet_11 W n) l0 l1 l2 l3 l4 l5 l6 h6) else
        cR_readSet_72 W (cR_readSet_11 W n) l0 l1 l2 l3 l4 l5 l6 h6) else
      some h) else
    some h
theorem cR_readSet_11_ok {xs : Option (List Int32)} {D : Nat} (hD : 12 ≤ D) {W : Option Nat → Option Nat → Option Nat → Int32 → gx_H → Option gx_H} (hW : ∀ (l0 : Option Nat) (l1 : Option Nat) (l2 : Option Nat) (l3 : Int32) (h : gx_H) (r : gx_H), W l0 l1 l2 l3 h = some r → gv_V xs D 103 0 [(0, gv_u l0), (1, gv_u l1), (2, gv_u l2), (3, .int l3)] [] h (.returned none) r) : ∀ (n : Nat) (l0 : Option Nat) (l1 : Option Nat) (l2 : Option Nat) (l3 : Option Nat) (l4 : Int32) (l5 : Int32) (l6 : Int32) (h : gx_H) (r : gx_H), cR_readSet_11 W n l0 l1 l2 l3 l4 l5 l6 h = some r → gv_V xs (D + 1) 117 11 [(0, gv_u l0), (1, gv_u l1), (2, gv_u l2), (3, gv_u l3), (4, .int l4), (5, .int l5), (6, .int l6)] [] h (.returned none) r := by
  intro n
  induction n with
  | zero => intro l0 l1 l2 l3 l4 l5 l6 h r e; cases e
  | succ n ih =>
    intro l0 l1 l2 l3 l4 l5 l6 h r e
    rw [cR_readSet_11] at e
    refine gv_ild (pc' := 13) rfl rfl rfl ?_
    refine gv_ild (pc' := 15) rfl rfl rfl ?_
    by_cases c1 : l6 < l5
    · rw [if_pos c1] at e
      refine gv_cmF (pc' := 18) rfl (gv_geF2 c1) rfl rfl ?_
      refine gv_rldn (pc' := 19) rfl rfl rfl ?_
      obtain ⟨v2, qv2, e⟩ := gv_bind e
      refine gv_fI (pc' := 22) rfl rfl qv2 rfl ?_
      by_cases c3 : v2 = 0
      · rw [if_pos c3] at e
        refine gv_ifF (pc' := 25) rfl (gv_neF c3) rfl rfl ?_
        refine gv_rldn (pc' := 26) rfl rfl rfl ?_
        refine gv_rldn (pc' := 27) rfl rfl rfl ?_
        refine gv_rldn (pc' := 28) rfl rfl rfl ?_
        refine gv_ild (pc' := 30) rfl rfl rfl ?_
        refine gv_ic (pc' := 31) (x := 1) rfl rfl rfl ?_
        refine gv_iadd (pc' := 32) rfl rfl ?_
        obtain ⟨i4, qi4, e⟩ := gv_bind e
        obtain ⟨h6, qv5, e⟩ := gv_bind e
        refine gv_vS (jc := 103) (n := 3) (rest := []) (stk := []) (pc' := 35) rfl rfl rfl rfl rfl rfl rfl rfl rfl (gv_zR (gv_zR (gv_zR (gv_zI gv_z0)))) rfl (gv_aR (gv_aR (gv_aR (gv_aI gv_a0)))) (by omega) qi4 (hW _ _ _ _ _ _ qv5) rfl rfl ?_
        refine gv_rldn (pc' := 36) rfl rfl rfl ?_
        obtain ⟨v7, qv7, e⟩ := gv_bind e
        refine gv_fI (pc' := 39) rfl rfl qv7 rfl ?_
        by_cases c8 : v7 = 0
        · rw [if_pos c8] at e
          refine gv_ifF (pc' := 42) rfl (gv_neF c8) rfl rfl ?_
          refine gv_rldn (pc' := 43) rfl rfl rfl ?_
          refine gv_rldn (pc' := 44) rfl rfl rfl ?_
          obtain ⟨v9, qv9, e⟩ := gv_bind e
          refine gv_fI (pc' := 47) rfl rfl qv9 rfl ?_
          refine gv_rldn (pc' := 48) rfl rfl rfl ?_
          obtain ⟨v10, qv10, e⟩ := gv_bind e
          refine gv_fI (pc' := 51) rfl rfl qv10 rfl ?_
          obtain ⟨i11, qi11, e⟩ := gv_bind e
          obtain ⟨v12, qv12, e⟩ := gv_bind e
          refine gv_vS (jc := 59) (n := 2) (rest := []) (stk := [.int v12]) (pc' := 54) rfl rfl rfl rfl rfl rfl rfl rfl rfl (gv_zR (gv_zI (gv_zI gv_z0))) rfl (gv_aR (gv_aI (gv_aI gv_a0))) (by omega) qi11 (cT_hasMember_ok qv12) rfl rfl ?_
          by_cases c13 : v12 = 0
          · rw [if_pos c13] at e
            refine gv_ifF (pc' := 57) rfl (gv_neF c13) rfl rfl ?_
            refine gv_rldn (pc' := 58) rfl rfl rfl ?_
            refine gv_rldn (pc' := 59) rfl rfl rfl ?_
            obtain ⟨v14, qv14, e⟩ := gv_bind e
            refine gv_fI (pc' := 62) rfl rfl qv14 rfl ?_
            refine gv_rldn (pc' := 63) rfl rfl rfl ?_
            obtain ⟨v15, qv15, e⟩ := gv_bind e
            refine gv_fI (pc' := 66) rfl rfl qv15 rfl ?_
            obtain ⟨i16, qi16, e⟩ := gv_bind e
            obtain ⟨⟨v17, h18⟩, qv17, e⟩ := gv_bind e
            refine gv_vS (jc := 60) (n := 2) (rest := []) (stk := [.int v17]) (pc' := 69) rfl rfl rfl rfl rfl rfl rfl rfl rfl (gv_zR (gv_zI (gv_zI gv_z0))) rfl (gv_aR (gv_aI (gv_aI gv_a0))) (by omega) qi16 (cT_appendMember_ok qv17) rfl rfl ?_
            by_cases c20 : v17 = 0
            · rw [if_pos c20] at e
              refine gv_ifF (pc' := 72) rfl (gv_neF c20) rfl rfl ?_
              exact gv_weak (cR_readSet_72_ok hD hW ih e) (gv_S1 rfl (gv_S1 rfl (gv_S1 rfl (gv_S1 rfl (gv_S1 rfl (gv_S1 rfl (gv_S1 rfl gv_S0)))))))
            rw [if_neg c20] at e
            refine gv_ifT (pc' := 77) rfl (gv_neT c20) rfl ?_
            exact gv_weak (cR_readSet_77_ok hD hW ih e) (gv_S1 rfl (gv_S1 rfl (gv_S1 rfl (gv_S1 rfl (gv_S1 rfl (gv_S1 rfl (gv_S1 rfl gv_S0)))))))
          rw [if_neg c13] at e
          refine gv_ifT (pc' := 72) rfl (gv_neT c13) rfl ?_
          exact gv_weak (cR_readSet_72_ok hD hW ih e) (gv_S1 rfl (gv_S1 rfl (gv_S1 rfl (gv_S1 rfl (gv_S1 rfl (gv_S1 rfl (gv_S1 rfl gv_S0)))))))
        rw [if_neg c8] at e
        refine gv_ifT (pc' := 72) rfl (gv_neT c8) rfl ?_
        exact gv_weak (cR_readSet_72_ok hD hW ih e) (gv_S1 rfl (gv_S1 rfl (gv_S1 rfl (gv_S1 rfl (gv_S1 rfl (gv_S1 rfl (gv_S1 rfl gv_S0)))))))
      rw [if_neg c3] at e
      refine gv_ifT (pc' := 83) rfl (gv_neT c3) rfl ?_
      cases e
      exact gv_retV rfl rfl
    rw [if_neg c1] at e
    refine gv_cmT (pc' := 83) rfl (gv_geT2 c1) rfl ?_
    cases e
    exact gv_retV rfl rfl
def cR_readSet (W : Option Nat → Option Nat → Option Nat → Int32 → gx_H → Option gx_H) (l0 : Option Nat) (l1 : Option Nat) (l2 : Option Nat) (l3 : Option Nat) (l4 : Int32) (h : gx_H) : Option gx_H :=
  (gv_is h l0 6).bind fun i1 =>
  (cR_nextUpTo l0 l2 (5 : Int32) h).bind fun r4 =>
  cR_readSet_11 W 1000000000000000 l0 l1 l2 l3 l4 r4.1 (0 : Int32) r4.2
theorem cR_readSet_ok {xs : Option (List Int32)} {D : Nat} (hD : 12 ≤ D) {W : Option Nat → Option Nat → Option Nat → Int32 → gx_H → Option gx_H} (hW : ∀ (l0 : Option Nat) (l1 : Option Nat) (l2 : Option Nat) (l3 : Int32) (h : gx_H) (r : gx_H), W l0 l1 l2 l3 h = some r → gv_V xs D 103 0 [(0, gv_u l0), (1, gv_u l1), (2, gv_u l2), (3, .int l3)] [] h (.returned none) r) {l0 : Option Nat} {l1 : Option Nat} {l2 : Option Nat} {l3 : Option Nat} {l4 : Int32} {h : gx_H} {r : gx_H} (e : cR_readSet W l0 l1 l2 l3 l4 h = some r) : gv_V xs (D + 1) 117 0 [(0, gv_u l0), (1, gv_u l1), (2, gv_u l2), (3, gv_u l3), (4, .int l4)] [] h (.returned none) r := by
  unfold cR_readSet at e
  refine gv_rldn (pc' := 1) rfl rfl rfl ?_
  refine gv_rldn (pc' := 2) rfl rfl rfl ?_
  refine gv_ic (pc' := 3) (x := 5) rfl rfl rfl ?_
  obtain ⟨i1, qi1, e⟩ := gv_bind e
  obtain ⟨⟨v2, h3⟩, qv2, e⟩ := gv_bind e
  refine gv_vS (jc := 104) (n := 2) (rest := []) (stk := [.int v2]) (pc' := 6) rfl rfl rfl rfl rfl rfl rfl rfl rfl (gv_zR (gv_zR (gv_zI gv_z0))) rfl (gv_aR (gv_aR (gv_aI gv_a0))) (by omega) qi1 (cR_nextUpTo_ok qv2) rfl rfl ?_
  refine gv_ist (pc' := 8) rfl rfl (gv_Ci rfl) rfl ?_
  refine gv_ic (pc' := 9) (x := 0) rfl rfl rfl ?_
  refine gv_ist (pc' := 11) rfl rfl (gv_Ci rfl) rfl ?_
  exact gv_weak (cR_readSet_11_ok hD hW 1000000000000000 _ _ _ _ _ _ _ _ _ e) (gv_S1 rfl (gv_S1 rfl (gv_S1 rfl (gv_S1 rfl (gv_S1 rfl (gv_S1 rfl (gv_S1 rfl gv_S0)))))))
def cR_readObject_128 (W : Option Nat → Option Nat → Option Nat → Int32 → gx_H → Option gx_H) (l0 : Option Nat) (l5 : Int32) (h : gx_H) : Option gx_H :=
  (gv_is h l0 6).bind fun i1 =>
  (cR_settle l0 (6 : Int32) l5 h).bind fun h3 =>
  some h3
theorem cR_readObject_128_ok {xs : Option (List Int32)} {D : Nat} (hD : 12 ≤ D) {W : Option Nat → Option Nat → Option Nat → Int32 → gx_H → Option gx_H} (hW : ∀ (l0 : Option Nat) (l1 : Option Nat) (l2 : Option Nat) (l3 : Int32) (h : gx_H) (r : gx_H), W l0 l1 l2 l3 h = some r → gv_V xs D 103 0 [(0, gv_u l0), (1, gv_u l1), (2, gv_u l2), (3, .int l3)] [] h (.returned none) r) {l0 : Option Nat} {l5 : Int32} {h : gx_H} {r : gx_H} (e : cR_readObject_128 W l0 l5 h = some r) : gv_V xs (D + 2) 113 128 [(0, gv_u l0), (5, .int l5)] [] h (.returned none) r := by
  unfold cR_readObject_128 at e
  refine gv_rldn (pc' := 129) rfl rfl rfl ?_
  refine gv_bp (pc' := 131) (x := 6) rfl rfl rfl ?_
  refine gv_ild (pc' := 133) rfl rfl rfl ?_
  obtain ⟨i1, qi1, e⟩ := gv_bind e
  obtain ⟨h3, qv2, e⟩ := gv_bind e
  refine gv_vS (jc := 108) (n := 2) (rest := []) (stk := []) (pc' := 136) rfl rfl rfl rfl rfl rfl rfl rfl rfl (gv_zR (gv_zI (gv_zI gv_z0))) rfl (gv_aR (gv_aI (gv_aI gv_a0))) (by omega) qi1 (cR_settle_ok qv2) rfl rfl ?_
  cases e
  exact gv_retV rfl rfl
def cR_readObject (W : Option Nat → Option Nat → Option Nat → Int32 → gx_H → Option gx_H) (l0 : Option Nat) (l1 : Option Nat) (l2 : Option Nat) (l3 : Int32) (l4 : Int32) (h : gx_H) : Option gx_H :=
  (gv_gI h l1 1 1).bind fun v1 =>
  (gv_is h l0 6).bind fun i2 =>
  (cR_beginThing l0 l1 l3 h).bind fun r5 =>
  if r5.1 = none then (
    some r5.2) else
  if l3 = (0 : Int32) then (
    (gv_is r5.2 l0 6).bind fun i8 =>
    (cR_readRecord W l0 l1 l2 r5.1 l4 r5.2).bind fun h10 =>
    cR_readObject_128 W l0 v1 h10) else
  if l3 = (1 : Int32) then (
    (gv_is r5.2 l0 6).bind fun i12 =>
    (cR_readList W l0 l1 l2 r5.1 l4 r5.2).bind fun h14 =>
    cR_readObject_128 W l0 v1 h14) else
  if l3 = (2 : Int32) then (
    (gv_is r5.2 l0 6).bind fun i16 =>
    (cR_readMap W l0 l1 l2 r5.1 l4 r5.2).bind fun h18 =>
    cR_readObject_128 W l0 v1 h18) else
  if l3 = (3 : Int32) then (
    (gv_is r5.2 l0 6).bind fun i20 =>
    (cR_readSet W l0 l1 l2 r5.1 l4 r5.2).bind fun h22 =>
    cR_readObject_128 W l0 v1 h22) else
  if l3 = (4 : Int32) then (
    (gv_is r5.2 l0 6).bind fun i24 =>
    (cR_readBuffer l0 l2 r5.1 r5.2).bind fun h26 =>
    cR_readObject_128 W l0 v1 h26) else
  (gv_is r5.2 l0 6).bind fun i27 =>
  (cR_nextZigzag l0 l2 r5.2).bind fun r30 =>
  (gv_pV r30.2 r5.1 2 10 (.long r30.1)).bind fun h31 =>
  cR_readObject_128 W l0 v1 h31
theorem cR_readObject_ok {xs : Option (List Int32)} {D : Nat} (hD : 12 ≤ D) {W : Option Nat → Option Nat → Option Nat → Int32 → gx_H → Option gx_H} (hW : ∀ (l0 : Option Nat) (l1 : Option Nat) (l2 : Option Nat) (l3 : Int32) (h : gx_H) (r : gx_H), W l0 l1 l2 l3 h = some r → gv_V xs D 103 0 [(0, gv_u l0), (1, gv_u l1), (2, gv_u l2), (3, .int l3)] [] h (.returned none) r) {l0 : Option Nat} {l1 : Option Nat} {l2 : Option Nat} {l3 : Int32} {l4 : Int32} {h : gx_H} {r : gx_H} (e : cR_readObject W l0 l1 l2 l3 l4 h = some r) : gv_V xs (D + 2) 113 0 [(0, gv_u l0), (1, gv_u l1), (2, gv_u l2), (3, .int l3), (4, .int l4)] [] h (.returned none) r := by
  unfold cR_readObject at e
  refine gv_rldn (pc' := 1) rfl rfl rfl ?_
  obtain ⟨v1, qv1, e⟩ := gv_bind e
  refine gv_fI (pc' := 4) rfl rfl qv1 rfl ?_
  refine gv_ist (pc' := 6) rfl rfl (gv_Ci rfl) rfl ?_
  refine gv_rldn (pc' := 7) rfl rfl rfl ?_
  refine gv_rldn (pc' := 8) rfl rfl rfl ?_
  refine gv_ildn (pc' := 9) rfl rfl rfl ?_
  obtain ⟨i2, qi2, e⟩ := gv_bind e
  obtain ⟨⟨v3, h4⟩, qv3, e⟩ := gv_bind e
  refine gv_vS (jc := 101) (n := 2) (rest := []) (stk := [gv_u v3]) (pc' := 12) rfl rfl rfl rfl rfl rfl rfl rfl rfl (gv_zR (gv_zR (gv_zI gv_z0))) rfl (gv_aR (gv_aR (gv_aI gv_a0))) (by omega) qi2 (cR_beginThing_ok qv3) rfl rfl ?_
  refine gv_rst (pc' := 14) rfl rfl (gv_Ci rfl) rfl ?_
  refine gv_rld (pc' := 16) rfl rfl rfl ?_
  by_cases c6 : v3 = none
  · rw [if_pos c6] at e
    refine gv_nnF (pc' := 19) rfl c6 rfl ?_
    cases e
    exact gv_retV rfl rfl
  rw [if_neg c6] at e
  refine gv_nnT (pc' := 20) rfl c6 rfl ?_
  refine gv_ildn (pc' := 21) rfl rfl rfl ?_
  by_cases c7 : l3 = (0 : Int32)
  · rw [if_pos c7] at e
    refine gv_sw (pc' := 56) (off := 35) rfl (by rw [c7]; rfl) rfl ?_
    refine gv_rldn (pc' := 57) rfl rfl rfl ?_
    refine gv_rldn (pc' := 58) rfl rfl rfl ?_
    refine gv_rldn (pc' := 59) rfl rfl rfl ?_
    refine gv_rld (pc' := 61) rfl rfl rfl ?_
    refine gv_ild (pc' := 63) rfl rfl rfl ?_
    obtain ⟨i8, qi8, e⟩ := gv_bind e
    obtain ⟨h10, qv9, e⟩ := gv_bind e
    refine gv_vS (jc := 114) (n := 4) (rest := []) (stk := []) (pc' := 66) rfl rfl rfl rfl rfl rfl rfl rfl rfl (gv_zR (gv_zR (gv_zR (gv_zR (gv_zI gv_z0))))) rfl (gv_aR (gv_aR (gv_aR (gv_aR (gv_aI gv_a0))))) (by omega) qi8 (cR_readRecord_ok hD hW qv9) rfl rfl ?_
    refine gv_goto (pc' := 128) rfl rfl ?_
    exact gv_weak (cR_readObject_128_ok hD hW e) (gv_S1 rfl (gv_S1 rfl gv_S0))
  rw [if_neg c7] at e
  by_cases c11 : l3 = (1 : Int32)
  · rw [if_pos c11] at e
    refine gv_sw (pc' := 69) (off := 48) rfl (by rw [c11]; rfl) rfl ?_
    refine gv_rldn (pc' := 70) rfl rfl rfl ?_
    refine gv_rldn (pc' := 71) rfl rfl rfl ?_
    refine gv_rldn (pc' := 72) rfl rfl rfl ?_
    refine gv_rld (pc' := 74) rfl rfl rfl ?_
    refine gv_ild (pc' := 76) rfl rfl rfl ?_
    obtain ⟨i12, qi12, e⟩ := gv_bind e
    obtain ⟨h14, qv13, e⟩ := gv_bind e
    refine gv_vS (jc := 115) (n := 4) (rest := []) (stk := []) (pc' := 79) rfl rfl rfl rfl rfl rfl rfl rfl rfl (gv_zR (gv_zR (gv_zR (gv_zR (gv_zI gv_z0))))) rfl (gv_aR (gv_aR (gv_aR (gv_aR (gv_aI gv_a0))))) (by omega) qi12 (cR_readList_ok hD hW qv13) rfl rfl ?_
    refine gv_goto (pc' := 128) rfl rfl ?_
    exact gv_weak (cR_readObject_128_ok hD hW e) (gv_S1 rfl (gv_S1 rfl gv_S0))
  rw [if_neg c11] at e
  by_cases c15 : l3 = (2 : Int32)
  · rw [if_pos c15] at e
    refine gv_sw (pc' := 82) (off := 61) rfl (by rw [c15]; rfl) rfl ?_
    refine gv_rldn (pc' := 83) rfl rfl rfl ?_
    refine gv_rldn (pc' := 84) rfl rfl rfl ?_
    refine gv_rldn (pc' := 85) rfl rfl rfl ?_
    refine gv_rld (pc' := 87) rfl rfl rfl ?_
    refine gv_ild (pc' := 89) rfl rfl rfl ?_
    obtain ⟨i16, qi16, e⟩ := gv_bind e
    obtain ⟨h18, qv17, e⟩ := gv_bind e
    refine gv_vS (jc := 116) (n := 4) (rest := []) (stk := []) (pc' := 92) rfl rfl rfl rfl rfl rfl rfl rfl rfl (gv_zR (gv_zR (gv_zR (gv_zR (gv_zI gv_z0))))) rfl (gv_aR (gv_aR (gv_aR (gv_aR (gv_aI gv_a0))))) (by omega) qi16 (cR_readMap_ok hD hW qv17) rfl rfl ?_
    refine gv_goto (pc' := 128) rfl rfl ?_
    exact gv_weak (cR_readObject_128_ok hD hW e) (gv_S1 rfl (gv_S1 rfl gv_S0))
  rw [if_neg c15] at e
  by_cases c19 : l3 = (3 : Int32)
  · rw [if_pos c19] at e
    refine gv_sw (pc' := 95) (off := 74) rfl (by rw [c19]; rfl) rfl ?_
    refine gv_rldn (pc' := 96) rfl rfl rfl ?_
    refine gv_rldn (pc' := 97) rfl rfl rfl ?_
    refine gv_rldn (pc' := 98) rfl rfl rfl ?_
    refine gv_rld (pc' := 100) rfl rfl rfl ?_
    refine gv_ild (pc' := 102) rfl rfl rfl ?_
    obtain ⟨i20, qi20, e⟩ := gv_bind e
    obtain ⟨h22, qv21, e⟩ := gv_bind e
    refine gv_vS (jc := 117) (n := 4) (rest := []) (stk := []) (pc' := 105) rfl rfl rfl rfl rfl rfl rfl rfl rfl (gv_zR (gv_zR (gv_zR (gv_zR (gv_zI gv_z0))))) rfl (gv_aR (gv_aR (gv_aR (gv_aR (gv_aI gv_a0))))) (by omega) qi20 (cR_readSet_ok hD hW qv21) rfl rfl ?_
    refine gv_goto (pc' := 128) rfl rfl ?_
    exact gv_weak (cR_readObject_128_ok hD hW e) (gv_S1 rfl (gv_S1 rfl gv_S0))
  rw [if_neg c19] at e
  by_cases c23 : l3 = (4 : Int32)
  · rw [if_pos c23] at e
    refine gv_sw (pc' := 108) (off := 87) rfl (by rw [c23]; rfl) rfl ?_
    refine gv_rldn (pc' := 109) rfl rfl rfl ?_
    refine gv_rldn (pc' := 110) rfl rfl rfl ?_
    refine gv_rld (pc' := 112) rfl rfl rfl ?_
    obtain ⟨i24, qi24, e⟩ := gv_bind e
    obtain ⟨h26, qv25, e⟩ := gv_bind e
    refine gv_vS (jc := 118) (n := 2) (rest := []) (stk := []) (pc' := 115) rfl rfl rfl rfl rfl rfl rfl rfl rfl (gv_zR (gv_zR (gv_zR gv_z0))) rfl (gv_aR (gv_aR (gv_aR gv_a0))) (by omega) qi24 (cR_readBuffer_ok qv25) rfl rfl ?_
    refine gv_goto (pc' := 128) rfl rfl ?_
    exact gv_weak (cR_readObject_128_ok hD hW e) (gv_S1 rfl (gv_S1 rfl gv_S0))
  rw [if_neg c23] at e
  refine gv_sw (pc' := 118) (off := 97) rfl (gv_tabd (gv_N1 c7 (gv_N1 c11 (gv_N1 c15 (gv_N1 c19 (gv_N1 c23 gv_N0))))) (by decide)) rfl ?_
  refine gv_rld (pc' := 120) rfl rfl rfl ?_
  refine gv_rldn (pc' := 121) rfl rfl rfl ?_
  refine gv_rldn (pc' := 122) rfl rfl rfl ?_
  obtain ⟨i27, qi27, e⟩ := gv_bind e
  obtain ⟨⟨v28, h29⟩, qv28, e⟩ := gv_bind e
  refine gv_vS (jc := 106) (n := 1) (rest := [gv_u v3]) (stk := [.long v28, gv_u v3]) (pc' := 125) rfl rfl rfl rfl rfl rfl rfl rfl rfl (gv_zR (gv_zR gv_z0)) rfl (gv_aR (gv_aR gv_a0)) (by omega) qi27 (cR_nextZigzag_ok qv28) rfl rfl ?_
  obtain ⟨h31, qh31, e⟩ := gv_bind e
  refine gv_pJ (pc' := 128) rfl rfl rfl qh31 rfl ?_
  exact gv_weak (cR_readObject_128_ok hD hW e) (gv_S1 rfl (gv_S1 rfl gv_S0))
def cR_readValue_11 (W : Option Nat → Option Nat → Option Nat → Int32 → gx_H → Option gx_H) (l0 : Option Nat) (l1 : Option Nat) (l2 : Option Nat) (l3 : Int32) (h : gx_H) : Option gx_H :=
  (gv_is h l0 6).bind fun i1 =>
  (cR_nextUpTo l0 l2 (14 : Int32) h).bind fun r4 =>
  (gv_gI r4.2 l0 6 1).bind fun v5 =>
  if v5 = 0 then (
    if r4.1 = (4 : Int32) then (
      (gv_is r4.2 l0 6).bind fun i8 =>
      (cR_nextInt l0 l2 r4.2).bind fun r11 =>
      (gv_is r11.2 l0 6).bind fun i12 =>
      (cR_settle l0 (4 : Int32) r11.1 r11.2).bind fun h14 =>
      some h14) else
    if r4.1 = (5 : Int32) then (
      (gv_is r4.2 l0 6).bind fun i16 =>
      (cR_readText l0 l2 r4.2).bind fun h18 =>
      some h18) else
    if r4.1 = (6 : Int32) then (
      (gv_gI r4.2 l0 6 6).bind fun v20 =>
      (gv_gI r4.2 l1 1 1).bind fun v21 =>
      (gv_gI r4.2 l0 6 6).bind fun v22 =>
      (gv_is r4.2 l0 6).bind fun i23 =>
      (cR_readPlace l0 l2 v20 (v21 - v22) r4.2).bind fun h25 =>
      some h25) else
    if r4.1 = (7 : Int32) then (
      (gv_gI r4.2 l0 6 4).bind fun v27 =>
      (gv_gI r4.2 l0 6 5).bind fun v28 =>
      (gv_is r4.2 l0 6).bind fun i29 =>
      (cR_readPlace l0 l2 v27 v28 r4.2).bind fun h31 =>
      some h31) else
    if r4.1 = (13 : Int32) then (
      (gv_is r4.2 l0 6).bind fun i33 =>
      (cR_readView W l0 l1 l2 l3 r4.2).bind fun h35 =>
      some h35) else
    if (3 : Int32) < r4.1 then (
      (gv_is r4.2 l0 6).bind fun i37 =>
      (cR_readObject W l0 l1 l2 (r4.1 - (8 : Int32)) l3 r4.2).bind fun h39 =>
      some h39) else
    (gv_is r4.2 l0 6).bind fun i40 =>
    (cR_settle l0 r4.1 (0 : Int32) r4.2).bind fun h42 =>
    some h42) else
  some r4.2
theorem cR_readValue_11_ok {xs : Option (List Int32)} {D : Nat} (hD : 12 ≤ D) {W : Option Nat → Option Nat → Option Nat → Int32 → gx_H → Option gx_H} (hW : ∀ (l0 : Option Nat) (l1 : Option Nat) (l2 : Option Nat) (l3 : Int32) (h : gx_H) (r : gx_H), W l0 l1 l2 l3 h = some r → gv_V xs D 103 0 [(0, gv_u l0), (1, gv_u l1), (2, gv_u l2), (3, .int l3)] [] h (.returned none) r) {l0 : Option Nat} {l1 : Option Nat} {l2 : Option Nat} {l3 : Int32} {h : gx_H} {r : gx_H} (e : cR_readValue_11 W l0 l1 l2 l3 h = some r) : gv_V xs (D + 3) 103 11 [(0, gv_u l0), (1, gv_u l1), (2, gv_u l2), (3, .int l3)] [] h (.returned none) r := by
  unfold cR_readValue_11 at e
  refine gv_rldn (pc' := 12) rfl rfl rfl ?_
  refine gv_rldn (pc' := 13) rfl rfl rfl ?_
  refine gv_bp (pc' := 15) (x := 14) rfl rfl rfl ?_
  obtain ⟨i1, qi1, e⟩ := gv_bind e
  obtain ⟨⟨v2, h3⟩, qv2, e⟩ := gv_bind e
  refine gv_vS (jc := 104) (n := 2) (rest := []) (stk := [.int v2]) (pc' := 18) rfl rfl rfl rfl rfl rfl rfl rfl rfl (gv_zR (gv_zR (gv_zI gv_z0))) rfl (gv_aR (gv_aR (gv_aI gv_a0))) (by omega) qi1 (cR_nextUpTo_ok qv2) rfl rfl ?_
  refine gv_ist (pc' := 20) rfl rfl (gv_Ci rfl) rfl ?_
  refine gv_rldn (pc' := 21) rfl rfl rfl ?_
  obtain ⟨v5, qv5, e⟩ := gv_bind e
  refine gv_fI (pc' := 24) rfl rfl qv5 rfl ?_
  by_cases c6 : v5 = 0
  · rw [if_pos c6] at e
    refine gv_ifT (pc' := 28) rfl (gv_eqT c6) rfl ?_
    refine gv_ild (pc' := 30) rfl rfl rfl ?_
    by_cases c7 : v2 = (4 : Int32)
    · rw [if_pos c7] at e
      refine gv_sw (pc' := 84) (off := 54) rfl (by rw [c7]; rfl) rfl ?_
      refine gv_rldn (pc' := 85) rfl rfl rfl ?_
      refine gv_ic (pc' := 86) (x := 4) rfl rfl rfl ?_
      refine gv_rldn (pc' := 87) rfl rfl rfl ?_
      refine gv_rldn (pc' := 88) rfl rfl rfl ?_
      obtain ⟨i8, qi8, e⟩ := gv_bind e
      obtain ⟨⟨v9, h10⟩, qv9, e⟩ := gv_bind e
      refine gv_vS (jc := 105) (n := 1) (rest := [.int (4 : Int32), gv_u l0]) (stk := [.int v9, .int (4 : Int32), gv_u l0]) (pc' := 91) rfl rfl rfl rfl rfl rfl rfl rfl rfl (gv_zR (gv_zR gv_z0)) rfl (gv_aR (gv_aR gv_a0)) (by omega) qi8 (cR_nextInt_ok qv9) rfl rfl ?_
      obtain ⟨i12, qi12, e⟩ := gv_bind e
      obtain ⟨h14, qv13, e⟩ := gv_bind e
      refine gv_vS (jc := 108) (n := 2) (rest := []) (stk := []) (pc' := 94) rfl rfl rfl rfl rfl rfl rfl rfl rfl (gv_zR (gv_zI (gv_zI gv_z0))) rfl (gv_aR (gv_aI (gv_aI gv_a0))) (by omega) qi12 (cR_settle_ok qv13) rfl rfl ?_
      refine gv_goto (pc' := 180) rfl rfl ?_
      cases e
      exact gv_retV rfl rfl
    rw [if_neg c7] at e
    by_cases c15 : v2 = (5 : Int32)
    · rw [if_pos c15] at e
      refine gv_sw (pc' := 97) (off := 67) rfl (by rw [c15]; rfl) rfl ?_
      refine gv_rldn (pc' := 98) rfl rfl rfl ?_
      refine gv_rldn (pc' := 99) rfl rfl rfl ?_
      obtain ⟨i16, qi16, e⟩ := gv_bind e
      obtain ⟨h18, qv17, e⟩ := gv_bind e
      refine gv_vS (jc := 109) (n := 1) (rest := []) (stk := []) (pc' := 102) rfl rfl rfl rfl rfl rfl rfl rfl rfl (gv_zR (gv_zR gv_z0)) rfl (gv_aR (gv_aR gv_a0)) (by omega) qi16 (cR_readText_ok qv17) rfl rfl ?_
      refine gv_goto (pc' := 180) rfl rfl ?_
      cases e
      exact gv_retV rfl rfl
    rw [if_neg c15] at e
    by_cases c19 : v2 = (6 : Int32)
    · rw [if_pos c19] at e
      refine gv_sw (pc' := 105) (off := 75) rfl (by rw [c19]; rfl) rfl ?_
      refine gv_rldn (pc' := 106) rfl rfl rfl ?_
      refine gv_rldn (pc' := 107) rfl rfl rfl ?_
      refine gv_rldn (pc' := 108) rfl rfl rfl ?_
      obtain ⟨v20, qv20, e⟩ := gv_bind e
      refine gv_fI (pc' := 111) rfl rfl qv20 rfl ?_
      refine gv_rldn (pc' := 112) rfl rfl rfl ?_
      obtain ⟨v21, qv21, e⟩ := gv_bind e
      refine gv_fI (pc' := 115) rfl rfl qv21 rfl ?_
      refine gv_rldn (pc' := 116) rfl rfl rfl ?_
      obtain ⟨v22, qv22, e⟩ := gv_bind e
      refine gv_fI (pc' := 119) rfl rfl qv22 rfl ?_
      refine gv_isub (pc' := 120) rfl rfl ?_
      obtain ⟨i23, qi23, e⟩ := gv_bind e
      obtain ⟨h25, qv24, e⟩ := gv_bind e
      refine gv_vS (jc := 111) (n := 3) (rest := []) (stk := []) (pc' := 123) rfl rfl rfl rfl rfl rfl rfl rfl rfl (gv_zR (gv_zR (gv_zI (gv_zI gv_z0)))) rfl (gv_aR (gv_aR (gv_aI (gv_aI gv_a0)))) (by omega) qi23 (cR_readPlace_ok qv24) rfl rfl ?_
      refine gv_goto (pc' := 180) rfl rfl ?_
      cases e
      exact gv_retV rfl rfl
    rw [if_neg c19] at e
    by_cases c26 : v2 = (7 : Int32)
    · rw [if_pos c26] at e
      refine gv_sw (pc' := 126) (off := 96) rfl (by rw [c26]; rfl) rfl ?_
      refine gv_rldn (pc' := 127) rfl rfl rfl ?_
      refine gv_rldn (pc' := 128) rfl rfl rfl ?_
      refine gv_rldn (pc' := 129) rfl rfl rfl ?_
      obtain ⟨v27, qv27, e⟩ := gv_bind e
      refine gv_fI (pc' := 132) rfl rfl qv27 rfl ?_
      refine gv_rldn (pc' := 133) rfl rfl rfl ?_
      obtain ⟨v28, qv28, e⟩ := gv_bind e
      refine gv_fI (pc' := 136) rfl rfl qv28 rfl ?_
      obtain ⟨i29, qi29, e⟩ := gv_bind e
      obtain ⟨h31, qv30, e⟩ := gv_bind e
      refine gv_vS (jc := 111) (n := 3) (rest := []) (stk := []) (pc' := 139) rfl rfl rfl rfl rfl rfl rfl rfl rfl (gv_zR (gv_zR (gv_zI (gv_zI gv_z0)))) rfl (gv_aR (gv_aR (gv_aI (gv_aI gv_a0)))) (by omega) qi29 (cR_readPlace_ok qv30) rfl rfl ?_
      refine gv_goto (pc' := 180) rfl rfl ?_
      cases e
      exact gv_retV rfl rfl
    rw [if_neg c26] at e
    by_cases c32 : v2 = (13 : Int32)
    · rw [if_pos c32] at e
      refine gv_sw (pc' := 142) (off := 112) rfl (by rw [c32]; rfl) rfl ?_
      refine gv_rldn (pc' := 143) rfl rfl rfl ?_
      refine gv_rldn (pc' := 144) rfl rfl rfl ?_
      refine gv_rldn (pc' := 145) rfl rfl rfl ?_
      refine gv_ildn (pc' := 146) rfl rfl rfl ?_
      obtain ⟨i33, qi33, e⟩ := gv_bind e
      obtain ⟨h35, qv34, e⟩ := gv_bind e
      refine gv_vS (jc := 112) (n := 3) (rest := []) (stk := []) (pc' := 149) rfl rfl rfl rfl rfl rfl rfl rfl rfl (gv_zR (gv_zR (gv_zR (gv_zI gv_z0)))) rfl (gv_aR (gv_aR (gv_aR (gv_aI gv_a0)))) (by omega) qi33 (cR_readView_ok hD hW qv34) rfl rfl ?_
      refine gv_goto (pc' := 180) rfl rfl ?_
      cases e
      exact gv_retV rfl rfl
    rw [if_neg c32] at e
    refine gv_sw (pc' := 152) (off := 122) rfl (gv_tabd (gv_N1 c7 (gv_N1 c15 (gv_N1 c19 (gv_N1 c26 (gv_N1 c32 gv_N0))))) (by decide)) rfl ?_
    refine gv_ild (pc' := 154) rfl rfl rfl ?_
    refine gv_ic (pc' := 155) (x := 3) rfl rfl rfl ?_
    by_cases c36 : (3 : Int32) < v2
    · rw [if_pos c36] at e
      refine gv_cmT (pc' := 168) rfl (gv_gtT2 c36) rfl ?_
      refine gv_rldn (pc' := 169) rfl rfl rfl ?_
      refine gv_rldn (pc' := 170) rfl rfl rfl ?_
      refine gv_rldn (pc' := 171) rfl rfl rfl ?_
      refine gv_ild (pc' := 173) rfl rfl rfl ?_
      refine gv_bp (pc' := 175) (x := 8) rfl rfl rfl ?_
      refine gv_isub (pc' := 176) rfl rfl ?_
      refine gv_ildn (pc' := 177) rfl rfl rfl ?_
      obtain ⟨i37, qi37, e⟩ := gv_bind e
      obtain ⟨h39, qv38, e⟩ := gv_bind e
      refine gv_vS (jc := 113) (n := 4) (rest := []) (stk := []) (pc' := 180) rfl rfl rfl rfl rfl rfl rfl rfl rfl (gv_zR (gv_zR (gv_zR (gv_zI (gv_zI gv_z0))))) rfl (gv_aR (gv_aR (gv_aR (gv_aI (gv_aI gv_a0))))) (by omega) qi37 (cR_readObject_ok hD hW qv38) rfl rfl ?_
      cases e
      exact gv_retV rfl rfl
    rw [if_neg c36] at e
    refine gv_cmF (pc' := 158) rfl (gv_gtF2 c36) rfl rfl ?_
    refine gv_rldn (pc' := 159) rfl rfl rfl ?_
    refine gv_ild (pc' := 161) rfl rfl rfl ?_
    refine gv_ic (pc' := 162) (x := 0) rfl rfl rfl ?_
    obtain ⟨i40, qi40, e⟩ := gv_bind e
    obtain ⟨h42, qv41, e⟩ := gv_bind e
    refine gv_vS (jc := 108) (n := 2) (rest := []) (stk := []) (pc' := 165) rfl rfl rfl rfl rfl rfl rfl rfl rfl (gv_zR (gv_zI (gv_zI gv_z0))) rfl (gv_aR (gv_aI (gv_aI gv_a0))) (by omega) qi40 (cR_settle_ok qv41) rfl rfl ?_
    refine gv_goto (pc' := 180) rfl rfl ?_
    cases e
    exact gv_retV rfl rfl
  rw [if_neg c6] at e
  refine gv_ifF (pc' := 27) rfl (gv_eqF c6) rfl rfl ?_
  cases e
  exact gv_retV rfl rfl
def cR_readValue : Nat → Option Nat → Option Nat → Option Nat → Int32 → gx_H → Option gx_H
  | 0, _, _, _, _, _ => none
  | n + 1, l0, l1, l2, l3, h =>
    if (12 : Int32) < l3 then (
      (gv_pV h l0 6 1 (.int (1 : Int32))).bind fun h2 =>
      cR_readValue_11 (cR_readValue n) l0 l1 l2 l3 h2) else
    cR_readValue_11 (cR_readValue n) l0 l1 l2 l3 h
theorem cR_readValue_ok {xs : Option (List Int32)} : ∀ (n : Nat) (l0 : Option Nat) (l1 : Option Nat) (l2 : Option Nat) (l3 : Int32) (h : gx_H) (r : gx_H), cR_readValue n l0 l1 l2 l3 h = some r → gv_V xs (12 + 3 * n) 103 0 [(0, gv_u l0), (1, gv_u l1), (2, gv_u l2), (3, .int l3)] [] h (.returned none) r := by
  intro n
  induction n with
  | zero => intro l0 l1 l2 l3 h r e; cases e
  | succ n hW =>
    intro l0 l1 l2 l3 h r e
    have hD : 12 ≤ 12 + 3 * n := by omega
    have hK : 12 + 3 * (n + 1) = 12 + 3 * n + 3 := by omega
    rw [hK]
    rw [cR_readValue] at e
    refine gv_ildn (pc' := 1) rfl rfl rfl ?_
    refine gv_bp (pc' := 3) (x := 12) rfl rfl rfl ?_
    by_cases c1 : (12 : Int32) < l3
    · rw [if_pos c1] at e
      refine gv_cmF (pc' := 6) rfl (gv_leF2 c1) rfl rfl ?_
      refine gv_rldn (pc' := 7) rfl rfl rfl ?_
      refine gv_ic (pc' := 8) (x := 1) rfl rfl rfl ?_
      obtain ⟨h2, qh2, e⟩ := gv_bind e
      refine gv_pZ (pc' := 11) rfl rfl rfl (by decide) qh2 rfl ?_
      exact gv_weak (cR_readValue_11_ok hD hW e) (gv_S1 rfl (gv_S1 rfl (gv_S1 rfl (gv_S1 rfl gv_S0))))
    rw [if_neg c1] at e
    refine gv_cmT (pc' := 11) rfl (gv_leT2 c1) rfl ?_
    exact gv_weak (cR_readValue_11_ok hD hW e) (gv_S1 rfl (gv_S1 rfl (gv_S1 rfl (gv_S1 rfl gv_S0))))
def cR_run_73 (l0 : Option Nat) (h : gx_H) : Option (Int32 × gx_H) :=
  (gv_gI h l0 6 1).bind fun v1 =>
  if v1 = 0 then (
    some ((1 : Int32), h)) else
  some ((0 : Int32), h)
theorem cR_run_73_ok {xs : Option (List Int32)} {l0 : Option Nat} {h : gx_H} {r : (Int32 × gx_H)} (e : cR_run_73 l0 h = some r) : gv_V xs 73 99 73 [(0, gv_u l0)] [] h (.returned (some (.int r.1))) r.2 := by
  unfold cR_run_73 at e
  refine gv_rldn (pc' := 74) rfl rfl rfl ?_
  obtain ⟨v1, qv1, e⟩ := gv_bind e
  refine gv_fI (pc' := 77) rfl rfl qv1 rfl ?_
  by_cases c2 : v1 = 0
  · rw [if_pos c2] at e
    refine gv_ifF (pc' := 80) rfl (gv_neF c2) rfl rfl ?_
    refine gv_ic (pc' := 81) (x := 1) rfl rfl rfl ?_
    refine gv_goto (pc' := 85) rfl rfl ?_
    cases e
    exact gv_retZ rfl rfl (by decide)
  rw [if_neg c2] at e
  refine gv_ifT (pc' := 84) rfl (gv_neT c2) rfl ?_
  refine gv_ic (pc' := 85) (x := 0) rfl rfl rfl ?_
  cases e
  exact gv_retZ rfl rfl (by decide)
def cR_run_60 (l0 : Option Nat) (l1 : Option Nat) (l4 : Int32) (h : gx_H) : Option (Int32 × gx_H) :=
  (gv_gI h l0 6 1).bind fun v1 =>
  if v1 = 0 then (
    cR_run_73 l0 h) else
  (gv_pV h l1 1 1 (.int l4)).bind fun h3 =>
  cR_run_73 l0 h3
theorem cR_run_60_ok {xs : Option (List Int32)} {l0 : Option Nat} {l1 : Option Nat} {l4 : Int32} {h : gx_H} {r : (Int32 × gx_H)} (e : cR_run_60 l0 l1 l4 h = some r) : gv_V xs 73 99 60 [(0, gv_u l0), (1, gv_u l1), (4, .int l4)] [] h (.returned (some (.int r.1))) r.2 := by
  unfold cR_run_60 at e
  refine gv_rldn (pc' := 61) rfl rfl rfl ?_
  obtain ⟨v1, qv1, e⟩ := gv_bind e
  refine gv_fI (pc' := 64) rfl rfl qv1 rfl ?_
  by_cases c2 : v1 = 0
  · rw [if_pos c2] at e
    refine gv_ifT (pc' := 73) rfl (gv_eqT c2) rfl ?_
    exact gv_weak (cR_run_73_ok e) (gv_S1 rfl gv_S0)
  rw [if_neg c2] at e
  refine gv_ifF (pc' := 67) rfl (gv_eqF c2) rfl rfl ?_
  refine gv_rldn (pc' := 68) rfl rfl rfl ?_
  refine gv_ild (pc' := 70) rfl rfl rfl ?_
  obtain ⟨h3, qh3, e⟩ := gv_bind e
  refine gv_pI (pc' := 73) rfl rfl rfl qh3 rfl ?_
  exact gv_weak (cR_run_73_ok e) (gv_S1 rfl gv_S0)
def cR_run_37 (l0 : Option Nat) (l1 : Option Nat) (l2 : Option Nat) (l4 : Int32) (h : gx_H) : Option (Int32 × gx_H) :=
  (gv_is h l0 6).bind fun i1 =>
  (cR_readValue 20 l0 l1 l2 (1 : Int32) h).bind fun h3 =>
  (gv_gI h3 l0 6 0).bind fun v4 =>
  (gv_gI h3 l2 3 1).bind fun v5 =>
  if v4 = v5 then (
    cR_run_60 l0 l1 l4 h3) else
  (gv_pV h3 l0 6 1 (.int (1 : Int32))).bind fun h7 =>
  cR_run_60 l0 l1 l4 h7
theorem cR_run_37_ok {xs : Option (List Int32)} {l0 : Option Nat} {l1 : Option Nat} {l2 : Option Nat} {l4 : Int32} {h : gx_H} {r : (Int32 × gx_H)} (e : cR_run_37 l0 l1 l2 l4 h = some r) : gv_V xs 73 99 37 [(0, gv_u l0), (1, gv_u l1), (2, gv_u l2), (4, .int l4)] [] h (.returned (some (.int r.1))) r.2 := by
  unfold cR_run_37 at e
  refine gv_rldn (pc' := 38) rfl rfl rfl ?_
  refine gv_rldn (pc' := 39) rfl rfl rfl ?_
  refine gv_rldn (pc' := 40) rfl rfl rfl ?_
  refine gv_ic (pc' := 41) (x := 1) rfl rfl rfl ?_
  obtain ⟨i1, qi1, e⟩ := gv_bind e
  obtain ⟨h3, qv2, e⟩ := gv_bind e
  refine gv_vS (jc := 103) (n := 3) (rest := []) (stk := []) (pc' := 44) rfl rfl rfl rfl rfl rfl rfl rfl rfl (gv_zR (gv_zR (gv_zR (gv_zI gv_z0)))) rfl (gv_aR (gv_aR (gv_aR (gv_aI gv_a0)))) (by omega) qi1 (cR_readValue_ok 20 _ _ _ _ _ _ qv2) rfl rfl ?_
  refine gv_rldn (pc' := 45) rfl rfl rfl ?_
  obtain ⟨v4, qv4, e⟩ := gv_bind e
  refine gv_fI (pc' := 48) rfl rfl qv4 rfl ?_
  refine gv_rldn (pc' := 49) rfl rfl rfl ?_
  obtain ⟨v5, qv5, e⟩ := gv_bind e
  refine gv_fI (pc' := 52) rfl rfl qv5 rfl ?_
  by_cases c6 : v4 = v5
  · rw [if_pos c6] at e
    refine gv_cmT (pc' := 60) rfl (gv_eqT2 c6) rfl ?_
    exact gv_weak (cR_run_60_ok e) (gv_S1 rfl (gv_S1 rfl (gv_S1 rfl gv_S0)))
  rw [if_neg c6] at e
  refine gv_cmF (pc' := 55) rfl (gv_eqF2 c6) rfl rfl ?_
  refine gv_rldn (pc' := 56) rfl rfl rfl ?_
  refine gv_ic (pc' := 57) (x := 1) rfl rfl rfl ?_
  obtain ⟨h7, qh7, e⟩ := gv_bind e
  refine gv_pZ (pc' := 60) rfl rfl rfl (by decide) qh7 rfl ?_
  exact gv_weak (cR_run_60_ok e) (gv_S1 rfl (gv_S1 rfl (gv_S1 rfl gv_S0)))
def cR_run (l0 : Option Nat) (l1 : Option Nat) (l2 : Option Nat) (l3 : Option Nat) (h : gx_H) : Option (Int32 × gx_H) :=
  (gv_gI h l1 1 1).bind fun v1 =>
  (gv_pV h l0 6 0 (.int (0 : Int32))).bind fun h2 =>
  (gv_pV h2 l0 6 1 (.int (0 : Int32))).bind fun h3 =>
  (gv_is h3 l0 6).bind fun i4 =>
  (cR_makeHanded l0 l1 l3 h3).bind fun h6 =>
  (gv_is h6 l0 6).bind fun i7 =>
  (cR_nextByte l0 l2 h6).bind fun r10 =>
  if r10.1 = (15 : Int32) then (
    cR_run_37 l0 l1 l2 v1 r10.2) else
  (gv_pV r10.2 l0 6 1 (.int (1 : Int32))).bind fun h12 =>
  cR_run_37 l0 l1 l2 v1 h12
theorem cR_run_ok {xs : Option (List Int32)} {l0 : Option Nat} {l1 : Option Nat} {l2 : Option Nat} {l3 : Option Nat} {h : gx_H} {r : (Int32 × gx_H)} (e : cR_run l0 l1 l2 l3 h = some r) : gv_V xs 73 99 0 [(0, gv_u l0), (1, gv_u l1), (2, gv_u l2), (3, gv_u l3)] [] h (.returned (some (.int r.1))) r.2 := by
  unfold cR_run at e
  refine gv_rldn (pc' := 1) rfl rfl rfl ?_
  obtain ⟨v1, qv1, e⟩ := gv_bind e
  refine gv_fI (pc' := 4) rfl rfl qv1 rfl ?_
  refine gv_ist (pc' := 6) rfl rfl (gv_Cr rfl) rfl ?_
  refine gv_rldn (pc' := 7) rfl rfl rfl ?_
  refine gv_ic (pc' := 8) (x := 0) rfl rfl rfl ?_
  obtain ⟨h2, qh2, e⟩ := gv_bind e
  refine gv_pI (pc' := 11) rfl rfl rfl qh2 rfl ?_
  refine gv_rldn (pc' := 12) rfl rfl rfl ?_
  refine gv_ic (pc' := 13) (x := 0) rfl rfl rfl ?_
  obtain ⟨h3, qh3, e⟩ := gv_bind e
  refine gv_pZ (pc' := 16) rfl rfl rfl (by decide) qh3 rfl ?_
  refine gv_rldn (pc' := 17) rfl rfl rfl ?_
  refine gv_rldn (pc' := 18) rfl rfl rfl ?_
  refine gv_rldn (pc' := 19) rfl rfl rfl ?_
  obtain ⟨i4, qi4, e⟩ := gv_bind e
  obtain ⟨h6, qv5, e⟩ := gv_bind e
  refine gv_vS (jc := 100) (n := 2) (rest := []) (stk := []) (pc' := 22) rfl rfl rfl rfl rfl rfl rfl rfl rfl (gv_zR (gv_zR (gv_zR gv_z0))) rfl (gv_aR (gv_aR (gv_aR gv_a0))) (Nat.le_of_ble_eq_true rfl) qi4 (cR_makeHanded_ok qv5) rfl rfl ?_
  refine gv_rldn (pc' := 23) rfl rfl rfl ?_
  refine gv_rldn (pc' := 24) rfl rfl rfl ?_
  obtain ⟨i7, qi7, e⟩ := gv_bind e
  obtain ⟨⟨v8, h9⟩, qv8, e⟩ := gv_bind e
  refine gv_vS (jc := 102) (n := 1) (rest := []) (stk := [.int v8]) (pc' := 27) rfl rfl rfl rfl rfl rfl rfl rfl rfl (gv_zR (gv_zR gv_z0)) rfl (gv_aR (gv_aR gv_a0)) (Nat.le_of_ble_eq_true rfl) qi7 (cR_nextByte_ok qv8) rfl rfl ?_
  refine gv_bp (pc' := 29) (x := 15) rfl rfl rfl ?_
  by_cases c11 : v8 = (15 : Int32)
  · rw [if_pos c11] at e
    refine gv_cmT (pc' := 37) rfl (gv_eqT2 c11) rfl ?_
    exact gv_weak (cR_run_37_ok e) (gv_S1 rfl (gv_S1 rfl (gv_S1 rfl (gv_S1 rfl gv_S0))))
  rw [if_neg c11] at e
  refine gv_cmF (pc' := 32) rfl (gv_eqF2 c11) rfl rfl ?_
  refine gv_rldn (pc' := 33) rfl rfl rfl ?_
  refine gv_ic (pc' := 34) (x := 1) rfl rfl rfl ?_
  obtain ⟨h12, qh12, e⟩ := gv_bind e
  refine gv_pZ (pc' := 37) rfl rfl rfl (by decide) qh12 rfl ?_
  exact gv_weak (cR_run_37_ok e) (gv_S1 rfl (gv_S1 rfl (gv_S1 rfl (gv_S1 rfl gv_S0))))
