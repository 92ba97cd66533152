/-! by program: the methods as functions, and that the small machine does what they say -/
def cG_detach (l0 : Option Nat) (l1 : Int32) (h : gx_H) : Option (Int32 × gx_H) :=
  (gv_gR h l0 0 0).bind fun v1 =>
  (gv_is h v1 1).bind fun i2 =>
  (cS_detachBuffer v1 l1 h).bind fun r5 =>
  if ¬ (r5.1 = 0 ∨ r5.1 = 1) then none else
  some (r5.1, r5.2)
theorem cG_detach_ok {xs : Option (List Int32)} {l0 : Option Nat} {l1 : Int32} {h : gx_H} {r : (Int32 × gx_H)} (e : cG_detach l0 l1 h = some r) : gv_V xs 3 7 0 [(0, gv_u l0), (1, .int l1)] [] h (.returned (some (.int r.1))) r.2 := by
  unfold cG_detach at e
  refine gv_rldn (pc' := 1) rfl rfl rfl ?_
  obtain ⟨v1, qv1, e⟩ := gv_bind e
  refine gv_fR (pc' := 4) rfl rfl qv1 rfl ?_
  refine gv_ildn (pc' := 5) rfl rfl rfl ?_
  obtain ⟨i2, qi2, e⟩ := gv_bind e
  obtain ⟨⟨v3, h4⟩, qv3, e⟩ := gv_bind e
  refine gv_vS (jc := 8) (n := 1) (rest := []) (stk := [.int v3]) (pc' := 8) rfl rfl rfl rfl rfl rfl rfl rfl rfl (gv_zR (gv_zI gv_z0)) rfl (gv_aR (gv_aI gv_a0)) (Nat.le_of_ble_eq_true rfl) qi2 (cS_detachBuffer_ok qv3) rfl rfl ?_
  by_cases c6 : ¬ (v3 = 0 ∨ v3 = 1)
  · rw [if_pos c6] at e; cases e
  rw [if_neg c6] at e
  cases e
  exact gv_retZ rfl rfl (Decidable.of_not_not c6)
def cG_clear (l0 : Option Nat) (h : gx_H) : Option (Int32 × gx_H) :=
  (gv_gR h l0 0 0).bind fun v1 =>
  (gv_gI h v1 1 1).bind fun v2 =>
  (gv_gR h l0 0 0).bind fun v3 =>
  (gv_pV h v3 1 1 (.int (0 : Int32))).bind fun h4 =>
  (gv_gR h4 l0 0 2).bind fun v5 =>
  (gv_pV h4 v5 4 1 (.int (0 : Int32))).bind fun h6 =>
  (gv_gR h6 l0 0 2).bind fun v7 =>
  (gv_pV h6 v7 4 4 (.int (0 : Int32))).bind fun h8 =>
  some (v2, h8)
theorem cG_clear_ok {xs : Option (List Int32)} {l0 : Option Nat} {h : gx_H} {r : (Int32 × gx_H)} (e : cG_clear l0 h = some r) : gv_V xs 0 11 0 [(0, gv_u l0)] [] h (.returned (some (.int r.1))) r.2 := by
  unfold cG_clear at e
  refine gv_rldn (pc' := 1) rfl rfl rfl ?_
  obtain ⟨v1, qv1, e⟩ := gv_bind e
  refine gv_fR (pc' := 4) rfl rfl qv1 rfl ?_
  obtain ⟨v2, qv2, e⟩ := gv_bind e
  refine gv_fI (pc' := 7) rfl rfl qv2 rfl ?_
  refine gv_istn (pc' := 8) rfl rfl (gv_Cr rfl) rfl ?_
  refine gv_rldn (pc' := 9) rfl rfl rfl ?_
  obtain ⟨v3, qv3, e⟩ := gv_bind e
  refine gv_fR (pc' := 12) rfl rfl qv3 rfl ?_
  refine gv_ic (pc' := 13) (x := 0) rfl rfl rfl ?_
  obtain ⟨h4, qh4, e⟩ := gv_bind e
  refine gv_pI (pc' := 16) rfl rfl rfl qh4 rfl ?_
  refine gv_rldn (pc' := 17) rfl rfl rfl ?_
  obtain ⟨v5, qv5, e⟩ := gv_bind e
  refine gv_fR (pc' := 20) rfl rfl qv5 rfl ?_
  refine gv_ic (pc' := 21) (x := 0) rfl rfl rfl ?_
  obtain ⟨h6, qh6, e⟩ := gv_bind e
  refine gv_pI (pc' := 24) rfl rfl rfl qh6 rfl ?_
  refine gv_rldn (pc' := 25) rfl rfl rfl ?_
  obtain ⟨v7, qv7, e⟩ := gv_bind e
  refine gv_fR (pc' := 28) rfl rfl qv7 rfl ?_
  refine gv_ic (pc' := 29) (x := 0) rfl rfl rfl ?_
  obtain ⟨h8, qh8, e⟩ := gv_bind e
  refine gv_pI (pc' := 32) rfl rfl rfl qh8 rfl ?_
  refine gv_ildn (pc' := 33) rfl rfl rfl ?_
  cases e
  exact gv_retI rfl rfl
def cG_objects (l0 : Option Nat) (h : gx_H) : Option Int32 :=
  (gv_gR h l0 0 0).bind fun v1 =>
  (gv_gI h v1 1 1).bind fun v2 =>
  some v2
theorem cG_objects_ok {xs : Option (List Int32)} {l0 : Option Nat} {h : gx_H} {r : Int32} (e : cG_objects l0 h = some r) : gv_V xs 0 12 0 [(0, gv_u l0)] [] h (.returned (some (.int r))) h := by
  unfold cG_objects at e
  refine gv_rldn (pc' := 1) rfl rfl rfl ?_
  obtain ⟨v1, qv1, e⟩ := gv_bind e
  refine gv_fR (pc' := 4) rfl rfl qv1 rfl ?_
  obtain ⟨v2, qv2, e⟩ := gv_bind e
  refine gv_fI (pc' := 7) rfl rfl qv2 rfl ?_
  cases e
  exact gv_retI rfl rfl
def cG_type (l0 : Option Nat) (l1 : Int32) (h : gx_H) : Option Int32 :=
  (gv_gR h l0 0 0).bind fun v1 =>
  (gv_is h v1 1).bind fun i2 =>
  (cS_thingAt v1 l1 h).bind fun v3 =>
  if v3 = none then (
    some (-1 : Int32)) else
  (gv_gI h v3 2 4).bind fun v5 =>
  some v5
theorem cG_type_ok {xs : Option (List Int32)} {l0 : Option Nat} {l1 : Int32} {h : gx_H} {r : Int32} (e : cG_type l0 l1 h = some r) : gv_V xs 1 13 0 [(0, gv_u l0), (1, .int l1)] [] h (.returned (some (.int r))) h := by
  unfold cG_type at e
  refine gv_rldn (pc' := 1) rfl rfl rfl ?_
  obtain ⟨v1, qv1, e⟩ := gv_bind e
  refine gv_fR (pc' := 4) rfl rfl qv1 rfl ?_
  refine gv_ildn (pc' := 5) rfl rfl rfl ?_
  obtain ⟨i2, qi2, e⟩ := gv_bind e
  obtain ⟨v3, qv3, e⟩ := gv_bind e
  refine gv_vS (jc := 10) (n := 1) (rest := []) (stk := [gv_u v3]) (pc' := 8) rfl rfl rfl rfl rfl rfl rfl rfl rfl (gv_zR (gv_zI gv_z0)) rfl (gv_aR (gv_aI gv_a0)) (Nat.le_of_ble_eq_true rfl) qi2 (cS_thingAt_ok qv3) rfl rfl ?_
  refine gv_rstn (pc' := 9) rfl rfl (gv_Ci rfl) rfl ?_
  refine gv_rldn (pc' := 10) rfl rfl rfl ?_
  by_cases c4 : v3 = none
  · rw [if_pos c4] at e
    refine gv_nnF (pc' := 13) rfl c4 rfl ?_
    refine gv_ic (pc' := 14) (x := -1) rfl rfl rfl ?_
    refine gv_goto (pc' := 21) rfl rfl ?_
    cases e
    exact gv_retI rfl rfl
  rw [if_neg c4] at e
  refine gv_nnT (pc' := 17) rfl c4 rfl ?_
  refine gv_rldn (pc' := 18) rfl rfl rfl ?_
  obtain ⟨v5, qv5, e⟩ := gv_bind e
  refine gv_fI (pc' := 21) rfl rfl qv5 rfl ?_
  cases e
  exact gv_retI rfl rfl
def cG_size (l0 : Option Nat) (l1 : Int32) (h : gx_H) : Option Int32 :=
  (gv_gR h l0 0 0).bind fun v1 =>
  (gv_is h v1 1).bind fun i2 =>
  (cS_thingAt v1 l1 h).bind fun v3 =>
  if v3 = none then (
    some (-1 : Int32)) else
  (gv_gI h v3 2 4).bind fun v5 =>
  if v5 = (6 : Int32) then (
    some (-1 : Int32)) else
  (gv_gI h v3 2 4).bind fun v7 =>
  if v7 = (7 : Int32) then (
    some (-1 : Int32)) else
  (gv_gI h v3 2 6).bind fun v9 =>
  if v9 = 0 then (
    (gv_gI h v3 2 5).bind fun v11 =>
    some v11) else
  some (-1 : Int32)
theorem cG_size_ok {xs : Option (List Int32)} {l0 : Option Nat} {l1 : Int32} {h : gx_H} {r : Int32} (e : cG_size l0 l1 h = some r) : gv_V xs 1 14 0 [(0, gv_u l0), (1, .int l1)] [] h (.returned (some (.int r))) h := by
  unfold cG_size at e
  refine gv_rldn (pc' := 1) rfl rfl rfl ?_
  obtain ⟨v1, qv1, e⟩ := gv_bind e
  refine gv_fR (pc' := 4) rfl rfl qv1 rfl ?_
  refine gv_ildn (pc' := 5) rfl rfl rfl ?_
  obtain ⟨i2, qi2, e⟩ := gv_bind e
  obtain ⟨v3, qv3, e⟩ := gv_bind e
  refine gv_vS (jc := 10) (n := 1) (rest := []) (stk := [gv_u v3]) (pc' := 8) rfl rfl rfl rfl rfl rfl rfl rfl rfl (gv_zR (gv_zI gv_z0)) rfl (gv_aR (gv_aI gv_a0)) (Nat.le_of_ble_eq_true rfl) qi2 (cS_thingAt_ok qv3) rfl rfl ?_
  refine gv_rstn (pc' := 9) rfl rfl (gv_Ci rfl) rfl ?_
  refine gv_rldn (pc' := 10) rfl rfl rfl ?_
  by_cases c4 : v3 = none
  · rw [if_pos c4] at e
    refine gv_nuT (pc' := 38) rfl c4 rfl ?_
    refine gv_ic (pc' := 39) (x := -1) rfl rfl rfl ?_
    cases e
    exact gv_retI rfl rfl
  rw [if_neg c4] at e
  refine gv_nuF (pc' := 13) rfl c4 rfl ?_
  refine gv_rldn (pc' := 14) rfl rfl rfl ?_
  obtain ⟨v5, qv5, e⟩ := gv_bind e
  refine gv_fI (pc' := 17) rfl rfl qv5 rfl ?_
  refine gv_bp (pc' := 19) (x := 6) rfl rfl rfl ?_
  by_cases c6 : v5 = (6 : Int32)
  · rw [if_pos c6] at e
    refine gv_cmT (pc' := 38) rfl (gv_eqT2 c6) rfl ?_
    refine gv_ic (pc' := 39) (x := -1) rfl rfl rfl ?_
    cases e
    exact gv_retI rfl rfl
  rw [if_neg c6] at e
  refine gv_cmF (pc' := 22) rfl (gv_eqF2 c6) rfl rfl ?_
  refine gv_rldn (pc' := 23) rfl rfl rfl ?_
  obtain ⟨v7, qv7, e⟩ := gv_bind e
  refine gv_fI (pc' := 26) rfl rfl qv7 rfl ?_
  refine gv_bp (pc' := 28) (x := 7) rfl rfl rfl ?_
  by_cases c8 : v7 = (7 : Int32)
  · rw [if_pos c8] at e
    refine gv_cmT (pc' := 38) rfl (gv_eqT2 c8) rfl ?_
    refine gv_ic (pc' := 39) (x := -1) rfl rfl rfl ?_
    cases e
    exact gv_retI rfl rfl
  rw [if_neg c8] at e
  refine gv_cmF (pc' := 31) rfl (gv_eqF2 c8) rfl rfl ?_
  refine gv_rldn (pc' := 32) rfl rfl rfl ?_
  obtain ⟨v9, qv9, e⟩ := gv_bind e
  refine gv_fI (pc' := 35) rfl rfl qv9 rfl ?_
  by_cases c10 : v9 = 0
  · rw [if_pos c10] at e
    refine gv_ifT (pc' := 40) rfl (gv_eqT c10) rfl ?_
    refine gv_rldn (pc' := 41) rfl rfl rfl ?_
    obtain ⟨v11, qv11, e⟩ := gv_bind e
    refine gv_fI (pc' := 44) rfl rfl qv11 rfl ?_
    cases e
    exact gv_retI rfl rfl
  rw [if_neg c10] at e
  refine gv_ifF (pc' := 38) rfl (gv_eqF c10) rfl rfl ?_
  refine gv_ic (pc' := 39) (x := -1) rfl rfl rfl ?_
  cases e
  exact gv_retI rfl rfl
def cG_holders (l0 : Option Nat) (h : gx_H) : Option Int32 :=
  (gv_gR h l0 0 2).bind fun v1 =>
  (gv_gI h v1 4 4).bind fun v2 =>
  some v2
theorem cG_holders_ok {xs : Option (List Int32)} {l0 : Option Nat} {h : gx_H} {r : Int32} (e : cG_holders l0 h = some r) : gv_V xs 0 15 0 [(0, gv_u l0)] [] h (.returned (some (.int r))) h := by
  unfold cG_holders at e
  refine gv_rldn (pc' := 1) rfl rfl rfl ?_
  obtain ⟨v1, qv1, e⟩ := gv_bind e
  refine gv_fR (pc' := 4) rfl rfl qv1 rfl ?_
  obtain ⟨v2, qv2, e⟩ := gv_bind e
  refine gv_fI (pc' := 7) rfl rfl qv2 rfl ?_
  cases e
  exact gv_retI rfl rfl
def cG_found (l0 : Option Nat) (h : gx_H) : Option Int32 :=
  (gv_gI h l0 0 5).bind fun v1 =>
  some v1
theorem cG_found_ok {xs : Option (List Int32)} {l0 : Option Nat} {h : gx_H} {r : Int32} (e : cG_found l0 h = some r) : gv_V xs 0 16 0 [(0, gv_u l0)] [] h (.returned (some (.int r))) h := by
  unfold cG_found at e
  refine gv_rldn (pc' := 1) rfl rfl rfl ?_
  obtain ⟨v1, qv1, e⟩ := gv_bind e
  refine gv_fI (pc' := 4) rfl rfl qv1 rfl ?_
  cases e
  exact gv_retI rfl rfl
def cG_feed_31 : Nat → Option Nat → Int64 → Int32 → Int32 → gx_H → Option (Int32 × gx_H)
  | 0, _, _, _, _, _ => none
  | n + 1, l0, l1, l3, l4, h =>
    if l4 < l3 then (
      (gv_gR h l0 0 1).bind fun v2 =>
      (cG_byteOf l1 l4).bind fun v3 =>
      (gv_is h v2 3).bind fun i4 =>
      (cB_append v2 v3 h).bind fun r7 =>
      cG_feed_31 n l0 l1 l3 (l4 + 1) r7.2) else
    (gv_gR h l0 0 1).bind fun v8 =>
    (gv_gI h v8 3 1).bind fun v9 =>
    some (v9, h)
theorem cG_feed_31_ok {xs : Option (List Int32)} : ∀ (n : Nat) (l0 : Option Nat) (l1 : Int64) (l3 : Int32) (l4 : Int32) (h : gx_H) (r : (Int32 × gx_H)), cG_feed_31 n l0 l1 l3 l4 h = some r → gv_V xs 1 17 31 [(0, gv_u l0), (1, .long l1), (3, .int l3), (4, .int l4)] [] h (.returned (some (.int r.1))) r.2 := by
  intro n
  induction n with
  | zero => intro l0 l1 l3 l4 h r e; cases e
  | succ n ih =>
    intro l0 l1 l3 l4 h r e
    rw [cG_feed_31] at e
    refine gv_ild (pc' := 33) rfl rfl rfl ?_
    refine gv_ildn (pc' := 34) rfl rfl rfl ?_
    by_cases c1 : l4 < l3
    · rw [if_pos c1] at e
      refine gv_cmF (pc' := 37) rfl (gv_geF2 c1) rfl rfl ?_
      refine gv_rldn (pc' := 38) rfl rfl rfl ?_
      obtain ⟨v2, qv2, e⟩ := gv_bind e
      refine gv_fR (pc' := 41) rfl rfl qv2 rfl ?_
      refine gv_jldn (pc' := 42) rfl rfl rfl ?_
      refine gv_ild (pc' := 44) rfl rfl rfl ?_
      obtain ⟨v3, qv3, e⟩ := gv_bind e
      refine gv_sS (jc := 18) (n := 2) (rest := [gv_u v2]) (stk := [.int v3, gv_u v2]) (pc' := 47) rfl rfl rfl rfl rfl rfl rfl rfl rfl (gv_zJ (gv_zI gv_z0)) rfl (gv_aJ (gv_aI gv_a0)) (Nat.le_of_ble_eq_true rfl) (cG_byteOf_ok qv3) rfl rfl ?_
      obtain ⟨i4, qi4, e⟩ := gv_bind e
      obtain ⟨⟨v5, h6⟩, qv5, e⟩ := gv_bind e
      refine gv_vS (jc := 19) (n := 1) (rest := []) (stk := [.int v5]) (pc' := 50) rfl rfl rfl rfl rfl rfl rfl rfl rfl (gv_zR (gv_zI gv_z0)) rfl (gv_aR (gv_aI gv_a0)) (Nat.le_of_ble_eq_true rfl) qi4 (cB_append_ok qv5) rfl rfl ?_
      refine gv_pop (pc' := 51) rfl rfl rfl ?_
      refine gv_inc (pc' := 54) (y := 1) rfl rfl rfl rfl (gv_Ci rfl) rfl ?_
      refine gv_goto (pc' := 31) rfl rfl ?_
      exact gv_weak (ih _ _ _ _ _ _ e) (gv_S1 rfl (gv_S1 rfl (gv_S1 rfl (gv_S1 rfl gv_S0))))
    rw [if_neg c1] at e
    refine gv_cmT (pc' := 57) rfl (gv_geT2 c1) rfl ?_
    refine gv_rldn (pc' := 58) rfl rfl rfl ?_
    obtain ⟨v8, qv8, e⟩ := gv_bind e
    refine gv_fR (pc' := 61) rfl rfl qv8 rfl ?_
    obtain ⟨v9, qv9, e⟩ := gv_bind e
    refine gv_fI (pc' := 64) rfl rfl qv9 rfl ?_
    cases e
    exact gv_retI rfl rfl
def cG_feed (l0 : Option Nat) (l1 : Int64) (l3 : Int32) (h : gx_H) : Option (Int32 × gx_H) :=
  if l3 < (1 : Int32) then (
    some ((-1 : Int32), h)) else
  if (8 : Int32) < l3 then (
    some ((-1 : Int32), h)) else
  (gv_gR h l0 0 1).bind fun v3 =>
  (gv_gI h v3 3 1).bind fun v4 =>
  if (300 : Int32) < (v4 + l3) then (
    some ((-1 : Int32), h)) else
  cG_feed_31 1000000000000000 l0 l1 l3 (0 : Int32) h
theorem cG_feed_ok {xs : Option (List Int32)} {l0 : Option Nat} {l1 : Int64} {l3 : Int32} {h : gx_H} {r : (Int32 × gx_H)} (e : cG_feed l0 l1 l3 h = some r) : gv_V xs 1 17 0 [(0, gv_u l0), (1, .long l1), (3, .int l3)] [] h (.returned (some (.int r.1))) r.2 := by
  unfold cG_feed at e
  refine gv_ildn (pc' := 1) rfl rfl rfl ?_
  refine gv_ic (pc' := 2) (x := 1) rfl rfl rfl ?_
  by_cases c1 : l3 < (1 : Int32)
  · rw [if_pos c1] at e
    refine gv_cmT (pc' := 26) rfl (gv_ltT2 c1) rfl ?_
    refine gv_ic (pc' := 27) (x := -1) rfl rfl rfl ?_
    cases e
    exact gv_retI rfl rfl
  rw [if_neg c1] at e
  refine gv_cmF (pc' := 5) rfl (gv_ltF2 c1) rfl rfl ?_
  refine gv_ildn (pc' := 6) rfl rfl rfl ?_
  refine gv_bp (pc' := 8) (x := 8) rfl rfl rfl ?_
  by_cases c2 : (8 : Int32) < l3
  · rw [if_pos c2] at e
    refine gv_cmT (pc' := 26) rfl (gv_gtT2 c2) rfl ?_
    refine gv_ic (pc' := 27) (x := -1) rfl rfl rfl ?_
    cases e
    exact gv_retI rfl rfl
  rw [if_neg c2] at e
  refine gv_cmF (pc' := 11) rfl (gv_gtF2 c2) rfl rfl ?_
  refine gv_rldn (pc' := 12) rfl rfl rfl ?_
  obtain ⟨v3, qv3, e⟩ := gv_bind e
  refine gv_fR (pc' := 15) rfl rfl qv3 rfl ?_
  obtain ⟨v4, qv4, e⟩ := gv_bind e
  refine gv_fI (pc' := 18) rfl rfl qv4 rfl ?_
  refine gv_ildn (pc' := 19) rfl rfl rfl ?_
  refine gv_iadd (pc' := 20) rfl rfl ?_
  refine gv_sp (pc' := 23) (x := 300) rfl rfl rfl ?_
  by_cases c5 : (300 : Int32) < (v4 + l3)
  · rw [if_pos c5] at e
    refine gv_cmF (pc' := 26) rfl (gv_leF2 c5) rfl rfl ?_
    refine gv_ic (pc' := 27) (x := -1) rfl rfl rfl ?_
    cases e
    exact gv_retI rfl rfl
  rw [if_neg c5] at e
  refine gv_cmT (pc' := 28) rfl (gv_leT2 c5) rfl ?_
  refine gv_ic (pc' := 29) (x := 0) rfl rfl rfl ?_
  refine gv_ist (pc' := 31) rfl rfl (gv_Ci rfl) rfl ?_
  exact gv_weak (cG_feed_31_ok 1000000000000000 _ _ _ _ _ _ e) (gv_S1 rfl (gv_S1 rfl (gv_S1 rfl (gv_S1 rfl gv_S0))))
def cG_wipe (l0 : Option Nat) (h : gx_H) : Option (Int32 × gx_H) :=
  (gv_gR h l0 0 1).bind fun v1 =>
  (gv_gI h v1 3 1).bind fun v2 =>
  (gv_gR h l0 0 1).bind fun v3 =>
  (gv_pV h v3 3 1 (.int (0 : Int32))).bind fun h4 =>
  some (v2, h4)
theorem cG_wipe_ok {xs : Option (List Int32)} {l0 : Option Nat} {h : gx_H} {r : (Int32 × gx_H)} (e : cG_wipe l0 h = some r) : gv_V xs 0 20 0 [(0, gv_u l0)] [] h (.returned (some (.int r.1))) r.2 := by
  unfold cG_wipe at e
  refine gv_rldn (pc' := 1) rfl rfl rfl ?_
  obtain ⟨v1, qv1, e⟩ := gv_bind e
  refine gv_fR (pc' := 4) rfl rfl qv1 rfl ?_
  obtain ⟨v2, qv2, e⟩ := gv_bind e
  refine gv_fI (pc' := 7) rfl rfl qv2 rfl ?_
  refine gv_istn (pc' := 8) rfl rfl (gv_Cr rfl) rfl ?_
  refine gv_rldn (pc' := 9) rfl rfl rfl ?_
  obtain ⟨v3, qv3, e⟩ := gv_bind e
  refine gv_fR (pc' := 12) rfl rfl qv3 rfl ?_
  refine gv_ic (pc' := 13) (x := 0) rfl rfl rfl ?_
  obtain ⟨h4, qh4, e⟩ := gv_bind e
  refine gv_pI (pc' := 16) rfl rfl rfl qh4 rfl ?_
  refine gv_ildn (pc' := 17) rfl rfl rfl ?_
  cases e
  exact gv_retI rfl rfl
def cG_spoil (l0 : Option Nat) (l1 : Int32) (l2 : Int32) (h : gx_H) : Option (Int32 × gx_H) :=
  if l1 < 0 then (
    some ((0 : Int32), h)) else
  (gv_gR h l0 0 1).bind fun v2 =>
  (gv_gI h v2 3 1).bind fun v3 =>
  if l1 < v3 then (
    (gv_gR h l0 0 1).bind fun v5 =>
    (gv_gR h v5 3 0).bind fun v6 =>
    (gv_wI h v6 l1 (l2 &&& (255 : Int32))).bind fun h7 =>
    some ((1 : Int32), h7)) else
  some ((0 : Int32), h)
theorem cG_spoil_ok {xs : Option (List Int32)} {l0 : Option Nat} {l1 : Int32} {l2 : Int32} {h : gx_H} {r : (Int32 × gx_H)} (e : cG_spoil l0 l1 l2 h = some r) : gv_V xs 0 21 0 [(0, gv_u l0), (1, .int l1), (2, .int l2)] [] h (.returned (some (.int r.1))) r.2 := by
  unfold cG_spoil at e
  refine gv_ildn (pc' := 1) rfl rfl rfl ?_
  by_cases c1 : l1 < 0
  · rw [if_pos c1] at e
    refine gv_ifT (pc' := 15) rfl (gv_ltT c1) rfl ?_
    refine gv_ic (pc' := 16) (x := 0) rfl rfl rfl ?_
    cases e
    exact gv_retZ rfl rfl (by decide)
  rw [if_neg c1] at e
  refine gv_ifF (pc' := 4) rfl (gv_ltF c1) rfl rfl ?_
  refine gv_ildn (pc' := 5) rfl rfl rfl ?_
  refine gv_rldn (pc' := 6) rfl rfl rfl ?_
  obtain ⟨v2, qv2, e⟩ := gv_bind e
  refine gv_fR (pc' := 9) rfl rfl qv2 rfl ?_
  obtain ⟨v3, qv3, e⟩ := gv_bind e
  refine gv_fI (pc' := 12) rfl rfl qv3 rfl ?_
  by_cases c4 : l1 < v3
  · rw [if_pos c4] at e
    refine gv_cmT (pc' := 17) rfl (gv_ltT2 c4) rfl ?_
    refine gv_rldn (pc' := 18) rfl rfl rfl ?_
    obtain ⟨v5, qv5, e⟩ := gv_bind e
    refine gv_fR (pc' := 21) rfl rfl qv5 rfl ?_
    obtain ⟨v6, qv6, e⟩ := gv_bind e
    refine gv_fR (pc' := 24) rfl rfl qv6 rfl ?_
    refine gv_ildn (pc' := 25) rfl rfl rfl ?_
    refine gv_ildn (pc' := 26) rfl rfl rfl ?_
    refine gv_sp (pc' := 29) (x := 255) rfl rfl rfl ?_
    refine gv_iand (pc' := 30) rfl rfl ?_
    obtain ⟨h7, qh7, e⟩ := gv_bind e
    refine gv_iast (pc' := 31) rfl qh7 rfl ?_
    refine gv_ic (pc' := 32) (x := 1) rfl rfl rfl ?_
    cases e
    exact gv_retZ rfl rfl (by decide)
  rw [if_neg c4] at e
  refine gv_cmF (pc' := 15) rfl (gv_ltF2 c4) rfl rfl ?_
  refine gv_ic (pc' := 16) (x := 0) rfl rfl rfl ?_
  cases e
  exact gv_retZ rfl rfl (by decide)
def cG_byteAt (l0 : Option Nat) (l1 : Int32) (h : gx_H) : Option Int32 :=
  if l1 < 0 then (
    some (-1 : Int32)) else
  (gv_gR h l0 0 1).bind fun v2 =>
  (gv_gI h v2 3 1).bind fun v3 =>
  if l1 < v3 then (
    (gv_gR h l0 0 1).bind fun v5 =>
    (gv_gR h v5 3 0).bind fun v6 =>
    (gv_lI h v6 l1).bind fun v7 =>
    some v7) else
  some (-1 : Int32)
theorem cG_byteAt_ok {xs : Option (List Int32)} {l0 : Option Nat} {l1 : Int32} {h : gx_H} {r : Int32} (e : cG_byteAt l0 l1 h = some r) : gv_V xs 0 22 0 [(0, gv_u l0), (1, .int l1)] [] h (.returned (some (.int r))) h := by
  unfold cG_byteAt at e
  refine gv_ildn (pc' := 1) rfl rfl rfl ?_
  by_cases c1 : l1 < 0
  · rw [if_pos c1] at e
    refine gv_ifT (pc' := 15) rfl (gv_ltT c1) rfl ?_
    refine gv_ic (pc' := 16) (x := -1) rfl rfl rfl ?_
    refine gv_goto (pc' := 28) rfl rfl ?_
    cases e
    exact gv_retI rfl rfl
  rw [if_neg c1] at e
  refine gv_ifF (pc' := 4) rfl (gv_ltF c1) rfl rfl ?_
  refine gv_ildn (pc' := 5) rfl rfl rfl ?_
  refine gv_rldn (pc' := 6) rfl rfl rfl ?_
  obtain ⟨v2, qv2, e⟩ := gv_bind e
  refine gv_fR (pc' := 9) rfl rfl qv2 rfl ?_
  obtain ⟨v3, qv3, e⟩ := gv_bind e
  refine gv_fI (pc' := 12) rfl rfl qv3 rfl ?_
  by_cases c4 : l1 < v3
  · rw [if_pos c4] at e
    refine gv_cmT (pc' := 19) rfl (gv_ltT2 c4) rfl ?_
    refine gv_rldn (pc' := 20) rfl rfl rfl ?_
    obtain ⟨v5, qv5, e⟩ := gv_bind e
    refine gv_fR (pc' := 23) rfl rfl qv5 rfl ?_
    obtain ⟨v6, qv6, e⟩ := gv_bind e
    refine gv_fR (pc' := 26) rfl rfl qv6 rfl ?_
    refine gv_ildn (pc' := 27) rfl rfl rfl ?_
    obtain ⟨v7, qv7, e⟩ := gv_bind e
    refine gv_iald (pc' := 28) rfl qv7 rfl ?_
    cases e
    exact gv_retI rfl rfl
  rw [if_neg c4] at e
  refine gv_cmF (pc' := 15) rfl (gv_ltF2 c4) rfl rfl ?_
  refine gv_ic (pc' := 16) (x := -1) rfl rfl rfl ?_
  refine gv_goto (pc' := 28) rfl rfl ?_
  cases e
  exact gv_retI rfl rfl
def cG_beginOrRefuse (l0 : Option Nat) (l1 : Int32) (h : gx_H) : Option (Outcome × gx_H) :=
  (gv_gR h l0 0 0).bind fun v1 =>
  (gv_is h v1 1).bind fun i2 =>
  (cS_begin v1 l1 h).bind fun r5 =>
  if r5.1 = (-1 : Int32) then (
    some (.threw r5.2.length, r5.2 ++ [(9, [])])) else
  some (.returned (some (.int r5.1)), r5.2)
theorem cG_beginOrRefuse_ok {xs : Option (List Int32)} {l0 : Option Nat} {l1 : Int32} {h : gx_H} {r : (Outcome × gx_H)} (e : cG_beginOrRefuse l0 l1 h = some r) : gv_V xs 2 25 0 [(0, gv_u l0), (1, .int l1)] [] h r.1 r.2 := by
  unfold cG_beginOrRefuse at e
  refine gv_rldn (pc' := 1) rfl rfl rfl ?_
  obtain ⟨v1, qv1, e⟩ := gv_bind e
  refine gv_fR (pc' := 4) rfl rfl qv1 rfl ?_
  refine gv_ildn (pc' := 5) rfl rfl rfl ?_
  obtain ⟨i2, qi2, e⟩ := gv_bind e
  obtain ⟨⟨v3, h4⟩, qv3, e⟩ := gv_bind e
  refine gv_vS (jc := 26) (n := 1) (rest := []) (stk := [.int v3]) (pc' := 8) rfl rfl rfl rfl rfl rfl rfl rfl rfl (gv_zR (gv_zI gv_z0)) rfl (gv_aR (gv_aI gv_a0)) (Nat.le_of_ble_eq_true rfl) qi2 (cS_begin_ok qv3) rfl rfl ?_
  refine gv_istn (pc' := 9) rfl rfl (gv_Ci rfl) rfl ?_
  refine gv_ildn (pc' := 10) rfl rfl rfl ?_
  refine gv_ic (pc' := 11) (x := -1) rfl rfl rfl ?_
  by_cases c6 : v3 = (-1 : Int32)
  · rw [if_pos c6] at e
    refine gv_cmF (pc' := 14) rfl (gv_neF2 c6) rfl rfl ?_
    cases e
    exact gv_thr rfl rfl rfl
  rw [if_neg c6] at e
  refine gv_cmT (pc' := 24) rfl (gv_neT2 c6) rfl ?_
  refine gv_ildn (pc' := 25) rfl rfl rfl ?_
  cases e
  exact gv_retI rfl rfl
def cG_make_25 (l0 : Option Nat) (l1 : Int32) (h : gx_H) : Option (Outcome × gx_H) :=
  (gv_is h l0 0).bind fun i1 =>
  (cG_beginOrRefuse l0 l1 h).bind fun r4 =>
  match r4.1 with
  | .returned (some (.int v2)) => (
    some (.returned (some (.int v2)), r4.2))
  | .threw x5 => some (.threw x5, r4.2)
  | _ => none
theorem cG_make_25_ok {xs : Option (List Int32)} {l0 : Option Nat} {l1 : Int32} {h : gx_H} {r : (Outcome × gx_H)} (e : cG_make_25 l0 l1 h = some r) : gv_V xs 3 24 25 [(0, gv_u l0), (1, .int l1)] [] h r.1 r.2 := by
  unfold cG_make_25 at e
  refine gv_rldn (pc' := 26) rfl rfl rfl ?_
  refine gv_ildn (pc' := 27) rfl rfl rfl ?_
  obtain ⟨i1, qi1, e⟩ := gv_bind e
  obtain ⟨⟨or4, h3⟩, qv2, e⟩ := gv_bind e
  cases or4 with
  | threw x5 =>
    cases e
    exact gv_vX (jc := 25) (n := 1) (rest := []) rfl rfl rfl rfl rfl rfl rfl rfl rfl (gv_zR (gv_zI gv_z0)) rfl (gv_aR (gv_aI gv_a0)) (Nat.le_of_ble_eq_true rfl) qi1 (cG_beginOrRefuse_ok qv2) rfl
  | returned zr4 =>
  cases zr4 with
  | none => cases e
  | some zz =>
  cases zz with
  | long _ => cases e
  | float _ => cases e
  | double _ => cases e
  | ref _ => cases e
  | null => cases e
  | retAddr _ => cases e
  | int v2 =>
    dsimp only at e
    refine gv_vS (jc := 25) (n := 1) (rest := []) (stk := [.int v2]) (pc' := 30) rfl rfl rfl rfl rfl rfl rfl rfl rfl (gv_zR (gv_zI gv_z0)) rfl (gv_aR (gv_aI gv_a0)) (Nat.le_of_ble_eq_true rfl) qi1 (cG_beginOrRefuse_ok qv2) rfl rfl ?_
    cases e
    exact gv_retI rfl rfl
def cG_make_9 (l0 : Option Nat) (l1 : Int32) (h : gx_H) : Option (Outcome × gx_H) :=
  if l1 = (7 : Int32) then (
    cG_make_25 l0 l1 h) else
  some (.threw h.length, h ++ [(8, [])])
theorem cG_make_9_ok {xs : Option (List Int32)} {l0 : Option Nat} {l1 : Int32} {h : gx_H} {r : (Outcome × gx_H)} (e : cG_make_9 l0 l1 h = some r) : gv_V xs 3 24 9 [(0, gv_u l0), (1, .int l1)] [] h r.1 r.2 := by
  unfold cG_make_9 at e
  refine gv_ildn (pc' := 10) rfl rfl rfl ?_
  refine gv_bp (pc' := 12) (x := 7) rfl rfl rfl ?_
  by_cases c1 : l1 = (7 : Int32)
  · rw [if_pos c1] at e
    refine gv_cmT (pc' := 25) rfl (gv_eqT2 c1) rfl ?_
    exact gv_weak (cG_make_25_ok e) (gv_S1 rfl (gv_S1 rfl gv_S0))
  rw [if_neg c1] at e
  refine gv_cmF (pc' := 15) rfl (gv_eqF2 c1) rfl rfl ?_
  cases e
  exact gv_thr rfl rfl rfl
def cG_make (l0 : Option Nat) (l1 : Int32) (h : gx_H) : Option (Outcome × gx_H) :=
  if l1 < 0 then (
    cG_make_9 l0 l1 h) else
  if (3 : Int32) < l1 then (
    cG_make_9 l0 l1 h) else
  cG_make_25 l0 l1 h
theorem cG_make_ok {xs : Option (List Int32)} {l0 : Option Nat} {l1 : Int32} {h : gx_H} {r : (Outcome × gx_H)} (e : cG_make l0 l1 h = some r) : gv_V xs 3 24 0 [(0, gv_u l0), (1, .int l1)] [] h r.1 r.2 := by
  unfold cG_make at e
  refine gv_ildn (pc' := 1) rfl rfl rfl ?_
  by_cases c1 : l1 < 0
  · rw [if_pos c1] at e
    refine gv_ifT (pc' := 9) rfl (gv_ltT c1) rfl ?_
    exact gv_weak (cG_make_9_ok e) (gv_S1 rfl (gv_S1 rfl gv_S0))
  rw [if_neg c1] at e
  refine gv_ifF (pc' := 4) rfl (gv_ltF c1) rfl rfl ?_
  refine gv_ildn (pc' := 5) rfl rfl rfl ?_
  refine gv_ic (pc' := 6) (x := 3) rfl rfl rfl ?_
  by_cases c2 : (3 : Int32) < l1
  · rw [if_pos c2] at e
    refine gv_cmF (pc' := 9) rfl (gv_leF2 c2) rfl rfl ?_
    exact gv_weak (cG_make_9_ok e) (gv_S1 rfl (gv_S1 rfl gv_S0))
  rw [if_neg c2] at e
  refine gv_cmT (pc' := 25) rfl (gv_leT2 c2) rfl ?_
  exact gv_weak (cG_make_25_ok e) (gv_S1 rfl (gv_S1 rfl gv_S0))
def cG_buffer_10  (h : gx_H) : Option (Outcome × gx_H) :=
  some (.threw h.length, h ++ [(8, [])])
theorem cG_buffer_10_ok {xs : Option (List Int32)}  {h : gx_H} {r : (Outcome × gx_H)} (e : cG_buffer_10 h = some r) : gv_V xs 3 29 10 [] [] h r.1 r.2 := by
  unfold cG_buffer_10 at e
  cases e
  exact gv_thr rfl rfl rfl
def cG_buffer (l0 : Option Nat) (l1 : Int64) (l3 : Int32) (h : gx_H) : Option (Outcome × gx_H) :=
  if l3 < 0 then (
    cG_buffer_10 h) else
  if (8 : Int32) < l3 then (
    cG_buffer_10 h) else
  (gv_is h l0 0).bind fun i3 =>
  (cG_beginOrRefuse l0 (4 : Int32) h).bind fun r6 =>
  match r6.1 with
  | .returned (some (.int v4)) => (
    (gv_gR r6.2 l0 0 0).bind fun v8 =>
    (gv_gR r6.2 v8 1 0).bind fun v9 =>
    (gv_lT r6.2 v9 v4).bind fun v10 =>
    (gv_is r6.2 v10 2).bind fun i11 =>
    (cT_holdBytes v10 l1 l3 r6.2).bind fun h13 =>
    some (.returned (some (.int v4)), h13))
  | .threw x7 => some (.threw x7, r6.2)
  | _ => none
theorem cG_buffer_ok {xs : Option (List Int32)} {l0 : Option Nat} {l1 : Int64} {l3 : Int32} {h : gx_H} {r : (Outcome × gx_H)} (e : cG_buffer l0 l1 l3 h = some r) : gv_V xs 3 29 0 [(0, gv_u l0), (1, .long l1), (3, .int l3)] [] h r.1 r.2 := by
  unfold cG_buffer at e
  refine gv_ildn (pc' := 1) rfl rfl rfl ?_
  by_cases c1 : l3 < 0
  · rw [if_pos c1] at e
    refine gv_ifT (pc' := 10) rfl (gv_ltT c1) rfl ?_
    exact gv_weak (cG_buffer_10_ok e) gv_S0
  rw [if_neg c1] at e
  refine gv_ifF (pc' := 4) rfl (gv_ltF c1) rfl rfl ?_
  refine gv_ildn (pc' := 5) rfl rfl rfl ?_
  refine gv_bp (pc' := 7) (x := 8) rfl rfl rfl ?_
  by_cases c2 : (8 : Int32) < l3
  · rw [if_pos c2] at e
    refine gv_cmF (pc' := 10) rfl (gv_leF2 c2) rfl rfl ?_
    exact gv_weak (cG_buffer_10_ok e) gv_S0
  rw [if_neg c2] at e
  refine gv_cmT (pc' := 20) rfl (gv_leT2 c2) rfl ?_
  refine gv_rldn (pc' := 21) rfl rfl rfl ?_
  refine gv_ic (pc' := 22) (x := 4) rfl rfl rfl ?_
  obtain ⟨i3, qi3, e⟩ := gv_bind e
  obtain ⟨⟨or6, h5⟩, qv4, e⟩ := gv_bind e
  cases or6 with
  | threw x7 =>
    cases e
    exact gv_vX (jc := 25) (n := 1) (rest := []) rfl rfl rfl rfl rfl rfl rfl rfl rfl (gv_zR (gv_zI gv_z0)) rfl (gv_aR (gv_aI gv_a0)) (Nat.le_of_ble_eq_true rfl) qi3 (cG_beginOrRefuse_ok qv4) rfl
  | returned zr6 =>
  cases zr6 with
  | none => cases e
  | some zz =>
  cases zz with
  | long _ => cases e
  | float _ => cases e
  | double _ => cases e
  | ref _ => cases e
  | null => cases e
  | retAddr _ => cases e
  | int v4 =>
    dsimp only at e
    refine gv_vS (jc := 25) (n := 1) (rest := []) (stk := [.int v4]) (pc' := 25) rfl rfl rfl rfl rfl rfl rfl rfl rfl (gv_zR (gv_zI gv_z0)) rfl (gv_aR (gv_aI gv_a0)) (Nat.le_of_ble_eq_true rfl) qi3 (cG_beginOrRefuse_ok qv4) rfl rfl ?_
    refine gv_ist (pc' := 27) rfl rfl (gv_Ci rfl) rfl ?_
    refine gv_rldn (pc' := 28) rfl rfl rfl ?_
    obtain ⟨v8, qv8, e⟩ := gv_bind e
    refine gv_fR (pc' := 31) rfl rfl qv8 rfl ?_
    obtain ⟨v9, qv9, e⟩ := gv_bind e
    refine gv_fR (pc' := 34) rfl rfl qv9 rfl ?_
    refine gv_ild (pc' := 36) rfl rfl rfl ?_
    obtain ⟨v10, qv10, e⟩ := gv_bind e
    refine gv_aaT (pc' := 37) rfl qv10 rfl ?_
    refine gv_jldn (pc' := 38) rfl rfl rfl ?_
    refine gv_ildn (pc' := 39) rfl rfl rfl ?_
    obtain ⟨i11, qi11, e⟩ := gv_bind e
    obtain ⟨h13, qv12, e⟩ := gv_bind e
    refine gv_vS (jc := 30) (n := 2) (rest := []) (stk := []) (pc' := 42) rfl rfl rfl rfl rfl rfl rfl rfl rfl (gv_zR (gv_zJ (gv_zI gv_z0))) rfl (gv_aR (gv_aJ (gv_aI gv_a0))) (Nat.le_of_ble_eq_true rfl) qi11 (cT_holdBytes_ok qv12) rfl rfl ?_
    refine gv_ild (pc' := 44) rfl rfl rfl ?_
    cases e
    exact gv_retI rfl rfl
def cG_view_27  (h : gx_H) : Option (Outcome × gx_H) :=
  some (.threw h.length, h ++ [(8, [])])
theorem cG_view_27_ok {xs : Option (List Int32)}  {h : gx_H} {r : (Outcome × gx_H)} (e : cG_view_27 h = some r) : gv_V xs 3 32 27 [] [] h r.1 r.2 := by
  unfold cG_view_27 at e
  cases e
  exact gv_thr rfl rfl rfl
def cG_view (l0 : Option Nat) (l1 : Int32) (l2 : Int32) (l3 : Int32) (l4 : Int32) (h : gx_H) : Option (Outcome × gx_H) :=
  (gv_gR h l0 0 0).bind fun v1 =>
  (gv_is h v1 1).bind fun i2 =>
  (cS_thingAt v1 l1 h).bind fun v3 =>
  if v3 = none then (
    cG_view_27 h) else
  (gv_is h v3 2).bind fun i5 =>
  (cT_canBeViewed v3 l2 l3 l4 h).bind fun v6 =>
  if v6 = 0 then (
    cG_view_27 h) else
  (gv_is h l0 0).bind fun i8 =>
  (cG_beginOrRefuse l0 (5 : Int32) h).bind fun r11 =>
  match r11.1 with
  | .returned (some (.int v9)) => (
    (gv_gR r11.2 l0 0 0).bind fun v13 =>
    (gv_gR r11.2 v13 1 0).bind fun v14 =>
    (gv_lT r11.2 v14 v9).bind fun v15 =>
    (gv_is r11.2 v15 2).bind fun i16 =>
    (cT_lookAt v15 l1 l2 l3 l4 r11.2).bind fun h18 =>
    some (.returned (some (.int v9)), h18))
  | .threw x12 => some (.threw x12, r11.2)
  | _ => none
theorem cG_view_ok {xs : Option (List Int32)} {l0 : Option Nat} {l1 : Int32} {l2 : Int32} {l3 : Int32} {l4 : Int32} {h : gx_H} {r : (Outcome × gx_H)} (e : cG_view l0 l1 l2 l3 l4 h = some r) : gv_V xs 3 32 0 [(0, gv_u l0), (1, .int l1), (2, .int l2), (3, .int l3), (4, .int l4)] [] h r.1 r.2 := by
  unfold cG_view at e
  refine gv_rldn (pc' := 1) rfl rfl rfl ?_
  obtain ⟨v1, qv1, e⟩ := gv_bind e
  refine gv_fR (pc' := 4) rfl rfl qv1 rfl ?_
  refine gv_ildn (pc' := 5) rfl rfl rfl ?_
  obtain ⟨i2, qi2, e⟩ := gv_bind e
  obtain ⟨v3, qv3, e⟩ := gv_bind e
  refine gv_vS (jc := 10) (n := 1) (rest := []) (stk := [gv_u v3]) (pc' := 8) rfl rfl rfl rfl rfl rfl rfl rfl rfl (gv_zR (gv_zI gv_z0)) rfl (gv_aR (gv_aI gv_a0)) (Nat.le_of_ble_eq_true rfl) qi2 (cS_thingAt_ok qv3) rfl rfl ?_
  refine gv_rst (pc' := 10) rfl rfl (gv_Ci rfl) rfl ?_
  refine gv_rld (pc' := 12) rfl rfl rfl ?_
  by_cases c4 : v3 = none
  · rw [if_pos c4] at e
    refine gv_nuT (pc' := 27) rfl c4 rfl ?_
    exact gv_weak (cG_view_27_ok e) gv_S0
  rw [if_neg c4] at e
  refine gv_nuF (pc' := 15) rfl c4 rfl ?_
  refine gv_rld (pc' := 17) rfl rfl rfl ?_
  refine gv_ildn (pc' := 18) rfl rfl rfl ?_
  refine gv_ildn (pc' := 19) rfl rfl rfl ?_
  refine gv_ild (pc' := 21) rfl rfl rfl ?_
  obtain ⟨i5, qi5, e⟩ := gv_bind e
  obtain ⟨v6, qv6, e⟩ := gv_bind e
  refine gv_vS (jc := 33) (n := 3) (rest := []) (stk := [.int v6]) (pc' := 24) rfl rfl rfl rfl rfl rfl rfl rfl rfl (gv_zR (gv_zI (gv_zI (gv_zI gv_z0)))) rfl (gv_aR (gv_aI (gv_aI (gv_aI gv_a0)))) (Nat.le_of_ble_eq_true rfl) qi5 (cT_canBeViewed_ok qv6) rfl rfl ?_
  by_cases c7 : v6 = 0
  · rw [if_pos c7] at e
    refine gv_ifF (pc' := 27) rfl (gv_neF c7) rfl rfl ?_
    exact gv_weak (cG_view_27_ok e) gv_S0
  rw [if_neg c7] at e
  refine gv_ifT (pc' := 37) rfl (gv_neT c7) rfl ?_
  refine gv_rldn (pc' := 38) rfl rfl rfl ?_
  refine gv_ic (pc' := 39) (x := 5) rfl rfl rfl ?_
  obtain ⟨i8, qi8, e⟩ := gv_bind e
  obtain ⟨⟨or11, h10⟩, qv9, e⟩ := gv_bind e
  cases or11 with
  | threw x12 =>
    cases e
    exact gv_vX (jc := 25) (n := 1) (rest := []) rfl rfl rfl rfl rfl rfl rfl rfl rfl (gv_zR (gv_zI gv_z0)) rfl (gv_aR (gv_aI gv_a0)) (Nat.le_of_ble_eq_true rfl) qi8 (cG_beginOrRefuse_ok qv9) rfl
  | returned zr11 =>
  cases zr11 with
  | none => cases e
  | some zz =>
  cases zz with
  | long _ => cases e
  | float _ => cases e
  | double _ => cases e
  | ref _ => cases e
  | null => cases e
  | retAddr _ => cases e
  | int v9 =>
    dsimp only at e
    refine gv_vS (jc := 25) (n := 1) (rest := []) (stk := [.int v9]) (pc' := 42) rfl rfl rfl rfl rfl rfl rfl rfl rfl (gv_zR (gv_zI gv_z0)) rfl (gv_aR (gv_aI gv_a0)) (Nat.le_of_ble_eq_true rfl) qi8 (cG_beginOrRefuse_ok qv9) rfl rfl ?_
    refine gv_ist (pc' := 44) rfl rfl (gv_Cr rfl) rfl ?_
    refine gv_rldn (pc' := 45) rfl rfl rfl ?_
    obtain ⟨v13, qv13, e⟩ := gv_bind e
    refine gv_fR (pc' := 48) rfl rfl qv13 rfl ?_
    obtain ⟨v14, qv14, e⟩ := gv_bind e
    refine gv_fR (pc' := 51) rfl rfl qv14 rfl ?_
    refine gv_ild (pc' := 53) rfl rfl rfl ?_
    obtain ⟨v15, qv15, e⟩ := gv_bind e
    refine gv_aaT (pc' := 54) rfl qv15 rfl ?_
    refine gv_ildn (pc' := 55) rfl rfl rfl ?_
    refine gv_ildn (pc' := 56) rfl rfl rfl ?_
    refine gv_ildn (pc' := 57) rfl rfl rfl ?_
    refine gv_ild (pc' := 59) rfl rfl rfl ?_
    obtain ⟨i16, qi16, e⟩ := gv_bind e
    obtain ⟨h18, qv17, e⟩ := gv_bind e
    refine gv_vS (jc := 34) (n := 4) (rest := []) (stk := []) (pc' := 62) rfl rfl rfl rfl rfl rfl rfl rfl rfl (gv_zR (gv_zI (gv_zI (gv_zI (gv_zI gv_z0))))) rfl (gv_aR (gv_aI (gv_aI (gv_aI (gv_aI gv_a0))))) (Nat.le_of_ble_eq_true rfl) qi16 (cT_lookAt_ok qv17) rfl rfl ?_
    refine gv_ild (pc' := 64) rfl rfl rfl ?_
    cases e
    exact gv_retI rfl rfl
def cG_stamp (l0 : Option Nat) (l1 : Int64) (h : gx_H) : Option (Outcome × gx_H) :=
  (gv_is h l0 0).bind fun i1 =>
  (cG_beginOrRefuse l0 (6 : Int32) h).bind fun r4 =>
  match r4.1 with
  | .returned (some (.int v2)) => (
    (gv_gR r4.2 l0 0 0).bind fun v6 =>
    (gv_gR r4.2 v6 1 0).bind fun v7 =>
    (gv_lT r4.2 v7 v2).bind fun v8 =>
    (gv_pV r4.2 v8 2 10 (.long l1)).bind fun h9 =>
    some (.returned (some (.int v2)), h9))
  | .threw x5 => some (.threw x5, r4.2)
  | _ => none
theorem cG_stamp_ok {xs : Option (List Int32)} {l0 : Option Nat} {l1 : Int64} {h : gx_H} {r : (Outcome × gx_H)} (e : cG_stamp l0 l1 h = some r) : gv_V xs 3 36 0 [(0, gv_u l0), (1, .long l1)] [] h r.1 r.2 := by
  unfold cG_stamp at e
  refine gv_rldn (pc' := 1) rfl rfl rfl ?_
  refine gv_bp (pc' := 3) (x := 6) rfl rfl rfl ?_
  obtain ⟨i1, qi1, e⟩ := gv_bind e
  obtain ⟨⟨or4, h3⟩, qv2, e⟩ := gv_bind e
  cases or4 with
  | threw x5 =>
    cases e
    exact gv_vX (jc := 25) (n := 1) (rest := []) rfl rfl rfl rfl rfl rfl rfl rfl rfl (gv_zR (gv_zI gv_z0)) rfl (gv_aR (gv_aI gv_a0)) (Nat.le_of_ble_eq_true rfl) qi1 (cG_beginOrRefuse_ok qv2) rfl
  | returned zr4 =>
  cases zr4 with
  | none => cases e
  | some zz =>
  cases zz with
  | long _ => cases e
  | float _ => cases e
  | double _ => cases e
  | ref _ => cases e
  | null => cases e
  | retAddr _ => cases e
  | int v2 =>
    dsimp only at e
    refine gv_vS (jc := 25) (n := 1) (rest := []) (stk := [.int v2]) (pc' := 6) rfl rfl rfl rfl rfl rfl rfl rfl rfl (gv_zR (gv_zI gv_z0)) rfl (gv_aR (gv_aI gv_a0)) (Nat.le_of_ble_eq_true rfl) qi1 (cG_beginOrRefuse_ok qv2) rfl rfl ?_
    refine gv_istn (pc' := 7) rfl rfl (gv_Cn rfl) rfl ?_
    refine gv_rldn (pc' := 8) rfl rfl rfl ?_
    obtain ⟨v6, qv6, e⟩ := gv_bind e
    refine gv_fR (pc' := 11) rfl rfl qv6 rfl ?_
    obtain ⟨v7, qv7, e⟩ := gv_bind e
    refine gv_fR (pc' := 14) rfl rfl qv7 rfl ?_
    refine gv_ildn (pc' := 15) rfl rfl rfl ?_
    obtain ⟨v8, qv8, e⟩ := gv_bind e
    refine gv_aaT (pc' := 16) rfl qv8 rfl ?_
    refine gv_jldn (pc' := 17) rfl rfl rfl ?_
    obtain ⟨h9, qh9, e⟩ := gv_bind e
    refine gv_pJ (pc' := 20) rfl rfl rfl qh9 rfl ?_
    refine gv_ildn (pc' := 21) rfl rfl rfl ?_
    cases e
    exact gv_retI rfl rfl
def cG_canBePut (l0 : Option Nat) (l1 : Option Nat) (l2 : Int32) (l3 : Int32) (l4 : Int32) (h : gx_H) : Option Int32 :=
  (gv_gI h l1 2 4).bind fun v1 =>
  if v1 = 0 then (
    if l3 = (8 : Int32) then (
      some (1 : Int32)) else
    (gv_gR h l0 0 0).bind fun v4 =>
    (gv_is h v4 1).bind fun i5 =>
    (cS_isValue v4 l3 l4 h).bind fun v6 =>
    if v6 = 0 then (
      some (0 : Int32)) else
    some (1 : Int32)) else
  (gv_gI h l1 2 4).bind fun v8 =>
  if v8 = (1 : Int32) then (
    if l2 < 0 then (
      some (0 : Int32)) else
    if l2 < (8 : Int32) then (
      (gv_gR h l0 0 0).bind fun v12 =>
      (gv_is h v12 1).bind fun i13 =>
      (cS_isValue v12 l3 l4 h).bind fun v14 =>
      if v14 = 0 then (
        some (0 : Int32)) else
      some (1 : Int32)) else
    some (0 : Int32)) else
  some (0 : Int32)
theorem cG_canBePut_ok {xs : Option (List Int32)} {l0 : Option Nat} {l1 : Option Nat} {l2 : Int32} {l3 : Int32} {l4 : Int32} {h : gx_H} {r : Int32} (e : cG_canBePut l0 l1 l2 l3 l4 h = some r) : gv_V xs 3 39 0 [(0, gv_u l0), (1, gv_u l1), (2, .int l2), (3, .int l3), (4, .int l4)] [] h (.returned (some (.int r))) h := by
  unfold cG_canBePut at e
  refine gv_rldn (pc' := 1) rfl rfl rfl ?_
  obtain ⟨v1, qv1, e⟩ := gv_bind e
  refine gv_fI (pc' := 4) rfl rfl qv1 rfl ?_
  by_cases c2 : v1 = 0
  · rw [if_pos c2] at e
    refine gv_ifF (pc' := 7) rfl (gv_neF c2) rfl rfl ?_
    refine gv_ildn (pc' := 8) rfl rfl rfl ?_
    refine gv_bp (pc' := 10) (x := 8) rfl rfl rfl ?_
    by_cases c3 : l3 = (8 : Int32)
    · rw [if_pos c3] at e
      refine gv_cmT (pc' := 26) rfl (gv_eqT2 c3) rfl ?_
      refine gv_ic (pc' := 27) (x := 1) rfl rfl rfl ?_
      refine gv_goto (pc' := 31) rfl rfl ?_
      cases e
      exact gv_retZ rfl rfl (by decide)
    rw [if_neg c3] at e
    refine gv_cmF (pc' := 13) rfl (gv_eqF2 c3) rfl rfl ?_
    refine gv_rldn (pc' := 14) rfl rfl rfl ?_
    obtain ⟨v4, qv4, e⟩ := gv_bind e
    refine gv_fR (pc' := 17) rfl rfl qv4 rfl ?_
    refine gv_ildn (pc' := 18) rfl rfl rfl ?_
    refine gv_ild (pc' := 20) rfl rfl rfl ?_
    obtain ⟨i5, qi5, e⟩ := gv_bind e
    obtain ⟨v6, qv6, e⟩ := gv_bind e
    refine gv_vS (jc := 40) (n := 2) (rest := []) (stk := [.int v6]) (pc' := 23) rfl rfl rfl rfl rfl rfl rfl rfl rfl (gv_zR (gv_zI (gv_zI gv_z0))) rfl (gv_aR (gv_aI (gv_aI gv_a0))) (Nat.le_of_ble_eq_true rfl) qi5 (cS_isValue_ok qv6) rfl rfl ?_
    by_cases c7 : v6 = 0
    · rw [if_pos c7] at e
      refine gv_ifT (pc' := 30) rfl (gv_eqT c7) rfl ?_
      refine gv_ic (pc' := 31) (x := 0) rfl rfl rfl ?_
      cases e
      exact gv_retZ rfl rfl (by decide)
    rw [if_neg c7] at e
    refine gv_ifF (pc' := 26) rfl (gv_eqF c7) rfl rfl ?_
    refine gv_ic (pc' := 27) (x := 1) rfl rfl rfl ?_
    refine gv_goto (pc' := 31) rfl rfl ?_
    cases e
    exact gv_retZ rfl rfl (by decide)
  rw [if_neg c2] at e
  refine gv_ifT (pc' := 32) rfl (gv_neT c2) rfl ?_
  refine gv_rldn (pc' := 33) rfl rfl rfl ?_
  obtain ⟨v8, qv8, e⟩ := gv_bind e
  refine gv_fI (pc' := 36) rfl rfl qv8 rfl ?_
  refine gv_ic (pc' := 37) (x := 1) rfl rfl rfl ?_
  by_cases c9 : v8 = (1 : Int32)
  · rw [if_pos c9] at e
    refine gv_cmF (pc' := 40) rfl (gv_neF2 c9) rfl rfl ?_
    refine gv_ildn (pc' := 41) rfl rfl rfl ?_
    by_cases c10 : l2 < 0
    · rw [if_pos c10] at e
      refine gv_ifT (pc' := 67) rfl (gv_ltT c10) rfl ?_
      refine gv_ic (pc' := 68) (x := 0) rfl rfl rfl ?_
      cases e
      exact gv_retZ rfl rfl (by decide)
    rw [if_neg c10] at e
    refine gv_ifF (pc' := 44) rfl (gv_ltF c10) rfl rfl ?_
    refine gv_ildn (pc' := 45) rfl rfl rfl ?_
    refine gv_bp (pc' := 47) (x := 8) rfl rfl rfl ?_
    by_cases c11 : l2 < (8 : Int32)
    · rw [if_pos c11] at e
      refine gv_cmF (pc' := 50) rfl (gv_geF2 c11) rfl rfl ?_
      refine gv_rldn (pc' := 51) rfl rfl rfl ?_
      obtain ⟨v12, qv12, e⟩ := gv_bind e
      refine gv_fR (pc' := 54) rfl rfl qv12 rfl ?_
      refine gv_ildn (pc' := 55) rfl rfl rfl ?_
      refine gv_ild (pc' := 57) rfl rfl rfl ?_
      obtain ⟨i13, qi13, e⟩ := gv_bind e
      obtain ⟨v14, qv14, e⟩ := gv_bind e
      refine gv_vS (jc := 40) (n := 2) (rest := []) (stk := [.int v14]) (pc' := 60) rfl rfl rfl rfl rfl rfl rfl rfl rfl (gv_zR (gv_zI (gv_zI gv_z0))) rfl (gv_aR (gv_aI (gv_aI gv_a0))) (Nat.le_of_ble_eq_true rfl) qi13 (cS_isValue_ok qv14) rfl rfl ?_
      by_cases c15 : v14 = 0
      · rw [if_pos c15] at e
        refine gv_ifT (pc' := 67) rfl (gv_eqT c15) rfl ?_
        refine gv_ic (pc' := 68) (x := 0) rfl rfl rfl ?_
        cases e
        exact gv_retZ rfl rfl (by decide)
      rw [if_neg c15] at e
      refine gv_ifF (pc' := 63) rfl (gv_eqF c15) rfl rfl ?_
      refine gv_ic (pc' := 64) (x := 1) rfl rfl rfl ?_
      refine gv_goto (pc' := 68) rfl rfl ?_
      cases e
      exact gv_retZ rfl rfl (by decide)
    rw [if_neg c11] at e
    refine gv_cmT (pc' := 67) rfl (gv_geT2 c11) rfl ?_
    refine gv_ic (pc' := 68) (x := 0) rfl rfl rfl ?_
    cases e
    exact gv_retZ rfl rfl (by decide)
  rw [if_neg c9] at e
  refine gv_cmT (pc' := 67) rfl (gv_neT2 c9) rfl ?_
  refine gv_ic (pc' := 68) (x := 0) rfl rfl rfl ?_
  cases e
  exact gv_retZ rfl rfl (by decide)
def cG_countedNumber (l0 : Int32) (l1 : Int32) : Option Int32 :=
  if (3 : Int32) < l0 then (
    some l1) else
  some (0 : Int32)
theorem cG_countedNumber_ok {xs : Option (List Int32)} {l0 : Int32} {l1 : Int32} {h : gx_H} {r : Int32} (e : cG_countedNumber l0 l1 = some r) : gv_V xs 0 42 0 [(0, .int l0), (1, .int l1)] [] h (.returned (some (.int r))) h := by
  unfold cG_countedNumber at e
  refine gv_ildn (pc' := 1) rfl rfl rfl ?_
  refine gv_ic (pc' := 2) (x := 3) rfl rfl rfl ?_
  by_cases c1 : (3 : Int32) < l0
  · rw [if_pos c1] at e
    refine gv_cmT (pc' := 9) rfl (gv_gtT2 c1) rfl ?_
    refine gv_ildn (pc' := 10) rfl rfl rfl ?_
    cases e
    exact gv_retI rfl rfl
  rw [if_neg c1] at e
  refine gv_cmF (pc' := 5) rfl (gv_gtF2 c1) rfl rfl ?_
  refine gv_ic (pc' := 6) (x := 0) rfl rfl rfl ?_
  refine gv_goto (pc' := 10) rfl rfl ?_
  cases e
  exact gv_retI rfl rfl
def cG_put_28  (h : gx_H) : Option (Outcome × gx_H) :=
  some (.threw h.length, h ++ [(8, [])])
theorem cG_put_28_ok {xs : Option (List Int32)}  {h : gx_H} {r : (Outcome × gx_H)} (e : cG_put_28 h = some r) : gv_V xs 4 38 28 [] [] h r.1 r.2 := by
  unfold cG_put_28 at e
  cases e
  exact gv_thr rfl rfl rfl
def cG_put (l0 : Option Nat) (l1 : Int32) (l2 : Int32) (l3 : Int32) (l4 : Int32) (h : gx_H) : Option (Outcome × gx_H) :=
  (gv_gR h l0 0 0).bind fun v1 =>
  (gv_is h v1 1).bind fun i2 =>
  (cS_thingAt v1 l1 h).bind fun v3 =>
  if v3 = none then (
    cG_put_28 h) else
  (gv_is h l0 0).bind fun i5 =>
  (cG_canBePut l0 v3 l2 l3 l4 h).bind fun v6 =>
  if v6 = 0 then (
    cG_put_28 h) else
  (gv_gI h v3 2 4).bind fun v8 =>
  if v8 = (1 : Int32) then (
    (cG_countedNumber l3 l4).bind fun v10 =>
    (gv_is h v3 2).bind fun i11 =>
    (cT_setPlace v3 l2 l3 v10 h).bind fun h13 =>
    some (.returned none, h13)) else
  (cG_countedNumber l3 l4).bind fun v14 =>
  (gv_is h v3 2).bind fun i15 =>
  (cT_setProperty v3 l2 l3 v14 h).bind fun r18 =>
  if r18.1 = 0 then (
    some (.threw r18.2.length, r18.2 ++ [(9, [])])) else
  some (.returned none, r18.2)
theorem cG_put_ok {xs : Option (List Int32)} {l0 : Option Nat} {l1 : Int32} {l2 : Int32} {l3 : Int32} {l4 : Int32} {h : gx_H} {r : (Outcome × gx_H)} (e : cG_put l0 l1 l2 l3 l4 h = some r) : gv_V xs 4 38 0 [(0, gv_u l0), (1, .int l1), (2, .int l2), (3, .int l3), (4, .int l4)] [] h r.1 r.2 := by
  unfold cG_put at e
  refine gv_rldn (pc' := 1) rfl rfl rfl ?_
  obtain ⟨v1, qv1, e⟩ := gv_bind e
  refine gv_fR (pc' := 4) rfl rfl qv1 rfl ?_
  refine gv_ildn (pc' := 5) rfl rfl rfl ?_
  obtain ⟨i2, qi2, e⟩ := gv_bind e
  obtain ⟨v3, qv3, e⟩ := gv_bind e
  refine gv_vS (jc := 10) (n := 1) (rest := []) (stk := [gv_u v3]) (pc' := 8) rfl rfl rfl rfl rfl rfl rfl rfl rfl (gv_zR (gv_zI gv_z0)) rfl (gv_aR (gv_aI gv_a0)) (Nat.le_of_ble_eq_true rfl) qi2 (cS_thingAt_ok qv3) rfl rfl ?_
  refine gv_rst (pc' := 10) rfl rfl (gv_Ci rfl) rfl ?_
  refine gv_rld (pc' := 12) rfl rfl rfl ?_
  by_cases c4 : v3 = none
  · rw [if_pos c4] at e
    refine gv_nuT (pc' := 28) rfl c4 rfl ?_
    exact gv_weak (cG_put_28_ok e) gv_S0
  rw [if_neg c4] at e
  refine gv_nuF (pc' := 15) rfl c4 rfl ?_
  refine gv_rldn (pc' := 16) rfl rfl rfl ?_
  refine gv_rld (pc' := 18) rfl rfl rfl ?_
  refine gv_ildn (pc' := 19) rfl rfl rfl ?_
  refine gv_ildn (pc' := 20) rfl rfl rfl ?_
  refine gv_ild (pc' := 22) rfl rfl rfl ?_
  obtain ⟨i5, qi5, e⟩ := gv_bind e
  obtain ⟨v6, qv6, e⟩ := gv_bind e
  refine gv_vS (jc := 39) (n := 4) (rest := []) (stk := [.int v6]) (pc' := 25) rfl rfl rfl rfl rfl rfl rfl rfl rfl (gv_zR (gv_zR (gv_zI (gv_zI (gv_zI gv_z0))))) rfl (gv_aR (gv_aR (gv_aI (gv_aI (gv_aI gv_a0))))) (Nat.le_of_ble_eq_true rfl) qi5 (cG_canBePut_ok qv6) rfl rfl ?_
  by_cases c7 : v6 = 0
  · rw [if_pos c7] at e
    refine gv_ifF (pc' := 28) rfl (gv_neF c7) rfl rfl ?_
    exact gv_weak (cG_put_28_ok e) gv_S0
  rw [if_neg c7] at e
  refine gv_ifT (pc' := 38) rfl (gv_neT c7) rfl ?_
  refine gv_rld (pc' := 40) rfl rfl rfl ?_
  obtain ⟨v8, qv8, e⟩ := gv_bind e
  refine gv_fI (pc' := 43) rfl rfl qv8 rfl ?_
  refine gv_ic (pc' := 44) (x := 1) rfl rfl rfl ?_
  by_cases c9 : v8 = (1 : Int32)
  · rw [if_pos c9] at e
    refine gv_cmF (pc' := 47) rfl (gv_neF2 c9) rfl rfl ?_
    refine gv_rld (pc' := 49) rfl rfl rfl ?_
    refine gv_ildn (pc' := 50) rfl rfl rfl ?_
    refine gv_ildn (pc' := 51) rfl rfl rfl ?_
    refine gv_ildn (pc' := 52) rfl rfl rfl ?_
    refine gv_ild (pc' := 54) rfl rfl rfl ?_
    obtain ⟨v10, qv10, e⟩ := gv_bind e
    refine gv_sS (jc := 42) (n := 2) (rest := [.int l3, .int l2, gv_u v3]) (stk := [.int v10, .int l3, .int l2, gv_u v3]) (pc' := 57) rfl rfl rfl rfl rfl rfl rfl rfl rfl (gv_zI (gv_zI gv_z0)) rfl (gv_aI (gv_aI gv_a0)) (Nat.le_of_ble_eq_true rfl) (cG_countedNumber_ok qv10) rfl rfl ?_
    obtain ⟨i11, qi11, e⟩ := gv_bind e
    obtain ⟨h13, qv12, e⟩ := gv_bind e
    refine gv_vS (jc := 43) (n := 3) (rest := []) (stk := []) (pc' := 60) rfl rfl rfl rfl rfl rfl rfl rfl rfl (gv_zR (gv_zI (gv_zI (gv_zI gv_z0)))) rfl (gv_aR (gv_aI (gv_aI (gv_aI gv_a0)))) (Nat.le_of_ble_eq_true rfl) qi11 (cT_setPlace_ok qv12) rfl rfl ?_
    refine gv_goto (pc' := 89) rfl rfl ?_
    cases e
    exact gv_retV rfl rfl
  rw [if_neg c9] at e
  refine gv_cmT (pc' := 63) rfl (gv_neT2 c9) rfl ?_
  refine gv_rld (pc' := 65) rfl rfl rfl ?_
  refine gv_ildn (pc' := 66) rfl rfl rfl ?_
  refine gv_ildn (pc' := 67) rfl rfl rfl ?_
  refine gv_ildn (pc' := 68) rfl rfl rfl ?_
  refine gv_ild (pc' := 70) rfl rfl rfl ?_
  obtain ⟨v14, qv14, e⟩ := gv_bind e
  refine gv_sS (jc := 42) (n := 2) (rest := [.int l3, .int l2, gv_u v3]) (stk := [.int v14, .int l3, .int l2, gv_u v3]) (pc' := 73) rfl rfl rfl rfl rfl rfl rfl rfl rfl (gv_zI (gv_zI gv_z0)) rfl (gv_aI (gv_aI gv_a0)) (Nat.le_of_ble_eq_true rfl) (cG_countedNumber_ok qv14) rfl rfl ?_
  obtain ⟨i15, qi15, e⟩ := gv_bind e
  obtain ⟨⟨v16, h17⟩, qv16, e⟩ := gv_bind e
  refine gv_vS (jc := 46) (n := 3) (rest := []) (stk := [.int v16]) (pc' := 76) rfl rfl rfl rfl rfl rfl rfl rfl rfl (gv_zR (gv_zI (gv_zI (gv_zI gv_z0)))) rfl (gv_aR (gv_aI (gv_aI (gv_aI gv_a0)))) (Nat.le_of_ble_eq_true rfl) qi15 (cT_setProperty_ok qv16) rfl rfl ?_
  by_cases c19 : v16 = 0
  · rw [if_pos c19] at e
    refine gv_ifF (pc' := 79) rfl (gv_neF c19) rfl rfl ?_
    cases e
    exact gv_thr rfl rfl rfl
  rw [if_neg c19] at e
  refine gv_ifT (pc' := 89) rfl (gv_neT c19) rfl ?_
  cases e
  exact gv_retV rfl rfl
def cG_take_28  (h : gx_H) : Option (Outcome × gx_H) :=
  some (.threw h.length, h ++ [(8, [])])
theorem cG_take_28_ok {xs : Option (List Int32)}  {h : gx_H} {r : (Outcome × gx_H)} (e : cG_take_28 h = some r) : gv_V xs 2 51 28 [] [] h r.1 r.2 := by
  unfold cG_take_28 at e
  cases e
  exact gv_thr rfl rfl rfl
def cG_take_38 (l2 : Int32) (l3 : Option Nat) (h : gx_H) : Option (Outcome × gx_H) :=
  (gv_gI h l3 2 4).bind fun v1 =>
  if v1 = 0 then (
    (gv_is h l3 2).bind fun i3 =>
    (cT_dropProperty l3 l2 h).bind fun r6 =>
    if ¬ (r6.1 = 0 ∨ r6.1 = 1) then none else
    some (.returned (some (.int r6.1)), r6.2)) else
  (gv_is h l3 2).bind fun i8 =>
  (cT_makeHole l3 l2 h).bind fun r11 =>
  if ¬ (r11.1 = 0 ∨ r11.1 = 1) then none else
  some (.returned (some (.int r11.1)), r11.2)
theorem cG_take_38_ok {xs : Option (List Int32)} {l2 : Int32} {l3 : Option Nat} {h : gx_H} {r : (Outcome × gx_H)} (e : cG_take_38 l2 l3 h = some r) : gv_V xs 2 51 38 [(2, .int l2), (3, gv_u l3)] [] h r.1 r.2 := by
  unfold cG_take_38 at e
  refine gv_rldn (pc' := 39) rfl rfl rfl ?_
  obtain ⟨v1, qv1, e⟩ := gv_bind e
  refine gv_fI (pc' := 42) rfl rfl qv1 rfl ?_
  by_cases c2 : v1 = 0
  · rw [if_pos c2] at e
    refine gv_ifF (pc' := 45) rfl (gv_neF c2) rfl rfl ?_
    refine gv_rldn (pc' := 46) rfl rfl rfl ?_
    refine gv_ildn (pc' := 47) rfl rfl rfl ?_
    obtain ⟨i3, qi3, e⟩ := gv_bind e
    obtain ⟨⟨v4, h5⟩, qv4, e⟩ := gv_bind e
    refine gv_vS (jc := 52) (n := 1) (rest := []) (stk := [.int v4]) (pc' := 50) rfl rfl rfl rfl rfl rfl rfl rfl rfl (gv_zR (gv_zI gv_z0)) rfl (gv_aR (gv_aI gv_a0)) (Nat.le_of_ble_eq_true rfl) qi3 (cT_dropProperty_ok qv4) rfl rfl ?_
    refine gv_goto (pc' := 58) rfl rfl ?_
    by_cases c7 : ¬ (v4 = 0 ∨ v4 = 1)
    · rw [if_pos c7] at e; cases e
    rw [if_neg c7] at e
    cases e
    exact gv_retZ rfl rfl (Decidable.of_not_not c7)
  rw [if_neg c2] at e
  refine gv_ifT (pc' := 53) rfl (gv_neT c2) rfl ?_
  refine gv_rldn (pc' := 54) rfl rfl rfl ?_
  refine gv_ildn (pc' := 55) rfl rfl rfl ?_
  obtain ⟨i8, qi8, e⟩ := gv_bind e
  obtain ⟨⟨v9, h10⟩, qv9, e⟩ := gv_bind e
  refine gv_vS (jc := 53) (n := 1) (rest := []) (stk := [.int v9]) (pc' := 58) rfl rfl rfl rfl rfl rfl rfl rfl rfl (gv_zR (gv_zI gv_z0)) rfl (gv_aR (gv_aI gv_a0)) (Nat.le_of_ble_eq_true rfl) qi8 (cT_makeHole_ok qv9) rfl rfl ?_
  by_cases c12 : ¬ (v9 = 0 ∨ v9 = 1)
  · rw [if_pos c12] at e; cases e
  rw [if_neg c12] at e
  cases e
  exact gv_retZ rfl rfl (Decidable.of_not_not c12)
def cG_take (l0 : Option Nat) (l1 : Int32) (l2 : Int32) (h : gx_H) : Option (Outcome × gx_H) :=
  (gv_gR h l0 0 0).bind fun v1 =>
  (gv_is h v1 1).bind fun i2 =>
  (cS_thingAt v1 l1 h).bind fun v3 =>
  if v3 = none then (
    cG_take_28 h) else
  (gv_gI h v3 2 4).bind fun v5 =>
  if v5 = 0 then (
    cG_take_38 l2 v3 h) else
  (gv_gI h v3 2 4).bind fun v7 =>
  if v7 = (1 : Int32) then (
    cG_take_38 l2 v3 h) else
  cG_take_28 h
theorem cG_take_ok {xs : Option (List Int32)} {l0 : Option Nat} {l1 : Int32} {l2 : Int32} {h : gx_H} {r : (Outcome × gx_H)} (e : cG_take l0 l1 l2 h = some r) : gv_V xs 2 51 0 [(0, gv_u l0), (1, .int l1), (2, .int l2)] [] h r.1 r.2 := by
  unfold cG_take at e
  refine gv_rldn (pc' := 1) rfl rfl rfl ?_
  obtain ⟨v1, qv1, e⟩ := gv_bind e
  refine gv_fR (pc' := 4) rfl rfl qv1 rfl ?_
  refine gv_ildn (pc' := 5) rfl rfl rfl ?_
  obtain ⟨i2, qi2, e⟩ := gv_bind e
  obtain ⟨v3, qv3, e⟩ := gv_bind e
  refine gv_vS (jc := 10) (n := 1) (rest := []) (stk := [gv_u v3]) (pc' := 8) rfl rfl rfl rfl rfl rfl rfl rfl rfl (gv_zR (gv_zI gv_z0)) rfl (gv_aR (gv_aI gv_a0)) (Nat.le_of_ble_eq_true rfl) qi2 (cS_thingAt_ok qv3) rfl rfl ?_
  refine gv_rstn (pc' := 9) rfl rfl (gv_Ci rfl) rfl ?_
  refine gv_rldn (pc' := 10) rfl rfl rfl ?_
  by_cases c4 : v3 = none
  · rw [if_pos c4] at e
    refine gv_nuT (pc' := 28) rfl c4 rfl ?_
    exact gv_weak (cG_take_28_ok e) gv_S0
  rw [if_neg c4] at e
  refine gv_nuF (pc' := 13) rfl c4 rfl ?_
  refine gv_rldn (pc' := 14) rfl rfl rfl ?_
  obtain ⟨v5, qv5, e⟩ := gv_bind e
  refine gv_fI (pc' := 17) rfl rfl qv5 rfl ?_
  by_cases c6 : v5 = 0
  · rw [if_pos c6] at e
    refine gv_ifT (pc' := 38) rfl (gv_eqT c6) rfl ?_
    exact gv_weak (cG_take_38_ok e) (gv_S1 rfl (gv_S1 rfl gv_S0))
  rw [if_neg c6] at e
  refine gv_ifF (pc' := 20) rfl (gv_eqF c6) rfl rfl ?_
  refine gv_rldn (pc' := 21) rfl rfl rfl ?_
  obtain ⟨v7, qv7, e⟩ := gv_bind e
  refine gv_fI (pc' := 24) rfl rfl qv7 rfl ?_
  refine gv_ic (pc' := 25) (x := 1) rfl rfl rfl ?_
  by_cases c8 : v7 = (1 : Int32)
  · rw [if_pos c8] at e
    refine gv_cmT (pc' := 38) rfl (gv_eqT2 c8) rfl ?_
    exact gv_weak (cG_take_38_ok e) (gv_S1 rfl (gv_S1 rfl gv_S0))
  rw [if_neg c8] at e
  refine gv_cmF (pc' := 28) rfl (gv_eqF2 c8) rfl rfl ?_
  exact gv_weak (cG_take_28_ok e) gv_S0
def cG_entry_50  (h : gx_H) : Option (Outcome × gx_H) :=
  some (.threw h.length, h ++ [(8, [])])
theorem cG_entry_50_ok {xs : Option (List Int32)}  {h : gx_H} {r : (Outcome × gx_H)} (e : cG_entry_50 h = some r) : gv_V xs 3 55 50 [] [] h r.1 r.2 := by
  unfold cG_entry_50 at e
  cases e
  exact gv_thr rfl rfl rfl
def cG_entry (l0 : Option Nat) (l1 : Int32) (l2 : Int32) (l3 : Int32) (l4 : Int32) (l5 : Int32) (h : gx_H) : Option (Outcome × gx_H) :=
  (gv_gR h l0 0 0).bind fun v1 =>
  (gv_is h v1 1).bind fun i2 =>
  (cS_thingAt v1 l1 h).bind fun v3 =>
  if v3 = none then (
    cG_entry_50 h) else
  (gv_gI h v3 2 4).bind fun v5 =>
  if v5 = (2 : Int32) then (
    (gv_gR h l0 0 0).bind fun v7 =>
    (gv_is h v7 1).bind fun i8 =>
    (cS_isValue v7 l2 l3 h).bind fun v9 =>
    if v9 = 0 then (
      cG_entry_50 h) else
    (gv_gR h l0 0 0).bind fun v11 =>
    (gv_is h v11 1).bind fun i12 =>
    (cS_isValue v11 l4 l5 h).bind fun v13 =>
    if v13 = 0 then (
      cG_entry_50 h) else
    (cG_countedNumber l2 l3).bind fun v15 =>
    (cG_countedNumber l4 l5).bind fun v16 =>
    (gv_is h v3 2).bind fun i17 =>
    (cT_setEntry v3 l2 v15 l4 v16 h).bind fun r20 =>
    if r20.1 = 0 then (
      some (.threw r20.2.length, r20.2 ++ [(9, [])])) else
    some (.returned none, r20.2)) else
  cG_entry_50 h
theorem cG_entry_ok {xs : Option (List Int32)} {l0 : Option Nat} {l1 : Int32} {l2 : Int32} {l3 : Int32} {l4 : Int32} {l5 : Int32} {h : gx_H} {r : (Outcome × gx_H)} (e : cG_entry l0 l1 l2 l3 l4 l5 h = some r) : gv_V xs 3 55 0 [(0, gv_u l0), (1, .int l1), (2, .int l2), (3, .int l3), (4, .int l4), (5, .int l5)] [] h r.1 r.2 := by
  unfold cG_entry at e
  refine gv_rldn (pc' := 1) rfl rfl rfl ?_
  obtain ⟨v1, qv1, e⟩ := gv_bind e
  refine gv_fR (pc' := 4) rfl rfl qv1 rfl ?_
  refine gv_ildn (pc' := 5) rfl rfl rfl ?_
  obtain ⟨i2, qi2, e⟩ := gv_bind e
  obtain ⟨v3, qv3, e⟩ := gv_bind e
  refine gv_vS (jc := 10) (n := 1) (rest := []) (stk := [gv_u v3]) (pc' := 8) rfl rfl rfl rfl rfl rfl rfl rfl rfl (gv_zR (gv_zI gv_z0)) rfl (gv_aR (gv_aI gv_a0)) (Nat.le_of_ble_eq_true rfl) qi2 (cS_thingAt_ok qv3) rfl rfl ?_
  refine gv_rst (pc' := 10) rfl rfl (gv_Ci rfl) rfl ?_
  refine gv_rld (pc' := 12) rfl rfl rfl ?_
  by_cases c4 : v3 = none
  · rw [if_pos c4] at e
    refine gv_nuT (pc' := 50) rfl c4 rfl ?_
    exact gv_weak (cG_entry_50_ok e) gv_S0
  rw [if_neg c4] at e
  refine gv_nuF (pc' := 15) rfl c4 rfl ?_
  refine gv_rld (pc' := 17) rfl rfl rfl ?_
  obtain ⟨v5, qv5, e⟩ := gv_bind e
  refine gv_fI (pc' := 20) rfl rfl qv5 rfl ?_
  refine gv_ic (pc' := 21) (x := 2) rfl rfl rfl ?_
  by_cases c6 : v5 = (2 : Int32)
  · rw [if_pos c6] at e
    refine gv_cmF (pc' := 24) rfl (gv_neF2 c6) rfl rfl ?_
    refine gv_rldn (pc' := 25) rfl rfl rfl ?_
    obtain ⟨v7, qv7, e⟩ := gv_bind e
    refine gv_fR (pc' := 28) rfl rfl qv7 rfl ?_
    refine gv_ildn (pc' := 29) rfl rfl rfl ?_
    refine gv_ildn (pc' := 30) rfl rfl rfl ?_
    obtain ⟨i8, qi8, e⟩ := gv_bind e
    obtain ⟨v9, qv9, e⟩ := gv_bind e
    refine gv_vS (jc := 40) (n := 2) (rest := []) (stk := [.int v9]) (pc' := 33) rfl rfl rfl rfl rfl rfl rfl rfl rfl (gv_zR (gv_zI (gv_zI gv_z0))) rfl (gv_aR (gv_aI (gv_aI gv_a0))) (Nat.le_of_ble_eq_true rfl) qi8 (cS_isValue_ok qv9) rfl rfl ?_
    by_cases c10 : v9 = 0
    · rw [if_pos c10] at e
      refine gv_ifT (pc' := 50) rfl (gv_eqT c10) rfl ?_
      exact gv_weak (cG_entry_50_ok e) gv_S0
    rw [if_neg c10] at e
    refine gv_ifF (pc' := 36) rfl (gv_eqF c10) rfl rfl ?_
    refine gv_rldn (pc' := 37) rfl rfl rfl ?_
    obtain ⟨v11, qv11, e⟩ := gv_bind e
    refine gv_fR (pc' := 40) rfl rfl qv11 rfl ?_
    refine gv_ild (pc' := 42) rfl rfl rfl ?_
    refine gv_ild (pc' := 44) rfl rfl rfl ?_
    obtain ⟨i12, qi12, e⟩ := gv_bind e
    obtain ⟨v13, qv13, e⟩ := gv_bind e
    refine gv_vS (jc := 40) (n := 2) (rest := []) (stk := [.int v13]) (pc' := 47) rfl rfl rfl rfl rfl rfl rfl rfl rfl (gv_zR (gv_zI (gv_zI gv_z0))) rfl (gv_aR (gv_aI (gv_aI gv_a0))) (Nat.le_of_ble_eq_true rfl) qi12 (cS_isValue_ok qv13) rfl rfl ?_
    by_cases c14 : v13 = 0
    · rw [if_pos c14] at e
      refine gv_ifF (pc' := 50) rfl (gv_neF c14) rfl rfl ?_
      exact gv_weak (cG_entry_50_ok e) gv_S0
    rw [if_neg c14] at e
    refine gv_ifT (pc' := 60) rfl (gv_neT c14) rfl ?_
    refine gv_ildn (pc' := 61) rfl rfl rfl ?_
    refine gv_ildn (pc' := 62) rfl rfl rfl ?_
    obtain ⟨v15, qv15, e⟩ := gv_bind e
    refine gv_sS (jc := 42) (n := 2) (rest := []) (stk := [.int v15]) (pc' := 65) rfl rfl rfl rfl rfl rfl rfl rfl rfl (gv_zI (gv_zI gv_z0)) rfl (gv_aI (gv_aI gv_a0)) (Nat.le_of_ble_eq_true rfl) (cG_countedNumber_ok qv15) rfl rfl ?_
    refine gv_ist (pc' := 67) rfl rfl (gv_Cr rfl) rfl ?_
    refine gv_rld (pc' := 69) rfl rfl rfl ?_
    refine gv_ildn (pc' := 70) rfl rfl rfl ?_
    refine gv_ild (pc' := 72) rfl rfl rfl ?_
    refine gv_ild (pc' := 74) rfl rfl rfl ?_
    refine gv_ild (pc' := 76) rfl rfl rfl ?_
    refine gv_ild (pc' := 78) rfl rfl rfl ?_
    obtain ⟨v16, qv16, e⟩ := gv_bind e
    refine gv_sS (jc := 42) (n := 2) (rest := [.int l4, .int v15, .int l2, gv_u v3]) (stk := [.int v16, .int l4, .int v15, .int l2, gv_u v3]) (pc' := 81) rfl rfl rfl rfl rfl rfl rfl rfl rfl (gv_zI (gv_zI gv_z0)) rfl (gv_aI (gv_aI gv_a0)) (Nat.le_of_ble_eq_true rfl) (cG_countedNumber_ok qv16) rfl rfl ?_
    obtain ⟨i17, qi17, e⟩ := gv_bind e
    obtain ⟨⟨v18, h19⟩, qv18, e⟩ := gv_bind e
    refine gv_vS (jc := 56) (n := 4) (rest := []) (stk := [.int v18]) (pc' := 84) rfl rfl rfl rfl rfl rfl rfl rfl rfl (gv_zR (gv_zI (gv_zI (gv_zI (gv_zI gv_z0))))) rfl (gv_aR (gv_aI (gv_aI (gv_aI (gv_aI gv_a0))))) (Nat.le_of_ble_eq_true rfl) qi17 (cT_setEntry_ok qv18) rfl rfl ?_
    by_cases c21 : v18 = 0
    · rw [if_pos c21] at e
      refine gv_ifF (pc' := 87) rfl (gv_neF c21) rfl rfl ?_
      cases e
      exact gv_thr rfl rfl rfl
    rw [if_neg c21] at e
    refine gv_ifT (pc' := 97) rfl (gv_neT c21) rfl ?_
    cases e
    exact gv_retV rfl rfl
  rw [if_neg c6] at e
  refine gv_cmT (pc' := 50) rfl (gv_neT2 c6) rfl ?_
  exact gv_weak (cG_entry_50_ok e) gv_S0
def cG_add_36  (h : gx_H) : Option (Outcome × gx_H) :=
  some (.threw h.length, h ++ [(8, [])])
theorem cG_add_36_ok {xs : Option (List Int32)}  {h : gx_H} {r : (Outcome × gx_H)} (e : cG_add_36 h = some r) : gv_V xs 3 58 36 [] [] h r.1 r.2 := by
  unfold cG_add_36 at e
  cases e
  exact gv_thr rfl rfl rfl
def cG_add (l0 : Option Nat) (l1 : Int32) (l2 : Int32) (l3 : Int32) (h : gx_H) : Option (Outcome × gx_H) :=
  (gv_gR h l0 0 0).bind fun v1 =>
  (gv_is h v1 1).bind fun i2 =>
  (cS_thingAt v1 l1 h).bind fun v3 =>
  if v3 = none then (
    cG_add_36 h) else
  (gv_gI h v3 2 4).bind fun v5 =>
  if v5 = (3 : Int32) then (
    (gv_gR h l0 0 0).bind fun v7 =>
    (gv_is h v7 1).bind fun i8 =>
    (cS_isValue v7 l2 l3 h).bind fun v9 =>
    if v9 = 0 then (
      cG_add_36 h) else
    (cG_countedNumber l2 l3).bind fun v11 =>
    (gv_is h v3 2).bind fun i12 =>
    (cT_hasMember v3 l2 v11 h).bind fun v13 =>
    if v13 = 0 then (
      (gv_is h v3 2).bind fun i15 =>
      (cT_appendMember v3 l2 v11 h).bind fun r18 =>
      if r18.1 = 0 then (
        some (.threw r18.2.length, r18.2 ++ [(9, [])])) else
      some (.returned (some (.int (1 : Int32))), r18.2)) else
    some (.returned (some (.int (0 : Int32))), h)) else
  cG_add_36 h
theorem cG_add_ok {xs : Option (List Int32)} {l0 : Option Nat} {l1 : Int32} {l2 : Int32} {l3 : Int32} {h : gx_H} {r : (Outcome × gx_H)} (e : cG_add l0 l1 l2 l3 h = some r) : gv_V xs 3 58 0 [(0, gv_u l0), (1, .int l1), (2, .int l2), (3, .int l3)] [] h r.1 r.2 := by
  unfold cG_add at e
  refine gv_rldn (pc' := 1) rfl rfl rfl ?_
  obtain ⟨v1, qv1, e⟩ := gv_bind e
  refine gv_fR (pc' := 4) rfl rfl qv1 rfl ?_
  refine gv_ildn (pc' := 5) rfl rfl rfl ?_
  obtain ⟨i2, qi2, e⟩ := gv_bind e
  obtain ⟨v3, qv3, e⟩ := gv_bind e
  refine gv_vS (jc := 10) (n := 1) (rest := []) (stk := [gv_u v3]) (pc' := 8) rfl rfl rfl rfl rfl rfl rfl rfl rfl (gv_zR (gv_zI gv_z0)) rfl (gv_aR (gv_aI gv_a0)) (Nat.le_of_ble_eq_true rfl) qi2 (cS_thingAt_ok qv3) rfl rfl ?_
  refine gv_rst (pc' := 10) rfl rfl (gv_Ci rfl) rfl ?_
  refine gv_rld (pc' := 12) rfl rfl rfl ?_
  by_cases c4 : v3 = none
  · rw [if_pos c4] at e
    refine gv_nuT (pc' := 36) rfl c4 rfl ?_
    exact gv_weak (cG_add_36_ok e) gv_S0
  rw [if_neg c4] at e
  refine gv_nuF (pc' := 15) rfl c4 rfl ?_
  refine gv_rld (pc' := 17) rfl rfl rfl ?_
  obtain ⟨v5, qv5, e⟩ := gv_bind e
  refine gv_fI (pc' := 20) rfl rfl qv5 rfl ?_
  refine gv_ic (pc' := 21) (x := 3) rfl rfl rfl ?_
  by_cases c6 : v5 = (3 : Int32)
  · rw [if_pos c6] at e
    refine gv_cmF (pc' := 24) rfl (gv_neF2 c6) rfl rfl ?_
    refine gv_rldn (pc' := 25) rfl rfl rfl ?_
    obtain ⟨v7, qv7, e⟩ := gv_bind e
    refine gv_fR (pc' := 28) rfl rfl qv7 rfl ?_
    refine gv_ildn (pc' := 29) rfl rfl rfl ?_
    refine gv_ildn (pc' := 30) rfl rfl rfl ?_
    obtain ⟨i8, qi8, e⟩ := gv_bind e
    obtain ⟨v9, qv9, e⟩ := gv_bind e
    refine gv_vS (jc := 40) (n := 2) (rest := []) (stk := [.int v9]) (pc' := 33) rfl rfl rfl rfl rfl rfl rfl rfl rfl (gv_zR (gv_zI (gv_zI gv_z0))) rfl (gv_aR (gv_aI (gv_aI gv_a0))) (Nat.le_of_ble_eq_true rfl) qi8 (cS_isValue_ok qv9) rfl rfl ?_
    by_cases c10 : v9 = 0
    · rw [if_pos c10] at e
      refine gv_ifF (pc' := 36) rfl (gv_neF c10) rfl rfl ?_
      exact gv_weak (cG_add_36_ok e) gv_S0
    rw [if_neg c10] at e
    refine gv_ifT (pc' := 46) rfl (gv_neT c10) rfl ?_
    refine gv_ildn (pc' := 47) rfl rfl rfl ?_
    refine gv_ildn (pc' := 48) rfl rfl rfl ?_
    obtain ⟨v11, qv11, e⟩ := gv_bind e
    refine gv_sS (jc := 42) (n := 2) (rest := []) (stk := [.int v11]) (pc' := 51) rfl rfl rfl rfl rfl rfl rfl rfl rfl (gv_zI (gv_zI gv_z0)) rfl (gv_aI (gv_aI gv_a0)) (Nat.le_of_ble_eq_true rfl) (cG_countedNumber_ok qv11) rfl rfl ?_
    refine gv_ist (pc' := 53) rfl rfl (gv_Cr rfl) rfl ?_
    refine gv_rld (pc' := 55) rfl rfl rfl ?_
    refine gv_ildn (pc' := 56) rfl rfl rfl ?_
    refine gv_ild (pc' := 58) rfl rfl rfl ?_
    obtain ⟨i12, qi12, e⟩ := gv_bind e
    obtain ⟨v13, qv13, e⟩ := gv_bind e
    refine gv_vS (jc := 59) (n := 2) (rest := []) (stk := [.int v13]) (pc' := 61) rfl rfl rfl rfl rfl rfl rfl rfl rfl (gv_zR (gv_zI (gv_zI gv_z0))) rfl (gv_aR (gv_aI (gv_aI gv_a0))) (Nat.le_of_ble_eq_true rfl) qi12 (cT_hasMember_ok qv13) rfl rfl ?_
    by_cases c14 : v13 = 0
    · rw [if_pos c14] at e
      refine gv_ifT (pc' := 66) rfl (gv_eqT c14) rfl ?_
      refine gv_rld (pc' := 68) rfl rfl rfl ?_
      refine gv_ildn (pc' := 69) rfl rfl rfl ?_
      refine gv_ild (pc' := 71) rfl rfl rfl ?_
      obtain ⟨i15, qi15, e⟩ := gv_bind e
      obtain ⟨⟨v16, h17⟩, qv16, e⟩ := gv_bind e
      refine gv_vS (jc := 60) (n := 2) (rest := []) (stk := [.int v16]) (pc' := 74) rfl rfl rfl rfl rfl rfl rfl rfl rfl (gv_zR (gv_zI (gv_zI gv_z0))) rfl (gv_aR (gv_aI (gv_aI gv_a0))) (Nat.le_of_ble_eq_true rfl) qi15 (cT_appendMember_ok qv16) rfl rfl ?_
      by_cases c19 : v16 = 0
      · rw [if_pos c19] at e
        refine gv_ifF (pc' := 77) rfl (gv_neF c19) rfl rfl ?_
        cases e
        exact gv_thr rfl rfl rfl
      rw [if_neg c19] at e
      refine gv_ifT (pc' := 87) rfl (gv_neT c19) rfl ?_
      refine gv_ic (pc' := 88) (x := 1) rfl rfl rfl ?_
      cases e
      exact gv_retZ rfl rfl (by decide)
    rw [if_neg c14] at e
    refine gv_ifF (pc' := 64) rfl (gv_eqF c14) rfl rfl ?_
    refine gv_ic (pc' := 65) (x := 0) rfl rfl rfl ?_
    cases e
    exact gv_retZ rfl rfl (by decide)
  rw [if_neg c6] at e
  refine gv_cmT (pc' := 36) rfl (gv_neT2 c6) rfl ?_
  exact gv_weak (cG_add_36_ok e) gv_S0
def cG_get_25  (h : gx_H) : Option (Outcome × gx_H) :=
  some (.threw h.length, h ++ [(10, [])])
theorem cG_get_25_ok {xs : Option (List Int32)}  {h : gx_H} {r : (Outcome × gx_H)} (e : cG_get_25 h = some r) : gv_V xs 3 62 25 [] [] h r.1 r.2 := by
  unfold cG_get_25 at e
  cases e
  exact gv_thr rfl rfl rfl
def cG_get (l0 : Option Nat) (l1 : Int32) (l2 : Int32) (l3 : Int32) (h : gx_H) : Option (Outcome × gx_H) :=
  (gv_gR h l0 0 0).bind fun v1 =>
  (gv_is h v1 1).bind fun i2 =>
  (cS_thingAt v1 l1 h).bind fun v3 =>
  if v3 = none then (
    cG_get_25 h) else
  (gv_is h v3 2).bind fun i5 =>
  (cT_hasPart v3 l2 l3 h).bind fun v6 =>
  if v6 = 0 then (
    cG_get_25 h) else
  (gv_is h v3 2).bind fun i8 =>
  (cT_part v3 l2 l3 h).bind fun v9 =>
  some (.returned (some (.long v9)), h)
theorem cG_get_ok {xs : Option (List Int32)} {l0 : Option Nat} {l1 : Int32} {l2 : Int32} {l3 : Int32} {h : gx_H} {r : (Outcome × gx_H)} (e : cG_get l0 l1 l2 l3 h = some r) : gv_V xs 3 62 0 [(0, gv_u l0), (1, .int l1), (2, .int l2), (3, .int l3)] [] h r.1 r.2 := by
  unfold cG_get at e
  refine gv_rldn (pc' := 1) rfl rfl rfl ?_
  obtain ⟨v1, qv1, e⟩ := gv_bind e
  refine gv_fR (pc' := 4) rfl rfl qv1 rfl ?_
  refine gv_ildn (pc' := 5) rfl rfl rfl ?_
  obtain ⟨i2, qi2, e⟩ := gv_bind e
  obtain ⟨v3, qv3, e⟩ := gv_bind e
  refine gv_vS (jc := 10) (n := 1) (rest := []) (stk := [gv_u v3]) (pc' := 8) rfl rfl rfl rfl rfl rfl rfl rfl rfl (gv_zR (gv_zI gv_z0)) rfl (gv_aR (gv_aI gv_a0)) (Nat.le_of_ble_eq_true rfl) qi2 (cS_thingAt_ok qv3) rfl rfl ?_
  refine gv_rst (pc' := 10) rfl rfl (gv_Ci rfl) rfl ?_
  refine gv_rld (pc' := 12) rfl rfl rfl ?_
  by_cases c4 : v3 = none
  · rw [if_pos c4] at e
    refine gv_nuT (pc' := 25) rfl c4 rfl ?_
    exact gv_weak (cG_get_25_ok e) gv_S0
  rw [if_neg c4] at e
  refine gv_nuF (pc' := 15) rfl c4 rfl ?_
  refine gv_rld (pc' := 17) rfl rfl rfl ?_
  refine gv_ildn (pc' := 18) rfl rfl rfl ?_
  refine gv_ildn (pc' := 19) rfl rfl rfl ?_
  obtain ⟨i5, qi5, e⟩ := gv_bind e
  obtain ⟨v6, qv6, e⟩ := gv_bind e
  refine gv_vS (jc := 63) (n := 2) (rest := []) (stk := [.int v6]) (pc' := 22) rfl rfl rfl rfl rfl rfl rfl rfl rfl (gv_zR (gv_zI (gv_zI gv_z0))) rfl (gv_aR (gv_aI (gv_aI gv_a0))) (Nat.le_of_ble_eq_true rfl) qi5 (cT_hasPart_ok qv6) rfl rfl ?_
  by_cases c7 : v6 = 0
  · rw [if_pos c7] at e
    refine gv_ifF (pc' := 25) rfl (gv_neF c7) rfl rfl ?_
    exact gv_weak (cG_get_25_ok e) gv_S0
  rw [if_neg c7] at e
  refine gv_ifT (pc' := 35) rfl (gv_neT c7) rfl ?_
  refine gv_rld (pc' := 37) rfl rfl rfl ?_
  refine gv_ildn (pc' := 38) rfl rfl rfl ?_
  refine gv_ildn (pc' := 39) rfl rfl rfl ?_
  obtain ⟨i8, qi8, e⟩ := gv_bind e
  obtain ⟨v9, qv9, e⟩ := gv_bind e
  refine gv_vS (jc := 64) (n := 2) (rest := []) (stk := [.long v9]) (pc' := 42) rfl rfl rfl rfl rfl rfl rfl rfl rfl (gv_zR (gv_zI (gv_zI gv_z0))) rfl (gv_aR (gv_aI (gv_aI gv_a0))) (Nat.le_of_ble_eq_true rfl) qi8 (cT_part_ok qv9) rfl rfl ?_
  cases e
  exact gv_retJ rfl rfl
def cG_pass (l0 : Option Nat) (l1 : Int32) (h : gx_H) : Option (Outcome × gx_H) :=
  (gv_gR h l0 0 0).bind fun v1 =>
  (gv_is h v1 1).bind fun i2 =>
  (cS_thingAt v1 l1 h).bind fun v3 =>
  if v3 = none then (
    some (.threw h.length, h ++ [(8, [])])) else
  (gv_gR h l0 0 2).bind fun v5 =>
  (gv_is h v5 4).bind fun i6 =>
  (cH_appendPassed v5 l1 h).bind fun r9 =>
  if r9.1 = 0 then (
    some (.threw r9.2.length, r9.2 ++ [(9, [])])) else
  (gv_gR r9.2 l0 0 2).bind fun v11 =>
  (gv_gI r9.2 v11 4 1).bind fun v12 =>
  some (.returned (some (.int v12)), r9.2)
theorem cG_pass_ok {xs : Option (List Int32)} {l0 : Option Nat} {l1 : Int32} {h : gx_H} {r : (Outcome × gx_H)} (e : cG_pass l0 l1 h = some r) : gv_V xs 1 69 0 [(0, gv_u l0), (1, .int l1)] [] h r.1 r.2 := by
  unfold cG_pass at e
  refine gv_rldn (pc' := 1) rfl rfl rfl ?_
  obtain ⟨v1, qv1, e⟩ := gv_bind e
  refine gv_fR (pc' := 4) rfl rfl qv1 rfl ?_
  refine gv_ildn (pc' := 5) rfl rfl rfl ?_
  obtain ⟨i2, qi2, e⟩ := gv_bind e
  obtain ⟨v3, qv3, e⟩ := gv_bind e
  refine gv_vS (jc := 10) (n := 1) (rest := []) (stk := [gv_u v3]) (pc' := 8) rfl rfl rfl rfl rfl rfl rfl rfl rfl (gv_zR (gv_zI gv_z0)) rfl (gv_aR (gv_aI gv_a0)) (Nat.le_of_ble_eq_true rfl) qi2 (cS_thingAt_ok qv3) rfl rfl ?_
  by_cases c4 : v3 = none
  · rw [if_pos c4] at e
    refine gv_nnF (pc' := 11) rfl c4 rfl ?_
    cases e
    exact gv_thr rfl rfl rfl
  rw [if_neg c4] at e
  refine gv_nnT (pc' := 21) rfl c4 rfl ?_
  refine gv_rldn (pc' := 22) rfl rfl rfl ?_
  obtain ⟨v5, qv5, e⟩ := gv_bind e
  refine gv_fR (pc' := 25) rfl rfl qv5 rfl ?_
  refine gv_ildn (pc' := 26) rfl rfl rfl ?_
  obtain ⟨i6, qi6, e⟩ := gv_bind e
  obtain ⟨⟨v7, h8⟩, qv7, e⟩ := gv_bind e
  refine gv_vS (jc := 70) (n := 1) (rest := []) (stk := [.int v7]) (pc' := 29) rfl rfl rfl rfl rfl rfl rfl rfl rfl (gv_zR (gv_zI gv_z0)) rfl (gv_aR (gv_aI gv_a0)) (Nat.le_of_ble_eq_true rfl) qi6 (cH_appendPassed_ok qv7) rfl rfl ?_
  by_cases c10 : v7 = 0
  · rw [if_pos c10] at e
    refine gv_ifF (pc' := 32) rfl (gv_neF c10) rfl rfl ?_
    cases e
    exact gv_thr rfl rfl rfl
  rw [if_neg c10] at e
  refine gv_ifT (pc' := 42) rfl (gv_neT c10) rfl ?_
  refine gv_rldn (pc' := 43) rfl rfl rfl ?_
  obtain ⟨v11, qv11, e⟩ := gv_bind e
  refine gv_fR (pc' := 46) rfl rfl qv11 rfl ?_
  obtain ⟨v12, qv12, e⟩ := gv_bind e
  refine gv_fI (pc' := 49) rfl rfl qv12 rfl ?_
  cases e
  exact gv_retI rfl rfl
def cG_write_47 (l0 : Option Nat) (l3 : Int32) (h : gx_H) : Option (Outcome × gx_H) :=
  (gv_gR h l0 0 2).bind fun v1 =>
  (gv_pV h v1 4 1 (.int (0 : Int32))).bind fun h2 =>
  if l3 = (1 : Int32) then (
    some (.threw h2.length, h2 ++ [(8, [])])) else
  if l3 = (2 : Int32) then (
    some (.threw h2.length, h2 ++ [(11, [])])) else
  (gv_gR h2 l0 0 1).bind fun v5 =>
  (gv_gI h2 v5 3 1).bind fun v6 =>
  some (.returned (some (.int v6)), h2)
theorem cG_write_47_ok {xs : Option (List Int32)} {l0 : Option Nat} {l3 : Int32} {h : gx_H} {r : (Outcome × gx_H)} (e : cG_write_47 l0 l3 h = some r) : gv_V xs 114 72 47 [(0, gv_u l0), (3, .int l3)] [] h r.1 r.2 := by
  unfold cG_write_47 at e
  refine gv_rldn (pc' := 48) rfl rfl rfl ?_
  obtain ⟨v1, qv1, e⟩ := gv_bind e
  refine gv_fR (pc' := 51) rfl rfl qv1 rfl ?_
  refine gv_ic (pc' := 52) (x := 0) rfl rfl rfl ?_
  obtain ⟨h2, qh2, e⟩ := gv_bind e
  refine gv_pI (pc' := 55) rfl rfl rfl qh2 rfl ?_
  refine gv_ildn (pc' := 56) rfl rfl rfl ?_
  refine gv_ic (pc' := 57) (x := 1) rfl rfl rfl ?_
  by_cases c3 : l3 = (1 : Int32)
  · rw [if_pos c3] at e
    refine gv_cmF (pc' := 60) rfl (gv_neF2 c3) rfl rfl ?_
    cases e
    exact gv_thr rfl rfl rfl
  rw [if_neg c3] at e
  refine gv_cmT (pc' := 70) rfl (gv_neT2 c3) rfl ?_
  refine gv_ildn (pc' := 71) rfl rfl rfl ?_
  refine gv_ic (pc' := 72) (x := 2) rfl rfl rfl ?_
  by_cases c4 : l3 = (2 : Int32)
  · rw [if_pos c4] at e
    refine gv_cmF (pc' := 75) rfl (gv_neF2 c4) rfl rfl ?_
    cases e
    exact gv_thr rfl rfl rfl
  rw [if_neg c4] at e
  refine gv_cmT (pc' := 85) rfl (gv_neT2 c4) rfl ?_
  refine gv_rldn (pc' := 86) rfl rfl rfl ?_
  obtain ⟨v5, qv5, e⟩ := gv_bind e
  refine gv_fR (pc' := 89) rfl rfl qv5 rfl ?_
  obtain ⟨v6, qv6, e⟩ := gv_bind e
  refine gv_fI (pc' := 92) rfl rfl qv6 rfl ?_
  cases e
  exact gv_retI rfl rfl
def cG_write (l0 : Option Nat) (l1 : Int32) (l2 : Int32) (h : gx_H) : Option (Outcome × gx_H) :=
  (gv_gR h l0 0 3).bind fun v1 =>
  (gv_gR h l0 0 0).bind fun v2 =>
  (gv_gR h l0 0 2).bind fun v3 =>
  (gv_is h v1 5).bind fun i4 =>
  (cW_run v1 v2 v3 l1 l2 h).bind fun r7 =>
  if r7.1 = 0 then (
    (gv_gR r7.2 l0 0 2).bind fun v9 =>
    (gv_gR r7.2 l0 0 0).bind fun v10 =>
    (gv_is r7.2 v9 4).bind fun i11 =>
    (cH_handOver v9 v10 r7.2).bind fun h13 =>
    (gv_gR h13 l0 0 1).bind fun v14 =>
    (gv_gR h13 l0 0 3).bind fun v15 =>
    (gv_gR h13 v15 5 0).bind fun v16 =>
    (gv_is h13 v14 3).bind fun i17 =>
    (cB_becomeLike v14 v16 h13).bind fun h19 =>
    cG_write_47 l0 r7.1 h19) else
  cG_write_47 l0 r7.1 r7.2
theorem cG_write_ok {xs : Option (List Int32)} {l0 : Option Nat} {l1 : Int32} {l2 : Int32} {h : gx_H} {r : (Outcome × gx_H)} (e : cG_write l0 l1 l2 h = some r) : gv_V xs 114 72 0 [(0, gv_u l0), (1, .int l1), (2, .int l2)] [] h r.1 r.2 := by
  unfold cG_write at e
  refine gv_rldn (pc' := 1) rfl rfl rfl ?_
  obtain ⟨v1, qv1, e⟩ := gv_bind e
  refine gv_fR (pc' := 4) rfl rfl qv1 rfl ?_
  refine gv_rldn (pc' := 5) rfl rfl rfl ?_
  obtain ⟨v2, qv2, e⟩ := gv_bind e
  refine gv_fR (pc' := 8) rfl rfl qv2 rfl ?_
  refine gv_rldn (pc' := 9) rfl rfl rfl ?_
  obtain ⟨v3, qv3, e⟩ := gv_bind e
  refine gv_fR (pc' := 12) rfl rfl qv3 rfl ?_
  refine gv_ildn (pc' := 13) rfl rfl rfl ?_
  refine gv_ildn (pc' := 14) rfl rfl rfl ?_
  obtain ⟨i4, qi4, e⟩ := gv_bind e
  obtain ⟨⟨v5, h6⟩, qv5, e⟩ := gv_bind e
  refine gv_vS (jc := 73) (n := 4) (rest := []) (stk := [.int v5]) (pc' := 17) rfl rfl rfl rfl rfl rfl rfl rfl rfl (gv_zR (gv_zR (gv_zR (gv_zI (gv_zI gv_z0))))) rfl (gv_aR (gv_aR (gv_aR (gv_aI (gv_aI gv_a0))))) (Nat.le_of_ble_eq_true rfl) qi4 (cW_run_ok qv5) rfl rfl ?_
  refine gv_istn (pc' := 18) rfl rfl (gv_Ci rfl) rfl ?_
  refine gv_ildn (pc' := 19) rfl rfl rfl ?_
  by_cases c8 : v5 = 0
  · rw [if_pos c8] at e
    refine gv_ifF (pc' := 22) rfl (gv_neF c8) rfl rfl ?_
    refine gv_rldn (pc' := 23) rfl rfl rfl ?_
    obtain ⟨v9, qv9, e⟩ := gv_bind e
    refine gv_fR (pc' := 26) rfl rfl qv9 rfl ?_
    refine gv_rldn (pc' := 27) rfl rfl rfl ?_
    obtain ⟨v10, qv10, e⟩ := gv_bind e
    refine gv_fR (pc' := 30) rfl rfl qv10 rfl ?_
    obtain ⟨i11, qi11, e⟩ := gv_bind e
    obtain ⟨h13, qv12, e⟩ := gv_bind e
    refine gv_vS (jc := 95) (n := 1) (rest := []) (stk := []) (pc' := 33) rfl rfl rfl rfl rfl rfl rfl rfl rfl (gv_zR (gv_zR gv_z0)) rfl (gv_aR (gv_aR gv_a0)) (Nat.le_of_ble_eq_true rfl) qi11 (cH_handOver_ok qv12) rfl rfl ?_
    refine gv_rldn (pc' := 34) rfl rfl rfl ?_
    obtain ⟨v14, qv14, e⟩ := gv_bind e
    refine gv_fR (pc' := 37) rfl rfl qv14 rfl ?_
    refine gv_rldn (pc' := 38) rfl rfl rfl ?_
    obtain ⟨v15, qv15, e⟩ := gv_bind e
    refine gv_fR (pc' := 41) rfl rfl qv15 rfl ?_
    obtain ⟨v16, qv16, e⟩ := gv_bind e
    refine gv_fR (pc' := 44) rfl rfl qv16 rfl ?_
    obtain ⟨i17, qi17, e⟩ := gv_bind e
    obtain ⟨h19, qv18, e⟩ := gv_bind e
    refine gv_vS (jc := 96) (n := 1) (rest := []) (stk := []) (pc' := 47) rfl rfl rfl rfl rfl rfl rfl rfl rfl (gv_zR (gv_zR gv_z0)) rfl (gv_aR (gv_aR gv_a0)) (Nat.le_of_ble_eq_true rfl) qi17 (cB_becomeLike_ok qv18) rfl rfl ?_
    exact gv_weak (cG_write_47_ok e) (gv_S1 rfl (gv_S1 rfl gv_S0))
  rw [if_neg c8] at e
  refine gv_ifT (pc' := 47) rfl (gv_neT c8) rfl ?_
  exact gv_weak (cG_write_47_ok e) (gv_S1 rfl (gv_S1 rfl gv_S0))
def cG_read (l0 : Option Nat) (h : gx_H) : Option (Outcome × gx_H) :=
  (gv_gR h l0 0 4).bind fun v1 =>
  (gv_gR h l0 0 0).bind fun v2 =>
  (gv_gR h l0 0 1).bind fun v3 =>
  (gv_gR h l0 0 2).bind fun v4 =>
  (gv_is h v1 6).bind fun i5 =>
  (cR_run v1 v2 v3 v4 h).bind fun r8 =>
  if r8.1 = 0 then (
    some (.threw r8.2.length, r8.2 ++ [(8, [])])) else
  (gv_gR r8.2 l0 0 2).bind fun v10 =>
  (gv_pV r8.2 v10 4 4 (.int (0 : Int32))).bind fun h11 =>
  (gv_gR h11 l0 0 4).bind fun v12 =>
  (gv_gI h11 v12 6 3).bind fun v13 =>
  (gv_pV h11 l0 0 5 (.int v13)).bind fun h14 =>
  (gv_gR h14 l0 0 4).bind fun v15 =>
  (gv_gI h14 v15 6 2).bind fun v16 =>
  some (.returned (some (.int v16)), h14)
theorem cG_read_ok {xs : Option (List Int32)} {l0 : Option Nat} {h : gx_H} {r : (Outcome × gx_H)} (e : cG_read l0 h = some r) : gv_V xs 74 98 0 [(0, gv_u l0)] [] h r.1 r.2 := by
  unfold cG_read at e
  refine gv_rldn (pc' := 1) rfl rfl rfl ?_
  obtain ⟨v1, qv1, e⟩ := gv_bind e
  refine gv_fR (pc' := 4) rfl rfl qv1 rfl ?_
  refine gv_rldn (pc' := 5) rfl rfl rfl ?_
  obtain ⟨v2, qv2, e⟩ := gv_bind e
  refine gv_fR (pc' := 8) rfl rfl qv2 rfl ?_
  refine gv_rldn (pc' := 9) rfl rfl rfl ?_
  obtain ⟨v3, qv3, e⟩ := gv_bind e
  refine gv_fR (pc' := 12) rfl rfl qv3 rfl ?_
  refine gv_rldn (pc' := 13) rfl rfl rfl ?_
  obtain ⟨v4, qv4, e⟩ := gv_bind e
  refine gv_fR (pc' := 16) rfl rfl qv4 rfl ?_
  obtain ⟨i5, qi5, e⟩ := gv_bind e
  obtain ⟨⟨v6, h7⟩, qv6, e⟩ := gv_bind e
  refine gv_vS (jc := 99) (n := 3) (rest := []) (stk := [.int v6]) (pc' := 19) rfl rfl rfl rfl rfl rfl rfl rfl rfl (gv_zR (gv_zR (gv_zR (gv_zR gv_z0)))) rfl (gv_aR (gv_aR (gv_aR (gv_aR gv_a0)))) (Nat.le_of_ble_eq_true rfl) qi5 (cR_run_ok qv6) rfl rfl ?_
  by_cases c9 : v6 = 0
  · rw [if_pos c9] at e
    refine gv_ifF (pc' := 22) rfl (gv_neF c9) rfl rfl ?_
    cases e
    exact gv_thr rfl rfl rfl
  rw [if_neg c9] at e
  refine gv_ifT (pc' := 32) rfl (gv_neT c9) rfl ?_
  refine gv_rldn (pc' := 33) rfl rfl rfl ?_
  obtain ⟨v10, qv10, e⟩ := gv_bind e
  refine gv_fR (pc' := 36) rfl rfl qv10 rfl ?_
  refine gv_ic (pc' := 37) (x := 0) rfl rfl rfl ?_
  obtain ⟨h11, qh11, e⟩ := gv_bind e
  refine gv_pI (pc' := 40) rfl rfl rfl qh11 rfl ?_
  refine gv_rldn (pc' := 41) rfl rfl rfl ?_
  refine gv_rldn (pc' := 42) rfl rfl rfl ?_
  obtain ⟨v12, qv12, e⟩ := gv_bind e
  refine gv_fR (pc' := 45) rfl rfl qv12 rfl ?_
  obtain ⟨v13, qv13, e⟩ := gv_bind e
  refine gv_fI (pc' := 48) rfl rfl qv13 rfl ?_
  obtain ⟨h14, qh14, e⟩ := gv_bind e
  refine gv_pI (pc' := 51) rfl rfl rfl qh14 rfl ?_
  refine gv_rldn (pc' := 52) rfl rfl rfl ?_
  obtain ⟨v15, qv15, e⟩ := gv_bind e
  refine gv_fR (pc' := 55) rfl rfl qv15 rfl ?_
  obtain ⟨v16, qv16, e⟩ := gv_bind e
  refine gv_fI (pc' := 58) rfl rfl qv16 rfl ?_
  cases e
  exact gv_retI rfl rfl
