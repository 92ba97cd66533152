/-! by program: the methods as functions, and that the small machine does what they say -/
def lw_make (l0 : Option Nat) (l1 : Int32) (l2 : Option Nat) (h : gx_H) : Option (Int32 × gx_H) :=
  (gv_is h l0 0).bind fun i1 =>
  (cG_make l0 l1 h).bind fun r4 =>
  match r4.1 with
  | .returned (some (.int v2)) => (
    (gv_wJ r4.2 l2 (0 : Int32) (Int32.toInt64 v2)).bind fun h6 =>
    some ((0 : Int32), h6))
  | .threw x5 => (r4.2[x5]?).bind fun w7 => (
    if w7.1 = 8 then (
      some ((1 : Int32), r4.2)) else
    if w7.1 = 9 then (
      some ((2 : Int32), r4.2)) else
    none)
  | _ => none
theorem lw_make_ok {xs : Option (List Int32)} {l0 : Option Nat} {l1 : Int32} {l2 : Option Nat} {h : gx_H} {r : (Int32 × gx_H)} (e : lw_make l0 l1 l2 h = some r) : gv_V xs 4 23 0 [(0, gv_u l0), (1, .int l1), (2, gv_u l2)] [] h (.returned (some (.int r.1))) r.2 := by
  unfold lw_make at e
  refine gv_rldn (pc' := 1) rfl rfl rfl ?_
  refine gv_ic (pc' := 2) (x := 0) rfl rfl rfl ?_
  refine gv_rldn (pc' := 3) rfl rfl rfl ?_
  refine gv_ildn (pc' := 4) rfl rfl rfl ?_
  obtain ⟨i1, qi1, e⟩ := gv_bind e
  obtain ⟨⟨or4, h3⟩, qv2, e⟩ := gv_bind e
  cases or4 with
  | threw x5 =>
    obtain ⟨w7, qw7, e⟩ := gv_bind e
    by_cases c8 : w7.1 = 8
    · rw [if_pos c8] at e
      refine gv_vC (jc := 24) (n := 1) (rest := [.int (0 : Int32), gv_u l2]) (pc' := 12) rfl rfl rfl rfl rfl rfl rfl rfl rfl (gv_zR (gv_zI gv_z0)) rfl (gv_aR (gv_aI gv_a0)) (Nat.le_of_ble_eq_true rfl) qi1 (cG_make_ok qv2) (gv_catT qw7 c8 rfl) ?_
      refine gv_rstn (pc' := 13) rfl rfl (gv_Cr rfl) rfl ?_
      refine gv_ic (pc' := 14) (x := 1) rfl rfl rfl ?_
      cases e
      exact gv_retI rfl rfl
    rw [if_neg c8] at e
    by_cases c9 : w7.1 = 9
    · rw [if_pos c9] at e
      refine gv_vC (jc := 24) (n := 1) (rest := [.int (0 : Int32), gv_u l2]) (pc' := 15) rfl rfl rfl rfl rfl rfl rfl rfl rfl (gv_zR (gv_zI gv_z0)) rfl (gv_aR (gv_aI gv_a0)) (Nat.le_of_ble_eq_true rfl) qi1 (cG_make_ok qv2) (gv_catT qw7 c9 rfl) ?_
      refine gv_rstn (pc' := 16) rfl rfl (gv_Cr rfl) rfl ?_
      refine gv_ic (pc' := 17) (x := 2) rfl rfl rfl ?_
      cases e
      exact gv_retI rfl rfl
    rw [if_neg c9] at e
    cases e
  | returned zr4 =>
  cases zr4 with
  | none => cases e
  | some zz =>
  cases zz with
  | long _ => cases e
  | float _ => cases e
  | double _ => cases e
  | ref _ => cases e
  | null => cases e
  | retAddr _ => cases e
  | int v2 =>
    dsimp only at e
    refine gv_vS (jc := 24) (n := 1) (rest := [.int (0 : Int32), gv_u l2]) (stk := [.int v2, .int (0 : Int32), gv_u l2]) (pc' := 7) rfl rfl rfl rfl rfl rfl rfl rfl rfl (gv_zR (gv_zI gv_z0)) rfl (gv_aR (gv_aI gv_a0)) (Nat.le_of_ble_eq_true rfl) qi1 (cG_make_ok qv2) rfl rfl ?_
    refine gv_i2l (pc' := 8) rfl rfl ?_
    obtain ⟨h6, qh6, e⟩ := gv_bind e
    refine gv_last (pc' := 9) rfl qh6 rfl ?_
    refine gv_goto (pc' := 18) rfl rfl ?_
    refine gv_ic (pc' := 19) (x := 0) rfl rfl rfl ?_
    cases e
    exact gv_retI rfl rfl
def lw_buffer (l0 : Option Nat) (l1 : Int64) (l3 : Int32) (l4 : Option Nat) (h : gx_H) : Option (Int32 × gx_H) :=
  (gv_is h l0 0).bind fun i1 =>
  (cG_buffer l0 l1 l3 h).bind fun r4 =>
  match r4.1 with
  | .returned (some (.int v2)) => (
    (gv_wJ r4.2 l4 (0 : Int32) (Int32.toInt64 v2)).bind fun h6 =>
    some ((0 : Int32), h6))
  | .threw x5 => (r4.2[x5]?).bind fun w7 => (
    if w7.1 = 8 then (
      some ((1 : Int32), r4.2)) else
    if w7.1 = 9 then (
      some ((2 : Int32), r4.2)) else
    none)
  | _ => none
theorem lw_buffer_ok {xs : Option (List Int32)} {l0 : Option Nat} {l1 : Int64} {l3 : Int32} {l4 : Option Nat} {h : gx_H} {r : (Int32 × gx_H)} (e : lw_buffer l0 l1 l3 l4 h = some r) : gv_V xs 4 28 0 [(0, gv_u l0), (1, .long l1), (3, .int l3), (4, gv_u l4)] [] h (.returned (some (.int r.1))) r.2 := by
  unfold lw_buffer at e
  refine gv_rld (pc' := 2) rfl rfl rfl ?_
  refine gv_ic (pc' := 3) (x := 0) rfl rfl rfl ?_
  refine gv_rldn (pc' := 4) rfl rfl rfl ?_
  refine gv_jldn (pc' := 5) rfl rfl rfl ?_
  refine gv_ildn (pc' := 6) rfl rfl rfl ?_
  obtain ⟨i1, qi1, e⟩ := gv_bind e
  obtain ⟨⟨or4, h3⟩, qv2, e⟩ := gv_bind e
  cases or4 with
  | threw x5 =>
    obtain ⟨w7, qw7, e⟩ := gv_bind e
    by_cases c8 : w7.1 = 8
    · rw [if_pos c8] at e
      refine gv_vC (jc := 29) (n := 2) (rest := [.int (0 : Int32), gv_u l4]) (pc' := 14) rfl rfl rfl rfl rfl rfl rfl rfl rfl (gv_zR (gv_zJ (gv_zI gv_z0))) rfl (gv_aR (gv_aJ (gv_aI gv_a0))) (Nat.le_of_ble_eq_true rfl) qi1 (cG_buffer_ok qv2) (gv_catT qw7 c8 rfl) ?_
      refine gv_rst (pc' := 16) rfl rfl (gv_Cr rfl) rfl ?_
      refine gv_ic (pc' := 17) (x := 1) rfl rfl rfl ?_
      cases e
      exact gv_retI rfl rfl
    rw [if_neg c8] at e
    by_cases c9 : w7.1 = 9
    · rw [if_pos c9] at e
      refine gv_vC (jc := 29) (n := 2) (rest := [.int (0 : Int32), gv_u l4]) (pc' := 18) rfl rfl rfl rfl rfl rfl rfl rfl rfl (gv_zR (gv_zJ (gv_zI gv_z0))) rfl (gv_aR (gv_aJ (gv_aI gv_a0))) (Nat.le_of_ble_eq_true rfl) qi1 (cG_buffer_ok qv2) (gv_catT qw7 c9 rfl) ?_
      refine gv_rst (pc' := 20) rfl rfl (gv_Cr rfl) rfl ?_
      refine gv_ic (pc' := 21) (x := 2) rfl rfl rfl ?_
      cases e
      exact gv_retI rfl rfl
    rw [if_neg c9] at e
    cases e
  | returned zr4 =>
  cases zr4 with
  | none => cases e
  | some zz =>
  cases zz with
  | long _ => cases e
  | float _ => cases e
  | double _ => cases e
  | ref _ => cases e
  | null => cases e
  | retAddr _ => cases e
  | int v2 =>
    dsimp only at e
    refine gv_vS (jc := 29) (n := 2) (rest := [.int (0 : Int32), gv_u l4]) (stk := [.int v2, .int (0 : Int32), gv_u l4]) (pc' := 9) rfl rfl rfl rfl rfl rfl rfl rfl rfl (gv_zR (gv_zJ (gv_zI gv_z0))) rfl (gv_aR (gv_aJ (gv_aI gv_a0))) (Nat.le_of_ble_eq_true rfl) qi1 (cG_buffer_ok qv2) rfl rfl ?_
    refine gv_i2l (pc' := 10) rfl rfl ?_
    obtain ⟨h6, qh6, e⟩ := gv_bind e
    refine gv_last (pc' := 11) rfl qh6 rfl ?_
    refine gv_goto (pc' := 22) rfl rfl ?_
    refine gv_ic (pc' := 23) (x := 0) rfl rfl rfl ?_
    cases e
    exact gv_retI rfl rfl
def lw_view (l0 : Option Nat) (l1 : Int32) (l2 : Int32) (l3 : Int32) (l4 : Int32) (l5 : Option Nat) (h : gx_H) : Option (Int32 × gx_H) :=
  (gv_is h l0 0).bind fun i1 =>
  (cG_view l0 l1 l2 l3 l4 h).bind fun r4 =>
  match r4.1 with
  | .returned (some (.int v2)) => (
    (gv_wJ r4.2 l5 (0 : Int32) (Int32.toInt64 v2)).bind fun h6 =>
    some ((0 : Int32), h6))
  | .threw x5 => (r4.2[x5]?).bind fun w7 => (
    if w7.1 = 8 then (
      some ((1 : Int32), r4.2)) else
    if w7.1 = 9 then (
      some ((2 : Int32), r4.2)) else
    none)
  | _ => none
theorem lw_view_ok {xs : Option (List Int32)} {l0 : Option Nat} {l1 : Int32} {l2 : Int32} {l3 : Int32} {l4 : Int32} {l5 : Option Nat} {h : gx_H} {r : (Int32 × gx_H)} (e : lw_view l0 l1 l2 l3 l4 l5 h = some r) : gv_V xs 4 31 0 [(0, gv_u l0), (1, .int l1), (2, .int l2), (3, .int l3), (4, .int l4), (5, gv_u l5)] [] h (.returned (some (.int r.1))) r.2 := by
  unfold lw_view at e
  refine gv_rld (pc' := 2) rfl rfl rfl ?_
  refine gv_ic (pc' := 3) (x := 0) rfl rfl rfl ?_
  refine gv_rldn (pc' := 4) rfl rfl rfl ?_
  refine gv_ildn (pc' := 5) rfl rfl rfl ?_
  refine gv_ildn (pc' := 6) rfl rfl rfl ?_
  refine gv_ildn (pc' := 7) rfl rfl rfl ?_
  refine gv_ild (pc' := 9) rfl rfl rfl ?_
  obtain ⟨i1, qi1, e⟩ := gv_bind e
  obtain ⟨⟨or4, h3⟩, qv2, e⟩ := gv_bind e
  cases or4 with
  | threw x5 =>
    obtain ⟨w7, qw7, e⟩ := gv_bind e
    by_cases c8 : w7.1 = 8
    · rw [if_pos c8] at e
      refine gv_vC (jc := 32) (n := 4) (rest := [.int (0 : Int32), gv_u l5]) (pc' := 17) rfl rfl rfl rfl rfl rfl rfl rfl rfl (gv_zR (gv_zI (gv_zI (gv_zI (gv_zI gv_z0))))) rfl (gv_aR (gv_aI (gv_aI (gv_aI (gv_aI gv_a0))))) (Nat.le_of_ble_eq_true rfl) qi1 (cG_view_ok qv2) (gv_catT qw7 c8 rfl) ?_
      refine gv_rst (pc' := 19) rfl rfl (gv_Cr rfl) rfl ?_
      refine gv_ic (pc' := 20) (x := 1) rfl rfl rfl ?_
      cases e
      exact gv_retI rfl rfl
    rw [if_neg c8] at e
    by_cases c9 : w7.1 = 9
    · rw [if_pos c9] at e
      refine gv_vC (jc := 32) (n := 4) (rest := [.int (0 : Int32), gv_u l5]) (pc' := 21) rfl rfl rfl rfl rfl rfl rfl rfl rfl (gv_zR (gv_zI (gv_zI (gv_zI (gv_zI gv_z0))))) rfl (gv_aR (gv_aI (gv_aI (gv_aI (gv_aI gv_a0))))) (Nat.le_of_ble_eq_true rfl) qi1 (cG_view_ok qv2) (gv_catT qw7 c9 rfl) ?_
      refine gv_rst (pc' := 23) rfl rfl (gv_Cr rfl) rfl ?_
      refine gv_ic (pc' := 24) (x := 2) rfl rfl rfl ?_
      cases e
      exact gv_retI rfl rfl
    rw [if_neg c9] at e
    cases e
  | returned zr4 =>
  cases zr4 with
  | none => cases e
  | some zz =>
  cases zz with
  | long _ => cases e
  | float _ => cases e
  | double _ => cases e
  | ref _ => cases e
  | null => cases e
  | retAddr _ => cases e
  | int v2 =>
    dsimp only at e
    refine gv_vS (jc := 32) (n := 4) (rest := [.int (0 : Int32), gv_u l5]) (stk := [.int v2, .int (0 : Int32), gv_u l5]) (pc' := 12) rfl rfl rfl rfl rfl rfl rfl rfl rfl (gv_zR (gv_zI (gv_zI (gv_zI (gv_zI gv_z0))))) rfl (gv_aR (gv_aI (gv_aI (gv_aI (gv_aI gv_a0))))) (Nat.le_of_ble_eq_true rfl) qi1 (cG_view_ok qv2) rfl rfl ?_
    refine gv_i2l (pc' := 13) rfl rfl ?_
    obtain ⟨h6, qh6, e⟩ := gv_bind e
    refine gv_last (pc' := 14) rfl qh6 rfl ?_
    refine gv_goto (pc' := 25) rfl rfl ?_
    refine gv_ic (pc' := 26) (x := 0) rfl rfl rfl ?_
    cases e
    exact gv_retI rfl rfl
def lw_stamp (l0 : Option Nat) (l1 : Int64) (l3 : Option Nat) (h : gx_H) : Option (Int32 × gx_H) :=
  (gv_is h l0 0).bind fun i1 =>
  (cG_stamp l0 l1 h).bind fun r4 =>
  match r4.1 with
  | .returned (some (.int v2)) => (
    (gv_wJ r4.2 l3 (0 : Int32) (Int32.toInt64 v2)).bind fun h6 =>
    some ((0 : Int32), h6))
  | .threw x5 => (r4.2[x5]?).bind fun w7 => (
    if w7.1 = 9 then (
      some ((1 : Int32), r4.2)) else
    none)
  | _ => none
theorem lw_stamp_ok {xs : Option (List Int32)} {l0 : Option Nat} {l1 : Int64} {l3 : Option Nat} {h : gx_H} {r : (Int32 × gx_H)} (e : lw_stamp l0 l1 l3 h = some r) : gv_V xs 4 35 0 [(0, gv_u l0), (1, .long l1), (3, gv_u l3)] [] h (.returned (some (.int r.1))) r.2 := by
  unfold lw_stamp at e
  refine gv_rldn (pc' := 1) rfl rfl rfl ?_
  refine gv_ic (pc' := 2) (x := 0) rfl rfl rfl ?_
  refine gv_rldn (pc' := 3) rfl rfl rfl ?_
  refine gv_jldn (pc' := 4) rfl rfl rfl ?_
  obtain ⟨i1, qi1, e⟩ := gv_bind e
  obtain ⟨⟨or4, h3⟩, qv2, e⟩ := gv_bind e
  cases or4 with
  | threw x5 =>
    obtain ⟨w7, qw7, e⟩ := gv_bind e
    by_cases c8 : w7.1 = 9
    · rw [if_pos c8] at e
      refine gv_vC (jc := 36) (n := 1) (rest := [.int (0 : Int32), gv_u l3]) (pc' := 12) rfl rfl rfl rfl rfl rfl rfl rfl rfl (gv_zR (gv_zJ gv_z0)) rfl (gv_aR (gv_aJ gv_a0)) (Nat.le_of_ble_eq_true rfl) qi1 (cG_stamp_ok qv2) (gv_catT qw7 c8 rfl) ?_
      refine gv_rst (pc' := 14) rfl rfl (gv_Cr rfl) rfl ?_
      refine gv_ic (pc' := 15) (x := 1) rfl rfl rfl ?_
      cases e
      exact gv_retI rfl rfl
    rw [if_neg c8] at e
    cases e
  | returned zr4 =>
  cases zr4 with
  | none => cases e
  | some zz =>
  cases zz with
  | long _ => cases e
  | float _ => cases e
  | double _ => cases e
  | ref _ => cases e
  | null => cases e
  | retAddr _ => cases e
  | int v2 =>
    dsimp only at e
    refine gv_vS (jc := 36) (n := 1) (rest := [.int (0 : Int32), gv_u l3]) (stk := [.int v2, .int (0 : Int32), gv_u l3]) (pc' := 7) rfl rfl rfl rfl rfl rfl rfl rfl rfl (gv_zR (gv_zJ gv_z0)) rfl (gv_aR (gv_aJ gv_a0)) (Nat.le_of_ble_eq_true rfl) qi1 (cG_stamp_ok qv2) rfl rfl ?_
    refine gv_i2l (pc' := 8) rfl rfl ?_
    obtain ⟨h6, qh6, e⟩ := gv_bind e
    refine gv_last (pc' := 9) rfl qh6 rfl ?_
    refine gv_goto (pc' := 16) rfl rfl ?_
    refine gv_ic (pc' := 17) (x := 0) rfl rfl rfl ?_
    cases e
    exact gv_retI rfl rfl
def lw_put (l0 : Option Nat) (l1 : Int32) (l2 : Int32) (l3 : Int32) (l4 : Int32) (h : gx_H) : Option (Int32 × gx_H) :=
  (gv_is h l0 0).bind fun i1 =>
  (cG_put l0 l1 l2 l3 l4 h).bind fun r4 =>
  match r4.1 with
  | .returned none => (
    some ((0 : Int32), r4.2))
  | .threw x5 => (r4.2[x5]?).bind fun w6 => (
    if w6.1 = 8 then (
      some ((1 : Int32), r4.2)) else
    if w6.1 = 9 then (
      some ((2 : Int32), r4.2)) else
    none)
  | _ => none
theorem lw_put_ok {xs : Option (List Int32)} {l0 : Option Nat} {l1 : Int32} {l2 : Int32} {l3 : Int32} {l4 : Int32} {h : gx_H} {r : (Int32 × gx_H)} (e : lw_put l0 l1 l2 l3 l4 h = some r) : gv_V xs 5 37 0 [(0, gv_u l0), (1, .int l1), (2, .int l2), (3, .int l3), (4, .int l4)] [] h (.returned (some (.int r.1))) r.2 := by
  unfold lw_put at e
  refine gv_rldn (pc' := 1) rfl rfl rfl ?_
  refine gv_ildn (pc' := 2) rfl rfl rfl ?_
  refine gv_ildn (pc' := 3) rfl rfl rfl ?_
  refine gv_ildn (pc' := 4) rfl rfl rfl ?_
  refine gv_ild (pc' := 6) rfl rfl rfl ?_
  obtain ⟨i1, qi1, e⟩ := gv_bind e
  obtain ⟨⟨or4, h3⟩, qv2, e⟩ := gv_bind e
  cases or4 with
  | threw x5 =>
    obtain ⟨w6, qw6, e⟩ := gv_bind e
    by_cases c7 : w6.1 = 8
    · rw [if_pos c7] at e
      refine gv_vC (jc := 38) (n := 4) (rest := []) (pc' := 12) rfl rfl rfl rfl rfl rfl rfl rfl rfl (gv_zR (gv_zI (gv_zI (gv_zI (gv_zI gv_z0))))) rfl (gv_aR (gv_aI (gv_aI (gv_aI (gv_aI gv_a0))))) (Nat.le_of_ble_eq_true rfl) qi1 (cG_put_ok qv2) (gv_catT qw6 c7 rfl) ?_
      refine gv_rst (pc' := 14) rfl rfl (gv_Ci rfl) rfl ?_
      refine gv_ic (pc' := 15) (x := 1) rfl rfl rfl ?_
      cases e
      exact gv_retI rfl rfl
    rw [if_neg c7] at e
    by_cases c8 : w6.1 = 9
    · rw [if_pos c8] at e
      refine gv_vC (jc := 38) (n := 4) (rest := []) (pc' := 16) rfl rfl rfl rfl rfl rfl rfl rfl rfl (gv_zR (gv_zI (gv_zI (gv_zI (gv_zI gv_z0))))) rfl (gv_aR (gv_aI (gv_aI (gv_aI (gv_aI gv_a0))))) (Nat.le_of_ble_eq_true rfl) qi1 (cG_put_ok qv2) (gv_catT qw6 c8 rfl) ?_
      refine gv_rst (pc' := 18) rfl rfl (gv_Ci rfl) rfl ?_
      refine gv_ic (pc' := 19) (x := 2) rfl rfl rfl ?_
      cases e
      exact gv_retI rfl rfl
    rw [if_neg c8] at e
    cases e
  | returned zr4 =>
  cases zr4 with
  | some zz => cases e
  | none =>
    dsimp only at e
    refine gv_vS (jc := 38) (n := 4) (rest := []) (stk := []) (pc' := 9) rfl rfl rfl rfl rfl rfl rfl rfl rfl (gv_zR (gv_zI (gv_zI (gv_zI (gv_zI gv_z0))))) rfl (gv_aR (gv_aI (gv_aI (gv_aI (gv_aI gv_a0))))) (Nat.le_of_ble_eq_true rfl) qi1 (cG_put_ok qv2) rfl rfl ?_
    refine gv_goto (pc' := 20) rfl rfl ?_
    refine gv_ic (pc' := 21) (x := 0) rfl rfl rfl ?_
    cases e
    exact gv_retI rfl rfl
def lw_take (l0 : Option Nat) (l1 : Int32) (l2 : Int32) (l3 : Option Nat) (h : gx_H) : Option (Int32 × gx_H) :=
  (gv_is h l0 0).bind fun i1 =>
  (cG_take l0 l1 l2 h).bind fun r4 =>
  match r4.1 with
  | .returned (some (.int v2)) => (
    if v2 = 0 then (
      (gv_wJ r4.2 l3 (0 : Int32) (0 : Int64)).bind fun h7 =>
      some ((0 : Int32), h7)) else
    (gv_wJ r4.2 l3 (0 : Int32) (1 : Int64)).bind fun h8 =>
    some ((0 : Int32), h8))
  | .threw x5 => (r4.2[x5]?).bind fun w9 => (
    if w9.1 = 8 then (
      some ((1 : Int32), r4.2)) else
    none)
  | _ => none
theorem lw_take_ok {xs : Option (List Int32)} {l0 : Option Nat} {l1 : Int32} {l2 : Int32} {l3 : Option Nat} {h : gx_H} {r : (Int32 × gx_H)} (e : lw_take l0 l1 l2 l3 h = some r) : gv_V xs 3 50 0 [(0, gv_u l0), (1, .int l1), (2, .int l2), (3, gv_u l3)] [] h (.returned (some (.int r.1))) r.2 := by
  unfold lw_take at e
  refine gv_rldn (pc' := 1) rfl rfl rfl ?_
  refine gv_ic (pc' := 2) (x := 0) rfl rfl rfl ?_
  refine gv_rldn (pc' := 3) rfl rfl rfl ?_
  refine gv_ildn (pc' := 4) rfl rfl rfl ?_
  refine gv_ildn (pc' := 5) rfl rfl rfl ?_
  obtain ⟨i1, qi1, e⟩ := gv_bind e
  obtain ⟨⟨or4, h3⟩, qv2, e⟩ := gv_bind e
  cases or4 with
  | threw x5 =>
    obtain ⟨w9, qw9, e⟩ := gv_bind e
    by_cases c10 : w9.1 = 8
    · rw [if_pos c10] at e
      refine gv_vC (jc := 51) (n := 2) (rest := [.int (0 : Int32), gv_u l3]) (pc' := 20) rfl rfl rfl rfl rfl rfl rfl rfl rfl (gv_zR (gv_zI (gv_zI gv_z0))) rfl (gv_aR (gv_aI (gv_aI gv_a0))) (Nat.le_of_ble_eq_true rfl) qi1 (cG_take_ok qv2) (gv_catT qw9 c10 rfl) ?_
      refine gv_rst (pc' := 22) rfl rfl (gv_Cr rfl) rfl ?_
      refine gv_ic (pc' := 23) (x := 1) rfl rfl rfl ?_
      cases e
      exact gv_retI rfl rfl
    rw [if_neg c10] at e
    cases e
  | returned zr4 =>
  cases zr4 with
  | none => cases e
  | some zz =>
  cases zz with
  | long _ => cases e
  | float _ => cases e
  | double _ => cases e
  | ref _ => cases e
  | null => cases e
  | retAddr _ => cases e
  | int v2 =>
    dsimp only at e
    refine gv_vS (jc := 51) (n := 2) (rest := [.int (0 : Int32), gv_u l3]) (stk := [.int v2, .int (0 : Int32), gv_u l3]) (pc' := 8) rfl rfl rfl rfl rfl rfl rfl rfl rfl (gv_zR (gv_zI (gv_zI gv_z0))) rfl (gv_aR (gv_aI (gv_aI gv_a0))) (Nat.le_of_ble_eq_true rfl) qi1 (cG_take_ok qv2) rfl rfl ?_
    by_cases c6 : v2 = 0
    · rw [if_pos c6] at e
      refine gv_ifT (pc' := 15) rfl (gv_eqT c6) rfl ?_
      refine gv_lc (pc' := 16) (x := 0) rfl rfl rfl ?_
      obtain ⟨h7, qh7, e⟩ := gv_bind e
      refine gv_last (pc' := 17) rfl qh7 rfl ?_
      refine gv_goto (pc' := 24) rfl rfl ?_
      refine gv_ic (pc' := 25) (x := 0) rfl rfl rfl ?_
      cases e
      exact gv_retI rfl rfl
    rw [if_neg c6] at e
    refine gv_ifF (pc' := 11) rfl (gv_eqF c6) rfl rfl ?_
    refine gv_lc (pc' := 12) (x := 1) rfl rfl rfl ?_
    refine gv_goto (pc' := 16) rfl rfl ?_
    obtain ⟨h8, qh8, e⟩ := gv_bind e
    refine gv_last (pc' := 17) rfl qh8 rfl ?_
    refine gv_goto (pc' := 24) rfl rfl ?_
    refine gv_ic (pc' := 25) (x := 0) rfl rfl rfl ?_
    cases e
    exact gv_retI rfl rfl
def lw_entry (l0 : Option Nat) (l1 : Int32) (l2 : Int32) (l3 : Int32) (l4 : Int32) (l5 : Int32) (h : gx_H) : Option (Int32 × gx_H) :=
  (gv_is h l0 0).bind fun i1 =>
  (cG_entry l0 l1 l2 l3 l4 l5 h).bind fun r4 =>
  match r4.1 with
  | .returned none => (
    some ((0 : Int32), r4.2))
  | .threw x5 => (r4.2[x5]?).bind fun w6 => (
    if w6.1 = 8 then (
      some ((1 : Int32), r4.2)) else
    if w6.1 = 9 then (
      some ((2 : Int32), r4.2)) else
    none)
  | _ => none
theorem lw_entry_ok {xs : Option (List Int32)} {l0 : Option Nat} {l1 : Int32} {l2 : Int32} {l3 : Int32} {l4 : Int32} {l5 : Int32} {h : gx_H} {r : (Int32 × gx_H)} (e : lw_entry l0 l1 l2 l3 l4 l5 h = some r) : gv_V xs 4 54 0 [(0, gv_u l0), (1, .int l1), (2, .int l2), (3, .int l3), (4, .int l4), (5, .int l5)] [] h (.returned (some (.int r.1))) r.2 := by
  unfold lw_entry at e
  refine gv_rldn (pc' := 1) rfl rfl rfl ?_
  refine gv_ildn (pc' := 2) rfl rfl rfl ?_
  refine gv_ildn (pc' := 3) rfl rfl rfl ?_
  refine gv_ildn (pc' := 4) rfl rfl rfl ?_
  refine gv_ild (pc' := 6) rfl rfl rfl ?_
  refine gv_ild (pc' := 8) rfl rfl rfl ?_
  obtain ⟨i1, qi1, e⟩ := gv_bind e
  obtain ⟨⟨or4, h3⟩, qv2, e⟩ := gv_bind e
  cases or4 with
  | threw x5 =>
    obtain ⟨w6, qw6, e⟩ := gv_bind e
    by_cases c7 : w6.1 = 8
    · rw [if_pos c7] at e
      refine gv_vC (jc := 55) (n := 5) (rest := []) (pc' := 14) rfl rfl rfl rfl rfl rfl rfl rfl rfl (gv_zR (gv_zI (gv_zI (gv_zI (gv_zI (gv_zI gv_z0)))))) rfl (gv_aR (gv_aI (gv_aI (gv_aI (gv_aI (gv_aI gv_a0)))))) (Nat.le_of_ble_eq_true rfl) qi1 (cG_entry_ok qv2) (gv_catT qw6 c7 rfl) ?_
      refine gv_rst (pc' := 16) rfl rfl (gv_Ci rfl) rfl ?_
      refine gv_ic (pc' := 17) (x := 1) rfl rfl rfl ?_
      cases e
      exact gv_retI rfl rfl
    rw [if_neg c7] at e
    by_cases c8 : w6.1 = 9
    · rw [if_pos c8] at e
      refine gv_vC (jc := 55) (n := 5) (rest := []) (pc' := 18) rfl rfl rfl rfl rfl rfl rfl rfl rfl (gv_zR (gv_zI (gv_zI (gv_zI (gv_zI (gv_zI gv_z0)))))) rfl (gv_aR (gv_aI (gv_aI (gv_aI (gv_aI (gv_aI gv_a0)))))) (Nat.le_of_ble_eq_true rfl) qi1 (cG_entry_ok qv2) (gv_catT qw6 c8 rfl) ?_
      refine gv_rst (pc' := 20) rfl rfl (gv_Ci rfl) rfl ?_
      refine gv_ic (pc' := 21) (x := 2) rfl rfl rfl ?_
      cases e
      exact gv_retI rfl rfl
    rw [if_neg c8] at e
    cases e
  | returned zr4 =>
  cases zr4 with
  | some zz => cases e
  | none =>
    dsimp only at e
    refine gv_vS (jc := 55) (n := 5) (rest := []) (stk := []) (pc' := 11) rfl rfl rfl rfl rfl rfl rfl rfl rfl (gv_zR (gv_zI (gv_zI (gv_zI (gv_zI (gv_zI gv_z0)))))) rfl (gv_aR (gv_aI (gv_aI (gv_aI (gv_aI (gv_aI gv_a0)))))) (Nat.le_of_ble_eq_true rfl) qi1 (cG_entry_ok qv2) rfl rfl ?_
    refine gv_goto (pc' := 22) rfl rfl ?_
    refine gv_ic (pc' := 23) (x := 0) rfl rfl rfl ?_
    cases e
    exact gv_retI rfl rfl
def lw_add (l0 : Option Nat) (l1 : Int32) (l2 : Int32) (l3 : Int32) (l4 : Option Nat) (h : gx_H) : Option (Int32 × gx_H) :=
  (gv_is h l0 0).bind fun i1 =>
  (cG_add l0 l1 l2 l3 h).bind fun r4 =>
  match r4.1 with
  | .returned (some (.int v2)) => (
    if v2 = 0 then (
      (gv_wJ r4.2 l4 (0 : Int32) (0 : Int64)).bind fun h7 =>
      some ((0 : Int32), h7)) else
    (gv_wJ r4.2 l4 (0 : Int32) (1 : Int64)).bind fun h8 =>
    some ((0 : Int32), h8))
  | .threw x5 => (r4.2[x5]?).bind fun w9 => (
    if w9.1 = 8 then (
      some ((1 : Int32), r4.2)) else
    if w9.1 = 9 then (
      some ((2 : Int32), r4.2)) else
    none)
  | _ => none
theorem lw_add_ok {xs : Option (List Int32)} {l0 : Option Nat} {l1 : Int32} {l2 : Int32} {l3 : Int32} {l4 : Option Nat} {h : gx_H} {r : (Int32 × gx_H)} (e : lw_add l0 l1 l2 l3 l4 h = some r) : gv_V xs 4 57 0 [(0, gv_u l0), (1, .int l1), (2, .int l2), (3, .int l3), (4, gv_u l4)] [] h (.returned (some (.int r.1))) r.2 := by
  unfold lw_add at e
  refine gv_rld (pc' := 2) rfl rfl rfl ?_
  refine gv_ic (pc' := 3) (x := 0) rfl rfl rfl ?_
  refine gv_rldn (pc' := 4) rfl rfl rfl ?_
  refine gv_ildn (pc' := 5) rfl rfl rfl ?_
  refine gv_ildn (pc' := 6) rfl rfl rfl ?_
  refine gv_ildn (pc' := 7) rfl rfl rfl ?_
  obtain ⟨i1, qi1, e⟩ := gv_bind e
  obtain ⟨⟨or4, h3⟩, qv2, e⟩ := gv_bind e
  cases or4 with
  | threw x5 =>
    obtain ⟨w9, qw9, e⟩ := gv_bind e
    by_cases c10 : w9.1 = 8
    · rw [if_pos c10] at e
      refine gv_vC (jc := 58) (n := 3) (rest := [.int (0 : Int32), gv_u l4]) (pc' := 22) rfl rfl rfl rfl rfl rfl rfl rfl rfl (gv_zR (gv_zI (gv_zI (gv_zI gv_z0)))) rfl (gv_aR (gv_aI (gv_aI (gv_aI gv_a0)))) (Nat.le_of_ble_eq_true rfl) qi1 (cG_add_ok qv2) (gv_catT qw9 c10 rfl) ?_
      refine gv_rst (pc' := 24) rfl rfl (gv_Cr rfl) rfl ?_
      refine gv_ic (pc' := 25) (x := 1) rfl rfl rfl ?_
      cases e
      exact gv_retI rfl rfl
    rw [if_neg c10] at e
    by_cases c11 : w9.1 = 9
    · rw [if_pos c11] at e
      refine gv_vC (jc := 58) (n := 3) (rest := [.int (0 : Int32), gv_u l4]) (pc' := 26) rfl rfl rfl rfl rfl rfl rfl rfl rfl (gv_zR (gv_zI (gv_zI (gv_zI gv_z0)))) rfl (gv_aR (gv_aI (gv_aI (gv_aI gv_a0)))) (Nat.le_of_ble_eq_true rfl) qi1 (cG_add_ok qv2) (gv_catT qw9 c11 rfl) ?_
      refine gv_rst (pc' := 28) rfl rfl (gv_Cr rfl) rfl ?_
      refine gv_ic (pc' := 29) (x := 2) rfl rfl rfl ?_
      cases e
      exact gv_retI rfl rfl
    rw [if_neg c11] at e
    cases e
  | returned zr4 =>
  cases zr4 with
  | none => cases e
  | some zz =>
  cases zz with
  | long _ => cases e
  | float _ => cases e
  | double _ => cases e
  | ref _ => cases e
  | null => cases e
  | retAddr _ => cases e
  | int v2 =>
    dsimp only at e
    refine gv_vS (jc := 58) (n := 3) (rest := [.int (0 : Int32), gv_u l4]) (stk := [.int v2, .int (0 : Int32), gv_u l4]) (pc' := 10) rfl rfl rfl rfl rfl rfl rfl rfl rfl (gv_zR (gv_zI (gv_zI (gv_zI gv_z0)))) rfl (gv_aR (gv_aI (gv_aI (gv_aI gv_a0)))) (Nat.le_of_ble_eq_true rfl) qi1 (cG_add_ok qv2) rfl rfl ?_
    by_cases c6 : v2 = 0
    · rw [if_pos c6] at e
      refine gv_ifT (pc' := 17) rfl (gv_eqT c6) rfl ?_
      refine gv_lc (pc' := 18) (x := 0) rfl rfl rfl ?_
      obtain ⟨h7, qh7, e⟩ := gv_bind e
      refine gv_last (pc' := 19) rfl qh7 rfl ?_
      refine gv_goto (pc' := 30) rfl rfl ?_
      refine gv_ic (pc' := 31) (x := 0) rfl rfl rfl ?_
      cases e
      exact gv_retI rfl rfl
    rw [if_neg c6] at e
    refine gv_ifF (pc' := 13) rfl (gv_eqF c6) rfl rfl ?_
    refine gv_lc (pc' := 14) (x := 1) rfl rfl rfl ?_
    refine gv_goto (pc' := 18) rfl rfl ?_
    obtain ⟨h8, qh8, e⟩ := gv_bind e
    refine gv_last (pc' := 19) rfl qh8 rfl ?_
    refine gv_goto (pc' := 30) rfl rfl ?_
    refine gv_ic (pc' := 31) (x := 0) rfl rfl rfl ?_
    cases e
    exact gv_retI rfl rfl
def lw_get (l0 : Option Nat) (l1 : Int32) (l2 : Int32) (l3 : Int32) (l4 : Option Nat) (h : gx_H) : Option (Int32 × gx_H) :=
  (gv_is h l0 0).bind fun i1 =>
  (cG_get l0 l1 l2 l3 h).bind fun r4 =>
  match r4.1 with
  | .returned (some (.long v2)) => (
    (gv_wJ r4.2 l4 (0 : Int32) v2).bind fun h6 =>
    some ((0 : Int32), h6))
  | .threw x5 => (r4.2[x5]?).bind fun w7 => (
    if w7.1 = 10 then (
      some ((1 : Int32), r4.2)) else
    none)
  | _ => none
theorem lw_get_ok {xs : Option (List Int32)} {l0 : Option Nat} {l1 : Int32} {l2 : Int32} {l3 : Int32} {l4 : Option Nat} {h : gx_H} {r : (Int32 × gx_H)} (e : lw_get l0 l1 l2 l3 l4 h = some r) : gv_V xs 4 61 0 [(0, gv_u l0), (1, .int l1), (2, .int l2), (3, .int l3), (4, gv_u l4)] [] h (.returned (some (.int r.1))) r.2 := by
  unfold lw_get at e
  refine gv_rld (pc' := 2) rfl rfl rfl ?_
  refine gv_ic (pc' := 3) (x := 0) rfl rfl rfl ?_
  refine gv_rldn (pc' := 4) rfl rfl rfl ?_
  refine gv_ildn (pc' := 5) rfl rfl rfl ?_
  refine gv_ildn (pc' := 6) rfl rfl rfl ?_
  refine gv_ildn (pc' := 7) rfl rfl rfl ?_
  obtain ⟨i1, qi1, e⟩ := gv_bind e
  obtain ⟨⟨or4, h3⟩, qv2, e⟩ := gv_bind e
  cases or4 with
  | threw x5 =>
    obtain ⟨w7, qw7, e⟩ := gv_bind e
    by_cases c8 : w7.1 = 10
    · rw [if_pos c8] at e
      refine gv_vC (jc := 62) (n := 3) (rest := [.int (0 : Int32), gv_u l4]) (pc' := 14) rfl rfl rfl rfl rfl rfl rfl rfl rfl (gv_zR (gv_zI (gv_zI (gv_zI gv_z0)))) rfl (gv_aR (gv_aI (gv_aI (gv_aI gv_a0)))) (Nat.le_of_ble_eq_true rfl) qi1 (cG_get_ok qv2) (gv_catT qw7 c8 rfl) ?_
      refine gv_rst (pc' := 16) rfl rfl (gv_Cr rfl) rfl ?_
      refine gv_ic (pc' := 17) (x := 1) rfl rfl rfl ?_
      cases e
      exact gv_retI rfl rfl
    rw [if_neg c8] at e
    cases e
  | returned zr4 =>
  cases zr4 with
  | none => cases e
  | some zz =>
  cases zz with
  | int _ => cases e
  | float _ => cases e
  | double _ => cases e
  | ref _ => cases e
  | null => cases e
  | retAddr _ => cases e
  | long v2 =>
    dsimp only at e
    refine gv_vS (jc := 62) (n := 3) (rest := [.int (0 : Int32), gv_u l4]) (stk := [.long v2, .int (0 : Int32), gv_u l4]) (pc' := 10) rfl rfl rfl rfl rfl rfl rfl rfl rfl (gv_zR (gv_zI (gv_zI (gv_zI gv_z0)))) rfl (gv_aR (gv_aI (gv_aI (gv_aI gv_a0)))) (Nat.le_of_ble_eq_true rfl) qi1 (cG_get_ok qv2) rfl rfl ?_
    obtain ⟨h6, qh6, e⟩ := gv_bind e
    refine gv_last (pc' := 11) rfl qh6 rfl ?_
    refine gv_goto (pc' := 18) rfl rfl ?_
    refine gv_ic (pc' := 19) (x := 0) rfl rfl rfl ?_
    cases e
    exact gv_retI rfl rfl
def lw_pass (l0 : Option Nat) (l1 : Int32) (l2 : Option Nat) (h : gx_H) : Option (Int32 × gx_H) :=
  (gv_is h l0 0).bind fun i1 =>
  (cG_pass l0 l1 h).bind fun r4 =>
  match r4.1 with
  | .returned (some (.int v2)) => (
    (gv_wJ r4.2 l2 (0 : Int32) (Int32.toInt64 v2)).bind fun h6 =>
    some ((0 : Int32), h6))
  | .threw x5 => (r4.2[x5]?).bind fun w7 => (
    if w7.1 = 8 then (
      some ((1 : Int32), r4.2)) else
    if w7.1 = 9 then (
      some ((2 : Int32), r4.2)) else
    none)
  | _ => none
theorem lw_pass_ok {xs : Option (List Int32)} {l0 : Option Nat} {l1 : Int32} {l2 : Option Nat} {h : gx_H} {r : (Int32 × gx_H)} (e : lw_pass l0 l1 l2 h = some r) : gv_V xs 2 68 0 [(0, gv_u l0), (1, .int l1), (2, gv_u l2)] [] h (.returned (some (.int r.1))) r.2 := by
  unfold lw_pass at e
  refine gv_rldn (pc' := 1) rfl rfl rfl ?_
  refine gv_ic (pc' := 2) (x := 0) rfl rfl rfl ?_
  refine gv_rldn (pc' := 3) rfl rfl rfl ?_
  refine gv_ildn (pc' := 4) rfl rfl rfl ?_
  obtain ⟨i1, qi1, e⟩ := gv_bind e
  obtain ⟨⟨or4, h3⟩, qv2, e⟩ := gv_bind e
  cases or4 with
  | threw x5 =>
    obtain ⟨w7, qw7, e⟩ := gv_bind e
    by_cases c8 : w7.1 = 8
    · rw [if_pos c8] at e
      refine gv_vC (jc := 69) (n := 1) (rest := [.int (0 : Int32), gv_u l2]) (pc' := 12) rfl rfl rfl rfl rfl rfl rfl rfl rfl (gv_zR (gv_zI gv_z0)) rfl (gv_aR (gv_aI gv_a0)) (Nat.le_of_ble_eq_true rfl) qi1 (cG_pass_ok qv2) (gv_catT qw7 c8 rfl) ?_
      refine gv_rstn (pc' := 13) rfl rfl (gv_Cr rfl) rfl ?_
      refine gv_ic (pc' := 14) (x := 1) rfl rfl rfl ?_
      cases e
      exact gv_retI rfl rfl
    rw [if_neg c8] at e
    by_cases c9 : w7.1 = 9
    · rw [if_pos c9] at e
      refine gv_vC (jc := 69) (n := 1) (rest := [.int (0 : Int32), gv_u l2]) (pc' := 15) rfl rfl rfl rfl rfl rfl rfl rfl rfl (gv_zR (gv_zI gv_z0)) rfl (gv_aR (gv_aI gv_a0)) (Nat.le_of_ble_eq_true rfl) qi1 (cG_pass_ok qv2) (gv_catT qw7 c9 rfl) ?_
      refine gv_rstn (pc' := 16) rfl rfl (gv_Cr rfl) rfl ?_
      refine gv_ic (pc' := 17) (x := 2) rfl rfl rfl ?_
      cases e
      exact gv_retI rfl rfl
    rw [if_neg c9] at e
    cases e
  | returned zr4 =>
  cases zr4 with
  | none => cases e
  | some zz =>
  cases zz with
  | long _ => cases e
  | float _ => cases e
  | double _ => cases e
  | ref _ => cases e
  | null => cases e
  | retAddr _ => cases e
  | int v2 =>
    dsimp only at e
    refine gv_vS (jc := 69) (n := 1) (rest := [.int (0 : Int32), gv_u l2]) (stk := [.int v2, .int (0 : Int32), gv_u l2]) (pc' := 7) rfl rfl rfl rfl rfl rfl rfl rfl rfl (gv_zR (gv_zI gv_z0)) rfl (gv_aR (gv_aI gv_a0)) (Nat.le_of_ble_eq_true rfl) qi1 (cG_pass_ok qv2) rfl rfl ?_
    refine gv_i2l (pc' := 8) rfl rfl ?_
    obtain ⟨h6, qh6, e⟩ := gv_bind e
    refine gv_last (pc' := 9) rfl qh6 rfl ?_
    refine gv_goto (pc' := 18) rfl rfl ?_
    refine gv_ic (pc' := 19) (x := 0) rfl rfl rfl ?_
    cases e
    exact gv_retI rfl rfl
def lw_write (l0 : Option Nat) (l1 : Int32) (l2 : Int32) (l3 : Option Nat) (h : gx_H) : Option (Int32 × gx_H) :=
  (gv_is h l0 0).bind fun i1 =>
  (cG_write l0 l1 l2 h).bind fun r4 =>
  match r4.1 with
  | .returned (some (.int v2)) => (
    (gv_wJ r4.2 l3 (0 : Int32) (Int32.toInt64 v2)).bind fun h6 =>
    some ((0 : Int32), h6))
  | .threw x5 => (r4.2[x5]?).bind fun w7 => (
    if w7.1 = 8 then (
      some ((1 : Int32), r4.2)) else
    if w7.1 = 11 then (
      some ((2 : Int32), r4.2)) else
    none)
  | _ => none
theorem lw_write_ok {xs : Option (List Int32)} {l0 : Option Nat} {l1 : Int32} {l2 : Int32} {l3 : Option Nat} {h : gx_H} {r : (Int32 × gx_H)} (e : lw_write l0 l1 l2 l3 h = some r) : gv_V xs 115 71 0 [(0, gv_u l0), (1, .int l1), (2, .int l2), (3, gv_u l3)] [] h (.returned (some (.int r.1))) r.2 := by
  unfold lw_write at e
  refine gv_rldn (pc' := 1) rfl rfl rfl ?_
  refine gv_ic (pc' := 2) (x := 0) rfl rfl rfl ?_
  refine gv_rldn (pc' := 3) rfl rfl rfl ?_
  refine gv_ildn (pc' := 4) rfl rfl rfl ?_
  refine gv_ildn (pc' := 5) rfl rfl rfl ?_
  obtain ⟨i1, qi1, e⟩ := gv_bind e
  obtain ⟨⟨or4, h3⟩, qv2, e⟩ := gv_bind e
  cases or4 with
  | threw x5 =>
    obtain ⟨w7, qw7, e⟩ := gv_bind e
    by_cases c8 : w7.1 = 8
    · rw [if_pos c8] at e
      refine gv_vC (jc := 72) (n := 2) (rest := [.int (0 : Int32), gv_u l3]) (pc' := 13) rfl rfl rfl rfl rfl rfl rfl rfl rfl (gv_zR (gv_zI (gv_zI gv_z0))) rfl (gv_aR (gv_aI (gv_aI gv_a0))) (Nat.le_of_ble_eq_true rfl) qi1 (cG_write_ok qv2) (gv_catT qw7 c8 rfl) ?_
      refine gv_rst (pc' := 15) rfl rfl (gv_Cr rfl) rfl ?_
      refine gv_ic (pc' := 16) (x := 1) rfl rfl rfl ?_
      cases e
      exact gv_retI rfl rfl
    rw [if_neg c8] at e
    by_cases c9 : w7.1 = 11
    · rw [if_pos c9] at e
      refine gv_vC (jc := 72) (n := 2) (rest := [.int (0 : Int32), gv_u l3]) (pc' := 17) rfl rfl rfl rfl rfl rfl rfl rfl rfl (gv_zR (gv_zI (gv_zI gv_z0))) rfl (gv_aR (gv_aI (gv_aI gv_a0))) (Nat.le_of_ble_eq_true rfl) qi1 (cG_write_ok qv2) (gv_catT qw7 c9 rfl) ?_
      refine gv_rst (pc' := 19) rfl rfl (gv_Cr rfl) rfl ?_
      refine gv_ic (pc' := 20) (x := 2) rfl rfl rfl ?_
      cases e
      exact gv_retI rfl rfl
    rw [if_neg c9] at e
    cases e
  | returned zr4 =>
  cases zr4 with
  | none => cases e
  | some zz =>
  cases zz with
  | long _ => cases e
  | float _ => cases e
  | double _ => cases e
  | ref _ => cases e
  | null => cases e
  | retAddr _ => cases e
  | int v2 =>
    dsimp only at e
    refine gv_vS (jc := 72) (n := 2) (rest := [.int (0 : Int32), gv_u l3]) (stk := [.int v2, .int (0 : Int32), gv_u l3]) (pc' := 8) rfl rfl rfl rfl rfl rfl rfl rfl rfl (gv_zR (gv_zI (gv_zI gv_z0))) rfl (gv_aR (gv_aI (gv_aI gv_a0))) (Nat.le_of_ble_eq_true rfl) qi1 (cG_write_ok qv2) rfl rfl ?_
    refine gv_i2l (pc' := 9) rfl rfl ?_
    obtain ⟨h6, qh6, e⟩ := gv_bind e
    refine gv_last (pc' := 10) rfl qh6 rfl ?_
    refine gv_goto (pc' := 21) rfl rfl ?_
    refine gv_ic (pc' := 22) (x := 0) rfl rfl rfl ?_
    cases e
    exact gv_retI rfl rfl
def lw_read (l0 : Option Nat) (l1 : Option Nat) (h : gx_H) : Option (Int32 × gx_H) :=
  (gv_is h l0 0).bind fun i1 =>
  (cG_read l0 h).bind fun r4 =>
  match r4.1 with
  | .returned (some (.int v2)) => (
    (gv_wJ r4.2 l1 (0 : Int32) (Int32.toInt64 v2)).bind fun h6 =>
    some ((0 : Int32), h6))
  | .threw x5 => (r4.2[x5]?).bind fun w7 => (
    if w7.1 = 8 then (
      some ((1 : Int32), r4.2)) else
    none)
  | _ => none
theorem lw_read_ok {xs : Option (List Int32)} {l0 : Option Nat} {l1 : Option Nat} {h : gx_H} {r : (Int32 × gx_H)} (e : lw_read l0 l1 h = some r) : gv_V xs 75 97 0 [(0, gv_u l0), (1, gv_u l1)] [] h (.returned (some (.int r.1))) r.2 := by
  unfold lw_read at e
  refine gv_rldn (pc' := 1) rfl rfl rfl ?_
  refine gv_ic (pc' := 2) (x := 0) rfl rfl rfl ?_
  refine gv_rldn (pc' := 3) rfl rfl rfl ?_
  obtain ⟨i1, qi1, e⟩ := gv_bind e
  obtain ⟨⟨or4, h3⟩, qv2, e⟩ := gv_bind e
  cases or4 with
  | threw x5 =>
    obtain ⟨w7, qw7, e⟩ := gv_bind e
    by_cases c8 : w7.1 = 8
    · rw [if_pos c8] at e
      refine gv_vC (jc := 98) (n := 0) (rest := [.int (0 : Int32), gv_u l1]) (pc' := 11) rfl rfl rfl rfl rfl rfl rfl rfl rfl (gv_zR gv_z0) rfl (gv_aR gv_a0) (Nat.le_of_ble_eq_true rfl) qi1 (cG_read_ok qv2) (gv_catT qw7 c8 rfl) ?_
      refine gv_rstn (pc' := 12) rfl rfl (gv_Cr rfl) rfl ?_
      refine gv_ic (pc' := 13) (x := 1) rfl rfl rfl ?_
      cases e
      exact gv_retI rfl rfl
    rw [if_neg c8] at e
    cases e
  | returned zr4 =>
  cases zr4 with
  | none => cases e
  | some zz =>
  cases zz with
  | long _ => cases e
  | float _ => cases e
  | double _ => cases e
  | ref _ => cases e
  | null => cases e
  | retAddr _ => cases e
  | int v2 =>
    dsimp only at e
    refine gv_vS (jc := 98) (n := 0) (rest := [.int (0 : Int32), gv_u l1]) (stk := [.int v2, .int (0 : Int32), gv_u l1]) (pc' := 6) rfl rfl rfl rfl rfl rfl rfl rfl rfl (gv_zR gv_z0) rfl (gv_aR gv_a0) (Nat.le_of_ble_eq_true rfl) qi1 (cG_read_ok qv2) rfl rfl ?_
    refine gv_i2l (pc' := 7) rfl rfl ?_
    obtain ⟨h6, qh6, e⟩ := gv_bind e
    refine gv_last (pc' := 8) rfl qh6 rfl ?_
    refine gv_goto (pc' := 14) rfl rfl ?_
    refine gv_ic (pc' := 15) (x := 0) rfl rfl rfl ?_
    cases e
    exact gv_retI rfl rfl
