section
/-! by program: the methods as functions, and that the small machine does what they say -/
def mM_refused_18 (l0 : Option Nat) (s0 : Option Nat) (s1 : Int32) (h : gx_H) : Option (Int32 × gx_H) :=
  (gv_pV h s0 7 0 (.int s1)).bind fun h1 =>
  (gv_gI h1 l0 7 0).bind fun v2 =>
  if 0 < v2 then (
    some ((1 : Int32), h1)) else
  some ((0 : Int32), h1)
theorem mM_refused_18_ok {xs : Option (List Int32)} {l0 : Option Nat} {s0 : Option Nat} {s1 : Int32} {h : gx_H} {r : (Int32 × gx_H)} (e : mM_refused_18 l0 s0 s1 h = some r) : gv_V xs 0 121 18 [(0, gv_u l0)] [.int s1, gv_u s0] h (.returned (some (.int r.1))) r.2 := by
  unfold mM_refused_18 at e
  obtain ⟨h1, qh1, e⟩ := gv_bind e
  refine gv_pI (pc' := 21) rfl rfl rfl qh1 rfl ?_
  refine gv_rldn (pc' := 22) rfl rfl rfl ?_
  obtain ⟨v2, qv2, e⟩ := gv_bind e
  refine gv_fI (pc' := 25) rfl rfl qv2 rfl ?_
  by_cases c3 : 0 < v2
  · rw [if_pos c3] at e
    refine gv_ifF (pc' := 28) rfl (gv_leF c3) rfl rfl ?_
    refine gv_ic (pc' := 29) (x := 1) rfl rfl rfl ?_
    refine gv_goto (pc' := 33) rfl rfl ?_
    cases e
    exact gv_retZ rfl rfl (by decide)
  rw [if_neg c3] at e
  refine gv_ifT (pc' := 32) rfl (gv_leT c3) rfl ?_
  refine gv_ic (pc' := 33) (x := 0) rfl rfl rfl ?_
  cases e
  exact gv_retZ rfl rfl (by decide)
def mM_refused (l0 : Option Nat) (l1 : Int32) (l2 : Int32) (h : gx_H) : Option (Int32 × gx_H) :=
  if l1 = 0 then (
    if l2 = 0 then (
      mM_refused_18 l0 l0 (0 : Int32) h) else
    mM_refused_18 l0 l0 (2 : Int32) h) else
  mM_refused_18 l0 l0 (1 : Int32) h
theorem mM_refused_ok {xs : Option (List Int32)} {l0 : Option Nat} {l1 : Int32} {l2 : Int32} {h : gx_H} {r : (Int32 × gx_H)} (e : mM_refused l0 l1 l2 h = some r) : gv_V xs 0 121 0 [(0, gv_u l0), (1, .int l1), (2, .int l2)] [] h (.returned (some (.int r.1))) r.2 := by
  unfold mM_refused at e
  refine gv_rldn (pc' := 1) rfl rfl rfl ?_
  refine gv_ildn (pc' := 2) rfl rfl rfl ?_
  by_cases c1 : l1 = 0
  · rw [if_pos c1] at e
    refine gv_ifT (pc' := 9) rfl (gv_eqT c1) rfl ?_
    refine gv_ildn (pc' := 10) rfl rfl rfl ?_
    by_cases c2 : l2 = 0
    · rw [if_pos c2] at e
      refine gv_ifT (pc' := 17) rfl (gv_eqT c2) rfl ?_
      refine gv_ic (pc' := 18) (x := 0) rfl rfl rfl ?_
      exact gv_weak (mM_refused_18_ok e) (gv_S1 rfl gv_S0)
    rw [if_neg c2] at e
    refine gv_ifF (pc' := 13) rfl (gv_eqF c2) rfl rfl ?_
    refine gv_ic (pc' := 14) (x := 2) rfl rfl rfl ?_
    refine gv_goto (pc' := 18) rfl rfl ?_
    exact gv_weak (mM_refused_18_ok e) (gv_S1 rfl gv_S0)
  rw [if_neg c1] at e
  refine gv_ifF (pc' := 5) rfl (gv_eqF c1) rfl rfl ?_
  refine gv_ic (pc' := 6) (x := 1) rfl rfl rfl ?_
  refine gv_goto (pc' := 18) rfl rfl ?_
  exact gv_weak (mM_refused_18_ok e) (gv_S1 rfl gv_S0)
def mM_begin (l0 : Option Nat) (l1 : Int32) (l2 : Int32) (h : gx_H) : Option gx_H :=
  (gv_gR h l0 7 2).bind fun v1 =>
  (gv_wI h v1 l1 l2).bind fun h2 =>
  (gv_gR h2 l0 7 3).bind fun v3 =>
  (gv_wI h2 v3 l1 (0 : Int32)).bind fun h4 =>
  (gv_gR h4 l0 7 4).bind fun v5 =>
  (gv_wZ h4 v5 l1 (0 : Int32)).bind fun h6 =>
  (gv_gR h6 l0 7 5).bind fun v7 =>
  (gv_wJ h6 v7 l1 (0 : Int64)).bind fun h8 =>
  some h8
theorem mM_begin_ok {xs : Option (List Int32)} {l0 : Option Nat} {l1 : Int32} {l2 : Int32} {h : gx_H} {r : gx_H} (e : mM_begin l0 l1 l2 h = some r) : gv_V xs 0 123 0 [(0, gv_u l0), (1, .int l1), (2, .int l2)] [] h (.returned none) r := by
  unfold mM_begin at e
  refine gv_rldn (pc' := 1) rfl rfl rfl ?_
  obtain ⟨v1, qv1, e⟩ := gv_bind e
  refine gv_fR (pc' := 4) rfl rfl qv1 rfl ?_
  refine gv_ildn (pc' := 5) rfl rfl rfl ?_
  refine gv_ildn (pc' := 6) rfl rfl rfl ?_
  obtain ⟨h2, qh2, e⟩ := gv_bind e
  refine gv_iast (pc' := 7) rfl qh2 rfl ?_
  refine gv_rldn (pc' := 8) rfl rfl rfl ?_
  obtain ⟨v3, qv3, e⟩ := gv_bind e
  refine gv_fR (pc' := 11) rfl rfl qv3 rfl ?_
  refine gv_ildn (pc' := 12) rfl rfl rfl ?_
  refine gv_ic (pc' := 13) (x := 0) rfl rfl rfl ?_
  obtain ⟨h4, qh4, e⟩ := gv_bind e
  refine gv_iast (pc' := 14) rfl qh4 rfl ?_
  refine gv_rldn (pc' := 15) rfl rfl rfl ?_
  obtain ⟨v5, qv5, e⟩ := gv_bind e
  refine gv_fR (pc' := 18) rfl rfl qv5 rfl ?_
  refine gv_ildn (pc' := 19) rfl rfl rfl ?_
  refine gv_ic (pc' := 20) (x := 0) rfl rfl rfl ?_
  obtain ⟨h6, qh6, e⟩ := gv_bind e
  refine gv_bast (pc' := 21) rfl qh6 rfl ?_
  refine gv_rldn (pc' := 22) rfl rfl rfl ?_
  obtain ⟨v7, qv7, e⟩ := gv_bind e
  refine gv_fR (pc' := 25) rfl rfl qv7 rfl ?_
  refine gv_ildn (pc' := 26) rfl rfl rfl ?_
  refine gv_lc (pc' := 27) (x := 0) rfl rfl rfl ?_
  obtain ⟨h8, qh8, e⟩ := gv_bind e
  refine gv_last (pc' := 28) rfl qh8 rfl ?_
  cases e
  exact gv_retV rfl rfl
def mM_fresh (l0 : Option Nat) (l1 : Int32) (h : gx_H) : Option (Int32 × gx_H) :=
  (gv_gI h l0 7 1).bind fun v1 =>
  (gv_is h l0 7).bind fun i2 =>
  (mM_begin l0 v1 l1 h).bind fun h4 =>
  (gv_gI h4 l0 7 1).bind fun v5 =>
  (gv_pV h4 l0 7 1 (.int (v5 + (1 : Int32)))).bind fun h6 =>
  (gv_gI h6 l0 7 1).bind fun v7 =>
  some ((v7 - (1 : Int32)), h6)
theorem mM_fresh_ok {xs : Option (List Int32)} {l0 : Option Nat} {l1 : Int32} {h : gx_H} {r : (Int32 × gx_H)} (e : mM_fresh l0 l1 h = some r) : gv_V xs 1 122 0 [(0, gv_u l0), (1, .int l1)] [] h (.returned (some (.int r.1))) r.2 := by
  unfold mM_fresh at e
  refine gv_rldn (pc' := 1) rfl rfl rfl ?_
  refine gv_rldn (pc' := 2) rfl rfl rfl ?_
  obtain ⟨v1, qv1, e⟩ := gv_bind e
  refine gv_fI (pc' := 5) rfl rfl qv1 rfl ?_
  refine gv_ildn (pc' := 6) rfl rfl rfl ?_
  obtain ⟨i2, qi2, e⟩ := gv_bind e
  obtain ⟨h4, qv3, e⟩ := gv_bind e
  refine gv_vS (jc := 123) (n := 2) (rest := []) (stk := []) (pc' := 9) rfl rfl rfl rfl rfl rfl rfl rfl rfl (gv_zR (gv_zI (gv_zI gv_z0))) rfl (gv_aR (gv_aI (gv_aI gv_a0))) (Nat.le_of_ble_eq_true rfl) qi2 (mM_begin_ok qv3) rfl rfl ?_
  refine gv_rldn (pc' := 10) rfl rfl rfl ?_
  refine gv_dup (pc' := 11) rfl (gv_u_cat _) rfl ?_
  obtain ⟨v5, qv5, e⟩ := gv_bind e
  refine gv_fI (pc' := 14) rfl rfl qv5 rfl ?_
  refine gv_ic (pc' := 15) (x := 1) rfl rfl rfl ?_
  refine gv_iadd (pc' := 16) rfl rfl ?_
  obtain ⟨h6, qh6, e⟩ := gv_bind e
  refine gv_pI (pc' := 19) rfl rfl rfl qh6 rfl ?_
  refine gv_rldn (pc' := 20) rfl rfl rfl ?_
  obtain ⟨v7, qv7, e⟩ := gv_bind e
  refine gv_fI (pc' := 23) rfl rfl qv7 rfl ?_
  refine gv_ic (pc' := 24) (x := 1) rfl rfl rfl ?_
  refine gv_isub (pc' := 25) rfl rfl ?_
  cases e
  exact gv_retI rfl rfl
def mM_make_45 (l0 : Option Nat) (l1 : Int32) (s0 : Option Nat) (s1 : Int32) (s2 : Int32) (h : gx_H) : Option (Int32 × gx_H) :=
  (gv_is h s0 7).bind fun i1 =>
  (mM_refused s0 s1 s2 h).bind fun r4 =>
  if r4.1 = 0 then (
    (gv_is r4.2 l0 7).bind fun i6 =>
    (mM_fresh l0 l1 r4.2).bind fun r9 =>
    some (r9.1, r9.2)) else
  some ((0 : Int32), r4.2)
theorem mM_make_45_ok {xs : Option (List Int32)} {l0 : Option Nat} {l1 : Int32} {s0 : Option Nat} {s1 : Int32} {s2 : Int32} {h : gx_H} {r : (Int32 × gx_H)} (e : mM_make_45 l0 l1 s0 s1 s2 h = some r) : gv_V xs 2 120 45 [(0, gv_u l0), (1, .int l1)] [.int s2, .int s1, gv_u s0] h (.returned (some (.int r.1))) r.2 := by
  unfold mM_make_45 at e
  obtain ⟨i1, qi1, e⟩ := gv_bind e
  obtain ⟨⟨v2, h3⟩, qv2, e⟩ := gv_bind e
  refine gv_vS (jc := 121) (n := 2) (rest := []) (stk := [.int v2]) (pc' := 48) rfl rfl rfl rfl rfl rfl rfl rfl rfl (gv_zR (gv_zI (gv_zI gv_z0))) rfl (gv_aR (gv_aI (gv_aI gv_a0))) (Nat.le_of_ble_eq_true rfl) qi1 (mM_refused_ok qv2) rfl rfl ?_
  by_cases c5 : v2 = 0
  · rw [if_pos c5] at e
    refine gv_ifT (pc' := 55) rfl (gv_eqT c5) rfl ?_
    refine gv_rldn (pc' := 56) rfl rfl rfl ?_
    refine gv_ildn (pc' := 57) rfl rfl rfl ?_
    obtain ⟨i6, qi6, e⟩ := gv_bind e
    obtain ⟨⟨v7, h8⟩, qv7, e⟩ := gv_bind e
    refine gv_vS (jc := 122) (n := 1) (rest := []) (stk := [.int v7]) (pc' := 60) rfl rfl rfl rfl rfl rfl rfl rfl rfl (gv_zR (gv_zI gv_z0)) rfl (gv_aR (gv_aI gv_a0)) (Nat.le_of_ble_eq_true rfl) qi6 (mM_fresh_ok qv7) rfl rfl ?_
    cases e
    exact gv_retI rfl rfl
  rw [if_neg c5] at e
  refine gv_ifF (pc' := 51) rfl (gv_eqF c5) rfl rfl ?_
  refine gv_ic (pc' := 52) (x := 0) rfl rfl rfl ?_
  refine gv_goto (pc' := 60) rfl rfl ?_
  cases e
  exact gv_retI rfl rfl
def mM_make_31 (l0 : Option Nat) (l1 : Int32) (s0 : Option Nat) (s1 : Int32) (h : gx_H) : Option (Int32 × gx_H) :=
  (gv_gI h l0 7 1).bind fun v1 =>
  if v1 = (32 : Int32) then (
    mM_make_45 l0 l1 s0 s1 (1 : Int32) h) else
  mM_make_45 l0 l1 s0 s1 (0 : Int32) h
theorem mM_make_31_ok {xs : Option (List Int32)} {l0 : Option Nat} {l1 : Int32} {s0 : Option Nat} {s1 : Int32} {h : gx_H} {r : (Int32 × gx_H)} (e : mM_make_31 l0 l1 s0 s1 h = some r) : gv_V xs 2 120 31 [(0, gv_u l0), (1, .int l1)] [.int s1, gv_u s0] h (.returned (some (.int r.1))) r.2 := by
  unfold mM_make_31 at e
  refine gv_rldn (pc' := 32) rfl rfl rfl ?_
  obtain ⟨v1, qv1, e⟩ := gv_bind e
  refine gv_fI (pc' := 35) rfl rfl qv1 rfl ?_
  refine gv_bp (pc' := 37) (x := 32) rfl rfl rfl ?_
  by_cases c2 : v1 = (32 : Int32)
  · rw [if_pos c2] at e
    refine gv_cmF (pc' := 40) rfl (gv_neF2 c2) rfl rfl ?_
    refine gv_ic (pc' := 41) (x := 1) rfl rfl rfl ?_
    refine gv_goto (pc' := 45) rfl rfl ?_
    exact gv_weak (mM_make_45_ok e) (gv_S1 rfl (gv_S1 rfl gv_S0))
  rw [if_neg c2] at e
  refine gv_cmT (pc' := 44) rfl (gv_neT2 c2) rfl ?_
  refine gv_ic (pc' := 45) (x := 0) rfl rfl rfl ?_
  exact gv_weak (mM_make_45_ok e) (gv_S1 rfl (gv_S1 rfl gv_S0))
def mM_make_20 (l0 : Option Nat) (l1 : Int32) (s0 : Int32) (h : gx_H) : Option (Int32 × gx_H) :=
  if s0 = 0 then (
    mM_make_31 l0 l1 l0 (1 : Int32) h) else
  mM_make_31 l0 l1 l0 (0 : Int32) h
theorem mM_make_20_ok {xs : Option (List Int32)} {l0 : Option Nat} {l1 : Int32} {s0 : Int32} {h : gx_H} {r : (Int32 × gx_H)} (e : mM_make_20 l0 l1 s0 h = some r) : gv_V xs 2 120 20 [(0, gv_u l0), (1, .int l1)] [.int s0] h (.returned (some (.int r.1))) r.2 := by
  unfold mM_make_20 at e
  refine gv_istn (pc' := 21) rfl rfl (gv_Ci rfl) rfl ?_
  refine gv_rldn (pc' := 22) rfl rfl rfl ?_
  refine gv_ildn (pc' := 23) rfl rfl rfl ?_
  by_cases c1 : s0 = 0
  · rw [if_pos c1] at e
    refine gv_ifF (pc' := 26) rfl (gv_neF c1) rfl rfl ?_
    refine gv_ic (pc' := 27) (x := 1) rfl rfl rfl ?_
    refine gv_goto (pc' := 31) rfl rfl ?_
    exact gv_weak (mM_make_31_ok e) (gv_S1 rfl (gv_S1 rfl gv_S0))
  rw [if_neg c1] at e
  refine gv_ifT (pc' := 30) rfl (gv_neT c1) rfl ?_
  refine gv_ic (pc' := 31) (x := 0) rfl rfl rfl ?_
  exact gv_weak (mM_make_31_ok e) (gv_S1 rfl (gv_S1 rfl gv_S0))
def mM_make_15 (l0 : Option Nat) (l1 : Int32) (h : gx_H) : Option (Int32 × gx_H) :=
  mM_make_20 l0 l1 (1 : Int32) h
theorem mM_make_15_ok {xs : Option (List Int32)} {l0 : Option Nat} {l1 : Int32} {h : gx_H} {r : (Int32 × gx_H)} (e : mM_make_15 l0 l1 h = some r) : gv_V xs 2 120 15 [(0, gv_u l0), (1, .int l1)] [] h (.returned (some (.int r.1))) r.2 := by
  unfold mM_make_15 at e
  refine gv_ic (pc' := 16) (x := 1) rfl rfl rfl ?_
  refine gv_goto (pc' := 20) rfl rfl ?_
  exact gv_weak (mM_make_20_ok e) (gv_S1 rfl (gv_S1 rfl gv_S0))
def mM_make_9 (l0 : Option Nat) (l1 : Int32) (h : gx_H) : Option (Int32 × gx_H) :=
  if l1 = (7 : Int32) then (
    mM_make_15 l0 l1 h) else
  mM_make_20 l0 l1 (0 : Int32) h
theorem mM_make_9_ok {xs : Option (List Int32)} {l0 : Option Nat} {l1 : Int32} {h : gx_H} {r : (Int32 × gx_H)} (e : mM_make_9 l0 l1 h = some r) : gv_V xs 2 120 9 [(0, gv_u l0), (1, .int l1)] [] h (.returned (some (.int r.1))) r.2 := by
  unfold mM_make_9 at e
  refine gv_ildn (pc' := 10) rfl rfl rfl ?_
  refine gv_bp (pc' := 12) (x := 7) rfl rfl rfl ?_
  by_cases c1 : l1 = (7 : Int32)
  · rw [if_pos c1] at e
    refine gv_cmF (pc' := 15) rfl (gv_neF2 c1) rfl rfl ?_
    exact gv_weak (mM_make_15_ok e) (gv_S1 rfl (gv_S1 rfl gv_S0))
  rw [if_neg c1] at e
  refine gv_cmT (pc' := 19) rfl (gv_neT2 c1) rfl ?_
  refine gv_ic (pc' := 20) (x := 0) rfl rfl rfl ?_
  exact gv_weak (mM_make_20_ok e) (gv_S1 rfl (gv_S1 rfl gv_S0))
def mM_make (l0 : Option Nat) (l1 : Int32) (h : gx_H) : Option (Int32 × gx_H) :=
  if l1 < 0 then (
    mM_make_9 l0 l1 h) else
  if (3 : Int32) < l1 then (
    mM_make_9 l0 l1 h) else
  mM_make_15 l0 l1 h
theorem mM_make_ok {xs : Option (List Int32)} {l0 : Option Nat} {l1 : Int32} {h : gx_H} {r : (Int32 × gx_H)} (e : mM_make l0 l1 h = some r) : gv_V xs 2 120 0 [(0, gv_u l0), (1, .int l1)] [] h (.returned (some (.int r.1))) r.2 := by
  unfold mM_make at e
  refine gv_ildn (pc' := 1) rfl rfl rfl ?_
  by_cases c1 : l1 < 0
  · rw [if_pos c1] at e
    refine gv_ifT (pc' := 9) rfl (gv_ltT c1) rfl ?_
    exact gv_weak (mM_make_9_ok e) (gv_S1 rfl (gv_S1 rfl gv_S0))
  rw [if_neg c1] at e
  refine gv_ifF (pc' := 4) rfl (gv_ltF c1) rfl rfl ?_
  refine gv_ildn (pc' := 5) rfl rfl rfl ?_
  refine gv_ic (pc' := 6) (x := 3) rfl rfl rfl ?_
  by_cases c2 : (3 : Int32) < l1
  · rw [if_pos c2] at e
    refine gv_cmF (pc' := 9) rfl (gv_leF2 c2) rfl rfl ?_
    exact gv_weak (mM_make_9_ok e) (gv_S1 rfl (gv_S1 rfl gv_S0))
  rw [if_neg c2] at e
  refine gv_cmT (pc' := 15) rfl (gv_leT2 c2) rfl ?_
  exact gv_weak (mM_make_15_ok e) (gv_S1 rfl (gv_S1 rfl gv_S0))
def mM_buffer_56 : Nat → Option Nat → Int64 → Int32 → Int32 → Int32 → gx_H → Option (Int32 × gx_H)
  | 0, _, _, _, _, _, _ => none
  | n + 1, l0, l1, l3, l4, l5, h =>
    if l5 < l3 then (
      (gv_gR h l0 7 9).bind fun v2 =>
      (gv_wI h v2 (((8 : Int32) * l4) + l5) (Int64.toInt32 ((l1 >>> (Int32.toInt64 ((8 : Int32) * l5) &&& 63)) &&& (255 : Int64)))).bind fun h3 =>
      mM_buffer_56 n l0 l1 l3 l4 (l5 + 1) h3) else
    some (l4, h)
theorem mM_buffer_56_ok {xs : Option (List Int32)} : ∀ (n : Nat) (l0 : Option Nat) (l1 : Int64) (l3 : Int32) (l4 : Int32) (l5 : Int32) (h : gx_H) (r : (Int32 × gx_H)), mM_buffer_56 n l0 l1 l3 l4 l5 h = some r → gv_V xs 2 124 56 [(0, gv_u l0), (1, .long l1), (3, .int l3), (4, .int l4), (5, .int l5)] [] h (.returned (some (.int r.1))) r.2 := by
  intro n
  induction n with
  | zero => intro l0 l1 l3 l4 l5 h r e; cases e
  | succ n ih =>
    intro l0 l1 l3 l4 l5 h r e
    rw [mM_buffer_56] at e
    refine gv_ild (pc' := 58) rfl rfl rfl ?_
    refine gv_ildn (pc' := 59) rfl rfl rfl ?_
    by_cases c1 : l5 < l3
    · rw [if_pos c1] at e
      refine gv_cmF (pc' := 62) rfl (gv_geF2 c1) rfl rfl ?_
      refine gv_rldn (pc' := 63) rfl rfl rfl ?_
      obtain ⟨v2, qv2, e⟩ := gv_bind e
      refine gv_fR (pc' := 66) rfl rfl qv2 rfl ?_
      refine gv_bp (pc' := 68) (x := 8) rfl rfl rfl ?_
      refine gv_ild (pc' := 70) rfl rfl rfl ?_
      refine gv_imul (pc' := 71) rfl rfl ?_
      refine gv_ild (pc' := 73) rfl rfl rfl ?_
      refine gv_iadd (pc' := 74) rfl rfl ?_
      refine gv_jldn (pc' := 75) rfl rfl rfl ?_
      refine gv_bp (pc' := 77) (x := 8) rfl rfl rfl ?_
      refine gv_ild (pc' := 79) rfl rfl rfl ?_
      refine gv_imul (pc' := 80) rfl rfl ?_
      refine gv_lshr (pc' := 81) rfl rfl ?_
      refine gv_ld (pc' := 84) (x := 255) rfl rfl rfl ?_
      refine gv_land (pc' := 85) rfl rfl ?_
      refine gv_l2i (pc' := 86) rfl rfl ?_
      obtain ⟨h3, qh3, e⟩ := gv_bind e
      refine gv_iast (pc' := 87) rfl qh3 rfl ?_
      refine gv_inc (pc' := 90) (y := 1) rfl rfl rfl rfl (gv_Ci rfl) rfl ?_
      refine gv_goto (pc' := 56) rfl rfl ?_
      exact gv_weak (ih _ _ _ _ _ _ _ e) (gv_S1 rfl (gv_S1 rfl (gv_S1 rfl (gv_S1 rfl (gv_S1 rfl gv_S0)))))
    rw [if_neg c1] at e
    refine gv_cmT (pc' := 93) rfl (gv_geT2 c1) rfl ?_
    refine gv_ild (pc' := 95) rfl rfl rfl ?_
    cases e
    exact gv_retI rfl rfl
def mM_buffer_30 (l0 : Option Nat) (l1 : Int64) (l3 : Int32) (s0 : Option Nat) (s1 : Int32) (s2 : Int32) (h : gx_H) : Option (Int32 × gx_H) :=
  (gv_is h s0 7).bind fun i1 =>
  (mM_refused s0 s1 s2 h).bind fun r4 =>
  if r4.1 = 0 then (
    (gv_is r4.2 l0 7).bind fun i6 =>
    (mM_fresh l0 (4 : Int32) r4.2).bind fun r9 =>
    (gv_gR r9.2 l0 7 3).bind fun v10 =>
    (gv_wI r9.2 v10 r9.1 l3).bind fun h11 =>
    mM_buffer_56 1000000000000000 l0 l1 l3 r9.1 (0 : Int32) h11) else
  some ((0 : Int32), r4.2)
theorem mM_buffer_30_ok {xs : Option (List Int32)} {l0 : Option Nat} {l1 : Int64} {l3 : Int32} {s0 : Option Nat} {s1 : Int32} {s2 : Int32} {h : gx_H} {r : (Int32 × gx_H)} (e : mM_buffer_30 l0 l1 l3 s0 s1 s2 h = some r) : gv_V xs 2 124 30 [(0, gv_u l0), (1, .long l1), (3, .int l3)] [.int s2, .int s1, gv_u s0] h (.returned (some (.int r.1))) r.2 := by
  unfold mM_buffer_30 at e
  obtain ⟨i1, qi1, e⟩ := gv_bind e
  obtain ⟨⟨v2, h3⟩, qv2, e⟩ := gv_bind e
  refine gv_vS (jc := 121) (n := 2) (rest := []) (stk := [.int v2]) (pc' := 33) rfl rfl rfl rfl rfl rfl rfl rfl rfl (gv_zR (gv_zI (gv_zI gv_z0))) rfl (gv_aR (gv_aI (gv_aI gv_a0))) (Nat.le_of_ble_eq_true rfl) qi1 (mM_refused_ok qv2) rfl rfl ?_
  by_cases c5 : v2 = 0
  · rw [if_pos c5] at e
    refine gv_ifT (pc' := 38) rfl (gv_eqT c5) rfl ?_
    refine gv_rldn (pc' := 39) rfl rfl rfl ?_
    refine gv_ic (pc' := 40) (x := 4) rfl rfl rfl ?_
    obtain ⟨i6, qi6, e⟩ := gv_bind e
    obtain ⟨⟨v7, h8⟩, qv7, e⟩ := gv_bind e
    refine gv_vS (jc := 122) (n := 1) (rest := []) (stk := [.int v7]) (pc' := 43) rfl rfl rfl rfl rfl rfl rfl rfl rfl (gv_zR (gv_zI gv_z0)) rfl (gv_aR (gv_aI gv_a0)) (Nat.le_of_ble_eq_true rfl) qi6 (mM_fresh_ok qv7) rfl rfl ?_
    refine gv_ist (pc' := 45) rfl rfl (gv_Ci rfl) rfl ?_
    refine gv_rldn (pc' := 46) rfl rfl rfl ?_
    obtain ⟨v10, qv10, e⟩ := gv_bind e
    refine gv_fR (pc' := 49) rfl rfl qv10 rfl ?_
    refine gv_ild (pc' := 51) rfl rfl rfl ?_
    refine gv_ildn (pc' := 52) rfl rfl rfl ?_
    obtain ⟨h11, qh11, e⟩ := gv_bind e
    refine gv_iast (pc' := 53) rfl qh11 rfl ?_
    refine gv_ic (pc' := 54) (x := 0) rfl rfl rfl ?_
    refine gv_ist (pc' := 56) rfl rfl (gv_Ci rfl) rfl ?_
    exact gv_weak (mM_buffer_56_ok 1000000000000000 _ _ _ _ _ _ _ e) (gv_S1 rfl (gv_S1 rfl (gv_S1 rfl (gv_S1 rfl (gv_S1 rfl gv_S0)))))
  rw [if_neg c5] at e
  refine gv_ifF (pc' := 36) rfl (gv_eqF c5) rfl rfl ?_
  refine gv_ic (pc' := 37) (x := 0) rfl rfl rfl ?_
  cases e
  exact gv_retI rfl rfl
def mM_buffer_16 (l0 : Option Nat) (l1 : Int64) (l3 : Int32) (s0 : Option Nat) (s1 : Int32) (h : gx_H) : Option (Int32 × gx_H) :=
  (gv_gI h l0 7 1).bind fun v1 =>
  if v1 = (32 : Int32) then (
    mM_buffer_30 l0 l1 l3 s0 s1 (1 : Int32) h) else
  mM_buffer_30 l0 l1 l3 s0 s1 (0 : Int32) h
theorem mM_buffer_16_ok {xs : Option (List Int32)} {l0 : Option Nat} {l1 : Int64} {l3 : Int32} {s0 : Option Nat} {s1 : Int32} {h : gx_H} {r : (Int32 × gx_H)} (e : mM_buffer_16 l0 l1 l3 s0 s1 h = some r) : gv_V xs 2 124 16 [(0, gv_u l0), (1, .long l1), (3, .int l3)] [.int s1, gv_u s0] h (.returned (some (.int r.1))) r.2 := by
  unfold mM_buffer_16 at e
  refine gv_rldn (pc' := 17) rfl rfl rfl ?_
  obtain ⟨v1, qv1, e⟩ := gv_bind e
  refine gv_fI (pc' := 20) rfl rfl qv1 rfl ?_
  refine gv_bp (pc' := 22) (x := 32) rfl rfl rfl ?_
  by_cases c2 : v1 = (32 : Int32)
  · rw [if_pos c2] at e
    refine gv_cmF (pc' := 25) rfl (gv_neF2 c2) rfl rfl ?_
    refine gv_ic (pc' := 26) (x := 1) rfl rfl rfl ?_
    refine gv_goto (pc' := 30) rfl rfl ?_
    exact gv_weak (mM_buffer_30_ok e) (gv_S1 rfl (gv_S1 rfl (gv_S1 rfl gv_S0)))
  rw [if_neg c2] at e
  refine gv_cmT (pc' := 29) rfl (gv_neT2 c2) rfl ?_
  refine gv_ic (pc' := 30) (x := 0) rfl rfl rfl ?_
  exact gv_weak (mM_buffer_30_ok e) (gv_S1 rfl (gv_S1 rfl (gv_S1 rfl gv_S0)))
def mM_buffer_11 (l0 : Option Nat) (l1 : Int64) (l3 : Int32) (s0 : Option Nat) (h : gx_H) : Option (Int32 × gx_H) :=
  mM_buffer_16 l0 l1 l3 s0 (1 : Int32) h
theorem mM_buffer_11_ok {xs : Option (List Int32)} {l0 : Option Nat} {l1 : Int64} {l3 : Int32} {s0 : Option Nat} {h : gx_H} {r : (Int32 × gx_H)} (e : mM_buffer_11 l0 l1 l3 s0 h = some r) : gv_V xs 2 124 11 [(0, gv_u l0), (1, .long l1), (3, .int l3)] [gv_u s0] h (.returned (some (.int r.1))) r.2 := by
  unfold mM_buffer_11 at e
  refine gv_ic (pc' := 12) (x := 1) rfl rfl rfl ?_
  refine gv_goto (pc' := 16) rfl rfl ?_
  exact gv_weak (mM_buffer_16_ok e) (gv_S1 rfl (gv_S1 rfl (gv_S1 rfl gv_S0)))
def mM_buffer (l0 : Option Nat) (l1 : Int64) (l3 : Int32) (h : gx_H) : Option (Int32 × gx_H) :=
  if l3 < 0 then (
    mM_buffer_11 l0 l1 l3 l0 h) else
  if (8 : Int32) < l3 then (
    mM_buffer_11 l0 l1 l3 l0 h) else
  mM_buffer_16 l0 l1 l3 l0 (0 : Int32) h
theorem mM_buffer_ok {xs : Option (List Int32)} {l0 : Option Nat} {l1 : Int64} {l3 : Int32} {h : gx_H} {r : (Int32 × gx_H)} (e : mM_buffer l0 l1 l3 h = some r) : gv_V xs 2 124 0 [(0, gv_u l0), (1, .long l1), (3, .int l3)] [] h (.returned (some (.int r.1))) r.2 := by
  unfold mM_buffer at e
  refine gv_rldn (pc' := 1) rfl rfl rfl ?_
  refine gv_ildn (pc' := 2) rfl rfl rfl ?_
  by_cases c1 : l3 < 0
  · rw [if_pos c1] at e
    refine gv_ifT (pc' := 11) rfl (gv_ltT c1) rfl ?_
    exact gv_weak (mM_buffer_11_ok e) (gv_S1 rfl (gv_S1 rfl (gv_S1 rfl gv_S0)))
  rw [if_neg c1] at e
  refine gv_ifF (pc' := 5) rfl (gv_ltF c1) rfl rfl ?_
  refine gv_ildn (pc' := 6) rfl rfl rfl ?_
  refine gv_bp (pc' := 8) (x := 8) rfl rfl rfl ?_
  by_cases c2 : (8 : Int32) < l3
  · rw [if_pos c2] at e
    refine gv_cmF (pc' := 11) rfl (gv_leF2 c2) rfl rfl ?_
    exact gv_weak (mM_buffer_11_ok e) (gv_S1 rfl (gv_S1 rfl (gv_S1 rfl gv_S0)))
  rw [if_neg c2] at e
  refine gv_cmT (pc' := 15) rfl (gv_leT2 c2) rfl ?_
  refine gv_ic (pc' := 16) (x := 0) rfl rfl rfl ?_
  exact gv_weak (mM_buffer_16_ok e) (gv_S1 rfl (gv_S1 rfl (gv_S1 rfl gv_S0)))
def mM_isObject (l0 : Option Nat) (l1 : Int32) (h : gx_H) : Option Int32 :=
  if l1 < 0 then (
    some (0 : Int32)) else
  (gv_gI h l0 7 1).bind fun v2 =>
  if l1 < v2 then (
    some (1 : Int32)) else
  some (0 : Int32)
theorem mM_isObject_ok {xs : Option (List Int32)} {l0 : Option Nat} {l1 : Int32} {h : gx_H} {r : Int32} (e : mM_isObject l0 l1 h = some r) : gv_V xs 0 127 0 [(0, gv_u l0), (1, .int l1)] [] h (.returned (some (.int r))) h := by
  unfold mM_isObject at e
  refine gv_ildn (pc' := 1) rfl rfl rfl ?_
  by_cases c1 : l1 < 0
  · rw [if_pos c1] at e
    refine gv_ifT (pc' := 16) rfl (gv_ltT c1) rfl ?_
    refine gv_ic (pc' := 17) (x := 0) rfl rfl rfl ?_
    cases e
    exact gv_retZ rfl rfl (by decide)
  rw [if_neg c1] at e
  refine gv_ifF (pc' := 4) rfl (gv_ltF c1) rfl rfl ?_
  refine gv_ildn (pc' := 5) rfl rfl rfl ?_
  refine gv_rldn (pc' := 6) rfl rfl rfl ?_
  obtain ⟨v2, qv2, e⟩ := gv_bind e
  refine gv_fI (pc' := 9) rfl rfl qv2 rfl ?_
  by_cases c3 : l1 < v2
  · rw [if_pos c3] at e
    refine gv_cmF (pc' := 12) rfl (gv_geF2 c3) rfl rfl ?_
    refine gv_ic (pc' := 13) (x := 1) rfl rfl rfl ?_
    refine gv_goto (pc' := 17) rfl rfl ?_
    cases e
    exact gv_retZ rfl rfl (by decide)
  rw [if_neg c3] at e
  refine gv_cmT (pc' := 16) rfl (gv_geT2 c3) rfl ?_
  refine gv_ic (pc' := 17) (x := 0) rfl rfl rfl ?_
  cases e
  exact gv_retZ rfl rfl (by decide)
def mM_is (l0 : Option Nat) (l1 : Int32) (l2 : Int32) (h : gx_H) : Option Int32 :=
  (gv_is h l0 7).bind fun i1 =>
  (mM_isObject l0 l1 h).bind fun v2 =>
  if v2 = 0 then (
    some (0 : Int32)) else
  (gv_gR h l0 7 2).bind fun v4 =>
  (gv_lI h v4 l1).bind fun v5 =>
  if v5 = l2 then (
    some (1 : Int32)) else
  some (0 : Int32)
theorem mM_is_ok {xs : Option (List Int32)} {l0 : Option Nat} {l1 : Int32} {l2 : Int32} {h : gx_H} {r : Int32} (e : mM_is l0 l1 l2 h = some r) : gv_V xs 1 126 0 [(0, gv_u l0), (1, .int l1), (2, .int l2)] [] h (.returned (some (.int r))) h := by
  unfold mM_is at e
  refine gv_rldn (pc' := 1) rfl rfl rfl ?_
  refine gv_ildn (pc' := 2) rfl rfl rfl ?_
  obtain ⟨i1, qi1, e⟩ := gv_bind e
  obtain ⟨v2, qv2, e⟩ := gv_bind e
  refine gv_vS (jc := 127) (n := 1) (rest := []) (stk := [.int v2]) (pc' := 5) rfl rfl rfl rfl rfl rfl rfl rfl rfl (gv_zR (gv_zI gv_z0)) rfl (gv_aR (gv_aI gv_a0)) (Nat.le_of_ble_eq_true rfl) qi1 (mM_isObject_ok qv2) rfl rfl ?_
  by_cases c3 : v2 = 0
  · rw [if_pos c3] at e
    refine gv_ifT (pc' := 22) rfl (gv_eqT c3) rfl ?_
    refine gv_ic (pc' := 23) (x := 0) rfl rfl rfl ?_
    cases e
    exact gv_retZ rfl rfl (by decide)
  rw [if_neg c3] at e
  refine gv_ifF (pc' := 8) rfl (gv_eqF c3) rfl rfl ?_
  refine gv_rldn (pc' := 9) rfl rfl rfl ?_
  obtain ⟨v4, qv4, e⟩ := gv_bind e
  refine gv_fR (pc' := 12) rfl rfl qv4 rfl ?_
  refine gv_ildn (pc' := 13) rfl rfl rfl ?_
  obtain ⟨v5, qv5, e⟩ := gv_bind e
  refine gv_iald (pc' := 14) rfl qv5 rfl ?_
  refine gv_ildn (pc' := 15) rfl rfl rfl ?_
  by_cases c6 : v5 = l2
  · rw [if_pos c6] at e
    refine gv_cmF (pc' := 18) rfl (gv_neF2 c6) rfl rfl ?_
    refine gv_ic (pc' := 19) (x := 1) rfl rfl rfl ?_
    refine gv_goto (pc' := 23) rfl rfl ?_
    cases e
    exact gv_retZ rfl rfl (by decide)
  rw [if_neg c6] at e
  refine gv_cmT (pc' := 22) rfl (gv_neT2 c6) rfl ?_
  refine gv_ic (pc' := 23) (x := 0) rfl rfl rfl ?_
  cases e
  exact gv_retZ rfl rfl (by decide)
def mM_isUnit (l0 : Int32) : Option Int32 :=
  if l0 = (1 : Int32) then (
    some (1 : Int32)) else
  if l0 = (2 : Int32) then (
    some (1 : Int32)) else
  if l0 = (4 : Int32) then (
    some (1 : Int32)) else
  some (0 : Int32)
theorem mM_isUnit_ok {xs : Option (List Int32)} {l0 : Int32} {h : gx_H} {r : Int32} (e : mM_isUnit l0 = some r) : gv_V xs 0 129 0 [(0, .int l0)] [] h (.returned (some (.int r))) h := by
  unfold mM_isUnit at e
  refine gv_ildn (pc' := 1) rfl rfl rfl ?_
  refine gv_ic (pc' := 2) (x := 1) rfl rfl rfl ?_
  by_cases c1 : l0 = (1 : Int32)
  · rw [if_pos c1] at e
    refine gv_cmT (pc' := 15) rfl (gv_eqT2 c1) rfl ?_
    refine gv_ic (pc' := 16) (x := 1) rfl rfl rfl ?_
    refine gv_goto (pc' := 20) rfl rfl ?_
    cases e
    exact gv_retZ rfl rfl (by decide)
  rw [if_neg c1] at e
  refine gv_cmF (pc' := 5) rfl (gv_eqF2 c1) rfl rfl ?_
  refine gv_ildn (pc' := 6) rfl rfl rfl ?_
  refine gv_ic (pc' := 7) (x := 2) rfl rfl rfl ?_
  by_cases c2 : l0 = (2 : Int32)
  · rw [if_pos c2] at e
    refine gv_cmT (pc' := 15) rfl (gv_eqT2 c2) rfl ?_
    refine gv_ic (pc' := 16) (x := 1) rfl rfl rfl ?_
    refine gv_goto (pc' := 20) rfl rfl ?_
    cases e
    exact gv_retZ rfl rfl (by decide)
  rw [if_neg c2] at e
  refine gv_cmF (pc' := 10) rfl (gv_eqF2 c2) rfl rfl ?_
  refine gv_ildn (pc' := 11) rfl rfl rfl ?_
  refine gv_ic (pc' := 12) (x := 4) rfl rfl rfl ?_
  by_cases c3 : l0 = (4 : Int32)
  · rw [if_pos c3] at e
    refine gv_cmF (pc' := 15) rfl (gv_neF2 c3) rfl rfl ?_
    refine gv_ic (pc' := 16) (x := 1) rfl rfl rfl ?_
    refine gv_goto (pc' := 20) rfl rfl ?_
    cases e
    exact gv_retZ rfl rfl (by decide)
  rw [if_neg c3] at e
  refine gv_cmT (pc' := 19) rfl (gv_neT2 c3) rfl ?_
  refine gv_ic (pc' := 20) (x := 0) rfl rfl rfl ?_
  cases e
  exact gv_retZ rfl rfl (by decide)
def mM_lies (l0 : Int32) (l1 : Int32) (l2 : Int32) (l3 : Int32) : Option Int32 :=
  (mM_isUnit l0).bind fun v1 =>
  if v1 = 0 then (
    some (0 : Int32)) else
  if l1 < 0 then (
    some (0 : Int32)) else
  if l3 < l1 then (
    some (0 : Int32)) else
  if l0 = 0 then none else
  if (l1 - l1 / l0 * l0) = 0 then (
    if l2 < 0 then (
      some (0 : Int32)) else
    if l3 < l2 then (
      some (0 : Int32)) else
    if l3 < (l1 + (l0 * l2)) then (
      some (0 : Int32)) else
    some (1 : Int32)) else
  some (0 : Int32)
theorem mM_lies_ok {xs : Option (List Int32)} {l0 : Int32} {l1 : Int32} {l2 : Int32} {l3 : Int32} {h : gx_H} {r : Int32} (e : mM_lies l0 l1 l2 l3 = some r) : gv_V xs 1 128 0 [(0, .int l0), (1, .int l1), (2, .int l2), (3, .int l3)] [] h (.returned (some (.int r))) h := by
  unfold mM_lies at e
  refine gv_ildn (pc' := 1) rfl rfl rfl ?_
  obtain ⟨v1, qv1, e⟩ := gv_bind e
  refine gv_sS (jc := 129) (n := 1) (rest := []) (stk := [.int v1]) (pc' := 4) rfl rfl rfl rfl rfl rfl rfl rfl rfl (gv_zI gv_z0) rfl (gv_aI gv_a0) (Nat.le_of_ble_eq_true rfl) (mM_isUnit_ok qv1) rfl rfl ?_
  by_cases c2 : v1 = 0
  · rw [if_pos c2] at e
    refine gv_ifT (pc' := 44) rfl (gv_eqT c2) rfl ?_
    refine gv_ic (pc' := 45) (x := 0) rfl rfl rfl ?_
    cases e
    exact gv_retZ rfl rfl (by decide)
  rw [if_neg c2] at e
  refine gv_ifF (pc' := 7) rfl (gv_eqF c2) rfl rfl ?_
  refine gv_ildn (pc' := 8) rfl rfl rfl ?_
  by_cases c3 : l1 < 0
  · rw [if_pos c3] at e
    refine gv_ifT (pc' := 44) rfl (gv_ltT c3) rfl ?_
    refine gv_ic (pc' := 45) (x := 0) rfl rfl rfl ?_
    cases e
    exact gv_retZ rfl rfl (by decide)
  rw [if_neg c3] at e
  refine gv_ifF (pc' := 11) rfl (gv_ltF c3) rfl rfl ?_
  refine gv_ildn (pc' := 12) rfl rfl rfl ?_
  refine gv_ildn (pc' := 13) rfl rfl rfl ?_
  by_cases c4 : l3 < l1
  · rw [if_pos c4] at e
    refine gv_cmT (pc' := 44) rfl (gv_gtT2 c4) rfl ?_
    refine gv_ic (pc' := 45) (x := 0) rfl rfl rfl ?_
    cases e
    exact gv_retZ rfl rfl (by decide)
  rw [if_neg c4] at e
  refine gv_cmF (pc' := 16) rfl (gv_gtF2 c4) rfl rfl ?_
  refine gv_ildn (pc' := 17) rfl rfl rfl ?_
  refine gv_ildn (pc' := 18) rfl rfl rfl ?_
  by_cases c5 : l0 = 0
  · rw [if_pos c5] at e; cases e
  rw [if_neg c5] at e
  refine gv_irem (pc' := 19) rfl c5 rfl ?_
  by_cases c6 : (l1 - l1 / l0 * l0) = 0
  · rw [if_pos c6] at e
    refine gv_ifF (pc' := 22) rfl (gv_neF c6) rfl rfl ?_
    refine gv_ildn (pc' := 23) rfl rfl rfl ?_
    by_cases c7 : l2 < 0
    · rw [if_pos c7] at e
      refine gv_ifT (pc' := 44) rfl (gv_ltT c7) rfl ?_
      refine gv_ic (pc' := 45) (x := 0) rfl rfl rfl ?_
      cases e
      exact gv_retZ rfl rfl (by decide)
    rw [if_neg c7] at e
    refine gv_ifF (pc' := 26) rfl (gv_ltF c7) rfl rfl ?_
    refine gv_ildn (pc' := 27) rfl rfl rfl ?_
    refine gv_ildn (pc' := 28) rfl rfl rfl ?_
    by_cases c8 : l3 < l2
    · rw [if_pos c8] at e
      refine gv_cmT (pc' := 44) rfl (gv_gtT2 c8) rfl ?_
      refine gv_ic (pc' := 45) (x := 0) rfl rfl rfl ?_
      cases e
      exact gv_retZ rfl rfl (by decide)
    rw [if_neg c8] at e
    refine gv_cmF (pc' := 31) rfl (gv_gtF2 c8) rfl rfl ?_
    refine gv_ildn (pc' := 32) rfl rfl rfl ?_
    refine gv_ildn (pc' := 33) rfl rfl rfl ?_
    refine gv_ildn (pc' := 34) rfl rfl rfl ?_
    refine gv_imul (pc' := 35) rfl rfl ?_
    refine gv_iadd (pc' := 36) rfl rfl ?_
    refine gv_ildn (pc' := 37) rfl rfl rfl ?_
    by_cases c9 : l3 < (l1 + (l0 * l2))
    · rw [if_pos c9] at e
      refine gv_cmT (pc' := 44) rfl (gv_gtT2 c9) rfl ?_
      refine gv_ic (pc' := 45) (x := 0) rfl rfl rfl ?_
      cases e
      exact gv_retZ rfl rfl (by decide)
    rw [if_neg c9] at e
    refine gv_cmF (pc' := 40) rfl (gv_gtF2 c9) rfl rfl ?_
    refine gv_ic (pc' := 41) (x := 1) rfl rfl rfl ?_
    refine gv_goto (pc' := 45) rfl rfl ?_
    cases e
    exact gv_retZ rfl rfl (by decide)
  rw [if_neg c6] at e
  refine gv_ifT (pc' := 44) rfl (gv_neT c6) rfl ?_
  refine gv_ic (pc' := 45) (x := 0) rfl rfl rfl ?_
  cases e
  exact gv_retZ rfl rfl (by decide)
def mM_setView (l0 : Option Nat) (l1 : Int32) (l2 : Int32) (l3 : Int32) (l4 : Int32) (l5 : Int32) (h : gx_H) : Option gx_H :=
  (gv_gR h l0 7 3).bind fun v1 =>
  (gv_wI h v1 l1 l5).bind fun h2 =>
  (gv_gR h2 l0 7 9).bind fun v3 =>
  (gv_wI h2 v3 ((8 : Int32) * l1) l2).bind fun h4 =>
  (gv_gR h4 l0 7 9).bind fun v5 =>
  (gv_wI h4 v5 (((8 : Int32) * l1) + (1 : Int32)) l3).bind fun h6 =>
  (gv_gR h6 l0 7 9).bind fun v7 =>
  (gv_wI h6 v7 (((8 : Int32) * l1) + (2 : Int32)) l4).bind fun h8 =>
  (gv_gR h8 l0 7 9).bind fun v9 =>
  (gv_wI h8 v9 (((8 : Int32) * l1) + (3 : Int32)) l5).bind fun h10 =>
  some h10
theorem mM_setView_ok {xs : Option (List Int32)} {l0 : Option Nat} {l1 : Int32} {l2 : Int32} {l3 : Int32} {l4 : Int32} {l5 : Int32} {h : gx_H} {r : gx_H} (e : mM_setView l0 l1 l2 l3 l4 l5 h = some r) : gv_V xs 0 130 0 [(0, gv_u l0), (1, .int l1), (2, .int l2), (3, .int l3), (4, .int l4), (5, .int l5)] [] h (.returned none) r := by
  unfold mM_setView at e
  refine gv_rldn (pc' := 1) rfl rfl rfl ?_
  obtain ⟨v1, qv1, e⟩ := gv_bind e
  refine gv_fR (pc' := 4) rfl rfl qv1 rfl ?_
  refine gv_ildn (pc' := 5) rfl rfl rfl ?_
  refine gv_ild (pc' := 7) rfl rfl rfl ?_
  obtain ⟨h2, qh2, e⟩ := gv_bind e
  refine gv_iast (pc' := 8) rfl qh2 rfl ?_
  refine gv_rldn (pc' := 9) rfl rfl rfl ?_
  obtain ⟨v3, qv3, e⟩ := gv_bind e
  refine gv_fR (pc' := 12) rfl rfl qv3 rfl ?_
  refine gv_bp (pc' := 14) (x := 8) rfl rfl rfl ?_
  refine gv_ildn (pc' := 15) rfl rfl rfl ?_
  refine gv_imul (pc' := 16) rfl rfl ?_
  refine gv_ildn (pc' := 17) rfl rfl rfl ?_
  obtain ⟨h4, qh4, e⟩ := gv_bind e
  refine gv_iast (pc' := 18) rfl qh4 rfl ?_
  refine gv_rldn (pc' := 19) rfl rfl rfl ?_
  obtain ⟨v5, qv5, e⟩ := gv_bind e
  refine gv_fR (pc' := 22) rfl rfl qv5 rfl ?_
  refine gv_bp (pc' := 24) (x := 8) rfl rfl rfl ?_
  refine gv_ildn (pc' := 25) rfl rfl rfl ?_
  refine gv_imul (pc' := 26) rfl rfl ?_
  refine gv_ic (pc' := 27) (x := 1) rfl rfl rfl ?_
  refine gv_iadd (pc' := 28) rfl rfl ?_
  refine gv_ildn (pc' := 29) rfl rfl rfl ?_
  obtain ⟨h6, qh6, e⟩ := gv_bind e
  refine gv_iast (pc' := 30) rfl qh6 rfl ?_
  refine gv_rldn (pc' := 31) rfl rfl rfl ?_
  obtain ⟨v7, qv7, e⟩ := gv_bind e
  refine gv_fR (pc' := 34) rfl rfl qv7 rfl ?_
  refine gv_bp (pc' := 36) (x := 8) rfl rfl rfl ?_
  refine gv_ildn (pc' := 37) rfl rfl rfl ?_
  refine gv_imul (pc' := 38) rfl rfl ?_
  refine gv_ic (pc' := 39) (x := 2) rfl rfl rfl ?_
  refine gv_iadd (pc' := 40) rfl rfl ?_
  refine gv_ild (pc' := 42) rfl rfl rfl ?_
  obtain ⟨h8, qh8, e⟩ := gv_bind e
  refine gv_iast (pc' := 43) rfl qh8 rfl ?_
  refine gv_rldn (pc' := 44) rfl rfl rfl ?_
  obtain ⟨v9, qv9, e⟩ := gv_bind e
  refine gv_fR (pc' := 47) rfl rfl qv9 rfl ?_
  refine gv_bp (pc' := 49) (x := 8) rfl rfl rfl ?_
  refine gv_ildn (pc' := 50) rfl rfl rfl ?_
  refine gv_imul (pc' := 51) rfl rfl ?_
  refine gv_ic (pc' := 52) (x := 3) rfl rfl rfl ?_
  refine gv_iadd (pc' := 53) rfl rfl ?_
  refine gv_ild (pc' := 55) rfl rfl rfl ?_
  obtain ⟨h10, qh10, e⟩ := gv_bind e
  refine gv_iast (pc' := 56) rfl qh10 rfl ?_
  cases e
  exact gv_retV rfl rfl
def mM_view_66 (l0 : Option Nat) (l1 : Int32) (l2 : Int32) (l3 : Int32) (l4 : Int32) (s0 : Option Nat) (s1 : Int32) (s2 : Int32) (h : gx_H) : Option (Int32 × gx_H) :=
  (gv_is h s0 7).bind fun i1 =>
  (mM_refused s0 s1 s2 h).bind fun r4 =>
  if r4.1 = 0 then (
    (gv_is r4.2 l0 7).bind fun i6 =>
    (mM_fresh l0 (5 : Int32) r4.2).bind fun r9 =>
    (gv_is r9.2 l0 7).bind fun i10 =>
    (mM_setView l0 r9.1 l1 l2 l3 l4 r9.2).bind fun h12 =>
    some (r9.1, h12)) else
  some ((0 : Int32), r4.2)
theorem mM_view_66_ok {xs : Option (List Int32)} {l0 : Option Nat} {l1 : Int32} {l2 : Int32} {l3 : Int32} {l4 : Int32} {s0 : Option Nat} {s1 : Int32} {s2 : Int32} {h : gx_H} {r : (Int32 × gx_H)} (e : mM_view_66 l0 l1 l2 l3 l4 s0 s1 s2 h = some r) : gv_V xs 2 125 66 [(0, gv_u l0), (1, .int l1), (2, .int l2), (3, .int l3), (4, .int l4)] [.int s2, .int s1, gv_u s0] h (.returned (some (.int r.1))) r.2 := by
  unfold mM_view_66 at e
  obtain ⟨i1, qi1, e⟩ := gv_bind e
  obtain ⟨⟨v2, h3⟩, qv2, e⟩ := gv_bind e
  refine gv_vS (jc := 121) (n := 2) (rest := []) (stk := [.int v2]) (pc' := 69) rfl rfl rfl rfl rfl rfl rfl rfl rfl (gv_zR (gv_zI (gv_zI gv_z0))) rfl (gv_aR (gv_aI (gv_aI gv_a0))) (Nat.le_of_ble_eq_true rfl) qi1 (mM_refused_ok qv2) rfl rfl ?_
  by_cases c5 : v2 = 0
  · rw [if_pos c5] at e
    refine gv_ifT (pc' := 74) rfl (gv_eqT c5) rfl ?_
    refine gv_rldn (pc' := 75) rfl rfl rfl ?_
    refine gv_ic (pc' := 76) (x := 5) rfl rfl rfl ?_
    obtain ⟨i6, qi6, e⟩ := gv_bind e
    obtain ⟨⟨v7, h8⟩, qv7, e⟩ := gv_bind e
    refine gv_vS (jc := 122) (n := 1) (rest := []) (stk := [.int v7]) (pc' := 79) rfl rfl rfl rfl rfl rfl rfl rfl rfl (gv_zR (gv_zI gv_z0)) rfl (gv_aR (gv_aI gv_a0)) (Nat.le_of_ble_eq_true rfl) qi6 (mM_fresh_ok qv7) rfl rfl ?_
    refine gv_ist (pc' := 81) rfl rfl (gv_Cn rfl) rfl ?_
    refine gv_rldn (pc' := 82) rfl rfl rfl ?_
    refine gv_ild (pc' := 84) rfl rfl rfl ?_
    refine gv_ildn (pc' := 85) rfl rfl rfl ?_
    refine gv_ildn (pc' := 86) rfl rfl rfl ?_
    refine gv_ildn (pc' := 87) rfl rfl rfl ?_
    refine gv_ild (pc' := 89) rfl rfl rfl ?_
    obtain ⟨i10, qi10, e⟩ := gv_bind e
    obtain ⟨h12, qv11, e⟩ := gv_bind e
    refine gv_vS (jc := 130) (n := 5) (rest := []) (stk := []) (pc' := 92) rfl rfl rfl rfl rfl rfl rfl rfl rfl (gv_zR (gv_zI (gv_zI (gv_zI (gv_zI (gv_zI gv_z0)))))) rfl (gv_aR (gv_aI (gv_aI (gv_aI (gv_aI (gv_aI gv_a0)))))) (Nat.le_of_ble_eq_true rfl) qi10 (mM_setView_ok qv11) rfl rfl ?_
    refine gv_ild (pc' := 94) rfl rfl rfl ?_
    cases e
    exact gv_retI rfl rfl
  rw [if_neg c5] at e
  refine gv_ifF (pc' := 72) rfl (gv_eqF c5) rfl rfl ?_
  refine gv_ic (pc' := 73) (x := 0) rfl rfl rfl ?_
  cases e
  exact gv_retI rfl rfl
def mM_view_52 (l0 : Option Nat) (l1 : Int32) (l2 : Int32) (l3 : Int32) (l4 : Int32) (s0 : Option Nat) (s1 : Int32) (h : gx_H) : Option (Int32 × gx_H) :=
  (gv_gI h l0 7 1).bind fun v1 =>
  if v1 = (32 : Int32) then (
    mM_view_66 l0 l1 l2 l3 l4 s0 s1 (1 : Int32) h) else
  mM_view_66 l0 l1 l2 l3 l4 s0 s1 (0 : Int32) h
theorem mM_view_52_ok {xs : Option (List Int32)} {l0 : Option Nat} {l1 : Int32} {l2 : Int32} {l3 : Int32} {l4 : Int32} {s0 : Option Nat} {s1 : Int32} {h : gx_H} {r : (Int32 × gx_H)} (e : mM_view_52 l0 l1 l2 l3 l4 s0 s1 h = some r) : gv_V xs 2 125 52 [(0, gv_u l0), (1, .int l1), (2, .int l2), (3, .int l3), (4, .int l4)] [.int s1, gv_u s0] h (.returned (some (.int r.1))) r.2 := by
  unfold mM_view_52 at e
  refine gv_rldn (pc' := 53) rfl rfl rfl ?_
  obtain ⟨v1, qv1, e⟩ := gv_bind e
  refine gv_fI (pc' := 56) rfl rfl qv1 rfl ?_
  refine gv_bp (pc' := 58) (x := 32) rfl rfl rfl ?_
  by_cases c2 : v1 = (32 : Int32)
  · rw [if_pos c2] at e
    refine gv_cmF (pc' := 61) rfl (gv_neF2 c2) rfl rfl ?_
    refine gv_ic (pc' := 62) (x := 1) rfl rfl rfl ?_
    refine gv_goto (pc' := 66) rfl rfl ?_
    exact gv_weak (mM_view_66_ok e) (gv_S1 rfl (gv_S1 rfl (gv_S1 rfl (gv_S1 rfl (gv_S1 rfl gv_S0)))))
  rw [if_neg c2] at e
  refine gv_cmT (pc' := 65) rfl (gv_neT2 c2) rfl ?_
  refine gv_ic (pc' := 66) (x := 0) rfl rfl rfl ?_
  exact gv_weak (mM_view_66_ok e) (gv_S1 rfl (gv_S1 rfl (gv_S1 rfl (gv_S1 rfl (gv_S1 rfl gv_S0)))))
def mM_view_39 (l0 : Option Nat) (l1 : Int32) (l2 : Int32) (l3 : Int32) (l4 : Int32) (s0 : Int32) (h : gx_H) : Option (Int32 × gx_H) :=
  if s0 = 0 then (
    mM_view_52 l0 l1 l2 l3 l4 l0 (1 : Int32) h) else
  mM_view_52 l0 l1 l2 l3 l4 l0 (0 : Int32) h
theorem mM_view_39_ok {xs : Option (List Int32)} {l0 : Option Nat} {l1 : Int32} {l2 : Int32} {l3 : Int32} {l4 : Int32} {s0 : Int32} {h : gx_H} {r : (Int32 × gx_H)} (e : mM_view_39 l0 l1 l2 l3 l4 s0 h = some r) : gv_V xs 2 125 39 [(0, gv_u l0), (1, .int l1), (2, .int l2), (3, .int l3), (4, .int l4)] [.int s0] h (.returned (some (.int r.1))) r.2 := by
  unfold mM_view_39 at e
  refine gv_ist (pc' := 41) rfl rfl (gv_Ci rfl) rfl ?_
  refine gv_rldn (pc' := 42) rfl rfl rfl ?_
  refine gv_ild (pc' := 44) rfl rfl rfl ?_
  by_cases c1 : s0 = 0
  · rw [if_pos c1] at e
    refine gv_ifF (pc' := 47) rfl (gv_neF c1) rfl rfl ?_
    refine gv_ic (pc' := 48) (x := 1) rfl rfl rfl ?_
    refine gv_goto (pc' := 52) rfl rfl ?_
    exact gv_weak (mM_view_52_ok e) (gv_S1 rfl (gv_S1 rfl (gv_S1 rfl (gv_S1 rfl (gv_S1 rfl gv_S0)))))
  rw [if_neg c1] at e
  refine gv_ifT (pc' := 51) rfl (gv_neT c1) rfl ?_
  refine gv_ic (pc' := 52) (x := 0) rfl rfl rfl ?_
  exact gv_weak (mM_view_52_ok e) (gv_S1 rfl (gv_S1 rfl (gv_S1 rfl (gv_S1 rfl (gv_S1 rfl gv_S0)))))
def mM_view_38 (l0 : Option Nat) (l1 : Int32) (l2 : Int32) (l3 : Int32) (l4 : Int32) (h : gx_H) : Option (Int32 × gx_H) :=
  mM_view_39 l0 l1 l2 l3 l4 (0 : Int32) h
theorem mM_view_38_ok {xs : Option (List Int32)} {l0 : Option Nat} {l1 : Int32} {l2 : Int32} {l3 : Int32} {l4 : Int32} {h : gx_H} {r : (Int32 × gx_H)} (e : mM_view_38 l0 l1 l2 l3 l4 h = some r) : gv_V xs 2 125 38 [(0, gv_u l0), (1, .int l1), (2, .int l2), (3, .int l3), (4, .int l4)] [] h (.returned (some (.int r.1))) r.2 := by
  unfold mM_view_38 at e
  refine gv_ic (pc' := 39) (x := 0) rfl rfl rfl ?_
  exact gv_weak (mM_view_39_ok e) (gv_S1 rfl (gv_S1 rfl (gv_S1 rfl (gv_S1 rfl (gv_S1 rfl gv_S0)))))
def mM_view (l0 : Option Nat) (l1 : Int32) (l2 : Int32) (l3 : Int32) (l4 : Int32) (h : gx_H) : Option (Int32 × gx_H) :=
  (gv_is h l0 7).bind fun i1 =>
  (mM_is l0 l1 (4 : Int32) h).bind fun v2 =>
  if v2 = 0 then (
    mM_view_38 l0 l1 l2 l3 l4 h) else
  (gv_gR h l0 7 4).bind fun v4 =>
  (gv_lZ h v4 l1).bind fun v5 =>
  if v5 = 0 then (
    (gv_gR h l0 7 3).bind fun v7 =>
    (gv_lI h v7 l1).bind fun v8 =>
    (mM_lies l2 l3 l4 v8).bind fun v9 =>
    if v9 = 0 then (
      mM_view_38 l0 l1 l2 l3 l4 h) else
    mM_view_39 l0 l1 l2 l3 l4 (1 : Int32) h) else
  mM_view_38 l0 l1 l2 l3 l4 h
theorem mM_view_ok {xs : Option (List Int32)} {l0 : Option Nat} {l1 : Int32} {l2 : Int32} {l3 : Int32} {l4 : Int32} {h : gx_H} {r : (Int32 × gx_H)} (e : mM_view l0 l1 l2 l3 l4 h = some r) : gv_V xs 2 125 0 [(0, gv_u l0), (1, .int l1), (2, .int l2), (3, .int l3), (4, .int l4)] [] h (.returned (some (.int r.1))) r.2 := by
  unfold mM_view at e
  refine gv_rldn (pc' := 1) rfl rfl rfl ?_
  refine gv_ildn (pc' := 2) rfl rfl rfl ?_
  refine gv_ic (pc' := 3) (x := 4) rfl rfl rfl ?_
  obtain ⟨i1, qi1, e⟩ := gv_bind e
  obtain ⟨v2, qv2, e⟩ := gv_bind e
  refine gv_vS (jc := 126) (n := 2) (rest := []) (stk := [.int v2]) (pc' := 6) rfl rfl rfl rfl rfl rfl rfl rfl rfl (gv_zR (gv_zI (gv_zI gv_z0))) rfl (gv_aR (gv_aI (gv_aI gv_a0))) (Nat.le_of_ble_eq_true rfl) qi1 (mM_is_ok qv2) rfl rfl ?_
  by_cases c3 : v2 = 0
  · rw [if_pos c3] at e
    refine gv_ifT (pc' := 38) rfl (gv_eqT c3) rfl ?_
    exact gv_weak (mM_view_38_ok e) (gv_S1 rfl (gv_S1 rfl (gv_S1 rfl (gv_S1 rfl (gv_S1 rfl gv_S0)))))
  rw [if_neg c3] at e
  refine gv_ifF (pc' := 9) rfl (gv_eqF c3) rfl rfl ?_
  refine gv_rldn (pc' := 10) rfl rfl rfl ?_
  obtain ⟨v4, qv4, e⟩ := gv_bind e
  refine gv_fR (pc' := 13) rfl rfl qv4 rfl ?_
  refine gv_ildn (pc' := 14) rfl rfl rfl ?_
  obtain ⟨v5, qv5, e⟩ := gv_bind e
  refine gv_bald (pc' := 15) rfl qv5 rfl ?_
  by_cases c6 : v5 = 0
  · rw [if_pos c6] at e
    refine gv_ifF (pc' := 18) rfl (gv_neF c6) rfl rfl ?_
    refine gv_ildn (pc' := 19) rfl rfl rfl ?_
    refine gv_ildn (pc' := 20) rfl rfl rfl ?_
    refine gv_ild (pc' := 22) rfl rfl rfl ?_
    refine gv_rldn (pc' := 23) rfl rfl rfl ?_
    obtain ⟨v7, qv7, e⟩ := gv_bind e
    refine gv_fR (pc' := 26) rfl rfl qv7 rfl ?_
    refine gv_ildn (pc' := 27) rfl rfl rfl ?_
    obtain ⟨v8, qv8, e⟩ := gv_bind e
    refine gv_iald (pc' := 28) rfl qv8 rfl ?_
    obtain ⟨v9, qv9, e⟩ := gv_bind e
    refine gv_sS (jc := 128) (n := 4) (rest := []) (stk := [.int v9]) (pc' := 31) rfl rfl rfl rfl rfl rfl rfl rfl rfl (gv_zI (gv_zI (gv_zI (gv_zI gv_z0)))) rfl (gv_aI (gv_aI (gv_aI (gv_aI gv_a0)))) (Nat.le_of_ble_eq_true rfl) (mM_lies_ok qv9) rfl rfl ?_
    by_cases c10 : v9 = 0
    · rw [if_pos c10] at e
      refine gv_ifT (pc' := 38) rfl (gv_eqT c10) rfl ?_
      exact gv_weak (mM_view_38_ok e) (gv_S1 rfl (gv_S1 rfl (gv_S1 rfl (gv_S1 rfl (gv_S1 rfl gv_S0)))))
    rw [if_neg c10] at e
    refine gv_ifF (pc' := 34) rfl (gv_eqF c10) rfl rfl ?_
    refine gv_ic (pc' := 35) (x := 1) rfl rfl rfl ?_
    refine gv_goto (pc' := 39) rfl rfl ?_
    exact gv_weak (mM_view_39_ok e) (gv_S1 rfl (gv_S1 rfl (gv_S1 rfl (gv_S1 rfl (gv_S1 rfl gv_S0)))))
  rw [if_neg c6] at e
  refine gv_ifT (pc' := 38) rfl (gv_neT c6) rfl ?_
  exact gv_weak (mM_view_38_ok e) (gv_S1 rfl (gv_S1 rfl (gv_S1 rfl (gv_S1 rfl (gv_S1 rfl gv_S0)))))
def mM_stamp_15 (l0 : Option Nat) (l1 : Int64) (s0 : Option Nat) (s1 : Int32) (h : gx_H) : Option (Int32 × gx_H) :=
  (gv_is h s0 7).bind fun i1 =>
  (mM_refused s0 s1 (0 : Int32) h).bind fun r4 =>
  if r4.1 = 0 then (
    (gv_is r4.2 l0 7).bind fun i6 =>
    (mM_fresh l0 (6 : Int32) r4.2).bind fun r9 =>
    (gv_gR r9.2 l0 7 5).bind fun v10 =>
    (gv_wJ r9.2 v10 r9.1 l1).bind fun h11 =>
    some (r9.1, h11)) else
  some ((0 : Int32), r4.2)
theorem mM_stamp_15_ok {xs : Option (List Int32)} {l0 : Option Nat} {l1 : Int64} {s0 : Option Nat} {s1 : Int32} {h : gx_H} {r : (Int32 × gx_H)} (e : mM_stamp_15 l0 l1 s0 s1 h = some r) : gv_V xs 2 131 15 [(0, gv_u l0), (1, .long l1)] [.int s1, gv_u s0] h (.returned (some (.int r.1))) r.2 := by
  unfold mM_stamp_15 at e
  refine gv_ic (pc' := 16) (x := 0) rfl rfl rfl ?_
  obtain ⟨i1, qi1, e⟩ := gv_bind e
  obtain ⟨⟨v2, h3⟩, qv2, e⟩ := gv_bind e
  refine gv_vS (jc := 121) (n := 2) (rest := []) (stk := [.int v2]) (pc' := 19) rfl rfl rfl rfl rfl rfl rfl rfl rfl (gv_zR (gv_zI (gv_zI gv_z0))) rfl (gv_aR (gv_aI (gv_aI gv_a0))) (Nat.le_of_ble_eq_true rfl) qi1 (mM_refused_ok qv2) rfl rfl ?_
  by_cases c5 : v2 = 0
  · rw [if_pos c5] at e
    refine gv_ifT (pc' := 24) rfl (gv_eqT c5) rfl ?_
    refine gv_rldn (pc' := 25) rfl rfl rfl ?_
    refine gv_bp (pc' := 27) (x := 6) rfl rfl rfl ?_
    obtain ⟨i6, qi6, e⟩ := gv_bind e
    obtain ⟨⟨v7, h8⟩, qv7, e⟩ := gv_bind e
    refine gv_vS (jc := 122) (n := 1) (rest := []) (stk := [.int v7]) (pc' := 30) rfl rfl rfl rfl rfl rfl rfl rfl rfl (gv_zR (gv_zI gv_z0)) rfl (gv_aR (gv_aI gv_a0)) (Nat.le_of_ble_eq_true rfl) qi6 (mM_fresh_ok qv7) rfl rfl ?_
    refine gv_istn (pc' := 31) rfl rfl (gv_Cn rfl) rfl ?_
    refine gv_rldn (pc' := 32) rfl rfl rfl ?_
    obtain ⟨v10, qv10, e⟩ := gv_bind e
    refine gv_fR (pc' := 35) rfl rfl qv10 rfl ?_
    refine gv_ildn (pc' := 36) rfl rfl rfl ?_
    refine gv_jldn (pc' := 37) rfl rfl rfl ?_
    obtain ⟨h11, qh11, e⟩ := gv_bind e
    refine gv_last (pc' := 38) rfl qh11 rfl ?_
    refine gv_ildn (pc' := 39) rfl rfl rfl ?_
    cases e
    exact gv_retI rfl rfl
  rw [if_neg c5] at e
  refine gv_ifF (pc' := 22) rfl (gv_eqF c5) rfl rfl ?_
  refine gv_ic (pc' := 23) (x := 0) rfl rfl rfl ?_
  cases e
  exact gv_retI rfl rfl
def mM_stamp (l0 : Option Nat) (l1 : Int64) (h : gx_H) : Option (Int32 × gx_H) :=
  (gv_gI h l0 7 1).bind fun v1 =>
  if v1 = (32 : Int32) then (
    mM_stamp_15 l0 l1 l0 (1 : Int32) h) else
  mM_stamp_15 l0 l1 l0 (0 : Int32) h
theorem mM_stamp_ok {xs : Option (List Int32)} {l0 : Option Nat} {l1 : Int64} {h : gx_H} {r : (Int32 × gx_H)} (e : mM_stamp l0 l1 h = some r) : gv_V xs 2 131 0 [(0, gv_u l0), (1, .long l1)] [] h (.returned (some (.int r.1))) r.2 := by
  unfold mM_stamp at e
  refine gv_rldn (pc' := 1) rfl rfl rfl ?_
  refine gv_rldn (pc' := 2) rfl rfl rfl ?_
  obtain ⟨v1, qv1, e⟩ := gv_bind e
  refine gv_fI (pc' := 5) rfl rfl qv1 rfl ?_
  refine gv_bp (pc' := 7) (x := 32) rfl rfl rfl ?_
  by_cases c2 : v1 = (32 : Int32)
  · rw [if_pos c2] at e
    refine gv_cmF (pc' := 10) rfl (gv_neF2 c2) rfl rfl ?_
    refine gv_ic (pc' := 11) (x := 1) rfl rfl rfl ?_
    refine gv_goto (pc' := 15) rfl rfl ?_
    exact gv_weak (mM_stamp_15_ok e) (gv_S1 rfl (gv_S1 rfl gv_S0))
  rw [if_neg c2] at e
  refine gv_cmT (pc' := 14) rfl (gv_neT2 c2) rfl ?_
  refine gv_ic (pc' := 15) (x := 0) rfl rfl rfl ?_
  exact gv_weak (mM_stamp_15_ok e) (gv_S1 rfl (gv_S1 rfl gv_S0))
def mM_isText_56 (rec6 : Int32 → Int32 → Int32 → Int32 → Option Int32) (l0 : Int32) (l2 : Int32) (l3 : Int32) (s0 : Int32) : Option Int32 :=
  rec6 l0 s0 l2 (l3 + 1)
theorem mM_isText_56_ok {xs : Option (List Int32)} {rec6 : Int32 → Int32 → Int32 → Int32 → Option Int32} (hrec6 : ∀ (l0 : Int32) (l1 : Int32) (l2 : Int32) (l3 : Int32) (h : gx_H) (r : Int32), rec6 l0 l1 l2 l3 = some r → gv_V xs 0 134 6 [(0, .int l0), (1, .int l1), (2, .int l2), (3, .int l3)] [] h (.returned (some (.int r))) h) {l0 : Int32} {l2 : Int32} {l3 : Int32} {s0 : Int32} {h : gx_H} {r : Int32} (e : mM_isText_56 rec6 l0 l2 l3 s0 = some r) : gv_V xs 0 134 56 [(0, .int l0), (2, .int l2), (3, .int l3)] [.int s0] h (.returned (some (.int r))) h := by
  unfold mM_isText_56 at e
  refine gv_istn (pc' := 57) rfl rfl (gv_Ci rfl) rfl ?_
  refine gv_inc (pc' := 60) (y := 1) rfl rfl rfl rfl (gv_Ci rfl) rfl ?_
  refine gv_goto (pc' := 6) rfl rfl ?_
  exact gv_weak (hrec6 _ _ _ _ _ _ e) (gv_S1 rfl (gv_S1 rfl (gv_S1 rfl (gv_S1 rfl gv_S0))))
def mM_isText_55 (rec6 : Int32 → Int32 → Int32 → Int32 → Option Int32) (l0 : Int32) (l2 : Int32) (l3 : Int32) : Option Int32 :=
  mM_isText_56 rec6 l0 l2 l3 (0 : Int32)
theorem mM_isText_55_ok {xs : Option (List Int32)} {rec6 : Int32 → Int32 → Int32 → Int32 → Option Int32} (hrec6 : ∀ (l0 : Int32) (l1 : Int32) (l2 : Int32) (l3 : Int32) (h : gx_H) (r : Int32), rec6 l0 l1 l2 l3 = some r → gv_V xs 0 134 6 [(0, .int l0), (1, .int l1), (2, .int l2), (3, .int l3)] [] h (.returned (some (.int r))) h) {l0 : Int32} {l2 : Int32} {l3 : Int32} {h : gx_H} {r : Int32} (e : mM_isText_55 rec6 l0 l2 l3 = some r) : gv_V xs 0 134 55 [(0, .int l0), (2, .int l2), (3, .int l3)] [] h (.returned (some (.int r))) h := by
  unfold mM_isText_55 at e
  refine gv_ic (pc' := 56) (x := 0) rfl rfl rfl ?_
  exact gv_weak (mM_isText_56_ok hrec6 e) (gv_S1 rfl (gv_S1 rfl (gv_S1 rfl gv_S0)))
def mM_isText_41 (rec6 : Int32 → Int32 → Int32 → Int32 → Option Int32) (l0 : Int32) (l1 : Int32) (l3 : Int32) (l4 : Int32) (s0 : Int32) : Option Int32 :=
  if l1 = 0 then (
    mM_isText_55 rec6 l0 s0 l3) else
  if l4 = 0 then (
    mM_isText_55 rec6 l0 s0 l3) else
  mM_isText_56 rec6 l0 s0 l3 (1 : Int32)
theorem mM_isText_41_ok {xs : Option (List Int32)} {rec6 : Int32 → Int32 → Int32 → Int32 → Option Int32} (hrec6 : ∀ (l0 : Int32) (l1 : Int32) (l2 : Int32) (l3 : Int32) (h : gx_H) (r : Int32), rec6 l0 l1 l2 l3 = some r → gv_V xs 0 134 6 [(0, .int l0), (1, .int l1), (2, .int l2), (3, .int l3)] [] h (.returned (some (.int r))) h) {l0 : Int32} {l1 : Int32} {l3 : Int32} {l4 : Int32} {s0 : Int32} {h : gx_H} {r : Int32} (e : mM_isText_41 rec6 l0 l1 l3 l4 s0 = some r) : gv_V xs 0 134 41 [(0, .int l0), (1, .int l1), (3, .int l3), (4, .int l4)] [.int s0] h (.returned (some (.int r))) h := by
  unfold mM_isText_41 at e
  refine gv_istn (pc' := 42) rfl rfl (gv_Ci rfl) rfl ?_
  refine gv_ildn (pc' := 43) rfl rfl rfl ?_
  by_cases c1 : l1 = 0
  · rw [if_pos c1] at e
    refine gv_ifT (pc' := 55) rfl (gv_eqT c1) rfl ?_
    exact gv_weak (mM_isText_55_ok hrec6 e) (gv_S1 rfl (gv_S1 rfl (gv_S1 rfl gv_S0)))
  rw [if_neg c1] at e
  refine gv_ifF (pc' := 46) rfl (gv_eqF c1) rfl rfl ?_
  refine gv_ild (pc' := 48) rfl rfl rfl ?_
  by_cases c2 : l4 = 0
  · rw [if_pos c2] at e
    refine gv_ifT (pc' := 55) rfl (gv_eqT c2) rfl ?_
    exact gv_weak (mM_isText_55_ok hrec6 e) (gv_S1 rfl (gv_S1 rfl (gv_S1 rfl gv_S0)))
  rw [if_neg c2] at e
  refine gv_ifF (pc' := 51) rfl (gv_eqF c2) rfl rfl ?_
  refine gv_ic (pc' := 52) (x := 1) rfl rfl rfl ?_
  refine gv_goto (pc' := 56) rfl rfl ?_
  exact gv_weak (mM_isText_56_ok hrec6 e) (gv_S1 rfl (gv_S1 rfl (gv_S1 rfl gv_S0)))
def mM_isText_36 (rec6 : Int32 → Int32 → Int32 → Int32 → Option Int32) (l0 : Int32) (l1 : Int32) (l3 : Int32) (l4 : Int32) : Option Int32 :=
  mM_isText_41 rec6 l0 l1 l3 l4 (1 : Int32)
theorem mM_isText_36_ok {xs : Option (List Int32)} {rec6 : Int32 → Int32 → Int32 → Int32 → Option Int32} (hrec6 : ∀ (l0 : Int32) (l1 : Int32) (l2 : Int32) (l3 : Int32) (h : gx_H) (r : Int32), rec6 l0 l1 l2 l3 = some r → gv_V xs 0 134 6 [(0, .int l0), (1, .int l1), (2, .int l2), (3, .int l3)] [] h (.returned (some (.int r))) h) {l0 : Int32} {l1 : Int32} {l3 : Int32} {l4 : Int32} {h : gx_H} {r : Int32} (e : mM_isText_36 rec6 l0 l1 l3 l4 = some r) : gv_V xs 0 134 36 [(0, .int l0), (1, .int l1), (3, .int l3), (4, .int l4)] [] h (.returned (some (.int r))) h := by
  unfold mM_isText_36 at e
  refine gv_ic (pc' := 37) (x := 1) rfl rfl rfl ?_
  refine gv_goto (pc' := 41) rfl rfl ?_
  exact gv_weak (mM_isText_41_ok hrec6 e) (gv_S1 rfl (gv_S1 rfl (gv_S1 rfl (gv_S1 rfl gv_S0))))
def mM_isText_40 (rec6 : Int32 → Int32 → Int32 → Int32 → Option Int32) (l0 : Int32) (l1 : Int32) (l3 : Int32) (l4 : Int32) : Option Int32 :=
  mM_isText_41 rec6 l0 l1 l3 l4 (0 : Int32)
theorem mM_isText_40_ok {xs : Option (List Int32)} {rec6 : Int32 → Int32 → Int32 → Int32 → Option Int32} (hrec6 : ∀ (l0 : Int32) (l1 : Int32) (l2 : Int32) (l3 : Int32) (h : gx_H) (r : Int32), rec6 l0 l1 l2 l3 = some r → gv_V xs 0 134 6 [(0, .int l0), (1, .int l1), (2, .int l2), (3, .int l3)] [] h (.returned (some (.int r))) h) {l0 : Int32} {l1 : Int32} {l3 : Int32} {l4 : Int32} {h : gx_H} {r : Int32} (e : mM_isText_40 rec6 l0 l1 l3 l4 = some r) : gv_V xs 0 134 40 [(0, .int l0), (1, .int l1), (3, .int l3), (4, .int l4)] [] h (.returned (some (.int r))) h := by
  unfold mM_isText_40 at e
  refine gv_ic (pc' := 41) (x := 0) rfl rfl rfl ?_
  exact gv_weak (mM_isText_41_ok hrec6 e) (gv_S1 rfl (gv_S1 rfl (gv_S1 rfl (gv_S1 rfl gv_S0))))
def mM_isText_6 : Nat → Int32 → Int32 → Int32 → Int32 → Option Int32
  | 0, _, _, _, _ => none
  | n + 1, l0, l1, l2, l3 =>
    if l3 < (4 : Int32) then (
      if l2 = 0 then (
        mM_isText_40 (mM_isText_6 n) l0 l1 l3 ((l0 >>> (((8 : Int32) * l3) &&& 31)) &&& (255 : Int32))) else
      if l1 = 0 then (
        if ((l0 >>> (((8 : Int32) * l3) &&& 31)) &&& (255 : Int32)) = 0 then (
          mM_isText_36 (mM_isText_6 n) l0 l1 l3 ((l0 >>> (((8 : Int32) * l3) &&& 31)) &&& (255 : Int32))) else
        mM_isText_40 (mM_isText_6 n) l0 l1 l3 ((l0 >>> (((8 : Int32) * l3) &&& 31)) &&& (255 : Int32))) else
      mM_isText_36 (mM_isText_6 n) l0 l1 l3 ((l0 >>> (((8 : Int32) * l3) &&& 31)) &&& (255 : Int32))) else
    if ¬ (l2 = 0 ∨ l2 = 1) then none else
    some l2
theorem mM_isText_6_ok {xs : Option (List Int32)} : ∀ (n : Nat) (l0 : Int32) (l1 : Int32) (l2 : Int32) (l3 : Int32) (h : gx_H) (r : Int32), mM_isText_6 n l0 l1 l2 l3 = some r → gv_V xs 0 134 6 [(0, .int l0), (1, .int l1), (2, .int l2), (3, .int l3)] [] h (.returned (some (.int r))) h := by
  intro n
  induction n with
  | zero => intro l0 l1 l2 l3 h r e; cases e
  | succ n ih =>
    intro l0 l1 l2 l3 h r e
    rw [mM_isText_6] at e
    refine gv_ildn (pc' := 7) rfl rfl rfl ?_
    refine gv_ic (pc' := 8) (x := 4) rfl rfl rfl ?_
    by_cases c1 : l3 < (4 : Int32)
    · rw [if_pos c1] at e
      refine gv_cmF (pc' := 11) rfl (gv_geF2 c1) rfl rfl ?_
      refine gv_ildn (pc' := 12) rfl rfl rfl ?_
      refine gv_bp (pc' := 14) (x := 8) rfl rfl rfl ?_
      refine gv_ildn (pc' := 15) rfl rfl rfl ?_
      refine gv_imul (pc' := 16) rfl rfl ?_
      refine gv_ishr (pc' := 17) rfl rfl ?_
      refine gv_sp (pc' := 20) (x := 255) rfl rfl rfl ?_
      refine gv_iand (pc' := 21) rfl rfl ?_
      refine gv_ist (pc' := 23) rfl rfl (gv_Ci rfl) rfl ?_
      refine gv_ildn (pc' := 24) rfl rfl rfl ?_
      by_cases c2 : l2 = 0
      · rw [if_pos c2] at e
        refine gv_ifT (pc' := 40) rfl (gv_eqT c2) rfl ?_
        exact gv_weak (mM_isText_40_ok ih e) (gv_S1 rfl (gv_S1 rfl (gv_S1 rfl (gv_S1 rfl gv_S0))))
      rw [if_neg c2] at e
      refine gv_ifF (pc' := 27) rfl (gv_eqF c2) rfl rfl ?_
      refine gv_ildn (pc' := 28) rfl rfl rfl ?_
      by_cases c3 : l1 = 0
      · rw [if_pos c3] at e
        refine gv_ifF (pc' := 31) rfl (gv_neF c3) rfl rfl ?_
        refine gv_ild (pc' := 33) rfl rfl rfl ?_
        by_cases c4 : ((l0 >>> (((8 : Int32) * l3) &&& 31)) &&& (255 : Int32)) = 0
        · rw [if_pos c4] at e
          refine gv_ifF (pc' := 36) rfl (gv_neF c4) rfl rfl ?_
          exact gv_weak (mM_isText_36_ok ih e) (gv_S1 rfl (gv_S1 rfl (gv_S1 rfl (gv_S1 rfl gv_S0))))
        rw [if_neg c4] at e
        refine gv_ifT (pc' := 40) rfl (gv_neT c4) rfl ?_
        exact gv_weak (mM_isText_40_ok ih e) (gv_S1 rfl (gv_S1 rfl (gv_S1 rfl (gv_S1 rfl gv_S0))))
      rw [if_neg c3] at e
      refine gv_ifT (pc' := 36) rfl (gv_neT c3) rfl ?_
      exact gv_weak (mM_isText_36_ok ih e) (gv_S1 rfl (gv_S1 rfl (gv_S1 rfl (gv_S1 rfl gv_S0))))
    rw [if_neg c1] at e
    refine gv_cmT (pc' := 63) rfl (gv_geT2 c1) rfl ?_
    refine gv_ildn (pc' := 64) rfl rfl rfl ?_
    by_cases c5 : ¬ (l2 = 0 ∨ l2 = 1)
    · rw [if_pos c5] at e; cases e
    rw [if_neg c5] at e
    cases e
    exact gv_retZ rfl rfl (Decidable.of_not_not c5)
def mM_isText (l0 : Int32) : Option Int32 :=
  mM_isText_6 1000000000000000 l0 (1 : Int32) (1 : Int32) (0 : Int32)
theorem mM_isText_ok {xs : Option (List Int32)} {l0 : Int32} {h : gx_H} {r : Int32} (e : mM_isText l0 = some r) : gv_V xs 0 134 0 [(0, .int l0)] [] h (.returned (some (.int r))) h := by
  unfold mM_isText at e
  refine gv_ic (pc' := 1) (x := 1) rfl rfl rfl ?_
  refine gv_istn (pc' := 2) rfl rfl (gv_Ci rfl) rfl ?_
  refine gv_ic (pc' := 3) (x := 1) rfl rfl rfl ?_
  refine gv_istn (pc' := 4) rfl rfl (gv_Ci rfl) rfl ?_
  refine gv_ic (pc' := 5) (x := 0) rfl rfl rfl ?_
  refine gv_istn (pc' := 6) rfl rfl (gv_Ci rfl) rfl ?_
  exact gv_weak (mM_isText_6_ok 1000000000000000 _ _ _ _ _ _ e) (gv_S1 rfl (gv_S1 rfl (gv_S1 rfl (gv_S1 rfl gv_S0))))
def mM_isValue_22 (l0 : Option Nat) (l1 : Int32) (l2 : Int32) (h : gx_H) : Option Int32 :=
  if l1 = (6 : Int32) then (
    (gv_is h l0 7).bind fun i2 =>
    (mM_isObject l0 l2 h).bind fun v3 =>
    if v3 = 0 then (
      some (0 : Int32)) else
    some (1 : Int32)) else
  some (1 : Int32)
theorem mM_isValue_22_ok {xs : Option (List Int32)} {l0 : Option Nat} {l1 : Int32} {l2 : Int32} {h : gx_H} {r : Int32} (e : mM_isValue_22 l0 l1 l2 h = some r) : gv_V xs 1 133 22 [(0, gv_u l0), (1, .int l1), (2, .int l2)] [] h (.returned (some (.int r))) h := by
  unfold mM_isValue_22 at e
  refine gv_ildn (pc' := 23) rfl rfl rfl ?_
  refine gv_bp (pc' := 25) (x := 6) rfl rfl rfl ?_
  by_cases c1 : l1 = (6 : Int32)
  · rw [if_pos c1] at e
    refine gv_cmF (pc' := 28) rfl (gv_neF2 c1) rfl rfl ?_
    refine gv_rldn (pc' := 29) rfl rfl rfl ?_
    refine gv_ildn (pc' := 30) rfl rfl rfl ?_
    obtain ⟨i2, qi2, e⟩ := gv_bind e
    obtain ⟨v3, qv3, e⟩ := gv_bind e
    refine gv_vS (jc := 127) (n := 1) (rest := []) (stk := [.int v3]) (pc' := 33) rfl rfl rfl rfl rfl rfl rfl rfl rfl (gv_zR (gv_zI gv_z0)) rfl (gv_aR (gv_aI gv_a0)) (Nat.le_of_ble_eq_true rfl) qi2 (mM_isObject_ok qv3) rfl rfl ?_
    by_cases c4 : v3 = 0
    · rw [if_pos c4] at e
      refine gv_ifT (pc' := 40) rfl (gv_eqT c4) rfl ?_
      refine gv_ic (pc' := 41) (x := 0) rfl rfl rfl ?_
      cases e
      exact gv_retZ rfl rfl (by decide)
    rw [if_neg c4] at e
    refine gv_ifF (pc' := 36) rfl (gv_eqF c4) rfl rfl ?_
    refine gv_ic (pc' := 37) (x := 1) rfl rfl rfl ?_
    refine gv_goto (pc' := 41) rfl rfl ?_
    cases e
    exact gv_retZ rfl rfl (by decide)
  rw [if_neg c1] at e
  refine gv_cmT (pc' := 36) rfl (gv_neT2 c1) rfl ?_
  refine gv_ic (pc' := 37) (x := 1) rfl rfl rfl ?_
  refine gv_goto (pc' := 41) rfl rfl ?_
  cases e
  exact gv_retZ rfl rfl (by decide)
def mM_isValue (l0 : Option Nat) (l1 : Int32) (l2 : Int32) (h : gx_H) : Option Int32 :=
  if l1 < 0 then (
    some (0 : Int32)) else
  if l1 < (8 : Int32) then (
    if l1 = (5 : Int32) then (
      (mM_isText l2).bind fun v4 =>
      if v4 = 0 then (
        some (0 : Int32)) else
      mM_isValue_22 l0 l1 l2 h) else
    mM_isValue_22 l0 l1 l2 h) else
  some (0 : Int32)
theorem mM_isValue_ok {xs : Option (List Int32)} {l0 : Option Nat} {l1 : Int32} {l2 : Int32} {h : gx_H} {r : Int32} (e : mM_isValue l0 l1 l2 h = some r) : gv_V xs 1 133 0 [(0, gv_u l0), (1, .int l1), (2, .int l2)] [] h (.returned (some (.int r))) h := by
  unfold mM_isValue at e
  refine gv_ildn (pc' := 1) rfl rfl rfl ?_
  by_cases c1 : l1 < 0
  · rw [if_pos c1] at e
    refine gv_ifT (pc' := 40) rfl (gv_ltT c1) rfl ?_
    refine gv_ic (pc' := 41) (x := 0) rfl rfl rfl ?_
    cases e
    exact gv_retZ rfl rfl (by decide)
  rw [if_neg c1] at e
  refine gv_ifF (pc' := 4) rfl (gv_ltF c1) rfl rfl ?_
  refine gv_ildn (pc' := 5) rfl rfl rfl ?_
  refine gv_bp (pc' := 7) (x := 8) rfl rfl rfl ?_
  by_cases c2 : l1 < (8 : Int32)
  · rw [if_pos c2] at e
    refine gv_cmF (pc' := 10) rfl (gv_geF2 c2) rfl rfl ?_
    refine gv_ildn (pc' := 11) rfl rfl rfl ?_
    refine gv_ic (pc' := 12) (x := 5) rfl rfl rfl ?_
    by_cases c3 : l1 = (5 : Int32)
    · rw [if_pos c3] at e
      refine gv_cmF (pc' := 15) rfl (gv_neF2 c3) rfl rfl ?_
      refine gv_ildn (pc' := 16) rfl rfl rfl ?_
      obtain ⟨v4, qv4, e⟩ := gv_bind e
      refine gv_sS (jc := 134) (n := 1) (rest := []) (stk := [.int v4]) (pc' := 19) rfl rfl rfl rfl rfl rfl rfl rfl rfl (gv_zI gv_z0) rfl (gv_aI gv_a0) (Nat.le_of_ble_eq_true rfl) (mM_isText_ok qv4) rfl rfl ?_
      by_cases c5 : v4 = 0
      · rw [if_pos c5] at e
        refine gv_ifT (pc' := 40) rfl (gv_eqT c5) rfl ?_
        refine gv_ic (pc' := 41) (x := 0) rfl rfl rfl ?_
        cases e
        exact gv_retZ rfl rfl (by decide)
      rw [if_neg c5] at e
      refine gv_ifF (pc' := 22) rfl (gv_eqF c5) rfl rfl ?_
      exact gv_weak (mM_isValue_22_ok e) (gv_S1 rfl (gv_S1 rfl (gv_S1 rfl gv_S0)))
    rw [if_neg c3] at e
    refine gv_cmT (pc' := 22) rfl (gv_neT2 c3) rfl ?_
    exact gv_weak (mM_isValue_22_ok e) (gv_S1 rfl (gv_S1 rfl (gv_S1 rfl gv_S0)))
  rw [if_neg c2] at e
  refine gv_cmT (pc' := 40) rfl (gv_geT2 c2) rfl ?_
  refine gv_ic (pc' := 41) (x := 0) rfl rfl rfl ?_
  cases e
  exact gv_retZ rfl rfl (by decide)
def mM_slotOf_2 : Nat → Option Nat → Int32 → Int32 → Int32 → gx_H → Option Int32
  | 0, _, _, _, _, _ => none
  | n + 1, l0, l1, l2, l3, h =>
    (gv_gR h l0 7 3).bind fun v1 =>
    (gv_lI h v1 l1).bind fun v2 =>
    if l3 < v2 then (
      (gv_gR h l0 7 6).bind fun v4 =>
      (gv_lI h v4 (((8 : Int32) * l1) + l3)).bind fun v5 =>
      if v5 = l2 then (
        some (((8 : Int32) * l1) + l3)) else
      mM_slotOf_2 n l0 l1 l2 (l3 + 1) h) else
    some (-1 : Int32)
theorem mM_slotOf_2_ok {xs : Option (List Int32)} : ∀ (n : Nat) (l0 : Option Nat) (l1 : Int32) (l2 : Int32) (l3 : Int32) (h : gx_H) (r : Int32), mM_slotOf_2 n l0 l1 l2 l3 h = some r → gv_V xs 0 135 2 [(0, gv_u l0), (1, .int l1), (2, .int l2), (3, .int l3)] [] h (.returned (some (.int r))) h := by
  intro n
  induction n with
  | zero => intro l0 l1 l2 l3 h r e; cases e
  | succ n ih =>
    intro l0 l1 l2 l3 h r e
    rw [mM_slotOf_2] at e
    refine gv_ildn (pc' := 3) rfl rfl rfl ?_
    refine gv_rldn (pc' := 4) rfl rfl rfl ?_
    obtain ⟨v1, qv1, e⟩ := gv_bind e
    refine gv_fR (pc' := 7) rfl rfl qv1 rfl ?_
    refine gv_ildn (pc' := 8) rfl rfl rfl ?_
    obtain ⟨v2, qv2, e⟩ := gv_bind e
    refine gv_iald (pc' := 9) rfl qv2 rfl ?_
    by_cases c3 : l3 < v2
    · rw [if_pos c3] at e
      refine gv_cmF (pc' := 12) rfl (gv_geF2 c3) rfl rfl ?_
      refine gv_rldn (pc' := 13) rfl rfl rfl ?_
      obtain ⟨v4, qv4, e⟩ := gv_bind e
      refine gv_fR (pc' := 16) rfl rfl qv4 rfl ?_
      refine gv_bp (pc' := 18) (x := 8) rfl rfl rfl ?_
      refine gv_ildn (pc' := 19) rfl rfl rfl ?_
      refine gv_imul (pc' := 20) rfl rfl ?_
      refine gv_ildn (pc' := 21) rfl rfl rfl ?_
      refine gv_iadd (pc' := 22) rfl rfl ?_
      obtain ⟨v5, qv5, e⟩ := gv_bind e
      refine gv_iald (pc' := 23) rfl qv5 rfl ?_
      refine gv_ildn (pc' := 24) rfl rfl rfl ?_
      by_cases c6 : v5 = l2
      · rw [if_pos c6] at e
        refine gv_cmF (pc' := 27) rfl (gv_neF2 c6) rfl rfl ?_
        refine gv_bp (pc' := 29) (x := 8) rfl rfl rfl ?_
        refine gv_ildn (pc' := 30) rfl rfl rfl ?_
        refine gv_imul (pc' := 31) rfl rfl ?_
        refine gv_ildn (pc' := 32) rfl rfl rfl ?_
        refine gv_iadd (pc' := 33) rfl rfl ?_
        cases e
        exact gv_retI rfl rfl
      rw [if_neg c6] at e
      refine gv_cmT (pc' := 34) rfl (gv_neT2 c6) rfl ?_
      refine gv_inc (pc' := 37) (y := 1) rfl rfl rfl rfl (gv_Ci rfl) rfl ?_
      refine gv_goto (pc' := 2) rfl rfl ?_
      exact gv_weak (ih _ _ _ _ _ _ e) (gv_S1 rfl (gv_S1 rfl (gv_S1 rfl (gv_S1 rfl gv_S0))))
    rw [if_neg c3] at e
    refine gv_cmT (pc' := 40) rfl (gv_geT2 c3) rfl ?_
    refine gv_ic (pc' := 41) (x := -1) rfl rfl rfl ?_
    cases e
    exact gv_retI rfl rfl
def mM_slotOf (l0 : Option Nat) (l1 : Int32) (l2 : Int32) (h : gx_H) : Option Int32 :=
  mM_slotOf_2 1000000000000000 l0 l1 l2 (0 : Int32) h
theorem mM_slotOf_ok {xs : Option (List Int32)} {l0 : Option Nat} {l1 : Int32} {l2 : Int32} {h : gx_H} {r : Int32} (e : mM_slotOf l0 l1 l2 h = some r) : gv_V xs 0 135 0 [(0, gv_u l0), (1, .int l1), (2, .int l2)] [] h (.returned (some (.int r))) h := by
  unfold mM_slotOf at e
  refine gv_ic (pc' := 1) (x := 0) rfl rfl rfl ?_
  refine gv_istn (pc' := 2) rfl rfl (gv_Ci rfl) rfl ?_
  exact gv_weak (mM_slotOf_2_ok 1000000000000000 _ _ _ _ _ _ e) (gv_S1 rfl (gv_S1 rfl (gv_S1 rfl (gv_S1 rfl gv_S0))))
def mM_copySlot (l0 : Option Nat) (l1 : Int32) (l2 : Int32) (h : gx_H) : Option gx_H :=
  (gv_gR h l0 7 6).bind fun v1 =>
  (gv_gR h l0 7 6).bind fun v2 =>
  (gv_lI h v2 l1).bind fun v3 =>
  (gv_wI h v1 l2 v3).bind fun h4 =>
  (gv_gR h4 l0 7 8).bind fun v5 =>
  (gv_gR h4 l0 7 8).bind fun v6 =>
  (gv_lI h4 v6 l1).bind fun v7 =>
  (gv_wI h4 v5 l2 v7).bind fun h8 =>
  (gv_gR h8 l0 7 9).bind fun v9 =>
  (gv_gR h8 l0 7 9).bind fun v10 =>
  (gv_lI h8 v10 l1).bind fun v11 =>
  (gv_wI h8 v9 l2 v11).bind fun h12 =>
  some h12
theorem mM_copySlot_ok {xs : Option (List Int32)} {l0 : Option Nat} {l1 : Int32} {l2 : Int32} {h : gx_H} {r : gx_H} (e : mM_copySlot l0 l1 l2 h = some r) : gv_V xs 0 137 0 [(0, gv_u l0), (1, .int l1), (2, .int l2)] [] h (.returned none) r := by
  unfold mM_copySlot at e
  refine gv_rldn (pc' := 1) rfl rfl rfl ?_
  obtain ⟨v1, qv1, e⟩ := gv_bind e
  refine gv_fR (pc' := 4) rfl rfl qv1 rfl ?_
  refine gv_ildn (pc' := 5) rfl rfl rfl ?_
  refine gv_rldn (pc' := 6) rfl rfl rfl ?_
  obtain ⟨v2, qv2, e⟩ := gv_bind e
  refine gv_fR (pc' := 9) rfl rfl qv2 rfl ?_
  refine gv_ildn (pc' := 10) rfl rfl rfl ?_
  obtain ⟨v3, qv3, e⟩ := gv_bind e
  refine gv_iald (pc' := 11) rfl qv3 rfl ?_
  obtain ⟨h4, qh4, e⟩ := gv_bind e
  refine gv_iast (pc' := 12) rfl qh4 rfl ?_
  refine gv_rldn (pc' := 13) rfl rfl rfl ?_
  obtain ⟨v5, qv5, e⟩ := gv_bind e
  refine gv_fR (pc' := 16) rfl rfl qv5 rfl ?_
  refine gv_ildn (pc' := 17) rfl rfl rfl ?_
  refine gv_rldn (pc' := 18) rfl rfl rfl ?_
  obtain ⟨v6, qv6, e⟩ := gv_bind e
  refine gv_fR (pc' := 21) rfl rfl qv6 rfl ?_
  refine gv_ildn (pc' := 22) rfl rfl rfl ?_
  obtain ⟨v7, qv7, e⟩ := gv_bind e
  refine gv_iald (pc' := 23) rfl qv7 rfl ?_
  obtain ⟨h8, qh8, e⟩ := gv_bind e
  refine gv_iast (pc' := 24) rfl qh8 rfl ?_
  refine gv_rldn (pc' := 25) rfl rfl rfl ?_
  obtain ⟨v9, qv9, e⟩ := gv_bind e
  refine gv_fR (pc' := 28) rfl rfl qv9 rfl ?_
  refine gv_ildn (pc' := 29) rfl rfl rfl ?_
  refine gv_rldn (pc' := 30) rfl rfl rfl ?_
  obtain ⟨v10, qv10, e⟩ := gv_bind e
  refine gv_fR (pc' := 33) rfl rfl qv10 rfl ?_
  refine gv_ildn (pc' := 34) rfl rfl rfl ?_
  obtain ⟨v11, qv11, e⟩ := gv_bind e
  refine gv_iald (pc' := 35) rfl qv11 rfl ?_
  obtain ⟨h12, qh12, e⟩ := gv_bind e
  refine gv_iast (pc' := 36) rfl qh12 rfl ?_
  cases e
  exact gv_retV rfl rfl
def mM_numberOf (l0 : Int32) (l1 : Int32) : Option Int32 :=
  if l0 < (4 : Int32) then (
    some (0 : Int32)) else
  some l1
theorem mM_numberOf_ok {xs : Option (List Int32)} {l0 : Int32} {l1 : Int32} {h : gx_H} {r : Int32} (e : mM_numberOf l0 l1 = some r) : gv_V xs 0 139 0 [(0, .int l0), (1, .int l1)] [] h (.returned (some (.int r))) h := by
  unfold mM_numberOf at e
  refine gv_ildn (pc' := 1) rfl rfl rfl ?_
  refine gv_ic (pc' := 2) (x := 4) rfl rfl rfl ?_
  by_cases c1 : l0 < (4 : Int32)
  · rw [if_pos c1] at e
    refine gv_cmF (pc' := 5) rfl (gv_geF2 c1) rfl rfl ?_
    refine gv_ic (pc' := 6) (x := 0) rfl rfl rfl ?_
    refine gv_goto (pc' := 10) rfl rfl ?_
    cases e
    exact gv_retI rfl rfl
  rw [if_neg c1] at e
  refine gv_cmT (pc' := 9) rfl (gv_geT2 c1) rfl ?_
  refine gv_ildn (pc' := 10) rfl rfl rfl ?_
  cases e
  exact gv_retI rfl rfl
def mM_setSlot (l0 : Option Nat) (l1 : Int32) (l2 : Int32) (l3 : Int32) (h : gx_H) : Option gx_H :=
  (gv_gR h l0 7 8).bind fun v1 =>
  (gv_wI h v1 l1 l2).bind fun h2 =>
  (gv_gR h2 l0 7 9).bind fun v3 =>
  (mM_numberOf l2 l3).bind fun v4 =>
  (gv_wI h2 v3 l1 v4).bind fun h5 =>
  some h5
theorem mM_setSlot_ok {xs : Option (List Int32)} {l0 : Option Nat} {l1 : Int32} {l2 : Int32} {l3 : Int32} {h : gx_H} {r : gx_H} (e : mM_setSlot l0 l1 l2 l3 h = some r) : gv_V xs 1 138 0 [(0, gv_u l0), (1, .int l1), (2, .int l2), (3, .int l3)] [] h (.returned none) r := by
  unfold mM_setSlot at e
  refine gv_rldn (pc' := 1) rfl rfl rfl ?_
  obtain ⟨v1, qv1, e⟩ := gv_bind e
  refine gv_fR (pc' := 4) rfl rfl qv1 rfl ?_
  refine gv_ildn (pc' := 5) rfl rfl rfl ?_
  refine gv_ildn (pc' := 6) rfl rfl rfl ?_
  obtain ⟨h2, qh2, e⟩ := gv_bind e
  refine gv_iast (pc' := 7) rfl qh2 rfl ?_
  refine gv_rldn (pc' := 8) rfl rfl rfl ?_
  obtain ⟨v3, qv3, e⟩ := gv_bind e
  refine gv_fR (pc' := 11) rfl rfl qv3 rfl ?_
  refine gv_ildn (pc' := 12) rfl rfl rfl ?_
  refine gv_ildn (pc' := 13) rfl rfl rfl ?_
  refine gv_ildn (pc' := 14) rfl rfl rfl ?_
  obtain ⟨v4, qv4, e⟩ := gv_bind e
  refine gv_sS (jc := 139) (n := 2) (rest := [.int l1, gv_u v3]) (stk := [.int v4, .int l1, gv_u v3]) (pc' := 17) rfl rfl rfl rfl rfl rfl rfl rfl rfl (gv_zI (gv_zI gv_z0)) rfl (gv_aI (gv_aI gv_a0)) (Nat.le_of_ble_eq_true rfl) (mM_numberOf_ok qv4) rfl rfl ?_
  obtain ⟨h5, qh5, e⟩ := gv_bind e
  refine gv_iast (pc' := 18) rfl qh5 rfl ?_
  cases e
  exact gv_retV rfl rfl
def mM_setProperty_118 (l0 : Option Nat) (l3 : Int32) (l4 : Int32) (l5 : Int32) (h : gx_H) : Option gx_H :=
  (gv_is h l0 7).bind fun i1 =>
  (mM_setSlot l0 l5 l3 l4 h).bind fun h3 =>
  some h3
theorem mM_setProperty_118_ok {xs : Option (List Int32)} {l0 : Option Nat} {l3 : Int32} {l4 : Int32} {l5 : Int32} {h : gx_H} {r : gx_H} (e : mM_setProperty_118 l0 l3 l4 l5 h = some r) : gv_V xs 2 136 118 [(0, gv_u l0), (3, .int l3), (4, .int l4), (5, .int l5)] [] h (.returned none) r := by
  unfold mM_setProperty_118 at e
  refine gv_rldn (pc' := 119) rfl rfl rfl ?_
  refine gv_ild (pc' := 121) rfl rfl rfl ?_
  refine gv_ildn (pc' := 122) rfl rfl rfl ?_
  refine gv_ild (pc' := 124) rfl rfl rfl ?_
  obtain ⟨i1, qi1, e⟩ := gv_bind e
  obtain ⟨h3, qv2, e⟩ := gv_bind e
  refine gv_vS (jc := 138) (n := 3) (rest := []) (stk := []) (pc' := 127) rfl rfl rfl rfl rfl rfl rfl rfl rfl (gv_zR (gv_zI (gv_zI (gv_zI gv_z0)))) rfl (gv_aR (gv_aI (gv_aI (gv_aI gv_a0)))) (Nat.le_of_ble_eq_true rfl) qi1 (mM_setSlot_ok qv2) rfl rfl ?_
  cases e
  exact gv_retV rfl rfl
def mM_setProperty_91 (l0 : Option Nat) (l1 : Int32) (l2 : Int32) (l3 : Int32) (l4 : Int32) (l6 : Int32) (h : gx_H) : Option gx_H :=
  (gv_gR h l0 7 6).bind fun v1 =>
  (gv_wI h v1 (((8 : Int32) * l1) + l6) l2).bind fun h2 =>
  (gv_gR h2 l0 7 3).bind fun v3 =>
  (gv_lI h2 v3 l1).bind fun v4 =>
  (gv_wI h2 v3 l1 (v4 + (1 : Int32))).bind fun h5 =>
  mM_setProperty_118 l0 l3 l4 (((8 : Int32) * l1) + l6) h5
theorem mM_setProperty_91_ok {xs : Option (List Int32)} {l0 : Option Nat} {l1 : Int32} {l2 : Int32} {l3 : Int32} {l4 : Int32} {l6 : Int32} {h : gx_H} {r : gx_H} (e : mM_setProperty_91 l0 l1 l2 l3 l4 l6 h = some r) : gv_V xs 2 136 91 [(0, gv_u l0), (1, .int l1), (2, .int l2), (3, .int l3), (4, .int l4), (6, .int l6)] [] h (.returned none) r := by
  unfold mM_setProperty_91 at e
  refine gv_bp (pc' := 93) (x := 8) rfl rfl rfl ?_
  refine gv_ildn (pc' := 94) rfl rfl rfl ?_
  refine gv_imul (pc' := 95) rfl rfl ?_
  refine gv_ild (pc' := 97) rfl rfl rfl ?_
  refine gv_iadd (pc' := 98) rfl rfl ?_
  refine gv_ist (pc' := 100) rfl rfl (gv_Ci rfl) rfl ?_
  refine gv_rldn (pc' := 101) rfl rfl rfl ?_
  obtain ⟨v1, qv1, e⟩ := gv_bind e
  refine gv_fR (pc' := 104) rfl rfl qv1 rfl ?_
  refine gv_ild (pc' := 106) rfl rfl rfl ?_
  refine gv_ildn (pc' := 107) rfl rfl rfl ?_
  obtain ⟨h2, qh2, e⟩ := gv_bind e
  refine gv_iast (pc' := 108) rfl qh2 rfl ?_
  refine gv_rldn (pc' := 109) rfl rfl rfl ?_
  obtain ⟨v3, qv3, e⟩ := gv_bind e
  refine gv_fR (pc' := 112) rfl rfl qv3 rfl ?_
  refine gv_ildn (pc' := 113) rfl rfl rfl ?_
  refine gv_dup2 (pc' := 114) rfl rfl (gv_u_cat _) rfl ?_
  obtain ⟨v4, qv4, e⟩ := gv_bind e
  refine gv_iald (pc' := 115) rfl qv4 rfl ?_
  refine gv_ic (pc' := 116) (x := 1) rfl rfl rfl ?_
  refine gv_iadd (pc' := 117) rfl rfl ?_
  obtain ⟨h5, qh5, e⟩ := gv_bind e
  refine gv_iast (pc' := 118) rfl qh5 rfl ?_
  exact gv_weak (mM_setProperty_118_ok e) (gv_S1 rfl (gv_S1 rfl (gv_S1 rfl (gv_S1 rfl gv_S0))))
def mM_setProperty_65 (rec21 : Option Nat → Int32 → Int32 → Int32 → Int32 → Int32 → gx_H → Option gx_H) (l0 : Option Nat) (l1 : Int32) (l2 : Int32) (l3 : Int32) (l4 : Int32) (l6 : Int32) (h : gx_H) : Option gx_H :=
  (gv_is h l0 7).bind fun i1 =>
  (mM_copySlot l0 (((8 : Int32) * l1) + (l6 + -1)) ((((8 : Int32) * l1) + (l6 + -1)) + (1 : Int32)) h).bind fun h3 =>
  rec21 l0 l1 l2 l3 l4 (l6 + -1) h3
theorem mM_setProperty_65_ok {xs : Option (List Int32)} {rec21 : Option Nat → Int32 → Int32 → Int32 → Int32 → Int32 → gx_H → Option gx_H} (hrec21 : ∀ (l0 : Option Nat) (l1 : Int32) (l2 : Int32) (l3 : Int32) (l4 : Int32) (l6 : Int32) (h : gx_H) (r : gx_H), rec21 l0 l1 l2 l3 l4 l6 h = some r → gv_V xs 2 136 21 [(0, gv_u l0), (1, .int l1), (2, .int l2), (3, .int l3), (4, .int l4), (6, .int l6)] [] h (.returned none) r) {l0 : Option Nat} {l1 : Int32} {l2 : Int32} {l3 : Int32} {l4 : Int32} {l6 : Int32} {h : gx_H} {r : gx_H} (e : mM_setProperty_65 rec21 l0 l1 l2 l3 l4 l6 h = some r) : gv_V xs 2 136 65 [(0, gv_u l0), (1, .int l1), (2, .int l2), (3, .int l3), (4, .int l4), (6, .int l6)] [] h (.returned none) r := by
  unfold mM_setProperty_65 at e
  refine gv_inc (pc' := 68) (y := -1) rfl rfl rfl rfl (gv_Cn rfl) rfl ?_
  refine gv_rldn (pc' := 69) rfl rfl rfl ?_
  refine gv_bp (pc' := 71) (x := 8) rfl rfl rfl ?_
  refine gv_ildn (pc' := 72) rfl rfl rfl ?_
  refine gv_imul (pc' := 73) rfl rfl ?_
  refine gv_ild (pc' := 75) rfl rfl rfl ?_
  refine gv_iadd (pc' := 76) rfl rfl ?_
  refine gv_bp (pc' := 78) (x := 8) rfl rfl rfl ?_
  refine gv_ildn (pc' := 79) rfl rfl rfl ?_
  refine gv_imul (pc' := 80) rfl rfl ?_
  refine gv_ild (pc' := 82) rfl rfl rfl ?_
  refine gv_iadd (pc' := 83) rfl rfl ?_
  refine gv_ic (pc' := 84) (x := 1) rfl rfl rfl ?_
  refine gv_iadd (pc' := 85) rfl rfl ?_
  obtain ⟨i1, qi1, e⟩ := gv_bind e
  obtain ⟨h3, qv2, e⟩ := gv_bind e
  refine gv_vS (jc := 137) (n := 2) (rest := []) (stk := []) (pc' := 88) rfl rfl rfl rfl rfl rfl rfl rfl rfl (gv_zR (gv_zI (gv_zI gv_z0))) rfl (gv_aR (gv_aI (gv_aI gv_a0))) (Nat.le_of_ble_eq_true rfl) qi1 (mM_copySlot_ok qv2) rfl rfl ?_
  refine gv_goto (pc' := 21) rfl rfl ?_
  exact gv_weak (hrec21 _ _ _ _ _ _ _ _ e) (gv_S1 rfl (gv_S1 rfl (gv_S1 rfl (gv_S1 rfl (gv_S1 rfl (gv_S1 rfl gv_S0))))))
def mM_setProperty_21 : Nat → Option Nat → Int32 → Int32 → Int32 → Int32 → Int32 → gx_H → Option gx_H
  | 0, _, _, _, _, _, _, _ => none
  | n + 1, l0, l1, l2, l3, l4, l6, h =>
    if l2 < 0 then (
      mM_setProperty_91 l0 l1 l2 l3 l4 l6 h) else
    if 0 < l6 then (
      (gv_gR h l0 7 6).bind fun v3 =>
      (gv_lI h v3 ((((8 : Int32) * l1) + l6) - (1 : Int32))).bind fun v4 =>
      if v4 < 0 then (
        mM_setProperty_65 (mM_setProperty_21 n) l0 l1 l2 l3 l4 l6 h) else
      (gv_gR h l0 7 6).bind fun v6 =>
      (gv_lI h v6 ((((8 : Int32) * l1) + l6) - (1 : Int32))).bind fun v7 =>
      if l2 < v7 then (
        mM_setProperty_65 (mM_setProperty_21 n) l0 l1 l2 l3 l4 l6 h) else
      mM_setProperty_91 l0 l1 l2 l3 l4 l6 h) else
    mM_setProperty_91 l0 l1 l2 l3 l4 l6 h
theorem mM_setProperty_21_ok {xs : Option (List Int32)} : ∀ (n : Nat) (l0 : Option Nat) (l1 : Int32) (l2 : Int32) (l3 : Int32) (l4 : Int32) (l6 : Int32) (h : gx_H) (r : gx_H), mM_setProperty_21 n l0 l1 l2 l3 l4 l6 h = some r → gv_V xs 2 136 21 [(0, gv_u l0), (1, .int l1), (2, .int l2), (3, .int l3), (4, .int l4), (6, .int l6)] [] h (.returned none) r := by
  intro n
  induction n with
  | zero => intro l0 l1 l2 l3 l4 l6 h r e; cases e
  | succ n ih =>
    intro l0 l1 l2 l3 l4 l6 h r e
    rw [mM_setProperty_21] at e
    refine gv_ildn (pc' := 22) rfl rfl rfl ?_
    by_cases c1 : l2 < 0
    · rw [if_pos c1] at e
      refine gv_ifT (pc' := 91) rfl (gv_ltT c1) rfl ?_
      exact gv_weak (mM_setProperty_91_ok e) (gv_S1 rfl (gv_S1 rfl (gv_S1 rfl (gv_S1 rfl (gv_S1 rfl (gv_S1 rfl gv_S0))))))
    rw [if_neg c1] at e
    refine gv_ifF (pc' := 25) rfl (gv_ltF c1) rfl rfl ?_
    refine gv_ild (pc' := 27) rfl rfl rfl ?_
    by_cases c2 : 0 < l6
    · rw [if_pos c2] at e
      refine gv_ifF (pc' := 30) rfl (gv_leF c2) rfl rfl ?_
      refine gv_rldn (pc' := 31) rfl rfl rfl ?_
      obtain ⟨v3, qv3, e⟩ := gv_bind e
      refine gv_fR (pc' := 34) rfl rfl qv3 rfl ?_
      refine gv_bp (pc' := 36) (x := 8) rfl rfl rfl ?_
      refine gv_ildn (pc' := 37) rfl rfl rfl ?_
      refine gv_imul (pc' := 38) rfl rfl ?_
      refine gv_ild (pc' := 40) rfl rfl rfl ?_
      refine gv_iadd (pc' := 41) rfl rfl ?_
      refine gv_ic (pc' := 42) (x := 1) rfl rfl rfl ?_
      refine gv_isub (pc' := 43) rfl rfl ?_
      obtain ⟨v4, qv4, e⟩ := gv_bind e
      refine gv_iald (pc' := 44) rfl qv4 rfl ?_
      by_cases c5 : v4 < 0
      · rw [if_pos c5] at e
        refine gv_ifT (pc' := 65) rfl (gv_ltT c5) rfl ?_
        exact gv_weak (mM_setProperty_65_ok ih e) (gv_S1 rfl (gv_S1 rfl (gv_S1 rfl (gv_S1 rfl (gv_S1 rfl (gv_S1 rfl gv_S0))))))
      rw [if_neg c5] at e
      refine gv_ifF (pc' := 47) rfl (gv_ltF c5) rfl rfl ?_
      refine gv_rldn (pc' := 48) rfl rfl rfl ?_
      obtain ⟨v6, qv6, e⟩ := gv_bind e
      refine gv_fR (pc' := 51) rfl rfl qv6 rfl ?_
      refine gv_bp (pc' := 53) (x := 8) rfl rfl rfl ?_
      refine gv_ildn (pc' := 54) rfl rfl rfl ?_
      refine gv_imul (pc' := 55) rfl rfl ?_
      refine gv_ild (pc' := 57) rfl rfl rfl ?_
      refine gv_iadd (pc' := 58) rfl rfl ?_
      refine gv_ic (pc' := 59) (x := 1) rfl rfl rfl ?_
      refine gv_isub (pc' := 60) rfl rfl ?_
      obtain ⟨v7, qv7, e⟩ := gv_bind e
      refine gv_iald (pc' := 61) rfl qv7 rfl ?_
      refine gv_ildn (pc' := 62) rfl rfl rfl ?_
      by_cases c8 : l2 < v7
      · rw [if_pos c8] at e
        refine gv_cmF (pc' := 65) rfl (gv_leF2 c8) rfl rfl ?_
        exact gv_weak (mM_setProperty_65_ok ih e) (gv_S1 rfl (gv_S1 rfl (gv_S1 rfl (gv_S1 rfl (gv_S1 rfl (gv_S1 rfl gv_S0))))))
      rw [if_neg c8] at e
      refine gv_cmT (pc' := 91) rfl (gv_leT2 c8) rfl ?_
      exact gv_weak (mM_setProperty_91_ok e) (gv_S1 rfl (gv_S1 rfl (gv_S1 rfl (gv_S1 rfl (gv_S1 rfl (gv_S1 rfl gv_S0))))))
    rw [if_neg c2] at e
    refine gv_ifT (pc' := 91) rfl (gv_leT c2) rfl ?_
    exact gv_weak (mM_setProperty_91_ok e) (gv_S1 rfl (gv_S1 rfl (gv_S1 rfl (gv_S1 rfl (gv_S1 rfl (gv_S1 rfl gv_S0))))))
def mM_setProperty (l0 : Option Nat) (l1 : Int32) (l2 : Int32) (l3 : Int32) (l4 : Int32) (h : gx_H) : Option gx_H :=
  (gv_is h l0 7).bind fun i1 =>
  (mM_slotOf l0 l1 l2 h).bind fun v2 =>
  if v2 < 0 then (
    (gv_gR h l0 7 3).bind fun v4 =>
    (gv_lI h v4 l1).bind fun v5 =>
    mM_setProperty_21 1000000000000000 l0 l1 l2 l3 l4 v5 h) else
  mM_setProperty_118 l0 l3 l4 v2 h
theorem mM_setProperty_ok {xs : Option (List Int32)} {l0 : Option Nat} {l1 : Int32} {l2 : Int32} {l3 : Int32} {l4 : Int32} {h : gx_H} {r : gx_H} (e : mM_setProperty l0 l1 l2 l3 l4 h = some r) : gv_V xs 2 136 0 [(0, gv_u l0), (1, .int l1), (2, .int l2), (3, .int l3), (4, .int l4)] [] h (.returned none) r := by
  unfold mM_setProperty at e
  refine gv_rldn (pc' := 1) rfl rfl rfl ?_
  refine gv_ildn (pc' := 2) rfl rfl rfl ?_
  refine gv_ildn (pc' := 3) rfl rfl rfl ?_
  obtain ⟨i1, qi1, e⟩ := gv_bind e
  obtain ⟨v2, qv2, e⟩ := gv_bind e
  refine gv_vS (jc := 135) (n := 2) (rest := []) (stk := [.int v2]) (pc' := 6) rfl rfl rfl rfl rfl rfl rfl rfl rfl (gv_zR (gv_zI (gv_zI gv_z0))) rfl (gv_aR (gv_aI (gv_aI gv_a0))) (Nat.le_of_ble_eq_true rfl) qi1 (mM_slotOf_ok qv2) rfl rfl ?_
  refine gv_ist (pc' := 8) rfl rfl (gv_Ci rfl) rfl ?_
  refine gv_ild (pc' := 10) rfl rfl rfl ?_
  by_cases c3 : v2 < 0
  · rw [if_pos c3] at e
    refine gv_ifF (pc' := 13) rfl (gv_geF c3) rfl rfl ?_
    refine gv_rldn (pc' := 14) rfl rfl rfl ?_
    obtain ⟨v4, qv4, e⟩ := gv_bind e
    refine gv_fR (pc' := 17) rfl rfl qv4 rfl ?_
    refine gv_ildn (pc' := 18) rfl rfl rfl ?_
    obtain ⟨v5, qv5, e⟩ := gv_bind e
    refine gv_iald (pc' := 19) rfl qv5 rfl ?_
    refine gv_ist (pc' := 21) rfl rfl (gv_Ci rfl) rfl ?_
    exact gv_weak (mM_setProperty_21_ok 1000000000000000 _ _ _ _ _ _ _ _ e) (gv_S1 rfl (gv_S1 rfl (gv_S1 rfl (gv_S1 rfl (gv_S1 rfl (gv_S1 rfl gv_S0))))))
  rw [if_neg c3] at e
  refine gv_ifT (pc' := 118) rfl (gv_geT c3) rfl ?_
  exact gv_weak (mM_setProperty_118_ok e) (gv_S1 rfl (gv_S1 rfl (gv_S1 rfl (gv_S1 rfl gv_S0))))
def mM_put_136 : Nat → Option Nat → Int32 → Int32 → Int32 → Int32 → gx_H → Option gx_H
  | 0, _, _, _, _, _, _ => none
  | n + 1, l0, l1, l2, l3, l4, h =>
    (gv_gR h l0 7 3).bind fun v1 =>
    (gv_lI h v1 l1).bind fun v2 =>
    if l2 < v2 then (
      (gv_is h l0 7).bind fun i4 =>
      (mM_setSlot l0 (((8 : Int32) * l1) + l2) l3 l4 h).bind fun h6 =>
      some h6) else
    (gv_gR h l0 7 3).bind fun v7 =>
    (gv_lI h v7 l1).bind fun v8 =>
    (gv_is h l0 7).bind fun i9 =>
    (mM_setSlot l0 (((8 : Int32) * l1) + v8) (-1 : Int32) (0 : Int32) h).bind fun h11 =>
    (gv_gR h11 l0 7 3).bind fun v12 =>
    (gv_lI h11 v12 l1).bind fun v13 =>
    (gv_wI h11 v12 l1 (v13 + (1 : Int32))).bind fun h14 =>
    mM_put_136 n l0 l1 l2 l3 l4 h14
theorem mM_put_136_ok {xs : Option (List Int32)} : ∀ (n : Nat) (l0 : Option Nat) (l1 : Int32) (l2 : Int32) (l3 : Int32) (l4 : Int32) (h : gx_H) (r : gx_H), mM_put_136 n l0 l1 l2 l3 l4 h = some r → gv_V xs 3 132 136 [(0, gv_u l0), (1, .int l1), (2, .int l2), (3, .int l3), (4, .int l4)] [] h (.returned none) r := by
  intro n
  induction n with
  | zero => intro l0 l1 l2 l3 l4 h r e; cases e
  | succ n ih =>
    intro l0 l1 l2 l3 l4 h r e
    rw [mM_put_136] at e
    refine gv_rldn (pc' := 137) rfl rfl rfl ?_
    obtain ⟨v1, qv1, e⟩ := gv_bind e
    refine gv_fR (pc' := 140) rfl rfl qv1 rfl ?_
    refine gv_ildn (pc' := 141) rfl rfl rfl ?_
    obtain ⟨v2, qv2, e⟩ := gv_bind e
    refine gv_iald (pc' := 142) rfl qv2 rfl ?_
    refine gv_ildn (pc' := 143) rfl rfl rfl ?_
    by_cases c3 : l2 < v2
    · rw [if_pos c3] at e
      refine gv_cmT (pc' := 176) rfl (gv_gtT2 c3) rfl ?_
      refine gv_rldn (pc' := 177) rfl rfl rfl ?_
      refine gv_bp (pc' := 179) (x := 8) rfl rfl rfl ?_
      refine gv_ildn (pc' := 180) rfl rfl rfl ?_
      refine gv_imul (pc' := 181) rfl rfl ?_
      refine gv_ildn (pc' := 182) rfl rfl rfl ?_
      refine gv_iadd (pc' := 183) rfl rfl ?_
      refine gv_ildn (pc' := 184) rfl rfl rfl ?_
      refine gv_ild (pc' := 186) rfl rfl rfl ?_
      obtain ⟨i4, qi4, e⟩ := gv_bind e
      obtain ⟨h6, qv5, e⟩ := gv_bind e
      refine gv_vS (jc := 138) (n := 3) (rest := []) (stk := []) (pc' := 189) rfl rfl rfl rfl rfl rfl rfl rfl rfl (gv_zR (gv_zI (gv_zI (gv_zI gv_z0)))) rfl (gv_aR (gv_aI (gv_aI (gv_aI gv_a0)))) (Nat.le_of_ble_eq_true rfl) qi4 (mM_setSlot_ok qv5) rfl rfl ?_
      cases e
      exact gv_retV rfl rfl
    rw [if_neg c3] at e
    refine gv_cmF (pc' := 146) rfl (gv_gtF2 c3) rfl rfl ?_
    refine gv_rldn (pc' := 147) rfl rfl rfl ?_
    refine gv_bp (pc' := 149) (x := 8) rfl rfl rfl ?_
    refine gv_ildn (pc' := 150) rfl rfl rfl ?_
    refine gv_imul (pc' := 151) rfl rfl ?_
    refine gv_rldn (pc' := 152) rfl rfl rfl ?_
    obtain ⟨v7, qv7, e⟩ := gv_bind e
    refine gv_fR (pc' := 155) rfl rfl qv7 rfl ?_
    refine gv_ildn (pc' := 156) rfl rfl rfl ?_
    obtain ⟨v8, qv8, e⟩ := gv_bind e
    refine gv_iald (pc' := 157) rfl qv8 rfl ?_
    refine gv_iadd (pc' := 158) rfl rfl ?_
    refine gv_ic (pc' := 159) (x := -1) rfl rfl rfl ?_
    refine gv_ic (pc' := 160) (x := 0) rfl rfl rfl ?_
    obtain ⟨i9, qi9, e⟩ := gv_bind e
    obtain ⟨h11, qv10, e⟩ := gv_bind e
    refine gv_vS (jc := 138) (n := 3) (rest := []) (stk := []) (pc' := 163) rfl rfl rfl rfl rfl rfl rfl rfl rfl (gv_zR (gv_zI (gv_zI (gv_zI gv_z0)))) rfl (gv_aR (gv_aI (gv_aI (gv_aI gv_a0)))) (Nat.le_of_ble_eq_true rfl) qi9 (mM_setSlot_ok qv10) rfl rfl ?_
    refine gv_rldn (pc' := 164) rfl rfl rfl ?_
    obtain ⟨v12, qv12, e⟩ := gv_bind e
    refine gv_fR (pc' := 167) rfl rfl qv12 rfl ?_
    refine gv_ildn (pc' := 168) rfl rfl rfl ?_
    refine gv_dup2 (pc' := 169) rfl rfl (gv_u_cat _) rfl ?_
    obtain ⟨v13, qv13, e⟩ := gv_bind e
    refine gv_iald (pc' := 170) rfl qv13 rfl ?_
    refine gv_ic (pc' := 171) (x := 1) rfl rfl rfl ?_
    refine gv_iadd (pc' := 172) rfl rfl ?_
    obtain ⟨h14, qh14, e⟩ := gv_bind e
    refine gv_iast (pc' := 173) rfl qh14 rfl ?_
    refine gv_goto (pc' := 136) rfl rfl ?_
    exact gv_weak (ih _ _ _ _ _ _ _ e) (gv_S1 rfl (gv_S1 rfl (gv_S1 rfl (gv_S1 rfl (gv_S1 rfl gv_S0)))))
def mM_put_114 (l0 : Option Nat) (l1 : Int32) (l2 : Int32) (l3 : Int32) (l4 : Int32) (l5 : Int32) (s0 : Option Nat) (s1 : Int32) (s2 : Int32) (h : gx_H) : Option gx_H :=
  (gv_is h s0 7).bind fun i1 =>
  (mM_refused s0 s1 s2 h).bind fun r4 =>
  if r4.1 = 0 then (
    if l5 = 0 then (
      mM_put_136 1000000000000000 l0 l1 l2 l3 l4 r4.2) else
    (gv_is r4.2 l0 7).bind fun i7 =>
    (mM_setProperty l0 l1 l2 l3 l4 r4.2).bind fun h9 =>
    some h9) else
  some r4.2
theorem mM_put_114_ok {xs : Option (List Int32)} {l0 : Option Nat} {l1 : Int32} {l2 : Int32} {l3 : Int32} {l4 : Int32} {l5 : Int32} {s0 : Option Nat} {s1 : Int32} {s2 : Int32} {h : gx_H} {r : gx_H} (e : mM_put_114 l0 l1 l2 l3 l4 l5 s0 s1 s2 h = some r) : gv_V xs 3 132 114 [(0, gv_u l0), (1, .int l1), (2, .int l2), (3, .int l3), (4, .int l4), (5, .int l5)] [.int s2, .int s1, gv_u s0] h (.returned none) r := by
  unfold mM_put_114 at e
  obtain ⟨i1, qi1, e⟩ := gv_bind e
  obtain ⟨⟨v2, h3⟩, qv2, e⟩ := gv_bind e
  refine gv_vS (jc := 121) (n := 2) (rest := []) (stk := [.int v2]) (pc' := 117) rfl rfl rfl rfl rfl rfl rfl rfl rfl (gv_zR (gv_zI (gv_zI gv_z0))) rfl (gv_aR (gv_aI (gv_aI gv_a0))) (Nat.le_of_ble_eq_true rfl) qi1 (mM_refused_ok qv2) rfl rfl ?_
  by_cases c5 : v2 = 0
  · rw [if_pos c5] at e
    refine gv_ifT (pc' := 121) rfl (gv_eqT c5) rfl ?_
    refine gv_ild (pc' := 123) rfl rfl rfl ?_
    by_cases c6 : l5 = 0
    · rw [if_pos c6] at e
      refine gv_ifT (pc' := 136) rfl (gv_eqT c6) rfl ?_
      exact gv_weak (mM_put_136_ok 1000000000000000 _ _ _ _ _ _ _ e) (gv_S1 rfl (gv_S1 rfl (gv_S1 rfl (gv_S1 rfl (gv_S1 rfl gv_S0)))))
    rw [if_neg c6] at e
    refine gv_ifF (pc' := 126) rfl (gv_eqF c6) rfl rfl ?_
    refine gv_rldn (pc' := 127) rfl rfl rfl ?_
    refine gv_ildn (pc' := 128) rfl rfl rfl ?_
    refine gv_ildn (pc' := 129) rfl rfl rfl ?_
    refine gv_ildn (pc' := 130) rfl rfl rfl ?_
    refine gv_ild (pc' := 132) rfl rfl rfl ?_
    obtain ⟨i7, qi7, e⟩ := gv_bind e
    obtain ⟨h9, qv8, e⟩ := gv_bind e
    refine gv_vS (jc := 136) (n := 4) (rest := []) (stk := []) (pc' := 135) rfl rfl rfl rfl rfl rfl rfl rfl rfl (gv_zR (gv_zI (gv_zI (gv_zI (gv_zI gv_z0))))) rfl (gv_aR (gv_aI (gv_aI (gv_aI (gv_aI gv_a0))))) (Nat.le_of_ble_eq_true rfl) qi7 (mM_setProperty_ok qv8) rfl rfl ?_
    cases e
    exact gv_retV rfl rfl
  rw [if_neg c5] at e
  refine gv_ifF (pc' := 120) rfl (gv_eqF c5) rfl rfl ?_
  cases e
  exact gv_retV rfl rfl
def mM_put_113 (l0 : Option Nat) (l1 : Int32) (l2 : Int32) (l3 : Int32) (l4 : Int32) (l5 : Int32) (s0 : Option Nat) (s1 : Int32) (h : gx_H) : Option gx_H :=
  mM_put_114 l0 l1 l2 l3 l4 l5 s0 s1 (0 : Int32) h
theorem mM_put_113_ok {xs : Option (List Int32)} {l0 : Option Nat} {l1 : Int32} {l2 : Int32} {l3 : Int32} {l4 : Int32} {l5 : Int32} {s0 : Option Nat} {s1 : Int32} {h : gx_H} {r : gx_H} (e : mM_put_113 l0 l1 l2 l3 l4 l5 s0 s1 h = some r) : gv_V xs 3 132 113 [(0, gv_u l0), (1, .int l1), (2, .int l2), (3, .int l3), (4, .int l4), (5, .int l5)] [.int s1, gv_u s0] h (.returned none) r := by
  unfold mM_put_113 at e
  refine gv_ic (pc' := 114) (x := 0) rfl rfl rfl ?_
  exact gv_weak (mM_put_114_ok e) (gv_S1 rfl (gv_S1 rfl (gv_S1 rfl (gv_S1 rfl (gv_S1 rfl (gv_S1 rfl gv_S0))))))
def mM_put_79 (l0 : Option Nat) (l1 : Int32) (l2 : Int32) (l3 : Int32) (l4 : Int32) (l5 : Int32) (s0 : Int32) (h : gx_H) : Option gx_H :=
  if l5 = 0 then (
    mM_put_113 l0 l1 l2 l3 l4 l5 l0 s0 h) else
  (gv_is h l0 7).bind fun i2 =>
  (mM_slotOf l0 l1 l2 h).bind fun v3 =>
  if v3 < 0 then (
    (gv_gR h l0 7 3).bind fun v5 =>
    (gv_lI h v5 l1).bind fun v6 =>
    if v6 = (6 : Int32) then (
      mM_put_114 l0 l1 l2 l3 l4 l5 l0 s0 (1 : Int32) h) else
    mM_put_113 l0 l1 l2 l3 l4 l5 l0 s0 h) else
  mM_put_113 l0 l1 l2 l3 l4 l5 l0 s0 h
theorem mM_put_79_ok {xs : Option (List Int32)} {l0 : Option Nat} {l1 : Int32} {l2 : Int32} {l3 : Int32} {l4 : Int32} {l5 : Int32} {s0 : Int32} {h : gx_H} {r : gx_H} (e : mM_put_79 l0 l1 l2 l3 l4 l5 s0 h = some r) : gv_V xs 3 132 79 [(0, gv_u l0), (1, .int l1), (2, .int l2), (3, .int l3), (4, .int l4), (5, .int l5)] [.int s0] h (.returned none) r := by
  unfold mM_put_79 at e
  refine gv_ist (pc' := 81) rfl rfl (gv_Cn rfl) rfl ?_
  refine gv_rldn (pc' := 82) rfl rfl rfl ?_
  refine gv_ild (pc' := 84) rfl rfl rfl ?_
  refine gv_ild (pc' := 86) rfl rfl rfl ?_
  by_cases c1 : l5 = 0
  · rw [if_pos c1] at e
    refine gv_ifT (pc' := 113) rfl (gv_eqT c1) rfl ?_
    exact gv_weak (mM_put_113_ok e) (gv_S1 rfl (gv_S1 rfl (gv_S1 rfl (gv_S1 rfl (gv_S1 rfl (gv_S1 rfl gv_S0))))))
  rw [if_neg c1] at e
  refine gv_ifF (pc' := 89) rfl (gv_eqF c1) rfl rfl ?_
  refine gv_rldn (pc' := 90) rfl rfl rfl ?_
  refine gv_ildn (pc' := 91) rfl rfl rfl ?_
  refine gv_ildn (pc' := 92) rfl rfl rfl ?_
  obtain ⟨i2, qi2, e⟩ := gv_bind e
  obtain ⟨v3, qv3, e⟩ := gv_bind e
  refine gv_vS (jc := 135) (n := 2) (rest := [.int s0, gv_u l0]) (stk := [.int v3, .int s0, gv_u l0]) (pc' := 95) rfl rfl rfl rfl rfl rfl rfl rfl rfl (gv_zR (gv_zI (gv_zI gv_z0))) rfl (gv_aR (gv_aI (gv_aI gv_a0))) (Nat.le_of_ble_eq_true rfl) qi2 (mM_slotOf_ok qv3) rfl rfl ?_
  by_cases c4 : v3 < 0
  · rw [if_pos c4] at e
    refine gv_ifF (pc' := 98) rfl (gv_geF c4) rfl rfl ?_
    refine gv_rldn (pc' := 99) rfl rfl rfl ?_
    obtain ⟨v5, qv5, e⟩ := gv_bind e
    refine gv_fR (pc' := 102) rfl rfl qv5 rfl ?_
    refine gv_ildn (pc' := 103) rfl rfl rfl ?_
    obtain ⟨v6, qv6, e⟩ := gv_bind e
    refine gv_iald (pc' := 104) rfl qv6 rfl ?_
    refine gv_bp (pc' := 106) (x := 6) rfl rfl rfl ?_
    by_cases c7 : v6 = (6 : Int32)
    · rw [if_pos c7] at e
      refine gv_cmF (pc' := 109) rfl (gv_neF2 c7) rfl rfl ?_
      refine gv_ic (pc' := 110) (x := 1) rfl rfl rfl ?_
      refine gv_goto (pc' := 114) rfl rfl ?_
      exact gv_weak (mM_put_114_ok e) (gv_S1 rfl (gv_S1 rfl (gv_S1 rfl (gv_S1 rfl (gv_S1 rfl (gv_S1 rfl gv_S0))))))
    rw [if_neg c7] at e
    refine gv_cmT (pc' := 113) rfl (gv_neT2 c7) rfl ?_
    exact gv_weak (mM_put_113_ok e) (gv_S1 rfl (gv_S1 rfl (gv_S1 rfl (gv_S1 rfl (gv_S1 rfl (gv_S1 rfl gv_S0))))))
  rw [if_neg c4] at e
  refine gv_ifT (pc' := 113) rfl (gv_geT c4) rfl ?_
  exact gv_weak (mM_put_113_ok e) (gv_S1 rfl (gv_S1 rfl (gv_S1 rfl (gv_S1 rfl (gv_S1 rfl (gv_S1 rfl gv_S0))))))
def mM_put_74 (l0 : Option Nat) (l1 : Int32) (l2 : Int32) (l3 : Int32) (l4 : Int32) (l5 : Int32) (h : gx_H) : Option gx_H :=
  mM_put_79 l0 l1 l2 l3 l4 l5 (1 : Int32) h
theorem mM_put_74_ok {xs : Option (List Int32)} {l0 : Option Nat} {l1 : Int32} {l2 : Int32} {l3 : Int32} {l4 : Int32} {l5 : Int32} {h : gx_H} {r : gx_H} (e : mM_put_74 l0 l1 l2 l3 l4 l5 h = some r) : gv_V xs 3 132 74 [(0, gv_u l0), (1, .int l1), (2, .int l2), (3, .int l3), (4, .int l4), (5, .int l5)] [] h (.returned none) r := by
  unfold mM_put_74 at e
  refine gv_ic (pc' := 75) (x := 1) rfl rfl rfl ?_
  refine gv_goto (pc' := 79) rfl rfl ?_
  exact gv_weak (mM_put_79_ok e) (gv_S1 rfl (gv_S1 rfl (gv_S1 rfl (gv_S1 rfl (gv_S1 rfl (gv_S1 rfl gv_S0))))))
def mM_put_78 (l0 : Option Nat) (l1 : Int32) (l2 : Int32) (l3 : Int32) (l4 : Int32) (l5 : Int32) (h : gx_H) : Option gx_H :=
  mM_put_79 l0 l1 l2 l3 l4 l5 (0 : Int32) h
theorem mM_put_78_ok {xs : Option (List Int32)} {l0 : Option Nat} {l1 : Int32} {l2 : Int32} {l3 : Int32} {l4 : Int32} {l5 : Int32} {h : gx_H} {r : gx_H} (e : mM_put_78 l0 l1 l2 l3 l4 l5 h = some r) : gv_V xs 3 132 78 [(0, gv_u l0), (1, .int l1), (2, .int l2), (3, .int l3), (4, .int l4), (5, .int l5)] [] h (.returned none) r := by
  unfold mM_put_78 at e
  refine gv_ic (pc' := 79) (x := 0) rfl rfl rfl ?_
  exact gv_weak (mM_put_79_ok e) (gv_S1 rfl (gv_S1 rfl (gv_S1 rfl (gv_S1 rfl (gv_S1 rfl (gv_S1 rfl gv_S0))))))
def mM_put_54 (l0 : Option Nat) (l1 : Int32) (l2 : Int32) (l3 : Int32) (l4 : Int32) (l5 : Int32) (l6 : Int32) (l7 : Int32) (h : gx_H) : Option gx_H :=
  if l7 = 0 then (
    mM_put_74 l0 l1 l2 l3 l4 l5 h) else
  if l6 = 0 then (
    mM_put_78 l0 l1 l2 l3 l4 l5 h) else
  if l2 < 0 then (
    mM_put_74 l0 l1 l2 l3 l4 l5 h) else
  if (7 : Int32) < l2 then (
    mM_put_74 l0 l1 l2 l3 l4 l5 h) else
  mM_put_78 l0 l1 l2 l3 l4 l5 h
theorem mM_put_54_ok {xs : Option (List Int32)} {l0 : Option Nat} {l1 : Int32} {l2 : Int32} {l3 : Int32} {l4 : Int32} {l5 : Int32} {l6 : Int32} {l7 : Int32} {h : gx_H} {r : gx_H} (e : mM_put_54 l0 l1 l2 l3 l4 l5 l6 l7 h = some r) : gv_V xs 3 132 54 [(0, gv_u l0), (1, .int l1), (2, .int l2), (3, .int l3), (4, .int l4), (5, .int l5), (6, .int l6), (7, .int l7)] [] h (.returned none) r := by
  unfold mM_put_54 at e
  refine gv_ild (pc' := 56) rfl rfl rfl ?_
  by_cases c1 : l7 = 0
  · rw [if_pos c1] at e
    refine gv_ifT (pc' := 74) rfl (gv_eqT c1) rfl ?_
    exact gv_weak (mM_put_74_ok e) (gv_S1 rfl (gv_S1 rfl (gv_S1 rfl (gv_S1 rfl (gv_S1 rfl (gv_S1 rfl gv_S0))))))
  rw [if_neg c1] at e
  refine gv_ifF (pc' := 59) rfl (gv_eqF c1) rfl rfl ?_
  refine gv_ild (pc' := 61) rfl rfl rfl ?_
  by_cases c2 : l6 = 0
  · rw [if_pos c2] at e
    refine gv_ifT (pc' := 78) rfl (gv_eqT c2) rfl ?_
    exact gv_weak (mM_put_78_ok e) (gv_S1 rfl (gv_S1 rfl (gv_S1 rfl (gv_S1 rfl (gv_S1 rfl (gv_S1 rfl gv_S0))))))
  rw [if_neg c2] at e
  refine gv_ifF (pc' := 64) rfl (gv_eqF c2) rfl rfl ?_
  refine gv_ildn (pc' := 65) rfl rfl rfl ?_
  by_cases c3 : l2 < 0
  · rw [if_pos c3] at e
    refine gv_ifT (pc' := 74) rfl (gv_ltT c3) rfl ?_
    exact gv_weak (mM_put_74_ok e) (gv_S1 rfl (gv_S1 rfl (gv_S1 rfl (gv_S1 rfl (gv_S1 rfl (gv_S1 rfl gv_S0))))))
  rw [if_neg c3] at e
  refine gv_ifF (pc' := 68) rfl (gv_ltF c3) rfl rfl ?_
  refine gv_ildn (pc' := 69) rfl rfl rfl ?_
  refine gv_bp (pc' := 71) (x := 7) rfl rfl rfl ?_
  by_cases c4 : (7 : Int32) < l2
  · rw [if_pos c4] at e
    refine gv_cmF (pc' := 74) rfl (gv_leF2 c4) rfl rfl ?_
    exact gv_weak (mM_put_74_ok e) (gv_S1 rfl (gv_S1 rfl (gv_S1 rfl (gv_S1 rfl (gv_S1 rfl (gv_S1 rfl gv_S0))))))
  rw [if_neg c4] at e
  refine gv_cmT (pc' := 78) rfl (gv_leT2 c4) rfl ?_
  exact gv_weak (mM_put_78_ok e) (gv_S1 rfl (gv_S1 rfl (gv_S1 rfl (gv_S1 rfl (gv_S1 rfl (gv_S1 rfl gv_S0))))))
def mM_put_42 (l0 : Option Nat) (l1 : Int32) (l2 : Int32) (l3 : Int32) (l4 : Int32) (l5 : Int32) (l6 : Int32) (s0 : Int32) (h : gx_H) : Option gx_H :=
  if l5 = 0 then (
    if l6 = 0 then (
      mM_put_74 l0 l1 l2 l3 l4 l5 h) else
    mM_put_54 l0 l1 l2 l3 l4 l5 l6 s0 h) else
  mM_put_54 l0 l1 l2 l3 l4 l5 l6 s0 h
theorem mM_put_42_ok {xs : Option (List Int32)} {l0 : Option Nat} {l1 : Int32} {l2 : Int32} {l3 : Int32} {l4 : Int32} {l5 : Int32} {l6 : Int32} {s0 : Int32} {h : gx_H} {r : gx_H} (e : mM_put_42 l0 l1 l2 l3 l4 l5 l6 s0 h = some r) : gv_V xs 3 132 42 [(0, gv_u l0), (1, .int l1), (2, .int l2), (3, .int l3), (4, .int l4), (5, .int l5), (6, .int l6)] [.int s0] h (.returned none) r := by
  unfold mM_put_42 at e
  refine gv_ist (pc' := 44) rfl rfl (gv_Ci rfl) rfl ?_
  refine gv_ild (pc' := 46) rfl rfl rfl ?_
  by_cases c1 : l5 = 0
  · rw [if_pos c1] at e
    refine gv_ifF (pc' := 49) rfl (gv_neF c1) rfl rfl ?_
    refine gv_ild (pc' := 51) rfl rfl rfl ?_
    by_cases c2 : l6 = 0
    · rw [if_pos c2] at e
      refine gv_ifT (pc' := 74) rfl (gv_eqT c2) rfl ?_
      exact gv_weak (mM_put_74_ok e) (gv_S1 rfl (gv_S1 rfl (gv_S1 rfl (gv_S1 rfl (gv_S1 rfl (gv_S1 rfl gv_S0))))))
    rw [if_neg c2] at e
    refine gv_ifF (pc' := 54) rfl (gv_eqF c2) rfl rfl ?_
    exact gv_weak (mM_put_54_ok e) (gv_S1 rfl (gv_S1 rfl (gv_S1 rfl (gv_S1 rfl (gv_S1 rfl (gv_S1 rfl (gv_S1 rfl (gv_S1 rfl gv_S0))))))))
  rw [if_neg c1] at e
  refine gv_ifT (pc' := 54) rfl (gv_neT c1) rfl ?_
  exact gv_weak (mM_put_54_ok e) (gv_S1 rfl (gv_S1 rfl (gv_S1 rfl (gv_S1 rfl (gv_S1 rfl (gv_S1 rfl (gv_S1 rfl (gv_S1 rfl gv_S0))))))))
def mM_put_37 (l0 : Option Nat) (l1 : Int32) (l2 : Int32) (l3 : Int32) (l4 : Int32) (l5 : Int32) (l6 : Int32) (h : gx_H) : Option gx_H :=
  mM_put_42 l0 l1 l2 l3 l4 l5 l6 (1 : Int32) h
theorem mM_put_37_ok {xs : Option (List Int32)} {l0 : Option Nat} {l1 : Int32} {l2 : Int32} {l3 : Int32} {l4 : Int32} {l5 : Int32} {l6 : Int32} {h : gx_H} {r : gx_H} (e : mM_put_37 l0 l1 l2 l3 l4 l5 l6 h = some r) : gv_V xs 3 132 37 [(0, gv_u l0), (1, .int l1), (2, .int l2), (3, .int l3), (4, .int l4), (5, .int l5), (6, .int l6)] [] h (.returned none) r := by
  unfold mM_put_37 at e
  refine gv_ic (pc' := 38) (x := 1) rfl rfl rfl ?_
  refine gv_goto (pc' := 42) rfl rfl ?_
  exact gv_weak (mM_put_42_ok e) (gv_S1 rfl (gv_S1 rfl (gv_S1 rfl (gv_S1 rfl (gv_S1 rfl (gv_S1 rfl (gv_S1 rfl gv_S0)))))))
def mM_put_41 (l0 : Option Nat) (l1 : Int32) (l2 : Int32) (l3 : Int32) (l4 : Int32) (l5 : Int32) (l6 : Int32) (h : gx_H) : Option gx_H :=
  mM_put_42 l0 l1 l2 l3 l4 l5 l6 (0 : Int32) h
theorem mM_put_41_ok {xs : Option (List Int32)} {l0 : Option Nat} {l1 : Int32} {l2 : Int32} {l3 : Int32} {l4 : Int32} {l5 : Int32} {l6 : Int32} {h : gx_H} {r : gx_H} (e : mM_put_41 l0 l1 l2 l3 l4 l5 l6 h = some r) : gv_V xs 3 132 41 [(0, gv_u l0), (1, .int l1), (2, .int l2), (3, .int l3), (4, .int l4), (5, .int l5), (6, .int l6)] [] h (.returned none) r := by
  unfold mM_put_41 at e
  refine gv_ic (pc' := 42) (x := 0) rfl rfl rfl ?_
  exact gv_weak (mM_put_42_ok e) (gv_S1 rfl (gv_S1 rfl (gv_S1 rfl (gv_S1 rfl (gv_S1 rfl (gv_S1 rfl (gv_S1 rfl gv_S0)))))))
def mM_put (l0 : Option Nat) (l1 : Int32) (l2 : Int32) (l3 : Int32) (l4 : Int32) (h : gx_H) : Option gx_H :=
  (gv_is h l0 7).bind fun i1 =>
  (mM_is l0 l1 (0 : Int32) h).bind fun v2 =>
  (gv_is h l0 7).bind fun i3 =>
  (mM_is l0 l1 (1 : Int32) h).bind fun v4 =>
  (gv_is h l0 7).bind fun i5 =>
  (mM_isValue l0 l3 l4 h).bind fun v6 =>
  if v6 = 0 then (
    if v2 = 0 then (
      mM_put_41 l0 l1 l2 l3 l4 v2 v4 h) else
    if l3 = (8 : Int32) then (
      mM_put_37 l0 l1 l2 l3 l4 v2 v4 h) else
    mM_put_41 l0 l1 l2 l3 l4 v2 v4 h) else
  mM_put_37 l0 l1 l2 l3 l4 v2 v4 h
theorem mM_put_ok {xs : Option (List Int32)} {l0 : Option Nat} {l1 : Int32} {l2 : Int32} {l3 : Int32} {l4 : Int32} {h : gx_H} {r : gx_H} (e : mM_put l0 l1 l2 l3 l4 h = some r) : gv_V xs 3 132 0 [(0, gv_u l0), (1, .int l1), (2, .int l2), (3, .int l3), (4, .int l4)] [] h (.returned none) r := by
  unfold mM_put at e
  refine gv_rldn (pc' := 1) rfl rfl rfl ?_
  refine gv_ildn (pc' := 2) rfl rfl rfl ?_
  refine gv_ic (pc' := 3) (x := 0) rfl rfl rfl ?_
  obtain ⟨i1, qi1, e⟩ := gv_bind e
  obtain ⟨v2, qv2, e⟩ := gv_bind e
  refine gv_vS (jc := 126) (n := 2) (rest := []) (stk := [.int v2]) (pc' := 6) rfl rfl rfl rfl rfl rfl rfl rfl rfl (gv_zR (gv_zI (gv_zI gv_z0))) rfl (gv_aR (gv_aI (gv_aI gv_a0))) (Nat.le_of_ble_eq_true rfl) qi1 (mM_is_ok qv2) rfl rfl ?_
  refine gv_ist (pc' := 8) rfl rfl (gv_Ci rfl) rfl ?_
  refine gv_rldn (pc' := 9) rfl rfl rfl ?_
  refine gv_ildn (pc' := 10) rfl rfl rfl ?_
  refine gv_ic (pc' := 11) (x := 1) rfl rfl rfl ?_
  obtain ⟨i3, qi3, e⟩ := gv_bind e
  obtain ⟨v4, qv4, e⟩ := gv_bind e
  refine gv_vS (jc := 126) (n := 2) (rest := []) (stk := [.int v4]) (pc' := 14) rfl rfl rfl rfl rfl rfl rfl rfl rfl (gv_zR (gv_zI (gv_zI gv_z0))) rfl (gv_aR (gv_aI (gv_aI gv_a0))) (Nat.le_of_ble_eq_true rfl) qi3 (mM_is_ok qv4) rfl rfl ?_
  refine gv_ist (pc' := 16) rfl rfl (gv_Ci rfl) rfl ?_
  refine gv_rldn (pc' := 17) rfl rfl rfl ?_
  refine gv_ildn (pc' := 18) rfl rfl rfl ?_
  refine gv_ild (pc' := 20) rfl rfl rfl ?_
  obtain ⟨i5, qi5, e⟩ := gv_bind e
  obtain ⟨v6, qv6, e⟩ := gv_bind e
  refine gv_vS (jc := 133) (n := 2) (rest := []) (stk := [.int v6]) (pc' := 23) rfl rfl rfl rfl rfl rfl rfl rfl rfl (gv_zR (gv_zI (gv_zI gv_z0))) rfl (gv_aR (gv_aI (gv_aI gv_a0))) (Nat.le_of_ble_eq_true rfl) qi5 (mM_isValue_ok qv6) rfl rfl ?_
  by_cases c7 : v6 = 0
  · rw [if_pos c7] at e
    refine gv_ifF (pc' := 26) rfl (gv_neF c7) rfl rfl ?_
    refine gv_ild (pc' := 28) rfl rfl rfl ?_
    by_cases c8 : v2 = 0
    · rw [if_pos c8] at e
      refine gv_ifT (pc' := 41) rfl (gv_eqT c8) rfl ?_
      exact gv_weak (mM_put_41_ok e) (gv_S1 rfl (gv_S1 rfl (gv_S1 rfl (gv_S1 rfl (gv_S1 rfl (gv_S1 rfl (gv_S1 rfl gv_S0)))))))
    rw [if_neg c8] at e
    refine gv_ifF (pc' := 31) rfl (gv_eqF c8) rfl rfl ?_
    refine gv_ildn (pc' := 32) rfl rfl rfl ?_
    refine gv_bp (pc' := 34) (x := 8) rfl rfl rfl ?_
    by_cases c9 : l3 = (8 : Int32)
    · rw [if_pos c9] at e
      refine gv_cmF (pc' := 37) rfl (gv_neF2 c9) rfl rfl ?_
      exact gv_weak (mM_put_37_ok e) (gv_S1 rfl (gv_S1 rfl (gv_S1 rfl (gv_S1 rfl (gv_S1 rfl (gv_S1 rfl (gv_S1 rfl gv_S0)))))))
    rw [if_neg c9] at e
    refine gv_cmT (pc' := 41) rfl (gv_neT2 c9) rfl ?_
    exact gv_weak (mM_put_41_ok e) (gv_S1 rfl (gv_S1 rfl (gv_S1 rfl (gv_S1 rfl (gv_S1 rfl (gv_S1 rfl (gv_S1 rfl gv_S0)))))))
  rw [if_neg c7] at e
  refine gv_ifT (pc' := 37) rfl (gv_neT c7) rfl ?_
  exact gv_weak (mM_put_37_ok e) (gv_S1 rfl (gv_S1 rfl (gv_S1 rfl (gv_S1 rfl (gv_S1 rfl (gv_S1 rfl (gv_S1 rfl gv_S0)))))))
def mM_takeProperty_26 : Nat → Option Nat → Int32 → Int32 → gx_H → Option (Int32 × gx_H)
  | 0, _, _, _, _ => none
  | n + 1, l0, l1, l4, h =>
    (gv_gR h l0 7 3).bind fun v1 =>
    (gv_lI h v1 l1).bind fun v2 =>
    if l4 < (((8 : Int32) * l1) + v2) then (
      (gv_is h l0 7).bind fun i4 =>
      (mM_copySlot l0 (l4 + (1 : Int32)) l4 h).bind fun h6 =>
      mM_takeProperty_26 n l0 l1 (l4 + 1) h6) else
    some ((1 : Int32), h)
theorem mM_takeProperty_26_ok {xs : Option (List Int32)} : ∀ (n : Nat) (l0 : Option Nat) (l1 : Int32) (l4 : Int32) (h : gx_H) (r : (Int32 × gx_H)), mM_takeProperty_26 n l0 l1 l4 h = some r → gv_V xs 1 141 26 [(0, gv_u l0), (1, .int l1), (4, .int l4)] [] h (.returned (some (.int r.1))) r.2 := by
  intro n
  induction n with
  | zero => intro l0 l1 l4 h r e; cases e
  | succ n ih =>
    intro l0 l1 l4 h r e
    rw [mM_takeProperty_26] at e
    refine gv_ild (pc' := 28) rfl rfl rfl ?_
    refine gv_bp (pc' := 30) (x := 8) rfl rfl rfl ?_
    refine gv_ildn (pc' := 31) rfl rfl rfl ?_
    refine gv_imul (pc' := 32) rfl rfl ?_
    refine gv_rldn (pc' := 33) rfl rfl rfl ?_
    obtain ⟨v1, qv1, e⟩ := gv_bind e
    refine gv_fR (pc' := 36) rfl rfl qv1 rfl ?_
    refine gv_ildn (pc' := 37) rfl rfl rfl ?_
    obtain ⟨v2, qv2, e⟩ := gv_bind e
    refine gv_iald (pc' := 38) rfl qv2 rfl ?_
    refine gv_iadd (pc' := 39) rfl rfl ?_
    by_cases c3 : l4 < (((8 : Int32) * l1) + v2)
    · rw [if_pos c3] at e
      refine gv_cmF (pc' := 42) rfl (gv_geF2 c3) rfl rfl ?_
      refine gv_rldn (pc' := 43) rfl rfl rfl ?_
      refine gv_ild (pc' := 45) rfl rfl rfl ?_
      refine gv_ic (pc' := 46) (x := 1) rfl rfl rfl ?_
      refine gv_iadd (pc' := 47) rfl rfl ?_
      refine gv_ild (pc' := 49) rfl rfl rfl ?_
      obtain ⟨i4, qi4, e⟩ := gv_bind e
      obtain ⟨h6, qv5, e⟩ := gv_bind e
      refine gv_vS (jc := 137) (n := 2) (rest := []) (stk := []) (pc' := 52) rfl rfl rfl rfl rfl rfl rfl rfl rfl (gv_zR (gv_zI (gv_zI gv_z0))) rfl (gv_aR (gv_aI (gv_aI gv_a0))) (Nat.le_of_ble_eq_true rfl) qi4 (mM_copySlot_ok qv5) rfl rfl ?_
      refine gv_inc (pc' := 55) (y := 1) rfl rfl rfl rfl (gv_Cn rfl) rfl ?_
      refine gv_goto (pc' := 26) rfl rfl ?_
      exact gv_weak (ih _ _ _ _ _ e) (gv_S1 rfl (gv_S1 rfl (gv_S1 rfl gv_S0)))
    rw [if_neg c3] at e
    refine gv_cmT (pc' := 58) rfl (gv_geT2 c3) rfl ?_
    refine gv_ic (pc' := 59) (x := 1) rfl rfl rfl ?_
    cases e
    exact gv_retZ rfl rfl (by decide)
def mM_takeProperty (l0 : Option Nat) (l1 : Int32) (l2 : Int32) (h : gx_H) : Option (Int32 × gx_H) :=
  (gv_is h l0 7).bind fun i1 =>
  (mM_slotOf l0 l1 l2 h).bind fun v2 =>
  if v2 < 0 then (
    some ((0 : Int32), h)) else
  (gv_gR h l0 7 3).bind fun v4 =>
  (gv_lI h v4 l1).bind fun v5 =>
  (gv_wI h v4 l1 (v5 - (1 : Int32))).bind fun h6 =>
  mM_takeProperty_26 1000000000000000 l0 l1 v2 h6
theorem mM_takeProperty_ok {xs : Option (List Int32)} {l0 : Option Nat} {l1 : Int32} {l2 : Int32} {h : gx_H} {r : (Int32 × gx_H)} (e : mM_takeProperty l0 l1 l2 h = some r) : gv_V xs 1 141 0 [(0, gv_u l0), (1, .int l1), (2, .int l2)] [] h (.returned (some (.int r.1))) r.2 := by
  unfold mM_takeProperty at e
  refine gv_rldn (pc' := 1) rfl rfl rfl ?_
  refine gv_ildn (pc' := 2) rfl rfl rfl ?_
  refine gv_ildn (pc' := 3) rfl rfl rfl ?_
  obtain ⟨i1, qi1, e⟩ := gv_bind e
  obtain ⟨v2, qv2, e⟩ := gv_bind e
  refine gv_vS (jc := 135) (n := 2) (rest := []) (stk := [.int v2]) (pc' := 6) rfl rfl rfl rfl rfl rfl rfl rfl rfl (gv_zR (gv_zI (gv_zI gv_z0))) rfl (gv_aR (gv_aI (gv_aI gv_a0))) (Nat.le_of_ble_eq_true rfl) qi1 (mM_slotOf_ok qv2) rfl rfl ?_
  refine gv_istn (pc' := 7) rfl rfl (gv_Ci rfl) rfl ?_
  refine gv_ildn (pc' := 8) rfl rfl rfl ?_
  by_cases c3 : v2 < 0
  · rw [if_pos c3] at e
    refine gv_ifF (pc' := 11) rfl (gv_geF c3) rfl rfl ?_
    refine gv_ic (pc' := 12) (x := 0) rfl rfl rfl ?_
    cases e
    exact gv_retZ rfl rfl (by decide)
  rw [if_neg c3] at e
  refine gv_ifT (pc' := 13) rfl (gv_geT c3) rfl ?_
  refine gv_rldn (pc' := 14) rfl rfl rfl ?_
  obtain ⟨v4, qv4, e⟩ := gv_bind e
  refine gv_fR (pc' := 17) rfl rfl qv4 rfl ?_
  refine gv_ildn (pc' := 18) rfl rfl rfl ?_
  refine gv_dup2 (pc' := 19) rfl rfl (gv_u_cat _) rfl ?_
  obtain ⟨v5, qv5, e⟩ := gv_bind e
  refine gv_iald (pc' := 20) rfl qv5 rfl ?_
  refine gv_ic (pc' := 21) (x := 1) rfl rfl rfl ?_
  refine gv_isub (pc' := 22) rfl rfl ?_
  obtain ⟨h6, qh6, e⟩ := gv_bind e
  refine gv_iast (pc' := 23) rfl qh6 rfl ?_
  refine gv_ildn (pc' := 24) rfl rfl rfl ?_
  refine gv_ist (pc' := 26) rfl rfl (gv_Ci rfl) rfl ?_
  exact gv_weak (mM_takeProperty_26_ok 1000000000000000 _ _ _ _ _ e) (gv_S1 rfl (gv_S1 rfl (gv_S1 rfl gv_S0)))
def mM_take_80 (l0 : Option Nat) (l1 : Int32) (l2 : Int32) (s0 : Int32) (h : gx_H) : Option (Int32 × gx_H) :=
  if s0 = 0 then (
    if ¬ (s0 = 0 ∨ s0 = 1) then none else
    some (s0, h)) else
  (gv_is h l0 7).bind fun i3 =>
  (mM_setSlot l0 (((8 : Int32) * l1) + l2) (-1 : Int32) (0 : Int32) h).bind fun h5 =>
  if ¬ (s0 = 0 ∨ s0 = 1) then none else
  some (s0, h5)
theorem mM_take_80_ok {xs : Option (List Int32)} {l0 : Option Nat} {l1 : Int32} {l2 : Int32} {s0 : Int32} {h : gx_H} {r : (Int32 × gx_H)} (e : mM_take_80 l0 l1 l2 s0 h = some r) : gv_V xs 2 140 80 [(0, gv_u l0), (1, .int l1), (2, .int l2)] [.int s0] h (.returned (some (.int r.1))) r.2 := by
  unfold mM_take_80 at e
  refine gv_ist (pc' := 82) rfl rfl (gv_Cn rfl) rfl ?_
  refine gv_ild (pc' := 84) rfl rfl rfl ?_
  by_cases c1 : s0 = 0
  · rw [if_pos c1] at e
    refine gv_ifT (pc' := 99) rfl (gv_eqT c1) rfl ?_
    refine gv_ild (pc' := 101) rfl rfl rfl ?_
    by_cases c2 : ¬ (s0 = 0 ∨ s0 = 1)
    · rw [if_pos c2] at e; cases e
    rw [if_neg c2] at e
    cases e
    exact gv_retZ rfl rfl (Decidable.of_not_not c2)
  rw [if_neg c1] at e
  refine gv_ifF (pc' := 87) rfl (gv_eqF c1) rfl rfl ?_
  refine gv_rldn (pc' := 88) rfl rfl rfl ?_
  refine gv_bp (pc' := 90) (x := 8) rfl rfl rfl ?_
  refine gv_ildn (pc' := 91) rfl rfl rfl ?_
  refine gv_imul (pc' := 92) rfl rfl ?_
  refine gv_ildn (pc' := 93) rfl rfl rfl ?_
  refine gv_iadd (pc' := 94) rfl rfl ?_
  refine gv_ic (pc' := 95) (x := -1) rfl rfl rfl ?_
  refine gv_ic (pc' := 96) (x := 0) rfl rfl rfl ?_
  obtain ⟨i3, qi3, e⟩ := gv_bind e
  obtain ⟨h5, qv4, e⟩ := gv_bind e
  refine gv_vS (jc := 138) (n := 3) (rest := []) (stk := []) (pc' := 99) rfl rfl rfl rfl rfl rfl rfl rfl rfl (gv_zR (gv_zI (gv_zI (gv_zI gv_z0)))) rfl (gv_aR (gv_aI (gv_aI (gv_aI gv_a0)))) (Nat.le_of_ble_eq_true rfl) qi3 (mM_setSlot_ok qv4) rfl rfl ?_
  refine gv_ild (pc' := 101) rfl rfl rfl ?_
  by_cases c6 : ¬ (s0 = 0 ∨ s0 = 1)
  · rw [if_pos c6] at e; cases e
  rw [if_neg c6] at e
  cases e
  exact gv_retZ rfl rfl (Decidable.of_not_not c6)
def mM_take_79 (l0 : Option Nat) (l1 : Int32) (l2 : Int32) (h : gx_H) : Option (Int32 × gx_H) :=
  mM_take_80 l0 l1 l2 (0 : Int32) h
theorem mM_take_79_ok {xs : Option (List Int32)} {l0 : Option Nat} {l1 : Int32} {l2 : Int32} {h : gx_H} {r : (Int32 × gx_H)} (e : mM_take_79 l0 l1 l2 h = some r) : gv_V xs 2 140 79 [(0, gv_u l0), (1, .int l1), (2, .int l2)] [] h (.returned (some (.int r.1))) r.2 := by
  unfold mM_take_79 at e
  refine gv_ic (pc' := 80) (x := 0) rfl rfl rfl ?_
  exact gv_weak (mM_take_80_ok e) (gv_S1 rfl (gv_S1 rfl (gv_S1 rfl gv_S0)))
def mM_take_26 (l0 : Option Nat) (l1 : Int32) (l2 : Int32) (l3 : Int32) (s0 : Option Nat) (s1 : Int32) (h : gx_H) : Option (Int32 × gx_H) :=
  (gv_is h s0 7).bind fun i1 =>
  (mM_refused s0 s1 (0 : Int32) h).bind fun r4 =>
  if r4.1 = 0 then (
    if l3 = 0 then (
      if l2 < 0 then (
        mM_take_79 l0 l1 l2 r4.2) else
      (gv_gR r4.2 l0 7 3).bind fun v8 =>
      (gv_lI r4.2 v8 l1).bind fun v9 =>
      if l2 < v9 then (
        (gv_gR r4.2 l0 7 8).bind fun v11 =>
        (gv_lI r4.2 v11 (((8 : Int32) * l1) + l2)).bind fun v12 =>
        if v12 = (-1 : Int32) then (
          mM_take_79 l0 l1 l2 r4.2) else
        mM_take_80 l0 l1 l2 (1 : Int32) r4.2) else
      mM_take_79 l0 l1 l2 r4.2) else
    (gv_is r4.2 l0 7).bind fun i14 =>
    (mM_takeProperty l0 l1 l2 r4.2).bind fun r17 =>
    if ¬ (r17.1 = 0 ∨ r17.1 = 1) then none else
    some (r17.1, r17.2)) else
  some ((0 : Int32), r4.2)
theorem mM_take_26_ok {xs : Option (List Int32)} {l0 : Option Nat} {l1 : Int32} {l2 : Int32} {l3 : Int32} {s0 : Option Nat} {s1 : Int32} {h : gx_H} {r : (Int32 × gx_H)} (e : mM_take_26 l0 l1 l2 l3 s0 s1 h = some r) : gv_V xs 2 140 26 [(0, gv_u l0), (1, .int l1), (2, .int l2), (3, .int l3)] [.int s1, gv_u s0] h (.returned (some (.int r.1))) r.2 := by
  unfold mM_take_26 at e
  refine gv_ic (pc' := 27) (x := 0) rfl rfl rfl ?_
  obtain ⟨i1, qi1, e⟩ := gv_bind e
  obtain ⟨⟨v2, h3⟩, qv2, e⟩ := gv_bind e
  refine gv_vS (jc := 121) (n := 2) (rest := []) (stk := [.int v2]) (pc' := 30) rfl rfl rfl rfl rfl rfl rfl rfl rfl (gv_zR (gv_zI (gv_zI gv_z0))) rfl (gv_aR (gv_aI (gv_aI gv_a0))) (Nat.le_of_ble_eq_true rfl) qi1 (mM_refused_ok qv2) rfl rfl ?_
  by_cases c5 : v2 = 0
  · rw [if_pos c5] at e
    refine gv_ifT (pc' := 35) rfl (gv_eqT c5) rfl ?_
    refine gv_ildn (pc' := 36) rfl rfl rfl ?_
    by_cases c6 : l3 = 0
    · rw [if_pos c6] at e
      refine gv_ifT (pc' := 46) rfl (gv_eqT c6) rfl ?_
      refine gv_ildn (pc' := 47) rfl rfl rfl ?_
      by_cases c7 : l2 < 0
      · rw [if_pos c7] at e
        refine gv_ifT (pc' := 79) rfl (gv_ltT c7) rfl ?_
        exact gv_weak (mM_take_79_ok e) (gv_S1 rfl (gv_S1 rfl (gv_S1 rfl gv_S0)))
      rw [if_neg c7] at e
      refine gv_ifF (pc' := 50) rfl (gv_ltF c7) rfl rfl ?_
      refine gv_ildn (pc' := 51) rfl rfl rfl ?_
      refine gv_rldn (pc' := 52) rfl rfl rfl ?_
      obtain ⟨v8, qv8, e⟩ := gv_bind e
      refine gv_fR (pc' := 55) rfl rfl qv8 rfl ?_
      refine gv_ildn (pc' := 56) rfl rfl rfl ?_
      obtain ⟨v9, qv9, e⟩ := gv_bind e
      refine gv_iald (pc' := 57) rfl qv9 rfl ?_
      by_cases c10 : l2 < v9
      · rw [if_pos c10] at e
        refine gv_cmF (pc' := 60) rfl (gv_geF2 c10) rfl rfl ?_
        refine gv_rldn (pc' := 61) rfl rfl rfl ?_
        obtain ⟨v11, qv11, e⟩ := gv_bind e
        refine gv_fR (pc' := 64) rfl rfl qv11 rfl ?_
        refine gv_bp (pc' := 66) (x := 8) rfl rfl rfl ?_
        refine gv_ildn (pc' := 67) rfl rfl rfl ?_
        refine gv_imul (pc' := 68) rfl rfl ?_
        refine gv_ildn (pc' := 69) rfl rfl rfl ?_
        refine gv_iadd (pc' := 70) rfl rfl ?_
        obtain ⟨v12, qv12, e⟩ := gv_bind e
        refine gv_iald (pc' := 71) rfl qv12 rfl ?_
        refine gv_ic (pc' := 72) (x := -1) rfl rfl rfl ?_
        by_cases c13 : v12 = (-1 : Int32)
        · rw [if_pos c13] at e
          refine gv_cmT (pc' := 79) rfl (gv_eqT2 c13) rfl ?_
          exact gv_weak (mM_take_79_ok e) (gv_S1 rfl (gv_S1 rfl (gv_S1 rfl gv_S0)))
        rw [if_neg c13] at e
        refine gv_cmF (pc' := 75) rfl (gv_eqF2 c13) rfl rfl ?_
        refine gv_ic (pc' := 76) (x := 1) rfl rfl rfl ?_
        refine gv_goto (pc' := 80) rfl rfl ?_
        exact gv_weak (mM_take_80_ok e) (gv_S1 rfl (gv_S1 rfl (gv_S1 rfl gv_S0)))
      rw [if_neg c10] at e
      refine gv_cmT (pc' := 79) rfl (gv_geT2 c10) rfl ?_
      exact gv_weak (mM_take_79_ok e) (gv_S1 rfl (gv_S1 rfl (gv_S1 rfl gv_S0)))
    rw [if_neg c6] at e
    refine gv_ifF (pc' := 39) rfl (gv_eqF c6) rfl rfl ?_
    refine gv_rldn (pc' := 40) rfl rfl rfl ?_
    refine gv_ildn (pc' := 41) rfl rfl rfl ?_
    refine gv_ildn (pc' := 42) rfl rfl rfl ?_
    obtain ⟨i14, qi14, e⟩ := gv_bind e
    obtain ⟨⟨v15, h16⟩, qv15, e⟩ := gv_bind e
    refine gv_vS (jc := 141) (n := 2) (rest := []) (stk := [.int v15]) (pc' := 45) rfl rfl rfl rfl rfl rfl rfl rfl rfl (gv_zR (gv_zI (gv_zI gv_z0))) rfl (gv_aR (gv_aI (gv_aI gv_a0))) (Nat.le_of_ble_eq_true rfl) qi14 (mM_takeProperty_ok qv15) rfl rfl ?_
    by_cases c18 : ¬ (v15 = 0 ∨ v15 = 1)
    · rw [if_pos c18] at e; cases e
    rw [if_neg c18] at e
    cases e
    exact gv_retZ rfl rfl (Decidable.of_not_not c18)
  rw [if_neg c5] at e
  refine gv_ifF (pc' := 33) rfl (gv_eqF c5) rfl rfl ?_
  refine gv_ic (pc' := 34) (x := 0) rfl rfl rfl ?_
  cases e
  exact gv_retZ rfl rfl (by decide)
def mM_take_25 (l0 : Option Nat) (l1 : Int32) (l2 : Int32) (l3 : Int32) (s0 : Option Nat) (h : gx_H) : Option (Int32 × gx_H) :=
  mM_take_26 l0 l1 l2 l3 s0 (0 : Int32) h
theorem mM_take_25_ok {xs : Option (List Int32)} {l0 : Option Nat} {l1 : Int32} {l2 : Int32} {l3 : Int32} {s0 : Option Nat} {h : gx_H} {r : (Int32 × gx_H)} (e : mM_take_25 l0 l1 l2 l3 s0 h = some r) : gv_V xs 2 140 25 [(0, gv_u l0), (1, .int l1), (2, .int l2), (3, .int l3)] [gv_u s0] h (.returned (some (.int r.1))) r.2 := by
  unfold mM_take_25 at e
  refine gv_ic (pc' := 26) (x := 0) rfl rfl rfl ?_
  exact gv_weak (mM_take_26_ok e) (gv_S1 rfl (gv_S1 rfl (gv_S1 rfl (gv_S1 rfl gv_S0))))
def mM_take (l0 : Option Nat) (l1 : Int32) (l2 : Int32) (h : gx_H) : Option (Int32 × gx_H) :=
  (gv_is h l0 7).bind fun i1 =>
  (mM_is l0 l1 (0 : Int32) h).bind fun v2 =>
  if v2 = 0 then (
    (gv_is h l0 7).bind fun i4 =>
    (mM_is l0 l1 (1 : Int32) h).bind fun v5 =>
    if v5 = 0 then (
      mM_take_26 l0 l1 l2 v2 l0 (1 : Int32) h) else
    mM_take_25 l0 l1 l2 v2 l0 h) else
  mM_take_25 l0 l1 l2 v2 l0 h
theorem mM_take_ok {xs : Option (List Int32)} {l0 : Option Nat} {l1 : Int32} {l2 : Int32} {h : gx_H} {r : (Int32 × gx_H)} (e : mM_take l0 l1 l2 h = some r) : gv_V xs 2 140 0 [(0, gv_u l0), (1, .int l1), (2, .int l2)] [] h (.returned (some (.int r.1))) r.2 := by
  unfold mM_take at e
  refine gv_rldn (pc' := 1) rfl rfl rfl ?_
  refine gv_ildn (pc' := 2) rfl rfl rfl ?_
  refine gv_ic (pc' := 3) (x := 0) rfl rfl rfl ?_
  obtain ⟨i1, qi1, e⟩ := gv_bind e
  obtain ⟨v2, qv2, e⟩ := gv_bind e
  refine gv_vS (jc := 126) (n := 2) (rest := []) (stk := [.int v2]) (pc' := 6) rfl rfl rfl rfl rfl rfl rfl rfl rfl (gv_zR (gv_zI (gv_zI gv_z0))) rfl (gv_aR (gv_aI (gv_aI gv_a0))) (Nat.le_of_ble_eq_true rfl) qi1 (mM_is_ok qv2) rfl rfl ?_
  refine gv_istn (pc' := 7) rfl rfl (gv_Ci rfl) rfl ?_
  refine gv_rldn (pc' := 8) rfl rfl rfl ?_
  refine gv_ildn (pc' := 9) rfl rfl rfl ?_
  by_cases c3 : v2 = 0
  · rw [if_pos c3] at e
    refine gv_ifF (pc' := 12) rfl (gv_neF c3) rfl rfl ?_
    refine gv_rldn (pc' := 13) rfl rfl rfl ?_
    refine gv_ildn (pc' := 14) rfl rfl rfl ?_
    refine gv_ic (pc' := 15) (x := 1) rfl rfl rfl ?_
    obtain ⟨i4, qi4, e⟩ := gv_bind e
    obtain ⟨v5, qv5, e⟩ := gv_bind e
    refine gv_vS (jc := 126) (n := 2) (rest := [gv_u l0]) (stk := [.int v5, gv_u l0]) (pc' := 18) rfl rfl rfl rfl rfl rfl rfl rfl rfl (gv_zR (gv_zI (gv_zI gv_z0))) rfl (gv_aR (gv_aI (gv_aI gv_a0))) (Nat.le_of_ble_eq_true rfl) qi4 (mM_is_ok qv5) rfl rfl ?_
    by_cases c6 : v5 = 0
    · rw [if_pos c6] at e
      refine gv_ifF (pc' := 21) rfl (gv_neF c6) rfl rfl ?_
      refine gv_ic (pc' := 22) (x := 1) rfl rfl rfl ?_
      refine gv_goto (pc' := 26) rfl rfl ?_
      exact gv_weak (mM_take_26_ok e) (gv_S1 rfl (gv_S1 rfl (gv_S1 rfl (gv_S1 rfl gv_S0))))
    rw [if_neg c6] at e
    refine gv_ifT (pc' := 25) rfl (gv_neT c6) rfl ?_
    exact gv_weak (mM_take_25_ok e) (gv_S1 rfl (gv_S1 rfl (gv_S1 rfl (gv_S1 rfl gv_S0))))
  rw [if_neg c3] at e
  refine gv_ifT (pc' := 25) rfl (gv_neT c3) rfl ?_
  exact gv_weak (mM_take_25_ok e) (gv_S1 rfl (gv_S1 rfl (gv_S1 rfl (gv_S1 rfl gv_S0))))
def mM_entryOf_53 (rec3 : Option Nat → Int32 → Int32 → Int32 → Int32 → gx_H → Option Int32) (l0 : Option Nat) (l1 : Int32) (l2 : Int32) (l3 : Int32) (l4 : Int32) (h : gx_H) : Option Int32 :=
  rec3 l0 l1 l2 l3 (l4 + 1) h
theorem mM_entryOf_53_ok {xs : Option (List Int32)} {rec3 : Option Nat → Int32 → Int32 → Int32 → Int32 → gx_H → Option Int32} (hrec3 : ∀ (l0 : Option Nat) (l1 : Int32) (l2 : Int32) (l3 : Int32) (l4 : Int32) (h : gx_H) (r : Int32), rec3 l0 l1 l2 l3 l4 h = some r → gv_V xs 1 143 3 [(0, gv_u l0), (1, .int l1), (2, .int l2), (3, .int l3), (4, .int l4)] [] h (.returned (some (.int r))) h) {l0 : Option Nat} {l1 : Int32} {l2 : Int32} {l3 : Int32} {l4 : Int32} {h : gx_H} {r : Int32} (e : mM_entryOf_53 rec3 l0 l1 l2 l3 l4 h = some r) : gv_V xs 1 143 53 [(0, gv_u l0), (1, .int l1), (2, .int l2), (3, .int l3), (4, .int l4)] [] h (.returned (some (.int r))) h := by
  unfold mM_entryOf_53 at e
  refine gv_inc (pc' := 56) (y := 1) rfl rfl rfl rfl (gv_Ci rfl) rfl ?_
  refine gv_goto (pc' := 3) rfl rfl ?_
  exact gv_weak (hrec3 _ _ _ _ _ _ _ e) (gv_S1 rfl (gv_S1 rfl (gv_S1 rfl (gv_S1 rfl (gv_S1 rfl gv_S0)))))
def mM_entryOf_3 : Nat → Option Nat → Int32 → Int32 → Int32 → Int32 → gx_H → Option Int32
  | 0, _, _, _, _, _, _ => none
  | n + 1, l0, l1, l2, l3, l4, h =>
    (gv_gR h l0 7 3).bind fun v1 =>
    (gv_lI h v1 l1).bind fun v2 =>
    if l4 < v2 then (
      (gv_gR h l0 7 7).bind fun v4 =>
      (gv_lI h v4 (((8 : Int32) * l1) + l4)).bind fun v5 =>
      if v5 = l2 then (
        (gv_gR h l0 7 6).bind fun v7 =>
        (gv_lI h v7 (((8 : Int32) * l1) + l4)).bind fun v8 =>
        (mM_numberOf l2 l3).bind fun v9 =>
        if v8 = v9 then (
          some l4) else
        mM_entryOf_53 (mM_entryOf_3 n) l0 l1 l2 l3 l4 h) else
      mM_entryOf_53 (mM_entryOf_3 n) l0 l1 l2 l3 l4 h) else
    some (-1 : Int32)
theorem mM_entryOf_3_ok {xs : Option (List Int32)} : ∀ (n : Nat) (l0 : Option Nat) (l1 : Int32) (l2 : Int32) (l3 : Int32) (l4 : Int32) (h : gx_H) (r : Int32), mM_entryOf_3 n l0 l1 l2 l3 l4 h = some r → gv_V xs 1 143 3 [(0, gv_u l0), (1, .int l1), (2, .int l2), (3, .int l3), (4, .int l4)] [] h (.returned (some (.int r))) h := by
  intro n
  induction n with
  | zero => intro l0 l1 l2 l3 l4 h r e; cases e
  | succ n ih =>
    intro l0 l1 l2 l3 l4 h r e
    rw [mM_entryOf_3] at e
    refine gv_ild (pc' := 5) rfl rfl rfl ?_
    refine gv_rldn (pc' := 6) rfl rfl rfl ?_
    obtain ⟨v1, qv1, e⟩ := gv_bind e
    refine gv_fR (pc' := 9) rfl rfl qv1 rfl ?_
    refine gv_ildn (pc' := 10) rfl rfl rfl ?_
    obtain ⟨v2, qv2, e⟩ := gv_bind e
    refine gv_iald (pc' := 11) rfl qv2 rfl ?_
    by_cases c3 : l4 < v2
    · rw [if_pos c3] at e
      refine gv_cmF (pc' := 14) rfl (gv_geF2 c3) rfl rfl ?_
      refine gv_rldn (pc' := 15) rfl rfl rfl ?_
      obtain ⟨v4, qv4, e⟩ := gv_bind e
      refine gv_fR (pc' := 18) rfl rfl qv4 rfl ?_
      refine gv_bp (pc' := 20) (x := 8) rfl rfl rfl ?_
      refine gv_ildn (pc' := 21) rfl rfl rfl ?_
      refine gv_imul (pc' := 22) rfl rfl ?_
      refine gv_ild (pc' := 24) rfl rfl rfl ?_
      refine gv_iadd (pc' := 25) rfl rfl ?_
      obtain ⟨v5, qv5, e⟩ := gv_bind e
      refine gv_iald (pc' := 26) rfl qv5 rfl ?_
      refine gv_ildn (pc' := 27) rfl rfl rfl ?_
      by_cases c6 : v5 = l2
      · rw [if_pos c6] at e
        refine gv_cmF (pc' := 30) rfl (gv_neF2 c6) rfl rfl ?_
        refine gv_rldn (pc' := 31) rfl rfl rfl ?_
        obtain ⟨v7, qv7, e⟩ := gv_bind e
        refine gv_fR (pc' := 34) rfl rfl qv7 rfl ?_
        refine gv_bp (pc' := 36) (x := 8) rfl rfl rfl ?_
        refine gv_ildn (pc' := 37) rfl rfl rfl ?_
        refine gv_imul (pc' := 38) rfl rfl ?_
        refine gv_ild (pc' := 40) rfl rfl rfl ?_
        refine gv_iadd (pc' := 41) rfl rfl ?_
        obtain ⟨v8, qv8, e⟩ := gv_bind e
        refine gv_iald (pc' := 42) rfl qv8 rfl ?_
        refine gv_ildn (pc' := 43) rfl rfl rfl ?_
        refine gv_ildn (pc' := 44) rfl rfl rfl ?_
        obtain ⟨v9, qv9, e⟩ := gv_bind e
        refine gv_sS (jc := 139) (n := 2) (rest := [.int v8]) (stk := [.int v9, .int v8]) (pc' := 47) rfl rfl rfl rfl rfl rfl rfl rfl rfl (gv_zI (gv_zI gv_z0)) rfl (gv_aI (gv_aI gv_a0)) (Nat.le_of_ble_eq_true rfl) (mM_numberOf_ok qv9) rfl rfl ?_
        by_cases c10 : v8 = v9
        · rw [if_pos c10] at e
          refine gv_cmF (pc' := 50) rfl (gv_neF2 c10) rfl rfl ?_
          refine gv_ild (pc' := 52) rfl rfl rfl ?_
          cases e
          exact gv_retI rfl rfl
        rw [if_neg c10] at e
        refine gv_cmT (pc' := 53) rfl (gv_neT2 c10) rfl ?_
        exact gv_weak (mM_entryOf_53_ok ih e) (gv_S1 rfl (gv_S1 rfl (gv_S1 rfl (gv_S1 rfl (gv_S1 rfl gv_S0)))))
      rw [if_neg c6] at e
      refine gv_cmT (pc' := 53) rfl (gv_neT2 c6) rfl ?_
      exact gv_weak (mM_entryOf_53_ok ih e) (gv_S1 rfl (gv_S1 rfl (gv_S1 rfl (gv_S1 rfl (gv_S1 rfl gv_S0)))))
    rw [if_neg c3] at e
    refine gv_cmT (pc' := 59) rfl (gv_geT2 c3) rfl ?_
    refine gv_ic (pc' := 60) (x := -1) rfl rfl rfl ?_
    cases e
    exact gv_retI rfl rfl
def mM_entryOf (l0 : Option Nat) (l1 : Int32) (l2 : Int32) (l3 : Int32) (h : gx_H) : Option Int32 :=
  mM_entryOf_3 1000000000000000 l0 l1 l2 l3 (0 : Int32) h
theorem mM_entryOf_ok {xs : Option (List Int32)} {l0 : Option Nat} {l1 : Int32} {l2 : Int32} {l3 : Int32} {h : gx_H} {r : Int32} (e : mM_entryOf l0 l1 l2 l3 h = some r) : gv_V xs 1 143 0 [(0, gv_u l0), (1, .int l1), (2, .int l2), (3, .int l3)] [] h (.returned (some (.int r))) h := by
  unfold mM_entryOf at e
  refine gv_ic (pc' := 1) (x := 0) rfl rfl rfl ?_
  refine gv_ist (pc' := 3) rfl rfl (gv_Ci rfl) rfl ?_
  exact gv_weak (mM_entryOf_3_ok 1000000000000000 _ _ _ _ _ _ _ e) (gv_S1 rfl (gv_S1 rfl (gv_S1 rfl (gv_S1 rfl (gv_S1 rfl gv_S0)))))
def mM_entry_150 (l0 : Option Nat) (l1 : Int32) (l4 : Int32) (l5 : Int32) (l7 : Int32) (h : gx_H) : Option gx_H :=
  (gv_is h l0 7).bind fun i1 =>
  (mM_setSlot l0 (((8 : Int32) * l1) + l7) l4 l5 h).bind fun h3 =>
  some h3
theorem mM_entry_150_ok {xs : Option (List Int32)} {l0 : Option Nat} {l1 : Int32} {l4 : Int32} {l5 : Int32} {l7 : Int32} {h : gx_H} {r : gx_H} (e : mM_entry_150 l0 l1 l4 l5 l7 h = some r) : gv_V xs 2 142 150 [(0, gv_u l0), (1, .int l1), (4, .int l4), (5, .int l5), (7, .int l7)] [] h (.returned none) r := by
  unfold mM_entry_150 at e
  refine gv_rldn (pc' := 151) rfl rfl rfl ?_
  refine gv_bp (pc' := 153) (x := 8) rfl rfl rfl ?_
  refine gv_ildn (pc' := 154) rfl rfl rfl ?_
  refine gv_imul (pc' := 155) rfl rfl ?_
  refine gv_ild (pc' := 157) rfl rfl rfl ?_
  refine gv_iadd (pc' := 158) rfl rfl ?_
  refine gv_ild (pc' := 160) rfl rfl rfl ?_
  refine gv_ild (pc' := 162) rfl rfl rfl ?_
  obtain ⟨i1, qi1, e⟩ := gv_bind e
  obtain ⟨h3, qv2, e⟩ := gv_bind e
  refine gv_vS (jc := 138) (n := 3) (rest := []) (stk := []) (pc' := 165) rfl rfl rfl rfl rfl rfl rfl rfl rfl (gv_zR (gv_zI (gv_zI (gv_zI gv_z0)))) rfl (gv_aR (gv_aI (gv_aI (gv_aI gv_a0)))) (Nat.le_of_ble_eq_true rfl) qi1 (mM_setSlot_ok qv2) rfl rfl ?_
  cases e
  exact gv_retV rfl rfl
def mM_entry_90 (l0 : Option Nat) (l1 : Int32) (l2 : Int32) (l3 : Int32) (l4 : Int32) (l5 : Int32) (l7 : Int32) (s0 : Option Nat) (s1 : Int32) (s2 : Int32) (h : gx_H) : Option gx_H :=
  (gv_is h s0 7).bind fun i1 =>
  (mM_refused s0 s1 s2 h).bind fun r4 =>
  if r4.1 = 0 then (
    if l7 < 0 then (
      (gv_gR r4.2 l0 7 3).bind fun v7 =>
      (gv_lI r4.2 v7 l1).bind fun v8 =>
      (gv_gR r4.2 l0 7 3).bind fun v9 =>
      (gv_lI r4.2 v9 l1).bind fun v10 =>
      (gv_wI r4.2 v9 l1 (v10 + (1 : Int32))).bind fun h11 =>
      (gv_gR h11 l0 7 7).bind fun v12 =>
      (gv_wI h11 v12 (((8 : Int32) * l1) + v8) l2).bind fun h13 =>
      (gv_gR h13 l0 7 6).bind fun v14 =>
      (mM_numberOf l2 l3).bind fun v15 =>
      (gv_wI h13 v14 (((8 : Int32) * l1) + v8) v15).bind fun h16 =>
      mM_entry_150 l0 l1 l4 l5 v8 h16) else
    mM_entry_150 l0 l1 l4 l5 l7 r4.2) else
  some r4.2
theorem mM_entry_90_ok {xs : Option (List Int32)} {l0 : Option Nat} {l1 : Int32} {l2 : Int32} {l3 : Int32} {l4 : Int32} {l5 : Int32} {l7 : Int32} {s0 : Option Nat} {s1 : Int32} {s2 : Int32} {h : gx_H} {r : gx_H} (e : mM_entry_90 l0 l1 l2 l3 l4 l5 l7 s0 s1 s2 h = some r) : gv_V xs 2 142 90 [(0, gv_u l0), (1, .int l1), (2, .int l2), (3, .int l3), (4, .int l4), (5, .int l5), (7, .int l7)] [.int s2, .int s1, gv_u s0] h (.returned none) r := by
  unfold mM_entry_90 at e
  obtain ⟨i1, qi1, e⟩ := gv_bind e
  obtain ⟨⟨v2, h3⟩, qv2, e⟩ := gv_bind e
  refine gv_vS (jc := 121) (n := 2) (rest := []) (stk := [.int v2]) (pc' := 93) rfl rfl rfl rfl rfl rfl rfl rfl rfl (gv_zR (gv_zI (gv_zI gv_z0))) rfl (gv_aR (gv_aI (gv_aI gv_a0))) (Nat.le_of_ble_eq_true rfl) qi1 (mM_refused_ok qv2) rfl rfl ?_
  by_cases c5 : v2 = 0
  · rw [if_pos c5] at e
    refine gv_ifT (pc' := 97) rfl (gv_eqT c5) rfl ?_
    refine gv_ild (pc' := 99) rfl rfl rfl ?_
    by_cases c6 : l7 < 0
    · rw [if_pos c6] at e
      refine gv_ifF (pc' := 102) rfl (gv_geF c6) rfl rfl ?_
      refine gv_rldn (pc' := 103) rfl rfl rfl ?_
      obtain ⟨v7, qv7, e⟩ := gv_bind e
      refine gv_fR (pc' := 106) rfl rfl qv7 rfl ?_
      refine gv_ildn (pc' := 107) rfl rfl rfl ?_
      obtain ⟨v8, qv8, e⟩ := gv_bind e
      refine gv_iald (pc' := 108) rfl qv8 rfl ?_
      refine gv_ist (pc' := 110) rfl rfl (gv_Cn rfl) rfl ?_
      refine gv_rldn (pc' := 111) rfl rfl rfl ?_
      obtain ⟨v9, qv9, e⟩ := gv_bind e
      refine gv_fR (pc' := 114) rfl rfl qv9 rfl ?_
      refine gv_ildn (pc' := 115) rfl rfl rfl ?_
      refine gv_dup2 (pc' := 116) rfl rfl (gv_u_cat _) rfl ?_
      obtain ⟨v10, qv10, e⟩ := gv_bind e
      refine gv_iald (pc' := 117) rfl qv10 rfl ?_
      refine gv_ic (pc' := 118) (x := 1) rfl rfl rfl ?_
      refine gv_iadd (pc' := 119) rfl rfl ?_
      obtain ⟨h11, qh11, e⟩ := gv_bind e
      refine gv_iast (pc' := 120) rfl qh11 rfl ?_
      refine gv_rldn (pc' := 121) rfl rfl rfl ?_
      obtain ⟨v12, qv12, e⟩ := gv_bind e
      refine gv_fR (pc' := 124) rfl rfl qv12 rfl ?_
      refine gv_bp (pc' := 126) (x := 8) rfl rfl rfl ?_
      refine gv_ildn (pc' := 127) rfl rfl rfl ?_
      refine gv_imul (pc' := 128) rfl rfl ?_
      refine gv_ild (pc' := 130) rfl rfl rfl ?_
      refine gv_iadd (pc' := 131) rfl rfl ?_
      refine gv_ildn (pc' := 132) rfl rfl rfl ?_
      obtain ⟨h13, qh13, e⟩ := gv_bind e
      refine gv_iast (pc' := 133) rfl qh13 rfl ?_
      refine gv_rldn (pc' := 134) rfl rfl rfl ?_
      obtain ⟨v14, qv14, e⟩ := gv_bind e
      refine gv_fR (pc' := 137) rfl rfl qv14 rfl ?_
      refine gv_bp (pc' := 139) (x := 8) rfl rfl rfl ?_
      refine gv_ildn (pc' := 140) rfl rfl rfl ?_
      refine gv_imul (pc' := 141) rfl rfl ?_
      refine gv_ild (pc' := 143) rfl rfl rfl ?_
      refine gv_iadd (pc' := 144) rfl rfl ?_
      refine gv_ildn (pc' := 145) rfl rfl rfl ?_
      refine gv_ildn (pc' := 146) rfl rfl rfl ?_
      obtain ⟨v15, qv15, e⟩ := gv_bind e
      refine gv_sS (jc := 139) (n := 2) (rest := [.int (((8 : Int32) * l1) + v8), gv_u v14]) (stk := [.int v15, .int (((8 : Int32) * l1) + v8), gv_u v14]) (pc' := 149) rfl rfl rfl rfl rfl rfl rfl rfl rfl (gv_zI (gv_zI gv_z0)) rfl (gv_aI (gv_aI gv_a0)) (Nat.le_of_ble_eq_true rfl) (mM_numberOf_ok qv15) rfl rfl ?_
      obtain ⟨h16, qh16, e⟩ := gv_bind e
      refine gv_iast (pc' := 150) rfl qh16 rfl ?_
      exact gv_weak (mM_entry_150_ok e) (gv_S1 rfl (gv_S1 rfl (gv_S1 rfl (gv_S1 rfl (gv_S1 rfl gv_S0)))))
    rw [if_neg c6] at e
    refine gv_ifT (pc' := 150) rfl (gv_geT c6) rfl ?_
    exact gv_weak (mM_entry_150_ok e) (gv_S1 rfl (gv_S1 rfl (gv_S1 rfl (gv_S1 rfl (gv_S1 rfl gv_S0)))))
  rw [if_neg c5] at e
  refine gv_ifF (pc' := 96) rfl (gv_eqF c5) rfl rfl ?_
  cases e
  exact gv_retV rfl rfl
def mM_entry_89 (l0 : Option Nat) (l1 : Int32) (l2 : Int32) (l3 : Int32) (l4 : Int32) (l5 : Int32) (l7 : Int32) (s0 : Option Nat) (s1 : Int32) (h : gx_H) : Option gx_H :=
  mM_entry_90 l0 l1 l2 l3 l4 l5 l7 s0 s1 (0 : Int32) h
theorem mM_entry_89_ok {xs : Option (List Int32)} {l0 : Option Nat} {l1 : Int32} {l2 : Int32} {l3 : Int32} {l4 : Int32} {l5 : Int32} {l7 : Int32} {s0 : Option Nat} {s1 : Int32} {h : gx_H} {r : gx_H} (e : mM_entry_89 l0 l1 l2 l3 l4 l5 l7 s0 s1 h = some r) : gv_V xs 2 142 89 [(0, gv_u l0), (1, .int l1), (2, .int l2), (3, .int l3), (4, .int l4), (5, .int l5), (7, .int l7)] [.int s1, gv_u s0] h (.returned none) r := by
  unfold mM_entry_89 at e
  refine gv_ic (pc' := 90) (x := 0) rfl rfl rfl ?_
  exact gv_weak (mM_entry_90_ok e) (gv_S1 rfl (gv_S1 rfl (gv_S1 rfl (gv_S1 rfl (gv_S1 rfl (gv_S1 rfl (gv_S1 rfl gv_S0)))))))
def mM_entry_65 (l0 : Option Nat) (l1 : Int32) (l2 : Int32) (l3 : Int32) (l4 : Int32) (l5 : Int32) (l6 : Int32) (l7 : Int32) (s0 : Option Nat) (s1 : Int32) (h : gx_H) : Option gx_H :=
  if l6 = 0 then (
    mM_entry_89 l0 l1 l2 l3 l4 l5 l7 s0 s1 h) else
  if l7 < 0 then (
    (gv_gR h l0 7 3).bind fun v3 =>
    (gv_lI h v3 l1).bind fun v4 =>
    if v4 = (4 : Int32) then (
      mM_entry_90 l0 l1 l2 l3 l4 l5 l7 s0 s1 (1 : Int32) h) else
    mM_entry_89 l0 l1 l2 l3 l4 l5 l7 s0 s1 h) else
  mM_entry_89 l0 l1 l2 l3 l4 l5 l7 s0 s1 h
theorem mM_entry_65_ok {xs : Option (List Int32)} {l0 : Option Nat} {l1 : Int32} {l2 : Int32} {l3 : Int32} {l4 : Int32} {l5 : Int32} {l6 : Int32} {l7 : Int32} {s0 : Option Nat} {s1 : Int32} {h : gx_H} {r : gx_H} (e : mM_entry_65 l0 l1 l2 l3 l4 l5 l6 l7 s0 s1 h = some r) : gv_V xs 2 142 65 [(0, gv_u l0), (1, .int l1), (2, .int l2), (3, .int l3), (4, .int l4), (5, .int l5), (6, .int l6), (7, .int l7)] [.int s1, gv_u s0] h (.returned none) r := by
  unfold mM_entry_65 at e
  refine gv_ild (pc' := 67) rfl rfl rfl ?_
  by_cases c1 : l6 = 0
  · rw [if_pos c1] at e
    refine gv_ifT (pc' := 89) rfl (gv_eqT c1) rfl ?_
    exact gv_weak (mM_entry_89_ok e) (gv_S1 rfl (gv_S1 rfl (gv_S1 rfl (gv_S1 rfl (gv_S1 rfl (gv_S1 rfl (gv_S1 rfl gv_S0)))))))
  rw [if_neg c1] at e
  refine gv_ifF (pc' := 70) rfl (gv_eqF c1) rfl rfl ?_
  refine gv_ild (pc' := 72) rfl rfl rfl ?_
  by_cases c2 : l7 < 0
  · rw [if_pos c2] at e
    refine gv_ifF (pc' := 75) rfl (gv_geF c2) rfl rfl ?_
    refine gv_rldn (pc' := 76) rfl rfl rfl ?_
    obtain ⟨v3, qv3, e⟩ := gv_bind e
    refine gv_fR (pc' := 79) rfl rfl qv3 rfl ?_
    refine gv_ildn (pc' := 80) rfl rfl rfl ?_
    obtain ⟨v4, qv4, e⟩ := gv_bind e
    refine gv_iald (pc' := 81) rfl qv4 rfl ?_
    refine gv_ic (pc' := 82) (x := 4) rfl rfl rfl ?_
    by_cases c5 : v4 = (4 : Int32)
    · rw [if_pos c5] at e
      refine gv_cmF (pc' := 85) rfl (gv_neF2 c5) rfl rfl ?_
      refine gv_ic (pc' := 86) (x := 1) rfl rfl rfl ?_
      refine gv_goto (pc' := 90) rfl rfl ?_
      exact gv_weak (mM_entry_90_ok e) (gv_S1 rfl (gv_S1 rfl (gv_S1 rfl (gv_S1 rfl (gv_S1 rfl (gv_S1 rfl (gv_S1 rfl gv_S0)))))))
    rw [if_neg c5] at e
    refine gv_cmT (pc' := 89) rfl (gv_neT2 c5) rfl ?_
    exact gv_weak (mM_entry_89_ok e) (gv_S1 rfl (gv_S1 rfl (gv_S1 rfl (gv_S1 rfl (gv_S1 rfl (gv_S1 rfl (gv_S1 rfl gv_S0)))))))
  rw [if_neg c2] at e
  refine gv_ifT (pc' := 89) rfl (gv_geT c2) rfl ?_
  exact gv_weak (mM_entry_89_ok e) (gv_S1 rfl (gv_S1 rfl (gv_S1 rfl (gv_S1 rfl (gv_S1 rfl (gv_S1 rfl (gv_S1 rfl gv_S0)))))))
def mM_entry_52 (l0 : Option Nat) (l1 : Int32) (l2 : Int32) (l3 : Int32) (l4 : Int32) (l5 : Int32) (l6 : Int32) (s0 : Int32) (h : gx_H) : Option gx_H :=
  if l6 = 0 then (
    mM_entry_65 l0 l1 l2 l3 l4 l5 l6 s0 l0 (1 : Int32) h) else
  mM_entry_65 l0 l1 l2 l3 l4 l5 l6 s0 l0 (0 : Int32) h
theorem mM_entry_52_ok {xs : Option (List Int32)} {l0 : Option Nat} {l1 : Int32} {l2 : Int32} {l3 : Int32} {l4 : Int32} {l5 : Int32} {l6 : Int32} {s0 : Int32} {h : gx_H} {r : gx_H} (e : mM_entry_52 l0 l1 l2 l3 l4 l5 l6 s0 h = some r) : gv_V xs 2 142 52 [(0, gv_u l0), (1, .int l1), (2, .int l2), (3, .int l3), (4, .int l4), (5, .int l5), (6, .int l6)] [.int s0] h (.returned none) r := by
  unfold mM_entry_52 at e
  refine gv_ist (pc' := 54) rfl rfl (gv_Ci rfl) rfl ?_
  refine gv_rldn (pc' := 55) rfl rfl rfl ?_
  refine gv_ild (pc' := 57) rfl rfl rfl ?_
  by_cases c1 : l6 = 0
  · rw [if_pos c1] at e
    refine gv_ifF (pc' := 60) rfl (gv_neF c1) rfl rfl ?_
    refine gv_ic (pc' := 61) (x := 1) rfl rfl rfl ?_
    refine gv_goto (pc' := 65) rfl rfl ?_
    exact gv_weak (mM_entry_65_ok e) (gv_S1 rfl (gv_S1 rfl (gv_S1 rfl (gv_S1 rfl (gv_S1 rfl (gv_S1 rfl (gv_S1 rfl (gv_S1 rfl gv_S0))))))))
  rw [if_neg c1] at e
  refine gv_ifT (pc' := 64) rfl (gv_neT c1) rfl ?_
  refine gv_ic (pc' := 65) (x := 0) rfl rfl rfl ?_
  exact gv_weak (mM_entry_65_ok e) (gv_S1 rfl (gv_S1 rfl (gv_S1 rfl (gv_S1 rfl (gv_S1 rfl (gv_S1 rfl (gv_S1 rfl (gv_S1 rfl gv_S0))))))))
def mM_entry_34 (l0 : Option Nat) (l1 : Int32) (l2 : Int32) (l3 : Int32) (l4 : Int32) (l5 : Int32) (s0 : Int32) (h : gx_H) : Option gx_H :=
  if s0 = 0 then (
    mM_entry_52 l0 l1 l2 l3 l4 l5 s0 (-1 : Int32) h) else
  (gv_is h l0 7).bind fun i2 =>
  (mM_entryOf l0 l1 l2 l3 h).bind fun v3 =>
  mM_entry_52 l0 l1 l2 l3 l4 l5 s0 v3 h
theorem mM_entry_34_ok {xs : Option (List Int32)} {l0 : Option Nat} {l1 : Int32} {l2 : Int32} {l3 : Int32} {l4 : Int32} {l5 : Int32} {s0 : Int32} {h : gx_H} {r : gx_H} (e : mM_entry_34 l0 l1 l2 l3 l4 l5 s0 h = some r) : gv_V xs 2 142 34 [(0, gv_u l0), (1, .int l1), (2, .int l2), (3, .int l3), (4, .int l4), (5, .int l5)] [.int s0] h (.returned none) r := by
  unfold mM_entry_34 at e
  refine gv_ist (pc' := 36) rfl rfl (gv_Ci rfl) rfl ?_
  refine gv_ild (pc' := 38) rfl rfl rfl ?_
  by_cases c1 : s0 = 0
  · rw [if_pos c1] at e
    refine gv_ifT (pc' := 51) rfl (gv_eqT c1) rfl ?_
    refine gv_ic (pc' := 52) (x := -1) rfl rfl rfl ?_
    exact gv_weak (mM_entry_52_ok e) (gv_S1 rfl (gv_S1 rfl (gv_S1 rfl (gv_S1 rfl (gv_S1 rfl (gv_S1 rfl (gv_S1 rfl gv_S0)))))))
  rw [if_neg c1] at e
  refine gv_ifF (pc' := 41) rfl (gv_eqF c1) rfl rfl ?_
  refine gv_rldn (pc' := 42) rfl rfl rfl ?_
  refine gv_ildn (pc' := 43) rfl rfl rfl ?_
  refine gv_ildn (pc' := 44) rfl rfl rfl ?_
  refine gv_ildn (pc' := 45) rfl rfl rfl ?_
  obtain ⟨i2, qi2, e⟩ := gv_bind e
  obtain ⟨v3, qv3, e⟩ := gv_bind e
  refine gv_vS (jc := 143) (n := 3) (rest := []) (stk := [.int v3]) (pc' := 48) rfl rfl rfl rfl rfl rfl rfl rfl rfl (gv_zR (gv_zI (gv_zI (gv_zI gv_z0)))) rfl (gv_aR (gv_aI (gv_aI (gv_aI gv_a0)))) (Nat.le_of_ble_eq_true rfl) qi2 (mM_entryOf_ok qv3) rfl rfl ?_
  refine gv_goto (pc' := 52) rfl rfl ?_
  exact gv_weak (mM_entry_52_ok e) (gv_S1 rfl (gv_S1 rfl (gv_S1 rfl (gv_S1 rfl (gv_S1 rfl (gv_S1 rfl (gv_S1 rfl gv_S0)))))))
def mM_entry_33 (l0 : Option Nat) (l1 : Int32) (l2 : Int32) (l3 : Int32) (l4 : Int32) (l5 : Int32) (h : gx_H) : Option gx_H :=
  mM_entry_34 l0 l1 l2 l3 l4 l5 (0 : Int32) h
theorem mM_entry_33_ok {xs : Option (List Int32)} {l0 : Option Nat} {l1 : Int32} {l2 : Int32} {l3 : Int32} {l4 : Int32} {l5 : Int32} {h : gx_H} {r : gx_H} (e : mM_entry_33 l0 l1 l2 l3 l4 l5 h = some r) : gv_V xs 2 142 33 [(0, gv_u l0), (1, .int l1), (2, .int l2), (3, .int l3), (4, .int l4), (5, .int l5)] [] h (.returned none) r := by
  unfold mM_entry_33 at e
  refine gv_ic (pc' := 34) (x := 0) rfl rfl rfl ?_
  exact gv_weak (mM_entry_34_ok e) (gv_S1 rfl (gv_S1 rfl (gv_S1 rfl (gv_S1 rfl (gv_S1 rfl (gv_S1 rfl gv_S0))))))
def mM_entry (l0 : Option Nat) (l1 : Int32) (l2 : Int32) (l3 : Int32) (l4 : Int32) (l5 : Int32) (h : gx_H) : Option gx_H :=
  (gv_is h l0 7).bind fun i1 =>
  (mM_is l0 l1 (2 : Int32) h).bind fun v2 =>
  if v2 = 0 then (
    mM_entry_33 l0 l1 l2 l3 l4 l5 h) else
  (gv_is h l0 7).bind fun i4 =>
  (mM_isValue l0 l2 l3 h).bind fun v5 =>
  if v5 = 0 then (
    mM_entry_33 l0 l1 l2 l3 l4 l5 h) else
  (gv_is h l0 7).bind fun i7 =>
  (mM_isValue l0 l4 l5 h).bind fun v8 =>
  if v8 = 0 then (
    mM_entry_33 l0 l1 l2 l3 l4 l5 h) else
  mM_entry_34 l0 l1 l2 l3 l4 l5 (1 : Int32) h
theorem mM_entry_ok {xs : Option (List Int32)} {l0 : Option Nat} {l1 : Int32} {l2 : Int32} {l3 : Int32} {l4 : Int32} {l5 : Int32} {h : gx_H} {r : gx_H} (e : mM_entry l0 l1 l2 l3 l4 l5 h = some r) : gv_V xs 2 142 0 [(0, gv_u l0), (1, .int l1), (2, .int l2), (3, .int l3), (4, .int l4), (5, .int l5)] [] h (.returned none) r := by
  unfold mM_entry at e
  refine gv_rldn (pc' := 1) rfl rfl rfl ?_
  refine gv_ildn (pc' := 2) rfl rfl rfl ?_
  refine gv_ic (pc' := 3) (x := 2) rfl rfl rfl ?_
  obtain ⟨i1, qi1, e⟩ := gv_bind e
  obtain ⟨v2, qv2, e⟩ := gv_bind e
  refine gv_vS (jc := 126) (n := 2) (rest := []) (stk := [.int v2]) (pc' := 6) rfl rfl rfl rfl rfl rfl rfl rfl rfl (gv_zR (gv_zI (gv_zI gv_z0))) rfl (gv_aR (gv_aI (gv_aI gv_a0))) (Nat.le_of_ble_eq_true rfl) qi1 (mM_is_ok qv2) rfl rfl ?_
  by_cases c3 : v2 = 0
  · rw [if_pos c3] at e
    refine gv_ifT (pc' := 33) rfl (gv_eqT c3) rfl ?_
    exact gv_weak (mM_entry_33_ok e) (gv_S1 rfl (gv_S1 rfl (gv_S1 rfl (gv_S1 rfl (gv_S1 rfl (gv_S1 rfl gv_S0))))))
  rw [if_neg c3] at e
  refine gv_ifF (pc' := 9) rfl (gv_eqF c3) rfl rfl ?_
  refine gv_rldn (pc' := 10) rfl rfl rfl ?_
  refine gv_ildn (pc' := 11) rfl rfl rfl ?_
  refine gv_ildn (pc' := 12) rfl rfl rfl ?_
  obtain ⟨i4, qi4, e⟩ := gv_bind e
  obtain ⟨v5, qv5, e⟩ := gv_bind e
  refine gv_vS (jc := 133) (n := 2) (rest := []) (stk := [.int v5]) (pc' := 15) rfl rfl rfl rfl rfl rfl rfl rfl rfl (gv_zR (gv_zI (gv_zI gv_z0))) rfl (gv_aR (gv_aI (gv_aI gv_a0))) (Nat.le_of_ble_eq_true rfl) qi4 (mM_isValue_ok qv5) rfl rfl ?_
  by_cases c6 : v5 = 0
  · rw [if_pos c6] at e
    refine gv_ifT (pc' := 33) rfl (gv_eqT c6) rfl ?_
    exact gv_weak (mM_entry_33_ok e) (gv_S1 rfl (gv_S1 rfl (gv_S1 rfl (gv_S1 rfl (gv_S1 rfl (gv_S1 rfl gv_S0))))))
  rw [if_neg c6] at e
  refine gv_ifF (pc' := 18) rfl (gv_eqF c6) rfl rfl ?_
  refine gv_rldn (pc' := 19) rfl rfl rfl ?_
  refine gv_ild (pc' := 21) rfl rfl rfl ?_
  refine gv_ild (pc' := 23) rfl rfl rfl ?_
  obtain ⟨i7, qi7, e⟩ := gv_bind e
  obtain ⟨v8, qv8, e⟩ := gv_bind e
  refine gv_vS (jc := 133) (n := 2) (rest := []) (stk := [.int v8]) (pc' := 26) rfl rfl rfl rfl rfl rfl rfl rfl rfl (gv_zR (gv_zI (gv_zI gv_z0))) rfl (gv_aR (gv_aI (gv_aI gv_a0))) (Nat.le_of_ble_eq_true rfl) qi7 (mM_isValue_ok qv8) rfl rfl ?_
  by_cases c9 : v8 = 0
  · rw [if_pos c9] at e
    refine gv_ifT (pc' := 33) rfl (gv_eqT c9) rfl ?_
    exact gv_weak (mM_entry_33_ok e) (gv_S1 rfl (gv_S1 rfl (gv_S1 rfl (gv_S1 rfl (gv_S1 rfl (gv_S1 rfl gv_S0))))))
  rw [if_neg c9] at e
  refine gv_ifF (pc' := 29) rfl (gv_eqF c9) rfl rfl ?_
  refine gv_ic (pc' := 30) (x := 1) rfl rfl rfl ?_
  refine gv_goto (pc' := 34) rfl rfl ?_
  exact gv_weak (mM_entry_34_ok e) (gv_S1 rfl (gv_S1 rfl (gv_S1 rfl (gv_S1 rfl (gv_S1 rfl (gv_S1 rfl gv_S0))))))
def mM_hasMember_63 (rec6 : Option Nat → Int32 → Int32 → Int32 → Int32 → Int32 → gx_H → Option Int32) (l0 : Option Nat) (l1 : Int32) (l2 : Int32) (l3 : Int32) (l5 : Int32) (s0 : Int32) (h : gx_H) : Option Int32 :=
  rec6 l0 l1 l2 l3 s0 (l5 + 1) h
theorem mM_hasMember_63_ok {xs : Option (List Int32)} {rec6 : Option Nat → Int32 → Int32 → Int32 → Int32 → Int32 → gx_H → Option Int32} (hrec6 : ∀ (l0 : Option Nat) (l1 : Int32) (l2 : Int32) (l3 : Int32) (l4 : Int32) (l5 : Int32) (h : gx_H) (r : Int32), rec6 l0 l1 l2 l3 l4 l5 h = some r → gv_V xs 1 145 6 [(0, gv_u l0), (1, .int l1), (2, .int l2), (3, .int l3), (4, .int l4), (5, .int l5)] [] h (.returned (some (.int r))) h) {l0 : Option Nat} {l1 : Int32} {l2 : Int32} {l3 : Int32} {l5 : Int32} {s0 : Int32} {h : gx_H} {r : Int32} (e : mM_hasMember_63 rec6 l0 l1 l2 l3 l5 s0 h = some r) : gv_V xs 1 145 63 [(0, gv_u l0), (1, .int l1), (2, .int l2), (3, .int l3), (5, .int l5)] [.int s0] h (.returned (some (.int r))) h := by
  unfold mM_hasMember_63 at e
  refine gv_ist (pc' := 65) rfl rfl (gv_Ci rfl) rfl ?_
  refine gv_inc (pc' := 68) (y := 1) rfl rfl rfl rfl (gv_Ci rfl) rfl ?_
  refine gv_goto (pc' := 6) rfl rfl ?_
  exact gv_weak (hrec6 _ _ _ _ _ _ _ _ e) (gv_S1 rfl (gv_S1 rfl (gv_S1 rfl (gv_S1 rfl (gv_S1 rfl (gv_S1 rfl gv_S0))))))
def mM_hasMember_58 (rec6 : Option Nat → Int32 → Int32 → Int32 → Int32 → Int32 → gx_H → Option Int32) (l0 : Option Nat) (l1 : Int32) (l2 : Int32) (l3 : Int32) (l5 : Int32) (h : gx_H) : Option Int32 :=
  mM_hasMember_63 rec6 l0 l1 l2 l3 l5 (1 : Int32) h
theorem mM_hasMember_58_ok {xs : Option (List Int32)} {rec6 : Option Nat → Int32 → Int32 → Int32 → Int32 → Int32 → gx_H → Option Int32} (hrec6 : ∀ (l0 : Option Nat) (l1 : Int32) (l2 : Int32) (l3 : Int32) (l4 : Int32) (l5 : Int32) (h : gx_H) (r : Int32), rec6 l0 l1 l2 l3 l4 l5 h = some r → gv_V xs 1 145 6 [(0, gv_u l0), (1, .int l1), (2, .int l2), (3, .int l3), (4, .int l4), (5, .int l5)] [] h (.returned (some (.int r))) h) {l0 : Option Nat} {l1 : Int32} {l2 : Int32} {l3 : Int32} {l5 : Int32} {h : gx_H} {r : Int32} (e : mM_hasMember_58 rec6 l0 l1 l2 l3 l5 h = some r) : gv_V xs 1 145 58 [(0, gv_u l0), (1, .int l1), (2, .int l2), (3, .int l3), (5, .int l5)] [] h (.returned (some (.int r))) h := by
  unfold mM_hasMember_58 at e
  refine gv_ic (pc' := 59) (x := 1) rfl rfl rfl ?_
  refine gv_goto (pc' := 63) rfl rfl ?_
  exact gv_weak (mM_hasMember_63_ok hrec6 e) (gv_S1 rfl (gv_S1 rfl (gv_S1 rfl (gv_S1 rfl (gv_S1 rfl gv_S0)))))
def mM_hasMember_62 (rec6 : Option Nat → Int32 → Int32 → Int32 → Int32 → Int32 → gx_H → Option Int32) (l0 : Option Nat) (l1 : Int32) (l2 : Int32) (l3 : Int32) (l5 : Int32) (h : gx_H) : Option Int32 :=
  mM_hasMember_63 rec6 l0 l1 l2 l3 l5 (0 : Int32) h
theorem mM_hasMember_62_ok {xs : Option (List Int32)} {rec6 : Option Nat → Int32 → Int32 → Int32 → Int32 → Int32 → gx_H → Option Int32} (hrec6 : ∀ (l0 : Option Nat) (l1 : Int32) (l2 : Int32) (l3 : Int32) (l4 : Int32) (l5 : Int32) (h : gx_H) (r : Int32), rec6 l0 l1 l2 l3 l4 l5 h = some r → gv_V xs 1 145 6 [(0, gv_u l0), (1, .int l1), (2, .int l2), (3, .int l3), (4, .int l4), (5, .int l5)] [] h (.returned (some (.int r))) h) {l0 : Option Nat} {l1 : Int32} {l2 : Int32} {l3 : Int32} {l5 : Int32} {h : gx_H} {r : Int32} (e : mM_hasMember_62 rec6 l0 l1 l2 l3 l5 h = some r) : gv_V xs 1 145 62 [(0, gv_u l0), (1, .int l1), (2, .int l2), (3, .int l3), (5, .int l5)] [] h (.returned (some (.int r))) h := by
  unfold mM_hasMember_62 at e
  refine gv_ic (pc' := 63) (x := 0) rfl rfl rfl ?_
  exact gv_weak (mM_hasMember_63_ok hrec6 e) (gv_S1 rfl (gv_S1 rfl (gv_S1 rfl (gv_S1 rfl (gv_S1 rfl gv_S0)))))
def mM_hasMember_6 : Nat → Option Nat → Int32 → Int32 → Int32 → Int32 → Int32 → gx_H → Option Int32
  | 0, _, _, _, _, _, _, _ => none
  | n + 1, l0, l1, l2, l3, l4, l5, h =>
    (gv_gR h l0 7 3).bind fun v1 =>
    (gv_lI h v1 l1).bind fun v2 =>
    if l5 < v2 then (
      if l4 = 0 then (
        (gv_gR h l0 7 8).bind fun v5 =>
        (gv_lI h v5 (((8 : Int32) * l1) + l5)).bind fun v6 =>
        if v6 = l2 then (
          (gv_gR h l0 7 9).bind fun v8 =>
          (gv_lI h v8 (((8 : Int32) * l1) + l5)).bind fun v9 =>
          (mM_numberOf l2 l3).bind fun v10 =>
          if v9 = v10 then (
            mM_hasMember_58 (mM_hasMember_6 n) l0 l1 l2 l3 l5 h) else
          mM_hasMember_62 (mM_hasMember_6 n) l0 l1 l2 l3 l5 h) else
        mM_hasMember_62 (mM_hasMember_6 n) l0 l1 l2 l3 l5 h) else
      mM_hasMember_58 (mM_hasMember_6 n) l0 l1 l2 l3 l5 h) else
    if ¬ (l4 = 0 ∨ l4 = 1) then none else
    some l4
theorem mM_hasMember_6_ok {xs : Option (List Int32)} : ∀ (n : Nat) (l0 : Option Nat) (l1 : Int32) (l2 : Int32) (l3 : Int32) (l4 : Int32) (l5 : Int32) (h : gx_H) (r : Int32), mM_hasMember_6 n l0 l1 l2 l3 l4 l5 h = some r → gv_V xs 1 145 6 [(0, gv_u l0), (1, .int l1), (2, .int l2), (3, .int l3), (4, .int l4), (5, .int l5)] [] h (.returned (some (.int r))) h := by
  intro n
  induction n with
  | zero => intro l0 l1 l2 l3 l4 l5 h r e; cases e
  | succ n ih =>
    intro l0 l1 l2 l3 l4 l5 h r e
    rw [mM_hasMember_6] at e
    refine gv_ild (pc' := 8) rfl rfl rfl ?_
    refine gv_rldn (pc' := 9) rfl rfl rfl ?_
    obtain ⟨v1, qv1, e⟩ := gv_bind e
    refine gv_fR (pc' := 12) rfl rfl qv1 rfl ?_
    refine gv_ildn (pc' := 13) rfl rfl rfl ?_
    obtain ⟨v2, qv2, e⟩ := gv_bind e
    refine gv_iald (pc' := 14) rfl qv2 rfl ?_
    by_cases c3 : l5 < v2
    · rw [if_pos c3] at e
      refine gv_cmF (pc' := 17) rfl (gv_geF2 c3) rfl rfl ?_
      refine gv_ild (pc' := 19) rfl rfl rfl ?_
      by_cases c4 : l4 = 0
      · rw [if_pos c4] at e
        refine gv_ifF (pc' := 22) rfl (gv_neF c4) rfl rfl ?_
        refine gv_rldn (pc' := 23) rfl rfl rfl ?_
        obtain ⟨v5, qv5, e⟩ := gv_bind e
        refine gv_fR (pc' := 26) rfl rfl qv5 rfl ?_
        refine gv_bp (pc' := 28) (x := 8) rfl rfl rfl ?_
        refine gv_ildn (pc' := 29) rfl rfl rfl ?_
        refine gv_imul (pc' := 30) rfl rfl ?_
        refine gv_ild (pc' := 32) rfl rfl rfl ?_
        refine gv_iadd (pc' := 33) rfl rfl ?_
        obtain ⟨v6, qv6, e⟩ := gv_bind e
        refine gv_iald (pc' := 34) rfl qv6 rfl ?_
        refine gv_ildn (pc' := 35) rfl rfl rfl ?_
        by_cases c7 : v6 = l2
        · rw [if_pos c7] at e
          refine gv_cmF (pc' := 38) rfl (gv_neF2 c7) rfl rfl ?_
          refine gv_rldn (pc' := 39) rfl rfl rfl ?_
          obtain ⟨v8, qv8, e⟩ := gv_bind e
          refine gv_fR (pc' := 42) rfl rfl qv8 rfl ?_
          refine gv_bp (pc' := 44) (x := 8) rfl rfl rfl ?_
          refine gv_ildn (pc' := 45) rfl rfl rfl ?_
          refine gv_imul (pc' := 46) rfl rfl ?_
          refine gv_ild (pc' := 48) rfl rfl rfl ?_
          refine gv_iadd (pc' := 49) rfl rfl ?_
          obtain ⟨v9, qv9, e⟩ := gv_bind e
          refine gv_iald (pc' := 50) rfl qv9 rfl ?_
          refine gv_ildn (pc' := 51) rfl rfl rfl ?_
          refine gv_ildn (pc' := 52) rfl rfl rfl ?_
          obtain ⟨v10, qv10, e⟩ := gv_bind e
          refine gv_sS (jc := 139) (n := 2) (rest := [.int v9]) (stk := [.int v10, .int v9]) (pc' := 55) rfl rfl rfl rfl rfl rfl rfl rfl rfl (gv_zI (gv_zI gv_z0)) rfl (gv_aI (gv_aI gv_a0)) (Nat.le_of_ble_eq_true rfl) (mM_numberOf_ok qv10) rfl rfl ?_
          by_cases c11 : v9 = v10
          · rw [if_pos c11] at e
            refine gv_cmF (pc' := 58) rfl (gv_neF2 c11) rfl rfl ?_
            exact gv_weak (mM_hasMember_58_ok ih e) (gv_S1 rfl (gv_S1 rfl (gv_S1 rfl (gv_S1 rfl (gv_S1 rfl gv_S0)))))
          rw [if_neg c11] at e
          refine gv_cmT (pc' := 62) rfl (gv_neT2 c11) rfl ?_
          exact gv_weak (mM_hasMember_62_ok ih e) (gv_S1 rfl (gv_S1 rfl (gv_S1 rfl (gv_S1 rfl (gv_S1 rfl gv_S0)))))
        rw [if_neg c7] at e
        refine gv_cmT (pc' := 62) rfl (gv_neT2 c7) rfl ?_
        exact gv_weak (mM_hasMember_62_ok ih e) (gv_S1 rfl (gv_S1 rfl (gv_S1 rfl (gv_S1 rfl (gv_S1 rfl gv_S0)))))
      rw [if_neg c4] at e
      refine gv_ifT (pc' := 58) rfl (gv_neT c4) rfl ?_
      exact gv_weak (mM_hasMember_58_ok ih e) (gv_S1 rfl (gv_S1 rfl (gv_S1 rfl (gv_S1 rfl (gv_S1 rfl gv_S0)))))
    rw [if_neg c3] at e
    refine gv_cmT (pc' := 71) rfl (gv_geT2 c3) rfl ?_
    refine gv_ild (pc' := 73) rfl rfl rfl ?_
    by_cases c12 : ¬ (l4 = 0 ∨ l4 = 1)
    · rw [if_pos c12] at e; cases e
    rw [if_neg c12] at e
    cases e
    exact gv_retZ rfl rfl (Decidable.of_not_not c12)
def mM_hasMember (l0 : Option Nat) (l1 : Int32) (l2 : Int32) (l3 : Int32) (h : gx_H) : Option Int32 :=
  mM_hasMember_6 1000000000000000 l0 l1 l2 l3 (0 : Int32) (0 : Int32) h
theorem mM_hasMember_ok {xs : Option (List Int32)} {l0 : Option Nat} {l1 : Int32} {l2 : Int32} {l3 : Int32} {h : gx_H} {r : Int32} (e : mM_hasMember l0 l1 l2 l3 h = some r) : gv_V xs 1 145 0 [(0, gv_u l0), (1, .int l1), (2, .int l2), (3, .int l3)] [] h (.returned (some (.int r))) h := by
  unfold mM_hasMember at e
  refine gv_ic (pc' := 1) (x := 0) rfl rfl rfl ?_
  refine gv_ist (pc' := 3) rfl rfl (gv_Ci rfl) rfl ?_
  refine gv_ic (pc' := 4) (x := 0) rfl rfl rfl ?_
  refine gv_ist (pc' := 6) rfl rfl (gv_Ci rfl) rfl ?_
  exact gv_weak (mM_hasMember_6_ok 1000000000000000 _ _ _ _ _ _ _ _ e) (gv_S1 rfl (gv_S1 rfl (gv_S1 rfl (gv_S1 rfl (gv_S1 rfl (gv_S1 rfl gv_S0))))))
def mM_add_83 (l0 : Option Nat) (l1 : Int32) (l2 : Int32) (l3 : Int32) (l5 : Int32) (s0 : Option Nat) (s1 : Int32) (s2 : Int32) (h : gx_H) : Option (Int32 × gx_H) :=
  (gv_is h s0 7).bind fun i1 =>
  (mM_refused s0 s1 s2 h).bind fun r4 =>
  if r4.1 = 0 then (
    if l5 = 0 then (
      (gv_gR r4.2 l0 7 3).bind fun v7 =>
      (gv_lI r4.2 v7 l1).bind fun v8 =>
      (gv_is r4.2 l0 7).bind fun i9 =>
      (mM_setSlot l0 (((8 : Int32) * l1) + v8) l2 l3 r4.2).bind fun h11 =>
      (gv_gR h11 l0 7 3).bind fun v12 =>
      (gv_lI h11 v12 l1).bind fun v13 =>
      (gv_wI h11 v12 l1 (v13 + (1 : Int32))).bind fun h14 =>
      some ((1 : Int32), h14)) else
    some ((0 : Int32), r4.2)) else
  some ((0 : Int32), r4.2)
theorem mM_add_83_ok {xs : Option (List Int32)} {l0 : Option Nat} {l1 : Int32} {l2 : Int32} {l3 : Int32} {l5 : Int32} {s0 : Option Nat} {s1 : Int32} {s2 : Int32} {h : gx_H} {r : (Int32 × gx_H)} (e : mM_add_83 l0 l1 l2 l3 l5 s0 s1 s2 h = some r) : gv_V xs 2 144 83 [(0, gv_u l0), (1, .int l1), (2, .int l2), (3, .int l3), (5, .int l5)] [.int s2, .int s1, gv_u s0] h (.returned (some (.int r.1))) r.2 := by
  unfold mM_add_83 at e
  obtain ⟨i1, qi1, e⟩ := gv_bind e
  obtain ⟨⟨v2, h3⟩, qv2, e⟩ := gv_bind e
  refine gv_vS (jc := 121) (n := 2) (rest := []) (stk := [.int v2]) (pc' := 86) rfl rfl rfl rfl rfl rfl rfl rfl rfl (gv_zR (gv_zI (gv_zI gv_z0))) rfl (gv_aR (gv_aI (gv_aI gv_a0))) (Nat.le_of_ble_eq_true rfl) qi1 (mM_refused_ok qv2) rfl rfl ?_
  by_cases c5 : v2 = 0
  · rw [if_pos c5] at e
    refine gv_ifF (pc' := 89) rfl (gv_neF c5) rfl rfl ?_
    refine gv_ild (pc' := 91) rfl rfl rfl ?_
    by_cases c6 : l5 = 0
    · rw [if_pos c6] at e
      refine gv_ifT (pc' := 96) rfl (gv_eqT c6) rfl ?_
      refine gv_rldn (pc' := 97) rfl rfl rfl ?_
      refine gv_bp (pc' := 99) (x := 8) rfl rfl rfl ?_
      refine gv_ildn (pc' := 100) rfl rfl rfl ?_
      refine gv_imul (pc' := 101) rfl rfl ?_
      refine gv_rldn (pc' := 102) rfl rfl rfl ?_
      obtain ⟨v7, qv7, e⟩ := gv_bind e
      refine gv_fR (pc' := 105) rfl rfl qv7 rfl ?_
      refine gv_ildn (pc' := 106) rfl rfl rfl ?_
      obtain ⟨v8, qv8, e⟩ := gv_bind e
      refine gv_iald (pc' := 107) rfl qv8 rfl ?_
      refine gv_iadd (pc' := 108) rfl rfl ?_
      refine gv_ildn (pc' := 109) rfl rfl rfl ?_
      refine gv_ildn (pc' := 110) rfl rfl rfl ?_
      obtain ⟨i9, qi9, e⟩ := gv_bind e
      obtain ⟨h11, qv10, e⟩ := gv_bind e
      refine gv_vS (jc := 138) (n := 3) (rest := []) (stk := []) (pc' := 113) rfl rfl rfl rfl rfl rfl rfl rfl rfl (gv_zR (gv_zI (gv_zI (gv_zI gv_z0)))) rfl (gv_aR (gv_aI (gv_aI (gv_aI gv_a0)))) (Nat.le_of_ble_eq_true rfl) qi9 (mM_setSlot_ok qv10) rfl rfl ?_
      refine gv_rldn (pc' := 114) rfl rfl rfl ?_
      obtain ⟨v12, qv12, e⟩ := gv_bind e
      refine gv_fR (pc' := 117) rfl rfl qv12 rfl ?_
      refine gv_ildn (pc' := 118) rfl rfl rfl ?_
      refine gv_dup2 (pc' := 119) rfl rfl (gv_u_cat _) rfl ?_
      obtain ⟨v13, qv13, e⟩ := gv_bind e
      refine gv_iald (pc' := 120) rfl qv13 rfl ?_
      refine gv_ic (pc' := 121) (x := 1) rfl rfl rfl ?_
      refine gv_iadd (pc' := 122) rfl rfl ?_
      obtain ⟨h14, qh14, e⟩ := gv_bind e
      refine gv_iast (pc' := 123) rfl qh14 rfl ?_
      refine gv_ic (pc' := 124) (x := 1) rfl rfl rfl ?_
      cases e
      exact gv_retZ rfl rfl (by decide)
    rw [if_neg c6] at e
    refine gv_ifF (pc' := 94) rfl (gv_eqF c6) rfl rfl ?_
    refine gv_ic (pc' := 95) (x := 0) rfl rfl rfl ?_
    cases e
    exact gv_retZ rfl rfl (by decide)
  rw [if_neg c5] at e
  refine gv_ifT (pc' := 94) rfl (gv_neT c5) rfl ?_
  refine gv_ic (pc' := 95) (x := 0) rfl rfl rfl ?_
  cases e
  exact gv_retZ rfl rfl (by decide)
def mM_add_82 (l0 : Option Nat) (l1 : Int32) (l2 : Int32) (l3 : Int32) (l5 : Int32) (s0 : Option Nat) (s1 : Int32) (h : gx_H) : Option (Int32 × gx_H) :=
  mM_add_83 l0 l1 l2 l3 l5 s0 s1 (0 : Int32) h
theorem mM_add_82_ok {xs : Option (List Int32)} {l0 : Option Nat} {l1 : Int32} {l2 : Int32} {l3 : Int32} {l5 : Int32} {s0 : Option Nat} {s1 : Int32} {h : gx_H} {r : (Int32 × gx_H)} (e : mM_add_82 l0 l1 l2 l3 l5 s0 s1 h = some r) : gv_V xs 2 144 82 [(0, gv_u l0), (1, .int l1), (2, .int l2), (3, .int l3), (5, .int l5)] [.int s1, gv_u s0] h (.returned (some (.int r.1))) r.2 := by
  unfold mM_add_82 at e
  refine gv_ic (pc' := 83) (x := 0) rfl rfl rfl ?_
  exact gv_weak (mM_add_83_ok e) (gv_S1 rfl (gv_S1 rfl (gv_S1 rfl (gv_S1 rfl (gv_S1 rfl gv_S0)))))
def mM_add_58 (l0 : Option Nat) (l1 : Int32) (l2 : Int32) (l3 : Int32) (l4 : Int32) (l5 : Int32) (s0 : Option Nat) (s1 : Int32) (h : gx_H) : Option (Int32 × gx_H) :=
  if l4 = 0 then (
    mM_add_82 l0 l1 l2 l3 l5 s0 s1 h) else
  if l5 = 0 then (
    (gv_gR h l0 7 3).bind fun v3 =>
    (gv_lI h v3 l1).bind fun v4 =>
    if v4 = (5 : Int32) then (
      mM_add_83 l0 l1 l2 l3 l5 s0 s1 (1 : Int32) h) else
    mM_add_82 l0 l1 l2 l3 l5 s0 s1 h) else
  mM_add_82 l0 l1 l2 l3 l5 s0 s1 h
theorem mM_add_58_ok {xs : Option (List Int32)} {l0 : Option Nat} {l1 : Int32} {l2 : Int32} {l3 : Int32} {l4 : Int32} {l5 : Int32} {s0 : Option Nat} {s1 : Int32} {h : gx_H} {r : (Int32 × gx_H)} (e : mM_add_58 l0 l1 l2 l3 l4 l5 s0 s1 h = some r) : gv_V xs 2 144 58 [(0, gv_u l0), (1, .int l1), (2, .int l2), (3, .int l3), (4, .int l4), (5, .int l5)] [.int s1, gv_u s0] h (.returned (some (.int r.1))) r.2 := by
  unfold mM_add_58 at e
  refine gv_ild (pc' := 60) rfl rfl rfl ?_
  by_cases c1 : l4 = 0
  · rw [if_pos c1] at e
    refine gv_ifT (pc' := 82) rfl (gv_eqT c1) rfl ?_
    exact gv_weak (mM_add_82_ok e) (gv_S1 rfl (gv_S1 rfl (gv_S1 rfl (gv_S1 rfl (gv_S1 rfl gv_S0)))))
  rw [if_neg c1] at e
  refine gv_ifF (pc' := 63) rfl (gv_eqF c1) rfl rfl ?_
  refine gv_ild (pc' := 65) rfl rfl rfl ?_
  by_cases c2 : l5 = 0
  · rw [if_pos c2] at e
    refine gv_ifF (pc' := 68) rfl (gv_neF c2) rfl rfl ?_
    refine gv_rldn (pc' := 69) rfl rfl rfl ?_
    obtain ⟨v3, qv3, e⟩ := gv_bind e
    refine gv_fR (pc' := 72) rfl rfl qv3 rfl ?_
    refine gv_ildn (pc' := 73) rfl rfl rfl ?_
    obtain ⟨v4, qv4, e⟩ := gv_bind e
    refine gv_iald (pc' := 74) rfl qv4 rfl ?_
    refine gv_ic (pc' := 75) (x := 5) rfl rfl rfl ?_
    by_cases c5 : v4 = (5 : Int32)
    · rw [if_pos c5] at e
      refine gv_cmF (pc' := 78) rfl (gv_neF2 c5) rfl rfl ?_
      refine gv_ic (pc' := 79) (x := 1) rfl rfl rfl ?_
      refine gv_goto (pc' := 83) rfl rfl ?_
      exact gv_weak (mM_add_83_ok e) (gv_S1 rfl (gv_S1 rfl (gv_S1 rfl (gv_S1 rfl (gv_S1 rfl gv_S0)))))
    rw [if_neg c5] at e
    refine gv_cmT (pc' := 82) rfl (gv_neT2 c5) rfl ?_
    exact gv_weak (mM_add_82_ok e) (gv_S1 rfl (gv_S1 rfl (gv_S1 rfl (gv_S1 rfl (gv_S1 rfl gv_S0)))))
  rw [if_neg c2] at e
  refine gv_ifT (pc' := 82) rfl (gv_neT c2) rfl ?_
  exact gv_weak (mM_add_82_ok e) (gv_S1 rfl (gv_S1 rfl (gv_S1 rfl (gv_S1 rfl (gv_S1 rfl gv_S0)))))
def mM_add_45 (l0 : Option Nat) (l1 : Int32) (l2 : Int32) (l3 : Int32) (l4 : Int32) (s0 : Int32) (h : gx_H) : Option (Int32 × gx_H) :=
  if l4 = 0 then (
    mM_add_58 l0 l1 l2 l3 l4 s0 l0 (1 : Int32) h) else
  mM_add_58 l0 l1 l2 l3 l4 s0 l0 (0 : Int32) h
theorem mM_add_45_ok {xs : Option (List Int32)} {l0 : Option Nat} {l1 : Int32} {l2 : Int32} {l3 : Int32} {l4 : Int32} {s0 : Int32} {h : gx_H} {r : (Int32 × gx_H)} (e : mM_add_45 l0 l1 l2 l3 l4 s0 h = some r) : gv_V xs 2 144 45 [(0, gv_u l0), (1, .int l1), (2, .int l2), (3, .int l3), (4, .int l4)] [.int s0] h (.returned (some (.int r.1))) r.2 := by
  unfold mM_add_45 at e
  refine gv_ist (pc' := 47) rfl rfl (gv_Ci rfl) rfl ?_
  refine gv_rldn (pc' := 48) rfl rfl rfl ?_
  refine gv_ild (pc' := 50) rfl rfl rfl ?_
  by_cases c1 : l4 = 0
  · rw [if_pos c1] at e
    refine gv_ifF (pc' := 53) rfl (gv_neF c1) rfl rfl ?_
    refine gv_ic (pc' := 54) (x := 1) rfl rfl rfl ?_
    refine gv_goto (pc' := 58) rfl rfl ?_
    exact gv_weak (mM_add_58_ok e) (gv_S1 rfl (gv_S1 rfl (gv_S1 rfl (gv_S1 rfl (gv_S1 rfl (gv_S1 rfl gv_S0))))))
  rw [if_neg c1] at e
  refine gv_ifT (pc' := 57) rfl (gv_neT c1) rfl ?_
  refine gv_ic (pc' := 58) (x := 0) rfl rfl rfl ?_
  exact gv_weak (mM_add_58_ok e) (gv_S1 rfl (gv_S1 rfl (gv_S1 rfl (gv_S1 rfl (gv_S1 rfl (gv_S1 rfl gv_S0))))))
def mM_add_44 (l0 : Option Nat) (l1 : Int32) (l2 : Int32) (l3 : Int32) (l4 : Int32) (h : gx_H) : Option (Int32 × gx_H) :=
  mM_add_45 l0 l1 l2 l3 l4 (0 : Int32) h
theorem mM_add_44_ok {xs : Option (List Int32)} {l0 : Option Nat} {l1 : Int32} {l2 : Int32} {l3 : Int32} {l4 : Int32} {h : gx_H} {r : (Int32 × gx_H)} (e : mM_add_44 l0 l1 l2 l3 l4 h = some r) : gv_V xs 2 144 44 [(0, gv_u l0), (1, .int l1), (2, .int l2), (3, .int l3), (4, .int l4)] [] h (.returned (some (.int r.1))) r.2 := by
  unfold mM_add_44 at e
  refine gv_ic (pc' := 45) (x := 0) rfl rfl rfl ?_
  exact gv_weak (mM_add_45_ok e) (gv_S1 rfl (gv_S1 rfl (gv_S1 rfl (gv_S1 rfl (gv_S1 rfl gv_S0)))))
def mM_add_23 (l0 : Option Nat) (l1 : Int32) (l2 : Int32) (l3 : Int32) (s0 : Int32) (h : gx_H) : Option (Int32 × gx_H) :=
  if s0 = 0 then (
    mM_add_44 l0 l1 l2 l3 s0 h) else
  (gv_is h l0 7).bind fun i2 =>
  (mM_hasMember l0 l1 l2 l3 h).bind fun v3 =>
  if v3 = 0 then (
    mM_add_44 l0 l1 l2 l3 s0 h) else
  mM_add_45 l0 l1 l2 l3 s0 (1 : Int32) h
theorem mM_add_23_ok {xs : Option (List Int32)} {l0 : Option Nat} {l1 : Int32} {l2 : Int32} {l3 : Int32} {s0 : Int32} {h : gx_H} {r : (Int32 × gx_H)} (e : mM_add_23 l0 l1 l2 l3 s0 h = some r) : gv_V xs 2 144 23 [(0, gv_u l0), (1, .int l1), (2, .int l2), (3, .int l3)] [.int s0] h (.returned (some (.int r.1))) r.2 := by
  unfold mM_add_23 at e
  refine gv_ist (pc' := 25) rfl rfl (gv_Ci rfl) rfl ?_
  refine gv_ild (pc' := 27) rfl rfl rfl ?_
  by_cases c1 : s0 = 0
  · rw [if_pos c1] at e
    refine gv_ifT (pc' := 44) rfl (gv_eqT c1) rfl ?_
    exact gv_weak (mM_add_44_ok e) (gv_S1 rfl (gv_S1 rfl (gv_S1 rfl (gv_S1 rfl (gv_S1 rfl gv_S0)))))
  rw [if_neg c1] at e
  refine gv_ifF (pc' := 30) rfl (gv_eqF c1) rfl rfl ?_
  refine gv_rldn (pc' := 31) rfl rfl rfl ?_
  refine gv_ildn (pc' := 32) rfl rfl rfl ?_
  refine gv_ildn (pc' := 33) rfl rfl rfl ?_
  refine gv_ildn (pc' := 34) rfl rfl rfl ?_
  obtain ⟨i2, qi2, e⟩ := gv_bind e
  obtain ⟨v3, qv3, e⟩ := gv_bind e
  refine gv_vS (jc := 145) (n := 3) (rest := []) (stk := [.int v3]) (pc' := 37) rfl rfl rfl rfl rfl rfl rfl rfl rfl (gv_zR (gv_zI (gv_zI (gv_zI gv_z0)))) rfl (gv_aR (gv_aI (gv_aI (gv_aI gv_a0)))) (Nat.le_of_ble_eq_true rfl) qi2 (mM_hasMember_ok qv3) rfl rfl ?_
  by_cases c4 : v3 = 0
  · rw [if_pos c4] at e
    refine gv_ifT (pc' := 44) rfl (gv_eqT c4) rfl ?_
    exact gv_weak (mM_add_44_ok e) (gv_S1 rfl (gv_S1 rfl (gv_S1 rfl (gv_S1 rfl (gv_S1 rfl gv_S0)))))
  rw [if_neg c4] at e
  refine gv_ifF (pc' := 40) rfl (gv_eqF c4) rfl rfl ?_
  refine gv_ic (pc' := 41) (x := 1) rfl rfl rfl ?_
  refine gv_goto (pc' := 45) rfl rfl ?_
  exact gv_weak (mM_add_45_ok e) (gv_S1 rfl (gv_S1 rfl (gv_S1 rfl (gv_S1 rfl (gv_S1 rfl gv_S0)))))
def mM_add_22 (l0 : Option Nat) (l1 : Int32) (l2 : Int32) (l3 : Int32) (h : gx_H) : Option (Int32 × gx_H) :=
  mM_add_23 l0 l1 l2 l3 (0 : Int32) h
theorem mM_add_22_ok {xs : Option (List Int32)} {l0 : Option Nat} {l1 : Int32} {l2 : Int32} {l3 : Int32} {h : gx_H} {r : (Int32 × gx_H)} (e : mM_add_22 l0 l1 l2 l3 h = some r) : gv_V xs 2 144 22 [(0, gv_u l0), (1, .int l1), (2, .int l2), (3, .int l3)] [] h (.returned (some (.int r.1))) r.2 := by
  unfold mM_add_22 at e
  refine gv_ic (pc' := 23) (x := 0) rfl rfl rfl ?_
  exact gv_weak (mM_add_23_ok e) (gv_S1 rfl (gv_S1 rfl (gv_S1 rfl (gv_S1 rfl gv_S0))))
def mM_add (l0 : Option Nat) (l1 : Int32) (l2 : Int32) (l3 : Int32) (h : gx_H) : Option (Int32 × gx_H) :=
  (gv_is h l0 7).bind fun i1 =>
  (mM_is l0 l1 (3 : Int32) h).bind fun v2 =>
  if v2 = 0 then (
    mM_add_22 l0 l1 l2 l3 h) else
  (gv_is h l0 7).bind fun i4 =>
  (mM_isValue l0 l2 l3 h).bind fun v5 =>
  if v5 = 0 then (
    mM_add_22 l0 l1 l2 l3 h) else
  mM_add_23 l0 l1 l2 l3 (1 : Int32) h
theorem mM_add_ok {xs : Option (List Int32)} {l0 : Option Nat} {l1 : Int32} {l2 : Int32} {l3 : Int32} {h : gx_H} {r : (Int32 × gx_H)} (e : mM_add l0 l1 l2 l3 h = some r) : gv_V xs 2 144 0 [(0, gv_u l0), (1, .int l1), (2, .int l2), (3, .int l3)] [] h (.returned (some (.int r.1))) r.2 := by
  unfold mM_add at e
  refine gv_rldn (pc' := 1) rfl rfl rfl ?_
  refine gv_ildn (pc' := 2) rfl rfl rfl ?_
  refine gv_ic (pc' := 3) (x := 3) rfl rfl rfl ?_
  obtain ⟨i1, qi1, e⟩ := gv_bind e
  obtain ⟨v2, qv2, e⟩ := gv_bind e
  refine gv_vS (jc := 126) (n := 2) (rest := []) (stk := [.int v2]) (pc' := 6) rfl rfl rfl rfl rfl rfl rfl rfl rfl (gv_zR (gv_zI (gv_zI gv_z0))) rfl (gv_aR (gv_aI (gv_aI gv_a0))) (Nat.le_of_ble_eq_true rfl) qi1 (mM_is_ok qv2) rfl rfl ?_
  by_cases c3 : v2 = 0
  · rw [if_pos c3] at e
    refine gv_ifT (pc' := 22) rfl (gv_eqT c3) rfl ?_
    exact gv_weak (mM_add_22_ok e) (gv_S1 rfl (gv_S1 rfl (gv_S1 rfl (gv_S1 rfl gv_S0))))
  rw [if_neg c3] at e
  refine gv_ifF (pc' := 9) rfl (gv_eqF c3) rfl rfl ?_
  refine gv_rldn (pc' := 10) rfl rfl rfl ?_
  refine gv_ildn (pc' := 11) rfl rfl rfl ?_
  refine gv_ildn (pc' := 12) rfl rfl rfl ?_
  obtain ⟨i4, qi4, e⟩ := gv_bind e
  obtain ⟨v5, qv5, e⟩ := gv_bind e
  refine gv_vS (jc := 133) (n := 2) (rest := []) (stk := [.int v5]) (pc' := 15) rfl rfl rfl rfl rfl rfl rfl rfl rfl (gv_zR (gv_zI (gv_zI gv_z0))) rfl (gv_aR (gv_aI (gv_aI gv_a0))) (Nat.le_of_ble_eq_true rfl) qi4 (mM_isValue_ok qv5) rfl rfl ?_
  by_cases c6 : v5 = 0
  · rw [if_pos c6] at e
    refine gv_ifT (pc' := 22) rfl (gv_eqT c6) rfl ?_
    exact gv_weak (mM_add_22_ok e) (gv_S1 rfl (gv_S1 rfl (gv_S1 rfl (gv_S1 rfl gv_S0))))
  rw [if_neg c6] at e
  refine gv_ifF (pc' := 18) rfl (gv_eqF c6) rfl rfl ?_
  refine gv_ic (pc' := 19) (x := 1) rfl rfl rfl ?_
  refine gv_goto (pc' := 23) rfl rfl ?_
  exact gv_weak (mM_add_23_ok e) (gv_S1 rfl (gv_S1 rfl (gv_S1 rfl (gv_S1 rfl gv_S0))))
def mM_detachNow (l0 : Option Nat) (l1 : Int32) (h : gx_H) : Option gx_H :=
  (gv_gR h l0 7 4).bind fun v1 =>
  (gv_wZ h v1 l1 (1 : Int32)).bind fun h2 =>
  (gv_gR h2 l0 7 3).bind fun v3 =>
  (gv_wI h2 v3 l1 (0 : Int32)).bind fun h4 =>
  some h4
theorem mM_detachNow_ok {xs : Option (List Int32)} {l0 : Option Nat} {l1 : Int32} {h : gx_H} {r : gx_H} (e : mM_detachNow l0 l1 h = some r) : gv_V xs 0 147 0 [(0, gv_u l0), (1, .int l1)] [] h (.returned none) r := by
  unfold mM_detachNow at e
  refine gv_rldn (pc' := 1) rfl rfl rfl ?_
  obtain ⟨v1, qv1, e⟩ := gv_bind e
  refine gv_fR (pc' := 4) rfl rfl qv1 rfl ?_
  refine gv_ildn (pc' := 5) rfl rfl rfl ?_
  refine gv_ic (pc' := 6) (x := 1) rfl rfl rfl ?_
  obtain ⟨h2, qh2, e⟩ := gv_bind e
  refine gv_bast (pc' := 7) rfl qh2 rfl ?_
  refine gv_rldn (pc' := 8) rfl rfl rfl ?_
  obtain ⟨v3, qv3, e⟩ := gv_bind e
  refine gv_fR (pc' := 11) rfl rfl qv3 rfl ?_
  refine gv_ildn (pc' := 12) rfl rfl rfl ?_
  refine gv_ic (pc' := 13) (x := 0) rfl rfl rfl ?_
  obtain ⟨h4, qh4, e⟩ := gv_bind e
  refine gv_iast (pc' := 14) rfl qh4 rfl ?_
  cases e
  exact gv_retV rfl rfl
def mM_detach_28 (l0 : Option Nat) (l1 : Int32) (s0 : Int32) (h : gx_H) : Option (Int32 × gx_H) :=
  if s0 = 0 then (
    if ¬ (s0 = 0 ∨ s0 = 1) then none else
    some (s0, h)) else
  (gv_is h l0 7).bind fun i3 =>
  (mM_detachNow l0 l1 h).bind fun h5 =>
  if ¬ (s0 = 0 ∨ s0 = 1) then none else
  some (s0, h5)
theorem mM_detach_28_ok {xs : Option (List Int32)} {l0 : Option Nat} {l1 : Int32} {s0 : Int32} {h : gx_H} {r : (Int32 × gx_H)} (e : mM_detach_28 l0 l1 s0 h = some r) : gv_V xs 2 146 28 [(0, gv_u l0), (1, .int l1)] [.int s0] h (.returned (some (.int r.1))) r.2 := by
  unfold mM_detach_28 at e
  refine gv_istn (pc' := 29) rfl rfl (gv_Ci rfl) rfl ?_
  refine gv_ildn (pc' := 30) rfl rfl rfl ?_
  by_cases c1 : s0 = 0
  · rw [if_pos c1] at e
    refine gv_ifT (pc' := 38) rfl (gv_eqT c1) rfl ?_
    refine gv_ildn (pc' := 39) rfl rfl rfl ?_
    by_cases c2 : ¬ (s0 = 0 ∨ s0 = 1)
    · rw [if_pos c2] at e; cases e
    rw [if_neg c2] at e
    cases e
    exact gv_retZ rfl rfl (Decidable.of_not_not c2)
  rw [if_neg c1] at e
  refine gv_ifF (pc' := 33) rfl (gv_eqF c1) rfl rfl ?_
  refine gv_rldn (pc' := 34) rfl rfl rfl ?_
  refine gv_ildn (pc' := 35) rfl rfl rfl ?_
  obtain ⟨i3, qi3, e⟩ := gv_bind e
  obtain ⟨h5, qv4, e⟩ := gv_bind e
  refine gv_vS (jc := 147) (n := 1) (rest := []) (stk := []) (pc' := 38) rfl rfl rfl rfl rfl rfl rfl rfl rfl (gv_zR (gv_zI gv_z0)) rfl (gv_aR (gv_aI gv_a0)) (Nat.le_of_ble_eq_true rfl) qi3 (mM_detachNow_ok qv4) rfl rfl ?_
  refine gv_ildn (pc' := 39) rfl rfl rfl ?_
  by_cases c6 : ¬ (s0 = 0 ∨ s0 = 1)
  · rw [if_pos c6] at e; cases e
  rw [if_neg c6] at e
  cases e
  exact gv_retZ rfl rfl (Decidable.of_not_not c6)
def mM_detach_27 (l0 : Option Nat) (l1 : Int32) (h : gx_H) : Option (Int32 × gx_H) :=
  mM_detach_28 l0 l1 (0 : Int32) h
theorem mM_detach_27_ok {xs : Option (List Int32)} {l0 : Option Nat} {l1 : Int32} {h : gx_H} {r : (Int32 × gx_H)} (e : mM_detach_27 l0 l1 h = some r) : gv_V xs 2 146 27 [(0, gv_u l0), (1, .int l1)] [] h (.returned (some (.int r.1))) r.2 := by
  unfold mM_detach_27 at e
  refine gv_ic (pc' := 28) (x := 0) rfl rfl rfl ?_
  exact gv_weak (mM_detach_28_ok e) (gv_S1 rfl (gv_S1 rfl gv_S0))
def mM_detach (l0 : Option Nat) (l1 : Int32) (h : gx_H) : Option (Int32 × gx_H) :=
  (gv_pV h l0 7 0 (.int (0 : Int32))).bind fun h1 =>
  (gv_is h1 l0 7).bind fun i2 =>
  (mM_is l0 l1 (4 : Int32) h1).bind fun v3 =>
  if v3 = 0 then (
    mM_detach_27 l0 l1 h1) else
  (gv_gR h1 l0 7 4).bind fun v5 =>
  (gv_lZ h1 v5 l1).bind fun v6 =>
  if v6 = 0 then (
    mM_detach_28 l0 l1 (1 : Int32) h1) else
  mM_detach_27 l0 l1 h1
theorem mM_detach_ok {xs : Option (List Int32)} {l0 : Option Nat} {l1 : Int32} {h : gx_H} {r : (Int32 × gx_H)} (e : mM_detach l0 l1 h = some r) : gv_V xs 2 146 0 [(0, gv_u l0), (1, .int l1)] [] h (.returned (some (.int r.1))) r.2 := by
  unfold mM_detach at e
  refine gv_rldn (pc' := 1) rfl rfl rfl ?_
  refine gv_ic (pc' := 2) (x := 0) rfl rfl rfl ?_
  obtain ⟨h1, qh1, e⟩ := gv_bind e
  refine gv_pI (pc' := 5) rfl rfl rfl qh1 rfl ?_
  refine gv_rldn (pc' := 6) rfl rfl rfl ?_
  refine gv_ildn (pc' := 7) rfl rfl rfl ?_
  refine gv_ic (pc' := 8) (x := 4) rfl rfl rfl ?_
  obtain ⟨i2, qi2, e⟩ := gv_bind e
  obtain ⟨v3, qv3, e⟩ := gv_bind e
  refine gv_vS (jc := 126) (n := 2) (rest := []) (stk := [.int v3]) (pc' := 11) rfl rfl rfl rfl rfl rfl rfl rfl rfl (gv_zR (gv_zI (gv_zI gv_z0))) rfl (gv_aR (gv_aI (gv_aI gv_a0))) (Nat.le_of_ble_eq_true rfl) qi2 (mM_is_ok qv3) rfl rfl ?_
  by_cases c4 : v3 = 0
  · rw [if_pos c4] at e
    refine gv_ifT (pc' := 27) rfl (gv_eqT c4) rfl ?_
    exact gv_weak (mM_detach_27_ok e) (gv_S1 rfl (gv_S1 rfl gv_S0))
  rw [if_neg c4] at e
  refine gv_ifF (pc' := 14) rfl (gv_eqF c4) rfl rfl ?_
  refine gv_rldn (pc' := 15) rfl rfl rfl ?_
  obtain ⟨v5, qv5, e⟩ := gv_bind e
  refine gv_fR (pc' := 18) rfl rfl qv5 rfl ?_
  refine gv_ildn (pc' := 19) rfl rfl rfl ?_
  obtain ⟨v6, qv6, e⟩ := gv_bind e
  refine gv_bald (pc' := 20) rfl qv6 rfl ?_
  by_cases c7 : v6 = 0
  · rw [if_pos c7] at e
    refine gv_ifF (pc' := 23) rfl (gv_neF c7) rfl rfl ?_
    refine gv_ic (pc' := 24) (x := 1) rfl rfl rfl ?_
    refine gv_goto (pc' := 28) rfl rfl ?_
    exact gv_weak (mM_detach_28_ok e) (gv_S1 rfl (gv_S1 rfl gv_S0))
  rw [if_neg c7] at e
  refine gv_ifT (pc' := 27) rfl (gv_neT c7) rfl ?_
  exact gv_weak (mM_detach_27_ok e) (gv_S1 rfl (gv_S1 rfl gv_S0))
def mM_clear (l0 : Option Nat) (h : gx_H) : Option (Int32 × gx_H) :=
  (gv_pV h l0 7 0 (.int (0 : Int32))).bind fun h1 =>
  (gv_gI h1 l0 7 1).bind fun v2 =>
  (gv_pV h1 l0 7 1 (.int (0 : Int32))).bind fun h3 =>
  (gv_pV h3 l0 7 12 (.int (0 : Int32))).bind fun h4 =>
  (gv_pV h4 l0 7 10 (.int (0 : Int32))).bind fun h5 =>
  some (v2, h5)
theorem mM_clear_ok {xs : Option (List Int32)} {l0 : Option Nat} {h : gx_H} {r : (Int32 × gx_H)} (e : mM_clear l0 h = some r) : gv_V xs 0 148 0 [(0, gv_u l0)] [] h (.returned (some (.int r.1))) r.2 := by
  unfold mM_clear at e
  refine gv_rldn (pc' := 1) rfl rfl rfl ?_
  refine gv_ic (pc' := 2) (x := 0) rfl rfl rfl ?_
  obtain ⟨h1, qh1, e⟩ := gv_bind e
  refine gv_pI (pc' := 5) rfl rfl rfl qh1 rfl ?_
  refine gv_rldn (pc' := 6) rfl rfl rfl ?_
  obtain ⟨v2, qv2, e⟩ := gv_bind e
  refine gv_fI (pc' := 9) rfl rfl qv2 rfl ?_
  refine gv_istn (pc' := 10) rfl rfl (gv_Cr rfl) rfl ?_
  refine gv_rldn (pc' := 11) rfl rfl rfl ?_
  refine gv_ic (pc' := 12) (x := 0) rfl rfl rfl ?_
  obtain ⟨h3, qh3, e⟩ := gv_bind e
  refine gv_pI (pc' := 15) rfl rfl rfl qh3 rfl ?_
  refine gv_rldn (pc' := 16) rfl rfl rfl ?_
  refine gv_ic (pc' := 17) (x := 0) rfl rfl rfl ?_
  obtain ⟨h4, qh4, e⟩ := gv_bind e
  refine gv_pI (pc' := 20) rfl rfl rfl qh4 rfl ?_
  refine gv_rldn (pc' := 21) rfl rfl rfl ?_
  refine gv_ic (pc' := 22) (x := 0) rfl rfl rfl ?_
  obtain ⟨h5, qh5, e⟩ := gv_bind e
  refine gv_pI (pc' := 25) rfl rfl rfl qh5 rfl ?_
  refine gv_ildn (pc' := 26) rfl rfl rfl ?_
  cases e
  exact gv_retI rfl rfl
def mM_objects (l0 : Option Nat) (h : gx_H) : Option (Int32 × gx_H) :=
  (gv_pV h l0 7 0 (.int (0 : Int32))).bind fun h1 =>
  (gv_gI h1 l0 7 1).bind fun v2 =>
  some (v2, h1)
theorem mM_objects_ok {xs : Option (List Int32)} {l0 : Option Nat} {h : gx_H} {r : (Int32 × gx_H)} (e : mM_objects l0 h = some r) : gv_V xs 0 149 0 [(0, gv_u l0)] [] h (.returned (some (.int r.1))) r.2 := by
  unfold mM_objects at e
  refine gv_rldn (pc' := 1) rfl rfl rfl ?_
  refine gv_ic (pc' := 2) (x := 0) rfl rfl rfl ?_
  obtain ⟨h1, qh1, e⟩ := gv_bind e
  refine gv_pI (pc' := 5) rfl rfl rfl qh1 rfl ?_
  refine gv_rldn (pc' := 6) rfl rfl rfl ?_
  obtain ⟨v2, qv2, e⟩ := gv_bind e
  refine gv_fI (pc' := 9) rfl rfl qv2 rfl ?_
  cases e
  exact gv_retI rfl rfl
def mM_type (l0 : Option Nat) (l1 : Int32) (h : gx_H) : Option (Int32 × gx_H) :=
  (gv_pV h l0 7 0 (.int (0 : Int32))).bind fun h1 =>
  (gv_is h1 l0 7).bind fun i2 =>
  (mM_isObject l0 l1 h1).bind fun v3 =>
  if v3 = 0 then (
    some ((-1 : Int32), h1)) else
  (gv_gR h1 l0 7 2).bind fun v5 =>
  (gv_lI h1 v5 l1).bind fun v6 =>
  some (v6, h1)
theorem mM_type_ok {xs : Option (List Int32)} {l0 : Option Nat} {l1 : Int32} {h : gx_H} {r : (Int32 × gx_H)} (e : mM_type l0 l1 h = some r) : gv_V xs 1 150 0 [(0, gv_u l0), (1, .int l1)] [] h (.returned (some (.int r.1))) r.2 := by
  unfold mM_type at e
  refine gv_rldn (pc' := 1) rfl rfl rfl ?_
  refine gv_ic (pc' := 2) (x := 0) rfl rfl rfl ?_
  obtain ⟨h1, qh1, e⟩ := gv_bind e
  refine gv_pI (pc' := 5) rfl rfl rfl qh1 rfl ?_
  refine gv_rldn (pc' := 6) rfl rfl rfl ?_
  refine gv_ildn (pc' := 7) rfl rfl rfl ?_
  obtain ⟨i2, qi2, e⟩ := gv_bind e
  obtain ⟨v3, qv3, e⟩ := gv_bind e
  refine gv_vS (jc := 127) (n := 1) (rest := []) (stk := [.int v3]) (pc' := 10) rfl rfl rfl rfl rfl rfl rfl rfl rfl (gv_zR (gv_zI gv_z0)) rfl (gv_aR (gv_aI gv_a0)) (Nat.le_of_ble_eq_true rfl) qi2 (mM_isObject_ok qv3) rfl rfl ?_
  by_cases c4 : v3 = 0
  · rw [if_pos c4] at e
    refine gv_ifT (pc' := 22) rfl (gv_eqT c4) rfl ?_
    refine gv_ic (pc' := 23) (x := -1) rfl rfl rfl ?_
    cases e
    exact gv_retI rfl rfl
  rw [if_neg c4] at e
  refine gv_ifF (pc' := 13) rfl (gv_eqF c4) rfl rfl ?_
  refine gv_rldn (pc' := 14) rfl rfl rfl ?_
  obtain ⟨v5, qv5, e⟩ := gv_bind e
  refine gv_fR (pc' := 17) rfl rfl qv5 rfl ?_
  refine gv_ildn (pc' := 18) rfl rfl rfl ?_
  obtain ⟨v6, qv6, e⟩ := gv_bind e
  refine gv_iald (pc' := 19) rfl qv6 rfl ?_
  refine gv_goto (pc' := 23) rfl rfl ?_
  cases e
  exact gv_retI rfl rfl
def mM_size_38 (l0 : Option Nat) (l1 : Int32) (s0 : Int32) (h : gx_H) : Option (Int32 × gx_H) :=
  if s0 = 0 then (
    some ((-1 : Int32), h)) else
  (gv_gR h l0 7 3).bind fun v2 =>
  (gv_lI h v2 l1).bind fun v3 =>
  some (v3, h)
theorem mM_size_38_ok {xs : Option (List Int32)} {l0 : Option Nat} {l1 : Int32} {s0 : Int32} {h : gx_H} {r : (Int32 × gx_H)} (e : mM_size_38 l0 l1 s0 h = some r) : gv_V xs 1 151 38 [(0, gv_u l0), (1, .int l1)] [.int s0] h (.returned (some (.int r.1))) r.2 := by
  unfold mM_size_38 at e
  refine gv_istn (pc' := 39) rfl rfl (gv_Ci rfl) rfl ?_
  refine gv_ildn (pc' := 40) rfl rfl rfl ?_
  by_cases c1 : s0 = 0
  · rw [if_pos c1] at e
    refine gv_ifT (pc' := 52) rfl (gv_eqT c1) rfl ?_
    refine gv_ic (pc' := 53) (x := -1) rfl rfl rfl ?_
    cases e
    exact gv_retI rfl rfl
  rw [if_neg c1] at e
  refine gv_ifF (pc' := 43) rfl (gv_eqF c1) rfl rfl ?_
  refine gv_rldn (pc' := 44) rfl rfl rfl ?_
  obtain ⟨v2, qv2, e⟩ := gv_bind e
  refine gv_fR (pc' := 47) rfl rfl qv2 rfl ?_
  refine gv_ildn (pc' := 48) rfl rfl rfl ?_
  obtain ⟨v3, qv3, e⟩ := gv_bind e
  refine gv_iald (pc' := 49) rfl qv3 rfl ?_
  refine gv_goto (pc' := 53) rfl rfl ?_
  cases e
  exact gv_retI rfl rfl
def mM_size_37 (l0 : Option Nat) (l1 : Int32) (h : gx_H) : Option (Int32 × gx_H) :=
  mM_size_38 l0 l1 (0 : Int32) h
theorem mM_size_37_ok {xs : Option (List Int32)} {l0 : Option Nat} {l1 : Int32} {h : gx_H} {r : (Int32 × gx_H)} (e : mM_size_37 l0 l1 h = some r) : gv_V xs 1 151 37 [(0, gv_u l0), (1, .int l1)] [] h (.returned (some (.int r.1))) r.2 := by
  unfold mM_size_37 at e
  refine gv_ic (pc' := 38) (x := 0) rfl rfl rfl ?_
  exact gv_weak (mM_size_38_ok e) (gv_S1 rfl (gv_S1 rfl gv_S0))
def mM_size (l0 : Option Nat) (l1 : Int32) (h : gx_H) : Option (Int32 × gx_H) :=
  (gv_pV h l0 7 0 (.int (0 : Int32))).bind fun h1 =>
  (gv_is h1 l0 7).bind fun i2 =>
  (mM_isObject l0 l1 h1).bind fun v3 =>
  if v3 = 0 then (
    mM_size_37 l0 l1 h1) else
  (gv_gR h1 l0 7 2).bind fun v5 =>
  (gv_lI h1 v5 l1).bind fun v6 =>
  if v6 < (6 : Int32) then (
    (gv_gR h1 l0 7 4).bind fun v8 =>
    (gv_lZ h1 v8 l1).bind fun v9 =>
    if v9 = 0 then (
      mM_size_38 l0 l1 (1 : Int32) h1) else
    mM_size_37 l0 l1 h1) else
  mM_size_37 l0 l1 h1
theorem mM_size_ok {xs : Option (List Int32)} {l0 : Option Nat} {l1 : Int32} {h : gx_H} {r : (Int32 × gx_H)} (e : mM_size l0 l1 h = some r) : gv_V xs 1 151 0 [(0, gv_u l0), (1, .int l1)] [] h (.returned (some (.int r.1))) r.2 := by
  unfold mM_size at e
  refine gv_rldn (pc' := 1) rfl rfl rfl ?_
  refine gv_ic (pc' := 2) (x := 0) rfl rfl rfl ?_
  obtain ⟨h1, qh1, e⟩ := gv_bind e
  refine gv_pI (pc' := 5) rfl rfl rfl qh1 rfl ?_
  refine gv_rldn (pc' := 6) rfl rfl rfl ?_
  refine gv_ildn (pc' := 7) rfl rfl rfl ?_
  obtain ⟨i2, qi2, e⟩ := gv_bind e
  obtain ⟨v3, qv3, e⟩ := gv_bind e
  refine gv_vS (jc := 127) (n := 1) (rest := []) (stk := [.int v3]) (pc' := 10) rfl rfl rfl rfl rfl rfl rfl rfl rfl (gv_zR (gv_zI gv_z0)) rfl (gv_aR (gv_aI gv_a0)) (Nat.le_of_ble_eq_true rfl) qi2 (mM_isObject_ok qv3) rfl rfl ?_
  by_cases c4 : v3 = 0
  · rw [if_pos c4] at e
    refine gv_ifT (pc' := 37) rfl (gv_eqT c4) rfl ?_
    exact gv_weak (mM_size_37_ok e) (gv_S1 rfl (gv_S1 rfl gv_S0))
  rw [if_neg c4] at e
  refine gv_ifF (pc' := 13) rfl (gv_eqF c4) rfl rfl ?_
  refine gv_rldn (pc' := 14) rfl rfl rfl ?_
  obtain ⟨v5, qv5, e⟩ := gv_bind e
  refine gv_fR (pc' := 17) rfl rfl qv5 rfl ?_
  refine gv_ildn (pc' := 18) rfl rfl rfl ?_
  obtain ⟨v6, qv6, e⟩ := gv_bind e
  refine gv_iald (pc' := 19) rfl qv6 rfl ?_
  refine gv_bp (pc' := 21) (x := 6) rfl rfl rfl ?_
  by_cases c7 : v6 < (6 : Int32)
  · rw [if_pos c7] at e
    refine gv_cmF (pc' := 24) rfl (gv_geF2 c7) rfl rfl ?_
    refine gv_rldn (pc' := 25) rfl rfl rfl ?_
    obtain ⟨v8, qv8, e⟩ := gv_bind e
    refine gv_fR (pc' := 28) rfl rfl qv8 rfl ?_
    refine gv_ildn (pc' := 29) rfl rfl rfl ?_
    obtain ⟨v9, qv9, e⟩ := gv_bind e
    refine gv_bald (pc' := 30) rfl qv9 rfl ?_
    by_cases c10 : v9 = 0
    · rw [if_pos c10] at e
      refine gv_ifF (pc' := 33) rfl (gv_neF c10) rfl rfl ?_
      refine gv_ic (pc' := 34) (x := 1) rfl rfl rfl ?_
      refine gv_goto (pc' := 38) rfl rfl ?_
      exact gv_weak (mM_size_38_ok e) (gv_S1 rfl (gv_S1 rfl gv_S0))
    rw [if_neg c10] at e
    refine gv_ifT (pc' := 37) rfl (gv_neT c10) rfl ?_
    exact gv_weak (mM_size_37_ok e) (gv_S1 rfl (gv_S1 rfl gv_S0))
  rw [if_neg c7] at e
  refine gv_cmT (pc' := 37) rfl (gv_geT2 c7) rfl ?_
  exact gv_weak (mM_size_37_ok e) (gv_S1 rfl (gv_S1 rfl gv_S0))
def mM_get_205 (l0 : Option Nat) (l2 : Int32) (l3 : Int32) (l5 : Int32) (l6 : Int32) (s0 : Int32) (h : gx_H) : Option (Int64 × gx_H) :=
  if l3 = 0 then (
    if s0 = 0 then (
      some ((Int32.toInt64 l2), h)) else
    (gv_gR h l0 7 6).bind fun v3 =>
    (gv_lI h v3 l6).bind fun v4 =>
    some ((Int32.toInt64 v4), h)) else
  if l3 = (1 : Int32) then (
    if l5 = (4 : Int32) then (
      some ((4 : Int64), h)) else
    (gv_gR h l0 7 8).bind fun v7 =>
    (gv_lI h v7 l6).bind fun v8 =>
    some ((Int32.toInt64 v8), h)) else
  if l3 = (2 : Int32) then (
    (gv_gR h l0 7 9).bind fun v10 =>
    (gv_lI h v10 l6).bind fun v11 =>
    some ((Int32.toInt64 v11), h)) else
  (gv_gR h l0 7 7).bind fun v12 =>
  (gv_lI h v12 l6).bind fun v13 =>
  some ((Int32.toInt64 v13), h)
theorem mM_get_205_ok {xs : Option (List Int32)} {l0 : Option Nat} {l2 : Int32} {l3 : Int32} {l5 : Int32} {l6 : Int32} {s0 : Int32} {h : gx_H} {r : (Int64 × gx_H)} (e : mM_get_205 l0 l2 l3 l5 l6 s0 h = some r) : gv_V xs 1 152 205 [(0, gv_u l0), (2, .int l2), (3, .int l3), (5, .int l5), (6, .int l6)] [.int s0] h (.returned (some (.long r.1))) r.2 := by
  unfold mM_get_205 at e
  refine gv_ist (pc' := 207) rfl rfl (gv_Ci rfl) rfl ?_
  refine gv_ildn (pc' := 208) rfl rfl rfl ?_
  by_cases c1 : l3 = 0
  · rw [if_pos c1] at e
    refine gv_ifF (pc' := 211) rfl (gv_neF c1) rfl rfl ?_
    refine gv_ild (pc' := 213) rfl rfl rfl ?_
    by_cases c2 : s0 = 0
    · rw [if_pos c2] at e
      refine gv_ifT (pc' := 227) rfl (gv_eqT c2) rfl ?_
      refine gv_ildn (pc' := 228) rfl rfl rfl ?_
      refine gv_i2l (pc' := 229) rfl rfl ?_
      refine gv_goto (pc' := 284) rfl rfl ?_
      cases e
      exact gv_retJ rfl rfl
    rw [if_neg c2] at e
    refine gv_ifF (pc' := 216) rfl (gv_eqF c2) rfl rfl ?_
    refine gv_rldn (pc' := 217) rfl rfl rfl ?_
    obtain ⟨v3, qv3, e⟩ := gv_bind e
    refine gv_fR (pc' := 220) rfl rfl qv3 rfl ?_
    refine gv_ild (pc' := 222) rfl rfl rfl ?_
    obtain ⟨v4, qv4, e⟩ := gv_bind e
    refine gv_iald (pc' := 223) rfl qv4 rfl ?_
    refine gv_i2l (pc' := 224) rfl rfl ?_
    refine gv_goto (pc' := 284) rfl rfl ?_
    cases e
    exact gv_retJ rfl rfl
  rw [if_neg c1] at e
  refine gv_ifT (pc' := 232) rfl (gv_neT c1) rfl ?_
  refine gv_ildn (pc' := 233) rfl rfl rfl ?_
  refine gv_ic (pc' := 234) (x := 1) rfl rfl rfl ?_
  by_cases c5 : l3 = (1 : Int32)
  · rw [if_pos c5] at e
    refine gv_cmF (pc' := 237) rfl (gv_neF2 c5) rfl rfl ?_
    refine gv_ild (pc' := 239) rfl rfl rfl ?_
    refine gv_ic (pc' := 240) (x := 4) rfl rfl rfl ?_
    by_cases c6 : l5 = (4 : Int32)
    · rw [if_pos c6] at e
      refine gv_cmF (pc' := 243) rfl (gv_neF2 c6) rfl rfl ?_
      refine gv_ld (pc' := 246) (x := 4) rfl rfl rfl ?_
      refine gv_goto (pc' := 284) rfl rfl ?_
      cases e
      exact gv_retJ rfl rfl
    rw [if_neg c6] at e
    refine gv_cmT (pc' := 249) rfl (gv_neT2 c6) rfl ?_
    refine gv_rldn (pc' := 250) rfl rfl rfl ?_
    obtain ⟨v7, qv7, e⟩ := gv_bind e
    refine gv_fR (pc' := 253) rfl rfl qv7 rfl ?_
    refine gv_ild (pc' := 255) rfl rfl rfl ?_
    obtain ⟨v8, qv8, e⟩ := gv_bind e
    refine gv_iald (pc' := 256) rfl qv8 rfl ?_
    refine gv_i2l (pc' := 257) rfl rfl ?_
    refine gv_goto (pc' := 284) rfl rfl ?_
    cases e
    exact gv_retJ rfl rfl
  rw [if_neg c5] at e
  refine gv_cmT (pc' := 260) rfl (gv_neT2 c5) rfl ?_
  refine gv_ildn (pc' := 261) rfl rfl rfl ?_
  refine gv_ic (pc' := 262) (x := 2) rfl rfl rfl ?_
  by_cases c9 : l3 = (2 : Int32)
  · rw [if_pos c9] at e
    refine gv_cmF (pc' := 265) rfl (gv_neF2 c9) rfl rfl ?_
    refine gv_rldn (pc' := 266) rfl rfl rfl ?_
    obtain ⟨v10, qv10, e⟩ := gv_bind e
    refine gv_fR (pc' := 269) rfl rfl qv10 rfl ?_
    refine gv_ild (pc' := 271) rfl rfl rfl ?_
    obtain ⟨v11, qv11, e⟩ := gv_bind e
    refine gv_iald (pc' := 272) rfl qv11 rfl ?_
    refine gv_i2l (pc' := 273) rfl rfl ?_
    refine gv_goto (pc' := 284) rfl rfl ?_
    cases e
    exact gv_retJ rfl rfl
  rw [if_neg c9] at e
  refine gv_cmT (pc' := 276) rfl (gv_neT2 c9) rfl ?_
  refine gv_rldn (pc' := 277) rfl rfl rfl ?_
  obtain ⟨v12, qv12, e⟩ := gv_bind e
  refine gv_fR (pc' := 280) rfl rfl qv12 rfl ?_
  refine gv_ild (pc' := 282) rfl rfl rfl ?_
  obtain ⟨v13, qv13, e⟩ := gv_bind e
  refine gv_iald (pc' := 283) rfl qv13 rfl ?_
  refine gv_i2l (pc' := 284) rfl rfl ?_
  cases e
  exact gv_retJ rfl rfl
def mM_get_200 (l0 : Option Nat) (l2 : Int32) (l3 : Int32) (l5 : Int32) (l6 : Int32) (h : gx_H) : Option (Int64 × gx_H) :=
  mM_get_205 l0 l2 l3 l5 l6 (1 : Int32) h
theorem mM_get_200_ok {xs : Option (List Int32)} {l0 : Option Nat} {l2 : Int32} {l3 : Int32} {l5 : Int32} {l6 : Int32} {h : gx_H} {r : (Int64 × gx_H)} (e : mM_get_200 l0 l2 l3 l5 l6 h = some r) : gv_V xs 1 152 200 [(0, gv_u l0), (2, .int l2), (3, .int l3), (5, .int l5), (6, .int l6)] [] h (.returned (some (.long r.1))) r.2 := by
  unfold mM_get_200 at e
  refine gv_ic (pc' := 201) (x := 1) rfl rfl rfl ?_
  refine gv_goto (pc' := 205) rfl rfl ?_
  exact gv_weak (mM_get_205_ok e) (gv_S1 rfl (gv_S1 rfl (gv_S1 rfl (gv_S1 rfl (gv_S1 rfl gv_S0)))))
def mM_get_141 (l0 : Option Nat) (l1 : Int32) (l2 : Int32) (l3 : Int32) (l5 : Int32) (s0 : Option Nat) (s1 : Int32) (h : gx_H) : Option (Int64 × gx_H) :=
  (gv_is h s0 7).bind fun i1 =>
  (mM_refused s0 s1 (0 : Int32) h).bind fun r4 =>
  if r4.1 = 0 then (
    if l5 = (5 : Int32) then (
      (gv_gR r4.2 l0 7 9).bind fun v7 =>
      (gv_lI r4.2 v7 ((((8 : Int32) * l1) + l2) + l3)).bind fun v8 =>
      some ((Int32.toInt64 v8), r4.2)) else
    if l5 = (6 : Int32) then (
      (gv_gR r4.2 l0 7 5).bind fun v10 =>
      (gv_lJ r4.2 v10 l1).bind fun v11 =>
      some (v11, r4.2)) else
    if l5 = 0 then (
      mM_get_200 l0 l2 l3 l5 (((8 : Int32) * l1) + l2) r4.2) else
    if l5 = (2 : Int32) then (
      mM_get_200 l0 l2 l3 l5 (((8 : Int32) * l1) + l2) r4.2) else
    mM_get_205 l0 l2 l3 l5 (((8 : Int32) * l1) + l2) (0 : Int32) r4.2) else
  some ((0 : Int64), r4.2)
theorem mM_get_141_ok {xs : Option (List Int32)} {l0 : Option Nat} {l1 : Int32} {l2 : Int32} {l3 : Int32} {l5 : Int32} {s0 : Option Nat} {s1 : Int32} {h : gx_H} {r : (Int64 × gx_H)} (e : mM_get_141 l0 l1 l2 l3 l5 s0 s1 h = some r) : gv_V xs 1 152 141 [(0, gv_u l0), (1, .int l1), (2, .int l2), (3, .int l3), (5, .int l5)] [.int s1, gv_u s0] h (.returned (some (.long r.1))) r.2 := by
  unfold mM_get_141 at e
  refine gv_ic (pc' := 142) (x := 0) rfl rfl rfl ?_
  obtain ⟨i1, qi1, e⟩ := gv_bind e
  obtain ⟨⟨v2, h3⟩, qv2, e⟩ := gv_bind e
  refine gv_vS (jc := 121) (n := 2) (rest := []) (stk := [.int v2]) (pc' := 145) rfl rfl rfl rfl rfl rfl rfl rfl rfl (gv_zR (gv_zI (gv_zI gv_z0))) rfl (gv_aR (gv_aI (gv_aI gv_a0))) (Nat.le_of_ble_eq_true rfl) qi1 (mM_refused_ok qv2) rfl rfl ?_
  by_cases c5 : v2 = 0
  · rw [if_pos c5] at e
    refine gv_ifT (pc' := 150) rfl (gv_eqT c5) rfl ?_
    refine gv_bp (pc' := 152) (x := 8) rfl rfl rfl ?_
    refine gv_ildn (pc' := 153) rfl rfl rfl ?_
    refine gv_imul (pc' := 154) rfl rfl ?_
    refine gv_ildn (pc' := 155) rfl rfl rfl ?_
    refine gv_iadd (pc' := 156) rfl rfl ?_
    refine gv_ist (pc' := 158) rfl rfl (gv_Ci rfl) rfl ?_
    refine gv_ild (pc' := 160) rfl rfl rfl ?_
    refine gv_ic (pc' := 161) (x := 5) rfl rfl rfl ?_
    by_cases c6 : l5 = (5 : Int32)
    · rw [if_pos c6] at e
      refine gv_cmF (pc' := 164) rfl (gv_neF2 c6) rfl rfl ?_
      refine gv_rldn (pc' := 165) rfl rfl rfl ?_
      obtain ⟨v7, qv7, e⟩ := gv_bind e
      refine gv_fR (pc' := 168) rfl rfl qv7 rfl ?_
      refine gv_ild (pc' := 170) rfl rfl rfl ?_
      refine gv_ildn (pc' := 171) rfl rfl rfl ?_
      refine gv_iadd (pc' := 172) rfl rfl ?_
      obtain ⟨v8, qv8, e⟩ := gv_bind e
      refine gv_iald (pc' := 173) rfl qv8 rfl ?_
      refine gv_i2l (pc' := 174) rfl rfl ?_
      cases e
      exact gv_retJ rfl rfl
    rw [if_neg c6] at e
    refine gv_cmT (pc' := 175) rfl (gv_neT2 c6) rfl ?_
    refine gv_ild (pc' := 177) rfl rfl rfl ?_
    refine gv_bp (pc' := 179) (x := 6) rfl rfl rfl ?_
    by_cases c9 : l5 = (6 : Int32)
    · rw [if_pos c9] at e
      refine gv_cmF (pc' := 182) rfl (gv_neF2 c9) rfl rfl ?_
      refine gv_rldn (pc' := 183) rfl rfl rfl ?_
      obtain ⟨v10, qv10, e⟩ := gv_bind e
      refine gv_fR (pc' := 186) rfl rfl qv10 rfl ?_
      refine gv_ildn (pc' := 187) rfl rfl rfl ?_
      obtain ⟨v11, qv11, e⟩ := gv_bind e
      refine gv_lald (pc' := 188) rfl qv11 rfl ?_
      cases e
      exact gv_retJ rfl rfl
    rw [if_neg c9] at e
    refine gv_cmT (pc' := 189) rfl (gv_neT2 c9) rfl ?_
    refine gv_ild (pc' := 191) rfl rfl rfl ?_
    by_cases c12 : l5 = 0
    · rw [if_pos c12] at e
      refine gv_ifT (pc' := 200) rfl (gv_eqT c12) rfl ?_
      exact gv_weak (mM_get_200_ok e) (gv_S1 rfl (gv_S1 rfl (gv_S1 rfl (gv_S1 rfl (gv_S1 rfl gv_S0)))))
    rw [if_neg c12] at e
    refine gv_ifF (pc' := 194) rfl (gv_eqF c12) rfl rfl ?_
    refine gv_ild (pc' := 196) rfl rfl rfl ?_
    refine gv_ic (pc' := 197) (x := 2) rfl rfl rfl ?_
    by_cases c13 : l5 = (2 : Int32)
    · rw [if_pos c13] at e
      refine gv_cmF (pc' := 200) rfl (gv_neF2 c13) rfl rfl ?_
      exact gv_weak (mM_get_200_ok e) (gv_S1 rfl (gv_S1 rfl (gv_S1 rfl (gv_S1 rfl (gv_S1 rfl gv_S0)))))
    rw [if_neg c13] at e
    refine gv_cmT (pc' := 204) rfl (gv_neT2 c13) rfl ?_
    refine gv_ic (pc' := 205) (x := 0) rfl rfl rfl ?_
    exact gv_weak (mM_get_205_ok e) (gv_S1 rfl (gv_S1 rfl (gv_S1 rfl (gv_S1 rfl (gv_S1 rfl gv_S0)))))
  rw [if_neg c5] at e
  refine gv_ifF (pc' := 148) rfl (gv_eqF c5) rfl rfl ?_
  refine gv_lc (pc' := 149) (x := 0) rfl rfl rfl ?_
  cases e
  exact gv_retJ rfl rfl
def mM_get_130 (l0 : Option Nat) (l1 : Int32) (l2 : Int32) (l3 : Int32) (l4 : Int32) (l5 : Int32) (h : gx_H) : Option (Int64 × gx_H) :=
  if l4 = 0 then (
    mM_get_141 l0 l1 l2 l3 l5 l0 (1 : Int32) h) else
  mM_get_141 l0 l1 l2 l3 l5 l0 (0 : Int32) h
theorem mM_get_130_ok {xs : Option (List Int32)} {l0 : Option Nat} {l1 : Int32} {l2 : Int32} {l3 : Int32} {l4 : Int32} {l5 : Int32} {h : gx_H} {r : (Int64 × gx_H)} (e : mM_get_130 l0 l1 l2 l3 l4 l5 h = some r) : gv_V xs 1 152 130 [(0, gv_u l0), (1, .int l1), (2, .int l2), (3, .int l3), (4, .int l4), (5, .int l5)] [] h (.returned (some (.long r.1))) r.2 := by
  unfold mM_get_130 at e
  refine gv_rldn (pc' := 131) rfl rfl rfl ?_
  refine gv_ild (pc' := 133) rfl rfl rfl ?_
  by_cases c1 : l4 = 0
  · rw [if_pos c1] at e
    refine gv_ifF (pc' := 136) rfl (gv_neF c1) rfl rfl ?_
    refine gv_ic (pc' := 137) (x := 1) rfl rfl rfl ?_
    refine gv_goto (pc' := 141) rfl rfl ?_
    exact gv_weak (mM_get_141_ok e) (gv_S1 rfl (gv_S1 rfl (gv_S1 rfl (gv_S1 rfl (gv_S1 rfl gv_S0)))))
  rw [if_neg c1] at e
  refine gv_ifT (pc' := 140) rfl (gv_neT c1) rfl ?_
  refine gv_ic (pc' := 141) (x := 0) rfl rfl rfl ?_
  exact gv_weak (mM_get_141_ok e) (gv_S1 rfl (gv_S1 rfl (gv_S1 rfl (gv_S1 rfl (gv_S1 rfl gv_S0)))))
def mM_get_57 (l0 : Option Nat) (l1 : Int32) (l2 : Int32) (l3 : Int32) (l5 : Int32) (s0 : Int32) (h : gx_H) : Option (Int64 × gx_H) :=
  mM_get_130 l0 l1 l2 l3 s0 l5 h
theorem mM_get_57_ok {xs : Option (List Int32)} {l0 : Option Nat} {l1 : Int32} {l2 : Int32} {l3 : Int32} {l5 : Int32} {s0 : Int32} {h : gx_H} {r : (Int64 × gx_H)} (e : mM_get_57 l0 l1 l2 l3 l5 s0 h = some r) : gv_V xs 1 152 57 [(0, gv_u l0), (1, .int l1), (2, .int l2), (3, .int l3), (5, .int l5)] [.int s0] h (.returned (some (.long r.1))) r.2 := by
  unfold mM_get_57 at e
  refine gv_ist (pc' := 59) rfl rfl (gv_Ci rfl) rfl ?_
  refine gv_goto (pc' := 130) rfl rfl ?_
  exact gv_weak (mM_get_130_ok e) (gv_S1 rfl (gv_S1 rfl (gv_S1 rfl (gv_S1 rfl (gv_S1 rfl (gv_S1 rfl gv_S0))))))
def mM_get_82 (l0 : Option Nat) (l1 : Int32) (l2 : Int32) (l3 : Int32) (l5 : Int32) (s0 : Int32) (h : gx_H) : Option (Int64 × gx_H) :=
  mM_get_130 l0 l1 l2 l3 s0 l5 h
theorem mM_get_82_ok {xs : Option (List Int32)} {l0 : Option Nat} {l1 : Int32} {l2 : Int32} {l3 : Int32} {l5 : Int32} {s0 : Int32} {h : gx_H} {r : (Int64 × gx_H)} (e : mM_get_82 l0 l1 l2 l3 l5 s0 h = some r) : gv_V xs 1 152 82 [(0, gv_u l0), (1, .int l1), (2, .int l2), (3, .int l3), (5, .int l5)] [.int s0] h (.returned (some (.long r.1))) r.2 := by
  unfold mM_get_82 at e
  refine gv_ist (pc' := 84) rfl rfl (gv_Ci rfl) rfl ?_
  refine gv_goto (pc' := 130) rfl rfl ?_
  exact gv_weak (mM_get_130_ok e) (gv_S1 rfl (gv_S1 rfl (gv_S1 rfl (gv_S1 rfl (gv_S1 rfl (gv_S1 rfl gv_S0))))))
def mM_get_81 (l0 : Option Nat) (l1 : Int32) (l2 : Int32) (l3 : Int32) (l5 : Int32) (h : gx_H) : Option (Int64 × gx_H) :=
  mM_get_82 l0 l1 l2 l3 l5 (0 : Int32) h
theorem mM_get_81_ok {xs : Option (List Int32)} {l0 : Option Nat} {l1 : Int32} {l2 : Int32} {l3 : Int32} {l5 : Int32} {h : gx_H} {r : (Int64 × gx_H)} (e : mM_get_81 l0 l1 l2 l3 l5 h = some r) : gv_V xs 1 152 81 [(0, gv_u l0), (1, .int l1), (2, .int l2), (3, .int l3), (5, .int l5)] [] h (.returned (some (.long r.1))) r.2 := by
  unfold mM_get_81 at e
  refine gv_ic (pc' := 82) (x := 0) rfl rfl rfl ?_
  exact gv_weak (mM_get_82_ok e) (gv_S1 rfl (gv_S1 rfl (gv_S1 rfl (gv_S1 rfl (gv_S1 rfl gv_S0)))))
def mM_get_128 (l0 : Option Nat) (l1 : Int32) (l2 : Int32) (l3 : Int32) (l5 : Int32) (s0 : Int32) (h : gx_H) : Option (Int64 × gx_H) :=
  mM_get_130 l0 l1 l2 l3 s0 l5 h
theorem mM_get_128_ok {xs : Option (List Int32)} {l0 : Option Nat} {l1 : Int32} {l2 : Int32} {l3 : Int32} {l5 : Int32} {s0 : Int32} {h : gx_H} {r : (Int64 × gx_H)} (e : mM_get_128 l0 l1 l2 l3 l5 s0 h = some r) : gv_V xs 1 152 128 [(0, gv_u l0), (1, .int l1), (2, .int l2), (3, .int l3), (5, .int l5)] [.int s0] h (.returned (some (.long r.1))) r.2 := by
  unfold mM_get_128 at e
  refine gv_ist (pc' := 130) rfl rfl (gv_Ci rfl) rfl ?_
  exact gv_weak (mM_get_130_ok e) (gv_S1 rfl (gv_S1 rfl (gv_S1 rfl (gv_S1 rfl (gv_S1 rfl (gv_S1 rfl gv_S0))))))
def mM_get_123 (l0 : Option Nat) (l1 : Int32) (l2 : Int32) (l3 : Int32) (l5 : Int32) (h : gx_H) : Option (Int64 × gx_H) :=
  mM_get_128 l0 l1 l2 l3 l5 (1 : Int32) h
theorem mM_get_123_ok {xs : Option (List Int32)} {l0 : Option Nat} {l1 : Int32} {l2 : Int32} {l3 : Int32} {l5 : Int32} {h : gx_H} {r : (Int64 × gx_H)} (e : mM_get_123 l0 l1 l2 l3 l5 h = some r) : gv_V xs 1 152 123 [(0, gv_u l0), (1, .int l1), (2, .int l2), (3, .int l3), (5, .int l5)] [] h (.returned (some (.long r.1))) r.2 := by
  unfold mM_get_123 at e
  refine gv_ic (pc' := 124) (x := 1) rfl rfl rfl ?_
  refine gv_goto (pc' := 128) rfl rfl ?_
  exact gv_weak (mM_get_128_ok e) (gv_S1 rfl (gv_S1 rfl (gv_S1 rfl (gv_S1 rfl (gv_S1 rfl gv_S0)))))
def mM_get_127 (l0 : Option Nat) (l1 : Int32) (l2 : Int32) (l3 : Int32) (l5 : Int32) (h : gx_H) : Option (Int64 × gx_H) :=
  mM_get_128 l0 l1 l2 l3 l5 (0 : Int32) h
theorem mM_get_127_ok {xs : Option (List Int32)} {l0 : Option Nat} {l1 : Int32} {l2 : Int32} {l3 : Int32} {l5 : Int32} {h : gx_H} {r : (Int64 × gx_H)} (e : mM_get_127 l0 l1 l2 l3 l5 h = some r) : gv_V xs 1 152 127 [(0, gv_u l0), (1, .int l1), (2, .int l2), (3, .int l3), (5, .int l5)] [] h (.returned (some (.long r.1))) r.2 := by
  unfold mM_get_127 at e
  refine gv_ic (pc' := 128) (x := 0) rfl rfl rfl ?_
  exact gv_weak (mM_get_128_ok e) (gv_S1 rfl (gv_S1 rfl (gv_S1 rfl (gv_S1 rfl (gv_S1 rfl gv_S0)))))
def mM_get_40 (l0 : Option Nat) (l1 : Int32) (l2 : Int32) (l3 : Int32) (l4 : Int32) (s0 : Int32) (h : gx_H) : Option (Int64 × gx_H) :=
  if s0 = (5 : Int32) then (
    if l2 = 0 then (
      mM_get_57 l0 l1 l2 l3 s0 (1 : Int32) h) else
    mM_get_57 l0 l1 l2 l3 s0 (0 : Int32) h) else
  if s0 = (6 : Int32) then (
    if l2 = 0 then (
      if l3 = 0 then (
        mM_get_82 l0 l1 l2 l3 s0 (1 : Int32) h) else
      mM_get_81 l0 l1 l2 l3 s0 h) else
    mM_get_81 l0 l1 l2 l3 s0 h) else
  if l4 = 0 then (
    mM_get_127 l0 l1 l2 l3 s0 h) else
  if s0 < (5 : Int32) then (
    if l2 < 0 then (
      mM_get_127 l0 l1 l2 l3 s0 h) else
    (gv_gR h l0 7 3).bind fun v9 =>
    (gv_lI h v9 l1).bind fun v10 =>
    if l2 < v10 then (
      if l3 < (3 : Int32) then (
        mM_get_123 l0 l1 l2 l3 s0 h) else
      if s0 = (2 : Int32) then (
        mM_get_123 l0 l1 l2 l3 s0 h) else
      mM_get_127 l0 l1 l2 l3 s0 h) else
    mM_get_127 l0 l1 l2 l3 s0 h) else
  mM_get_127 l0 l1 l2 l3 s0 h
theorem mM_get_40_ok {xs : Option (List Int32)} {l0 : Option Nat} {l1 : Int32} {l2 : Int32} {l3 : Int32} {l4 : Int32} {s0 : Int32} {h : gx_H} {r : (Int64 × gx_H)} (e : mM_get_40 l0 l1 l2 l3 l4 s0 h = some r) : gv_V xs 1 152 40 [(0, gv_u l0), (1, .int l1), (2, .int l2), (3, .int l3), (4, .int l4)] [.int s0] h (.returned (some (.long r.1))) r.2 := by
  unfold mM_get_40 at e
  refine gv_ist (pc' := 42) rfl rfl (gv_Ci rfl) rfl ?_
  refine gv_ild (pc' := 44) rfl rfl rfl ?_
  refine gv_ic (pc' := 45) (x := 5) rfl rfl rfl ?_
  by_cases c1 : s0 = (5 : Int32)
  · rw [if_pos c1] at e
    refine gv_cmF (pc' := 48) rfl (gv_neF2 c1) rfl rfl ?_
    refine gv_ildn (pc' := 49) rfl rfl rfl ?_
    by_cases c2 : l2 = 0
    · rw [if_pos c2] at e
      refine gv_ifF (pc' := 52) rfl (gv_neF c2) rfl rfl ?_
      refine gv_ic (pc' := 53) (x := 1) rfl rfl rfl ?_
      refine gv_goto (pc' := 57) rfl rfl ?_
      exact gv_weak (mM_get_57_ok e) (gv_S1 rfl (gv_S1 rfl (gv_S1 rfl (gv_S1 rfl (gv_S1 rfl gv_S0)))))
    rw [if_neg c2] at e
    refine gv_ifT (pc' := 56) rfl (gv_neT c2) rfl ?_
    refine gv_ic (pc' := 57) (x := 0) rfl rfl rfl ?_
    exact gv_weak (mM_get_57_ok e) (gv_S1 rfl (gv_S1 rfl (gv_S1 rfl (gv_S1 rfl (gv_S1 rfl gv_S0)))))
  rw [if_neg c1] at e
  refine gv_cmT (pc' := 62) rfl (gv_neT2 c1) rfl ?_
  refine gv_ild (pc' := 64) rfl rfl rfl ?_
  refine gv_bp (pc' := 66) (x := 6) rfl rfl rfl ?_
  by_cases c3 : s0 = (6 : Int32)
  · rw [if_pos c3] at e
    refine gv_cmF (pc' := 69) rfl (gv_neF2 c3) rfl rfl ?_
    refine gv_ildn (pc' := 70) rfl rfl rfl ?_
    by_cases c4 : l2 = 0
    · rw [if_pos c4] at e
      refine gv_ifF (pc' := 73) rfl (gv_neF c4) rfl rfl ?_
      refine gv_ildn (pc' := 74) rfl rfl rfl ?_
      by_cases c5 : l3 = 0
      · rw [if_pos c5] at e
        refine gv_ifF (pc' := 77) rfl (gv_neF c5) rfl rfl ?_
        refine gv_ic (pc' := 78) (x := 1) rfl rfl rfl ?_
        refine gv_goto (pc' := 82) rfl rfl ?_
        exact gv_weak (mM_get_82_ok e) (gv_S1 rfl (gv_S1 rfl (gv_S1 rfl (gv_S1 rfl (gv_S1 rfl gv_S0)))))
      rw [if_neg c5] at e
      refine gv_ifT (pc' := 81) rfl (gv_neT c5) rfl ?_
      exact gv_weak (mM_get_81_ok e) (gv_S1 rfl (gv_S1 rfl (gv_S1 rfl (gv_S1 rfl (gv_S1 rfl gv_S0)))))
    rw [if_neg c4] at e
    refine gv_ifT (pc' := 81) rfl (gv_neT c4) rfl ?_
    exact gv_weak (mM_get_81_ok e) (gv_S1 rfl (gv_S1 rfl (gv_S1 rfl (gv_S1 rfl (gv_S1 rfl gv_S0)))))
  rw [if_neg c3] at e
  refine gv_cmT (pc' := 87) rfl (gv_neT2 c3) rfl ?_
  refine gv_ild (pc' := 89) rfl rfl rfl ?_
  by_cases c6 : l4 = 0
  · rw [if_pos c6] at e
    refine gv_ifT (pc' := 127) rfl (gv_eqT c6) rfl ?_
    exact gv_weak (mM_get_127_ok e) (gv_S1 rfl (gv_S1 rfl (gv_S1 rfl (gv_S1 rfl (gv_S1 rfl gv_S0)))))
  rw [if_neg c6] at e
  refine gv_ifF (pc' := 92) rfl (gv_eqF c6) rfl rfl ?_
  refine gv_ild (pc' := 94) rfl rfl rfl ?_
  refine gv_ic (pc' := 95) (x := 5) rfl rfl rfl ?_
  by_cases c7 : s0 < (5 : Int32)
  · rw [if_pos c7] at e
    refine gv_cmF (pc' := 98) rfl (gv_geF2 c7) rfl rfl ?_
    refine gv_ildn (pc' := 99) rfl rfl rfl ?_
    by_cases c8 : l2 < 0
    · rw [if_pos c8] at e
      refine gv_ifT (pc' := 127) rfl (gv_ltT c8) rfl ?_
      exact gv_weak (mM_get_127_ok e) (gv_S1 rfl (gv_S1 rfl (gv_S1 rfl (gv_S1 rfl (gv_S1 rfl gv_S0)))))
    rw [if_neg c8] at e
    refine gv_ifF (pc' := 102) rfl (gv_ltF c8) rfl rfl ?_
    refine gv_ildn (pc' := 103) rfl rfl rfl ?_
    refine gv_rldn (pc' := 104) rfl rfl rfl ?_
    obtain ⟨v9, qv9, e⟩ := gv_bind e
    refine gv_fR (pc' := 107) rfl rfl qv9 rfl ?_
    refine gv_ildn (pc' := 108) rfl rfl rfl ?_
    obtain ⟨v10, qv10, e⟩ := gv_bind e
    refine gv_iald (pc' := 109) rfl qv10 rfl ?_
    by_cases c11 : l2 < v10
    · rw [if_pos c11] at e
      refine gv_cmF (pc' := 112) rfl (gv_geF2 c11) rfl rfl ?_
      refine gv_ildn (pc' := 113) rfl rfl rfl ?_
      refine gv_ic (pc' := 114) (x := 3) rfl rfl rfl ?_
      by_cases c12 : l3 < (3 : Int32)
      · rw [if_pos c12] at e
        refine gv_cmT (pc' := 123) rfl (gv_ltT2 c12) rfl ?_
        exact gv_weak (mM_get_123_ok e) (gv_S1 rfl (gv_S1 rfl (gv_S1 rfl (gv_S1 rfl (gv_S1 rfl gv_S0)))))
      rw [if_neg c12] at e
      refine gv_cmF (pc' := 117) rfl (gv_ltF2 c12) rfl rfl ?_
      refine gv_ild (pc' := 119) rfl rfl rfl ?_
      refine gv_ic (pc' := 120) (x := 2) rfl rfl rfl ?_
      by_cases c13 : s0 = (2 : Int32)
      · rw [if_pos c13] at e
        refine gv_cmF (pc' := 123) rfl (gv_neF2 c13) rfl rfl ?_
        exact gv_weak (mM_get_123_ok e) (gv_S1 rfl (gv_S1 rfl (gv_S1 rfl (gv_S1 rfl (gv_S1 rfl gv_S0)))))
      rw [if_neg c13] at e
      refine gv_cmT (pc' := 127) rfl (gv_neT2 c13) rfl ?_
      exact gv_weak (mM_get_127_ok e) (gv_S1 rfl (gv_S1 rfl (gv_S1 rfl (gv_S1 rfl (gv_S1 rfl gv_S0)))))
    rw [if_neg c11] at e
    refine gv_cmT (pc' := 127) rfl (gv_geT2 c11) rfl ?_
    exact gv_weak (mM_get_127_ok e) (gv_S1 rfl (gv_S1 rfl (gv_S1 rfl (gv_S1 rfl (gv_S1 rfl gv_S0)))))
  rw [if_neg c7] at e
  refine gv_cmT (pc' := 127) rfl (gv_geT2 c7) rfl ?_
  exact gv_weak (mM_get_127_ok e) (gv_S1 rfl (gv_S1 rfl (gv_S1 rfl (gv_S1 rfl (gv_S1 rfl gv_S0)))))
def mM_get_22 (l0 : Option Nat) (l1 : Int32) (l2 : Int32) (l3 : Int32) (s0 : Int32) (h : gx_H) : Option (Int64 × gx_H) :=
  if s0 = 0 then (
    mM_get_40 l0 l1 l2 l3 s0 (7 : Int32) h) else
  (gv_gR h l0 7 2).bind fun v2 =>
  (gv_lI h v2 l1).bind fun v3 =>
  mM_get_40 l0 l1 l2 l3 s0 v3 h
theorem mM_get_22_ok {xs : Option (List Int32)} {l0 : Option Nat} {l1 : Int32} {l2 : Int32} {l3 : Int32} {s0 : Int32} {h : gx_H} {r : (Int64 × gx_H)} (e : mM_get_22 l0 l1 l2 l3 s0 h = some r) : gv_V xs 1 152 22 [(0, gv_u l0), (1, .int l1), (2, .int l2), (3, .int l3)] [.int s0] h (.returned (some (.long r.1))) r.2 := by
  unfold mM_get_22 at e
  refine gv_ist (pc' := 24) rfl rfl (gv_Ci rfl) rfl ?_
  refine gv_ild (pc' := 26) rfl rfl rfl ?_
  by_cases c1 : s0 = 0
  · rw [if_pos c1] at e
    refine gv_ifT (pc' := 38) rfl (gv_eqT c1) rfl ?_
    refine gv_bp (pc' := 40) (x := 7) rfl rfl rfl ?_
    exact gv_weak (mM_get_40_ok e) (gv_S1 rfl (gv_S1 rfl (gv_S1 rfl (gv_S1 rfl (gv_S1 rfl gv_S0)))))
  rw [if_neg c1] at e
  refine gv_ifF (pc' := 29) rfl (gv_eqF c1) rfl rfl ?_
  refine gv_rldn (pc' := 30) rfl rfl rfl ?_
  obtain ⟨v2, qv2, e⟩ := gv_bind e
  refine gv_fR (pc' := 33) rfl rfl qv2 rfl ?_
  refine gv_ildn (pc' := 34) rfl rfl rfl ?_
  obtain ⟨v3, qv3, e⟩ := gv_bind e
  refine gv_iald (pc' := 35) rfl qv3 rfl ?_
  refine gv_goto (pc' := 40) rfl rfl ?_
  exact gv_weak (mM_get_40_ok e) (gv_S1 rfl (gv_S1 rfl (gv_S1 rfl (gv_S1 rfl (gv_S1 rfl gv_S0)))))
def mM_get_21 (l0 : Option Nat) (l1 : Int32) (l2 : Int32) (l3 : Int32) (h : gx_H) : Option (Int64 × gx_H) :=
  mM_get_22 l0 l1 l2 l3 (0 : Int32) h
theorem mM_get_21_ok {xs : Option (List Int32)} {l0 : Option Nat} {l1 : Int32} {l2 : Int32} {l3 : Int32} {h : gx_H} {r : (Int64 × gx_H)} (e : mM_get_21 l0 l1 l2 l3 h = some r) : gv_V xs 1 152 21 [(0, gv_u l0), (1, .int l1), (2, .int l2), (3, .int l3)] [] h (.returned (some (.long r.1))) r.2 := by
  unfold mM_get_21 at e
  refine gv_ic (pc' := 22) (x := 0) rfl rfl rfl ?_
  exact gv_weak (mM_get_22_ok e) (gv_S1 rfl (gv_S1 rfl (gv_S1 rfl (gv_S1 rfl gv_S0))))
def mM_get (l0 : Option Nat) (l1 : Int32) (l2 : Int32) (l3 : Int32) (h : gx_H) : Option (Int64 × gx_H) :=
  (gv_is h l0 7).bind fun i1 =>
  (mM_isObject l0 l1 h).bind fun v2 =>
  if v2 = 0 then (
    mM_get_21 l0 l1 l2 l3 h) else
  if l3 < 0 then (
    mM_get_21 l0 l1 l2 l3 h) else
  if l3 < (4 : Int32) then (
    mM_get_22 l0 l1 l2 l3 (1 : Int32) h) else
  mM_get_21 l0 l1 l2 l3 h
theorem mM_get_ok {xs : Option (List Int32)} {l0 : Option Nat} {l1 : Int32} {l2 : Int32} {l3 : Int32} {h : gx_H} {r : (Int64 × gx_H)} (e : mM_get l0 l1 l2 l3 h = some r) : gv_V xs 1 152 0 [(0, gv_u l0), (1, .int l1), (2, .int l2), (3, .int l3)] [] h (.returned (some (.long r.1))) r.2 := by
  unfold mM_get at e
  refine gv_rldn (pc' := 1) rfl rfl rfl ?_
  refine gv_ildn (pc' := 2) rfl rfl rfl ?_
  obtain ⟨i1, qi1, e⟩ := gv_bind e
  obtain ⟨v2, qv2, e⟩ := gv_bind e
  refine gv_vS (jc := 127) (n := 1) (rest := []) (stk := [.int v2]) (pc' := 5) rfl rfl rfl rfl rfl rfl rfl rfl rfl (gv_zR (gv_zI gv_z0)) rfl (gv_aR (gv_aI gv_a0)) (Nat.le_of_ble_eq_true rfl) qi1 (mM_isObject_ok qv2) rfl rfl ?_
  by_cases c3 : v2 = 0
  · rw [if_pos c3] at e
    refine gv_ifT (pc' := 21) rfl (gv_eqT c3) rfl ?_
    exact gv_weak (mM_get_21_ok e) (gv_S1 rfl (gv_S1 rfl (gv_S1 rfl (gv_S1 rfl gv_S0))))
  rw [if_neg c3] at e
  refine gv_ifF (pc' := 8) rfl (gv_eqF c3) rfl rfl ?_
  refine gv_ildn (pc' := 9) rfl rfl rfl ?_
  by_cases c4 : l3 < 0
  · rw [if_pos c4] at e
    refine gv_ifT (pc' := 21) rfl (gv_ltT c4) rfl ?_
    exact gv_weak (mM_get_21_ok e) (gv_S1 rfl (gv_S1 rfl (gv_S1 rfl (gv_S1 rfl gv_S0))))
  rw [if_neg c4] at e
  refine gv_ifF (pc' := 12) rfl (gv_ltF c4) rfl rfl ?_
  refine gv_ildn (pc' := 13) rfl rfl rfl ?_
  refine gv_ic (pc' := 14) (x := 4) rfl rfl rfl ?_
  by_cases c5 : l3 < (4 : Int32)
  · rw [if_pos c5] at e
    refine gv_cmF (pc' := 17) rfl (gv_geF2 c5) rfl rfl ?_
    refine gv_ic (pc' := 18) (x := 1) rfl rfl rfl ?_
    refine gv_goto (pc' := 22) rfl rfl ?_
    exact gv_weak (mM_get_22_ok e) (gv_S1 rfl (gv_S1 rfl (gv_S1 rfl (gv_S1 rfl gv_S0))))
  rw [if_neg c5] at e
  refine gv_cmT (pc' := 21) rfl (gv_geT2 c5) rfl ?_
  exact gv_weak (mM_get_21_ok e) (gv_S1 rfl (gv_S1 rfl (gv_S1 rfl (gv_S1 rfl gv_S0))))
def mM_pass_27 (l0 : Option Nat) (l1 : Int32) (s0 : Option Nat) (s1 : Int32) (s2 : Int32) (h : gx_H) : Option (Int32 × gx_H) :=
  (gv_is h s0 7).bind fun i1 =>
  (mM_refused s0 s1 s2 h).bind fun r4 =>
  if r4.1 = 0 then (
    (gv_gR r4.2 l0 7 11).bind fun v6 =>
    (gv_gI r4.2 l0 7 10).bind fun v7 =>
    (gv_wI r4.2 v6 v7 l1).bind fun h8 =>
    (gv_gI h8 l0 7 10).bind fun v9 =>
    (gv_pV h8 l0 7 10 (.int (v9 + (1 : Int32)))).bind fun h10 =>
    (gv_gI h10 l0 7 10).bind fun v11 =>
    some (v11, h10)) else
  some ((0 : Int32), r4.2)
theorem mM_pass_27_ok {xs : Option (List Int32)} {l0 : Option Nat} {l1 : Int32} {s0 : Option Nat} {s1 : Int32} {s2 : Int32} {h : gx_H} {r : (Int32 × gx_H)} (e : mM_pass_27 l0 l1 s0 s1 s2 h = some r) : gv_V xs 1 153 27 [(0, gv_u l0), (1, .int l1)] [.int s2, .int s1, gv_u s0] h (.returned (some (.int r.1))) r.2 := by
  unfold mM_pass_27 at e
  obtain ⟨i1, qi1, e⟩ := gv_bind e
  obtain ⟨⟨v2, h3⟩, qv2, e⟩ := gv_bind e
  refine gv_vS (jc := 121) (n := 2) (rest := []) (stk := [.int v2]) (pc' := 30) rfl rfl rfl rfl rfl rfl rfl rfl rfl (gv_zR (gv_zI (gv_zI gv_z0))) rfl (gv_aR (gv_aI (gv_aI gv_a0))) (Nat.le_of_ble_eq_true rfl) qi1 (mM_refused_ok qv2) rfl rfl ?_
  by_cases c5 : v2 = 0
  · rw [if_pos c5] at e
    refine gv_ifT (pc' := 35) rfl (gv_eqT c5) rfl ?_
    refine gv_rldn (pc' := 36) rfl rfl rfl ?_
    obtain ⟨v6, qv6, e⟩ := gv_bind e
    refine gv_fR (pc' := 39) rfl rfl qv6 rfl ?_
    refine gv_rldn (pc' := 40) rfl rfl rfl ?_
    obtain ⟨v7, qv7, e⟩ := gv_bind e
    refine gv_fI (pc' := 43) rfl rfl qv7 rfl ?_
    refine gv_ildn (pc' := 44) rfl rfl rfl ?_
    obtain ⟨h8, qh8, e⟩ := gv_bind e
    refine gv_iast (pc' := 45) rfl qh8 rfl ?_
    refine gv_rldn (pc' := 46) rfl rfl rfl ?_
    refine gv_dup (pc' := 47) rfl (gv_u_cat _) rfl ?_
    obtain ⟨v9, qv9, e⟩ := gv_bind e
    refine gv_fI (pc' := 50) rfl rfl qv9 rfl ?_
    refine gv_ic (pc' := 51) (x := 1) rfl rfl rfl ?_
    refine gv_iadd (pc' := 52) rfl rfl ?_
    obtain ⟨h10, qh10, e⟩ := gv_bind e
    refine gv_pI (pc' := 55) rfl rfl rfl qh10 rfl ?_
    refine gv_rldn (pc' := 56) rfl rfl rfl ?_
    obtain ⟨v11, qv11, e⟩ := gv_bind e
    refine gv_fI (pc' := 59) rfl rfl qv11 rfl ?_
    cases e
    exact gv_retI rfl rfl
  rw [if_neg c5] at e
  refine gv_ifF (pc' := 33) rfl (gv_eqF c5) rfl rfl ?_
  refine gv_ic (pc' := 34) (x := 0) rfl rfl rfl ?_
  cases e
  exact gv_retI rfl rfl
def mM_pass_14 (l0 : Option Nat) (l1 : Int32) (s0 : Option Nat) (s1 : Int32) (h : gx_H) : Option (Int32 × gx_H) :=
  (gv_gI h l0 7 10).bind fun v1 =>
  if v1 = (4 : Int32) then (
    mM_pass_27 l0 l1 s0 s1 (1 : Int32) h) else
  mM_pass_27 l0 l1 s0 s1 (0 : Int32) h
theorem mM_pass_14_ok {xs : Option (List Int32)} {l0 : Option Nat} {l1 : Int32} {s0 : Option Nat} {s1 : Int32} {h : gx_H} {r : (Int32 × gx_H)} (e : mM_pass_14 l0 l1 s0 s1 h = some r) : gv_V xs 1 153 14 [(0, gv_u l0), (1, .int l1)] [.int s1, gv_u s0] h (.returned (some (.int r.1))) r.2 := by
  unfold mM_pass_14 at e
  refine gv_rldn (pc' := 15) rfl rfl rfl ?_
  obtain ⟨v1, qv1, e⟩ := gv_bind e
  refine gv_fI (pc' := 18) rfl rfl qv1 rfl ?_
  refine gv_ic (pc' := 19) (x := 4) rfl rfl rfl ?_
  by_cases c2 : v1 = (4 : Int32)
  · rw [if_pos c2] at e
    refine gv_cmF (pc' := 22) rfl (gv_neF2 c2) rfl rfl ?_
    refine gv_ic (pc' := 23) (x := 1) rfl rfl rfl ?_
    refine gv_goto (pc' := 27) rfl rfl ?_
    exact gv_weak (mM_pass_27_ok e) (gv_S1 rfl (gv_S1 rfl gv_S0))
  rw [if_neg c2] at e
  refine gv_cmT (pc' := 26) rfl (gv_neT2 c2) rfl ?_
  refine gv_ic (pc' := 27) (x := 0) rfl rfl rfl ?_
  exact gv_weak (mM_pass_27_ok e) (gv_S1 rfl (gv_S1 rfl gv_S0))
def mM_pass (l0 : Option Nat) (l1 : Int32) (h : gx_H) : Option (Int32 × gx_H) :=
  (gv_is h l0 7).bind fun i1 =>
  (mM_isObject l0 l1 h).bind fun v2 =>
  if v2 = 0 then (
    mM_pass_14 l0 l1 l0 (1 : Int32) h) else
  mM_pass_14 l0 l1 l0 (0 : Int32) h
theorem mM_pass_ok {xs : Option (List Int32)} {l0 : Option Nat} {l1 : Int32} {h : gx_H} {r : (Int32 × gx_H)} (e : mM_pass l0 l1 h = some r) : gv_V xs 1 153 0 [(0, gv_u l0), (1, .int l1)] [] h (.returned (some (.int r.1))) r.2 := by
  unfold mM_pass at e
  refine gv_rldn (pc' := 1) rfl rfl rfl ?_
  refine gv_rldn (pc' := 2) rfl rfl rfl ?_
  refine gv_ildn (pc' := 3) rfl rfl rfl ?_
  obtain ⟨i1, qi1, e⟩ := gv_bind e
  obtain ⟨v2, qv2, e⟩ := gv_bind e
  refine gv_vS (jc := 127) (n := 1) (rest := [gv_u l0]) (stk := [.int v2, gv_u l0]) (pc' := 6) rfl rfl rfl rfl rfl rfl rfl rfl rfl (gv_zR (gv_zI gv_z0)) rfl (gv_aR (gv_aI gv_a0)) (Nat.le_of_ble_eq_true rfl) qi1 (mM_isObject_ok qv2) rfl rfl ?_
  by_cases c3 : v2 = 0
  · rw [if_pos c3] at e
    refine gv_ifF (pc' := 9) rfl (gv_neF c3) rfl rfl ?_
    refine gv_ic (pc' := 10) (x := 1) rfl rfl rfl ?_
    refine gv_goto (pc' := 14) rfl rfl ?_
    exact gv_weak (mM_pass_14_ok e) (gv_S1 rfl (gv_S1 rfl gv_S0))
  rw [if_neg c3] at e
  refine gv_ifT (pc' := 13) rfl (gv_neT c3) rfl ?_
  refine gv_ic (pc' := 14) (x := 0) rfl rfl rfl ?_
  exact gv_weak (mM_pass_14_ok e) (gv_S1 rfl (gv_S1 rfl gv_S0))
def mM_holders (l0 : Option Nat) (h : gx_H) : Option (Int32 × gx_H) :=
  (gv_pV h l0 7 0 (.int (0 : Int32))).bind fun h1 =>
  (gv_gI h1 l0 7 12).bind fun v2 =>
  some (v2, h1)
theorem mM_holders_ok {xs : Option (List Int32)} {l0 : Option Nat} {h : gx_H} {r : (Int32 × gx_H)} (e : mM_holders l0 h = some r) : gv_V xs 0 154 0 [(0, gv_u l0)] [] h (.returned (some (.int r.1))) r.2 := by
  unfold mM_holders at e
  refine gv_rldn (pc' := 1) rfl rfl rfl ?_
  refine gv_ic (pc' := 2) (x := 0) rfl rfl rfl ?_
  obtain ⟨h1, qh1, e⟩ := gv_bind e
  refine gv_pI (pc' := 5) rfl rfl rfl qh1 rfl ?_
  refine gv_rldn (pc' := 6) rfl rfl rfl ?_
  obtain ⟨v2, qv2, e⟩ := gv_bind e
  refine gv_fI (pc' := 9) rfl rfl qv2 rfl ?_
  cases e
  exact gv_retI rfl rfl
def mM_passOf_2 : Nat → Option Nat → Int32 → Int32 → gx_H → Option Int32
  | 0, _, _, _, _ => none
  | n + 1, l0, l1, l2, h =>
    (gv_gI h l0 7 10).bind fun v1 =>
    if l2 < v1 then (
      (gv_gR h l0 7 11).bind fun v3 =>
      (gv_lI h v3 l2).bind fun v4 =>
      if v4 = l1 then (
        some l2) else
      mM_passOf_2 n l0 l1 (l2 + 1) h) else
    some (-1 : Int32)
theorem mM_passOf_2_ok {xs : Option (List Int32)} : ∀ (n : Nat) (l0 : Option Nat) (l1 : Int32) (l2 : Int32) (h : gx_H) (r : Int32), mM_passOf_2 n l0 l1 l2 h = some r → gv_V xs 0 157 2 [(0, gv_u l0), (1, .int l1), (2, .int l2)] [] h (.returned (some (.int r))) h := by
  intro n
  induction n with
  | zero => intro l0 l1 l2 h r e; cases e
  | succ n ih =>
    intro l0 l1 l2 h r e
    rw [mM_passOf_2] at e
    refine gv_ildn (pc' := 3) rfl rfl rfl ?_
    refine gv_rldn (pc' := 4) rfl rfl rfl ?_
    obtain ⟨v1, qv1, e⟩ := gv_bind e
    refine gv_fI (pc' := 7) rfl rfl qv1 rfl ?_
    by_cases c2 : l2 < v1
    · rw [if_pos c2] at e
      refine gv_cmF (pc' := 10) rfl (gv_geF2 c2) rfl rfl ?_
      refine gv_rldn (pc' := 11) rfl rfl rfl ?_
      obtain ⟨v3, qv3, e⟩ := gv_bind e
      refine gv_fR (pc' := 14) rfl rfl qv3 rfl ?_
      refine gv_ildn (pc' := 15) rfl rfl rfl ?_
      obtain ⟨v4, qv4, e⟩ := gv_bind e
      refine gv_iald (pc' := 16) rfl qv4 rfl ?_
      refine gv_ildn (pc' := 17) rfl rfl rfl ?_
      by_cases c5 : v4 = l1
      · rw [if_pos c5] at e
        refine gv_cmF (pc' := 20) rfl (gv_neF2 c5) rfl rfl ?_
        refine gv_ildn (pc' := 21) rfl rfl rfl ?_
        cases e
        exact gv_retI rfl rfl
      rw [if_neg c5] at e
      refine gv_cmT (pc' := 22) rfl (gv_neT2 c5) rfl ?_
      refine gv_inc (pc' := 25) (y := 1) rfl rfl rfl rfl (gv_Ci rfl) rfl ?_
      refine gv_goto (pc' := 2) rfl rfl ?_
      exact gv_weak (ih _ _ _ _ _ e) (gv_S1 rfl (gv_S1 rfl (gv_S1 rfl gv_S0)))
    rw [if_neg c2] at e
    refine gv_cmT (pc' := 28) rfl (gv_geT2 c2) rfl ?_
    refine gv_ic (pc' := 29) (x := -1) rfl rfl rfl ?_
    cases e
    exact gv_retI rfl rfl
def mM_passOf (l0 : Option Nat) (l1 : Int32) (h : gx_H) : Option Int32 :=
  mM_passOf_2 1000000000000000 l0 l1 (0 : Int32) h
theorem mM_passOf_ok {xs : Option (List Int32)} {l0 : Option Nat} {l1 : Int32} {h : gx_H} {r : Int32} (e : mM_passOf l0 l1 h = some r) : gv_V xs 0 157 0 [(0, gv_u l0), (1, .int l1)] [] h (.returned (some (.int r))) h := by
  unfold mM_passOf at e
  refine gv_ic (pc' := 1) (x := 0) rfl rfl rfl ?_
  refine gv_istn (pc' := 2) rfl rfl (gv_Ci rfl) rfl ?_
  exact gv_weak (mM_passOf_2_ok 1000000000000000 _ _ _ _ _ e) (gv_S1 rfl (gv_S1 rfl (gv_S1 rfl gv_S0)))
def mM_canPass_64 (rec4 : Option Nat → Int32 → Int32 → gx_H → Option Int32) (l0 : Option Nat) (l2 : Int32) (s0 : Int32) (h : gx_H) : Option Int32 :=
  rec4 l0 s0 (l2 + 1) h
theorem mM_canPass_64_ok {xs : Option (List Int32)} {rec4 : Option Nat → Int32 → Int32 → gx_H → Option Int32} (hrec4 : ∀ (l0 : Option Nat) (l1 : Int32) (l2 : Int32) (h : gx_H) (r : Int32), rec4 l0 l1 l2 h = some r → gv_V xs 1 156 4 [(0, gv_u l0), (1, .int l1), (2, .int l2)] [] h (.returned (some (.int r))) h) {l0 : Option Nat} {l2 : Int32} {s0 : Int32} {h : gx_H} {r : Int32} (e : mM_canPass_64 rec4 l0 l2 s0 h = some r) : gv_V xs 1 156 64 [(0, gv_u l0), (2, .int l2)] [.int s0] h (.returned (some (.int r))) h := by
  unfold mM_canPass_64 at e
  refine gv_istn (pc' := 65) rfl rfl (gv_Cr rfl) rfl ?_
  refine gv_inc (pc' := 68) (y := 1) rfl rfl rfl rfl (gv_Ci rfl) rfl ?_
  refine gv_goto (pc' := 4) rfl rfl ?_
  exact gv_weak (hrec4 _ _ _ _ _ e) (gv_S1 rfl (gv_S1 rfl (gv_S1 rfl gv_S0)))
def mM_canPass_63 (rec4 : Option Nat → Int32 → Int32 → gx_H → Option Int32) (l0 : Option Nat) (l2 : Int32) (h : gx_H) : Option Int32 :=
  mM_canPass_64 rec4 l0 l2 (0 : Int32) h
theorem mM_canPass_63_ok {xs : Option (List Int32)} {rec4 : Option Nat → Int32 → Int32 → gx_H → Option Int32} (hrec4 : ∀ (l0 : Option Nat) (l1 : Int32) (l2 : Int32) (h : gx_H) (r : Int32), rec4 l0 l1 l2 h = some r → gv_V xs 1 156 4 [(0, gv_u l0), (1, .int l1), (2, .int l2)] [] h (.returned (some (.int r))) h) {l0 : Option Nat} {l2 : Int32} {h : gx_H} {r : Int32} (e : mM_canPass_63 rec4 l0 l2 h = some r) : gv_V xs 1 156 63 [(0, gv_u l0), (2, .int l2)] [] h (.returned (some (.int r))) h := by
  unfold mM_canPass_63 at e
  refine gv_ic (pc' := 64) (x := 0) rfl rfl rfl ?_
  exact gv_weak (mM_canPass_64_ok hrec4 e) (gv_S1 rfl (gv_S1 rfl gv_S0))
def mM_canPass_4 : Nat → Option Nat → Int32 → Int32 → gx_H → Option Int32
  | 0, _, _, _, _ => none
  | n + 1, l0, l1, l2, h =>
    (gv_gI h l0 7 10).bind fun v1 =>
    if l2 < v1 then (
      if l1 = 0 then (
        mM_canPass_63 (mM_canPass_4 n) l0 l2 h) else
      (gv_gR h l0 7 2).bind fun v4 =>
      (gv_gR h l0 7 11).bind fun v5 =>
      (gv_lI h v5 l2).bind fun v6 =>
      (gv_lI h v4 v6).bind fun v7 =>
      if v7 = (4 : Int32) then (
        (gv_gR h l0 7 4).bind fun v9 =>
        (gv_gR h l0 7 11).bind fun v10 =>
        (gv_lI h v10 l2).bind fun v11 =>
        (gv_lZ h v9 v11).bind fun v12 =>
        if v12 = 0 then (
          (gv_gR h l0 7 11).bind fun v14 =>
          (gv_lI h v14 l2).bind fun v15 =>
          (gv_is h l0 7).bind fun i16 =>
          (mM_passOf l0 v15 h).bind fun v17 =>
          if v17 = l2 then (
            mM_canPass_64 (mM_canPass_4 n) l0 l2 (1 : Int32) h) else
          mM_canPass_63 (mM_canPass_4 n) l0 l2 h) else
        mM_canPass_63 (mM_canPass_4 n) l0 l2 h) else
      mM_canPass_63 (mM_canPass_4 n) l0 l2 h) else
    if ¬ (l1 = 0 ∨ l1 = 1) then none else
    some l1
theorem mM_canPass_4_ok {xs : Option (List Int32)} : ∀ (n : Nat) (l0 : Option Nat) (l1 : Int32) (l2 : Int32) (h : gx_H) (r : Int32), mM_canPass_4 n l0 l1 l2 h = some r → gv_V xs 1 156 4 [(0, gv_u l0), (1, .int l1), (2, .int l2)] [] h (.returned (some (.int r))) h := by
  intro n
  induction n with
  | zero => intro l0 l1 l2 h r e; cases e
  | succ n ih =>
    intro l0 l1 l2 h r e
    rw [mM_canPass_4] at e
    refine gv_ildn (pc' := 5) rfl rfl rfl ?_
    refine gv_rldn (pc' := 6) rfl rfl rfl ?_
    obtain ⟨v1, qv1, e⟩ := gv_bind e
    refine gv_fI (pc' := 9) rfl rfl qv1 rfl ?_
    by_cases c2 : l2 < v1
    · rw [if_pos c2] at e
      refine gv_cmF (pc' := 12) rfl (gv_geF2 c2) rfl rfl ?_
      refine gv_ildn (pc' := 13) rfl rfl rfl ?_
      by_cases c3 : l1 = 0
      · rw [if_pos c3] at e
        refine gv_ifT (pc' := 63) rfl (gv_eqT c3) rfl ?_
        exact gv_weak (mM_canPass_63_ok ih e) (gv_S1 rfl (gv_S1 rfl gv_S0))
      rw [if_neg c3] at e
      refine gv_ifF (pc' := 16) rfl (gv_eqF c3) rfl rfl ?_
      refine gv_rldn (pc' := 17) rfl rfl rfl ?_
      obtain ⟨v4, qv4, e⟩ := gv_bind e
      refine gv_fR (pc' := 20) rfl rfl qv4 rfl ?_
      refine gv_rldn (pc' := 21) rfl rfl rfl ?_
      obtain ⟨v5, qv5, e⟩ := gv_bind e
      refine gv_fR (pc' := 24) rfl rfl qv5 rfl ?_
      refine gv_ildn (pc' := 25) rfl rfl rfl ?_
      obtain ⟨v6, qv6, e⟩ := gv_bind e
      refine gv_iald (pc' := 26) rfl qv6 rfl ?_
      obtain ⟨v7, qv7, e⟩ := gv_bind e
      refine gv_iald (pc' := 27) rfl qv7 rfl ?_
      refine gv_ic (pc' := 28) (x := 4) rfl rfl rfl ?_
      by_cases c8 : v7 = (4 : Int32)
      · rw [if_pos c8] at e
        refine gv_cmF (pc' := 31) rfl (gv_neF2 c8) rfl rfl ?_
        refine gv_rldn (pc' := 32) rfl rfl rfl ?_
        obtain ⟨v9, qv9, e⟩ := gv_bind e
        refine gv_fR (pc' := 35) rfl rfl qv9 rfl ?_
        refine gv_rldn (pc' := 36) rfl rfl rfl ?_
        obtain ⟨v10, qv10, e⟩ := gv_bind e
        refine gv_fR (pc' := 39) rfl rfl qv10 rfl ?_
        refine gv_ildn (pc' := 40) rfl rfl rfl ?_
        obtain ⟨v11, qv11, e⟩ := gv_bind e
        refine gv_iald (pc' := 41) rfl qv11 rfl ?_
        obtain ⟨v12, qv12, e⟩ := gv_bind e
        refine gv_bald (pc' := 42) rfl qv12 rfl ?_
        by_cases c13 : v12 = 0
        · rw [if_pos c13] at e
          refine gv_ifF (pc' := 45) rfl (gv_neF c13) rfl rfl ?_
          refine gv_rldn (pc' := 46) rfl rfl rfl ?_
          refine gv_rldn (pc' := 47) rfl rfl rfl ?_
          obtain ⟨v14, qv14, e⟩ := gv_bind e
          refine gv_fR (pc' := 50) rfl rfl qv14 rfl ?_
          refine gv_ildn (pc' := 51) rfl rfl rfl ?_
          obtain ⟨v15, qv15, e⟩ := gv_bind e
          refine gv_iald (pc' := 52) rfl qv15 rfl ?_
          obtain ⟨i16, qi16, e⟩ := gv_bind e
          obtain ⟨v17, qv17, e⟩ := gv_bind e
          refine gv_vS (jc := 157) (n := 1) (rest := []) (stk := [.int v17]) (pc' := 55) rfl rfl rfl rfl rfl rfl rfl rfl rfl (gv_zR (gv_zI gv_z0)) rfl (gv_aR (gv_aI gv_a0)) (Nat.le_of_ble_eq_true rfl) qi16 (mM_passOf_ok qv17) rfl rfl ?_
          refine gv_ildn (pc' := 56) rfl rfl rfl ?_
          by_cases c18 : v17 = l2
          · rw [if_pos c18] at e
            refine gv_cmF (pc' := 59) rfl (gv_neF2 c18) rfl rfl ?_
            refine gv_ic (pc' := 60) (x := 1) rfl rfl rfl ?_
            refine gv_goto (pc' := 64) rfl rfl ?_
            exact gv_weak (mM_canPass_64_ok ih e) (gv_S1 rfl (gv_S1 rfl gv_S0))
          rw [if_neg c18] at e
          refine gv_cmT (pc' := 63) rfl (gv_neT2 c18) rfl ?_
          exact gv_weak (mM_canPass_63_ok ih e) (gv_S1 rfl (gv_S1 rfl gv_S0))
        rw [if_neg c13] at e
        refine gv_ifT (pc' := 63) rfl (gv_neT c13) rfl ?_
        exact gv_weak (mM_canPass_63_ok ih e) (gv_S1 rfl (gv_S1 rfl gv_S0))
      rw [if_neg c8] at e
      refine gv_cmT (pc' := 63) rfl (gv_neT2 c8) rfl ?_
      exact gv_weak (mM_canPass_63_ok ih e) (gv_S1 rfl (gv_S1 rfl gv_S0))
    rw [if_neg c2] at e
    refine gv_cmT (pc' := 71) rfl (gv_geT2 c2) rfl ?_
    refine gv_ildn (pc' := 72) rfl rfl rfl ?_
    by_cases c19 : ¬ (l1 = 0 ∨ l1 = 1)
    · rw [if_pos c19] at e; cases e
    rw [if_neg c19] at e
    cases e
    exact gv_retZ rfl rfl (Decidable.of_not_not c19)
def mM_canPass (l0 : Option Nat) (h : gx_H) : Option Int32 :=
  mM_canPass_4 1000000000000000 l0 (1 : Int32) (0 : Int32) h
theorem mM_canPass_ok {xs : Option (List Int32)} {l0 : Option Nat} {h : gx_H} {r : Int32} (e : mM_canPass l0 h = some r) : gv_V xs 1 156 0 [(0, gv_u l0)] [] h (.returned (some (.int r))) h := by
  unfold mM_canPass at e
  refine gv_ic (pc' := 1) (x := 1) rfl rfl rfl ?_
  refine gv_istn (pc' := 2) rfl rfl (gv_Cr rfl) rfl ?_
  refine gv_ic (pc' := 3) (x := 0) rfl rfl rfl ?_
  refine gv_istn (pc' := 4) rfl rfl (gv_Ci rfl) rfl ?_
  exact gv_weak (mM_canPass_4_ok 1000000000000000 _ _ _ _ _ e) (gv_S1 rfl (gv_S1 rfl (gv_S1 rfl gv_S0)))
def mM_say_22 (l0 : Option Nat) (l1 : Int32) (h : gx_H) : Option gx_H :=
  (gv_gI h l0 7 26).bind fun v1 =>
  if v1 = 0 then (
    (gv_gR h l0 7 28).bind fun v3 =>
    (gv_gI h l0 7 27).bind fun v4 =>
    (gv_wI h v3 v4 l1).bind fun h5 =>
    (gv_gI h5 l0 7 27).bind fun v6 =>
    (gv_pV h5 l0 7 27 (.int (v6 + (1 : Int32)))).bind fun h7 =>
    some h7) else
  some h
theorem mM_say_22_ok {xs : Option (List Int32)} {l0 : Option Nat} {l1 : Int32} {h : gx_H} {r : gx_H} (e : mM_say_22 l0 l1 h = some r) : gv_V xs 0 158 22 [(0, gv_u l0), (1, .int l1)] [] h (.returned none) r := by
  unfold mM_say_22 at e
  refine gv_rldn (pc' := 23) rfl rfl rfl ?_
  obtain ⟨v1, qv1, e⟩ := gv_bind e
  refine gv_fI (pc' := 26) rfl rfl qv1 rfl ?_
  by_cases c2 : v1 = 0
  · rw [if_pos c2] at e
    refine gv_ifF (pc' := 29) rfl (gv_neF c2) rfl rfl ?_
    refine gv_rldn (pc' := 30) rfl rfl rfl ?_
    obtain ⟨v3, qv3, e⟩ := gv_bind e
    refine gv_fR (pc' := 33) rfl rfl qv3 rfl ?_
    refine gv_rldn (pc' := 34) rfl rfl rfl ?_
    obtain ⟨v4, qv4, e⟩ := gv_bind e
    refine gv_fI (pc' := 37) rfl rfl qv4 rfl ?_
    refine gv_ildn (pc' := 38) rfl rfl rfl ?_
    obtain ⟨h5, qh5, e⟩ := gv_bind e
    refine gv_iast (pc' := 39) rfl qh5 rfl ?_
    refine gv_rldn (pc' := 40) rfl rfl rfl ?_
    refine gv_dup (pc' := 41) rfl (gv_u_cat _) rfl ?_
    obtain ⟨v6, qv6, e⟩ := gv_bind e
    refine gv_fI (pc' := 44) rfl rfl qv6 rfl ?_
    refine gv_ic (pc' := 45) (x := 1) rfl rfl rfl ?_
    refine gv_iadd (pc' := 46) rfl rfl ?_
    obtain ⟨h7, qh7, e⟩ := gv_bind e
    refine gv_pI (pc' := 49) rfl rfl rfl qh7 rfl ?_
    cases e
    exact gv_retV rfl rfl
  rw [if_neg c2] at e
  refine gv_ifT (pc' := 49) rfl (gv_neT c2) rfl ?_
  cases e
  exact gv_retV rfl rfl
def mM_say (l0 : Option Nat) (l1 : Int32) (h : gx_H) : Option gx_H :=
  (gv_gI h l0 7 26).bind fun v1 =>
  if v1 = 0 then (
    (gv_gI h l0 7 27).bind fun v3 =>
    if v3 = (300 : Int32) then (
      (gv_pV h l0 7 26 (.int (1 : Int32))).bind fun h5 =>
      mM_say_22 l0 l1 h5) else
    mM_say_22 l0 l1 h) else
  mM_say_22 l0 l1 h
theorem mM_say_ok {xs : Option (List Int32)} {l0 : Option Nat} {l1 : Int32} {h : gx_H} {r : gx_H} (e : mM_say l0 l1 h = some r) : gv_V xs 0 158 0 [(0, gv_u l0), (1, .int l1)] [] h (.returned none) r := by
  unfold mM_say at e
  refine gv_rldn (pc' := 1) rfl rfl rfl ?_
  obtain ⟨v1, qv1, e⟩ := gv_bind e
  refine gv_fI (pc' := 4) rfl rfl qv1 rfl ?_
  by_cases c2 : v1 = 0
  · rw [if_pos c2] at e
    refine gv_ifF (pc' := 7) rfl (gv_neF c2) rfl rfl ?_
    refine gv_rldn (pc' := 8) rfl rfl rfl ?_
    obtain ⟨v3, qv3, e⟩ := gv_bind e
    refine gv_fI (pc' := 11) rfl rfl qv3 rfl ?_
    refine gv_sp (pc' := 14) (x := 300) rfl rfl rfl ?_
    by_cases c4 : v3 = (300 : Int32)
    · rw [if_pos c4] at e
      refine gv_cmF (pc' := 17) rfl (gv_neF2 c4) rfl rfl ?_
      refine gv_rldn (pc' := 18) rfl rfl rfl ?_
      refine gv_ic (pc' := 19) (x := 1) rfl rfl rfl ?_
      obtain ⟨h5, qh5, e⟩ := gv_bind e
      refine gv_pI (pc' := 22) rfl rfl rfl qh5 rfl ?_
      exact gv_weak (mM_say_22_ok e) (gv_S1 rfl (gv_S1 rfl gv_S0))
    rw [if_neg c4] at e
    refine gv_cmT (pc' := 22) rfl (gv_neT2 c4) rfl ?_
    exact gv_weak (mM_say_22_ok e) (gv_S1 rfl (gv_S1 rfl gv_S0))
  rw [if_neg c2] at e
  refine gv_ifT (pc' := 22) rfl (gv_neT c2) rfl ?_
  exact gv_weak (mM_say_22_ok e) (gv_S1 rfl (gv_S1 rfl gv_S0))
def mM_zigzag (l0 : Int64) : Option Int64 :=
  some ((l0 <<< (Int32.toInt64 (1 : Int32) &&& 63)) ^^^ (l0 >>> (Int32.toInt64 (63 : Int32) &&& 63)))
theorem mM_zigzag_ok {xs : Option (List Int32)} {l0 : Int64} {h : gx_H} {r : Int64} (e : mM_zigzag l0 = some r) : gv_V xs 0 160 0 [(0, .long l0)] [] h (.returned (some (.long r))) h := by
  unfold mM_zigzag at e
  refine gv_jldn (pc' := 1) rfl rfl rfl ?_
  refine gv_ic (pc' := 2) (x := 1) rfl rfl rfl ?_
  refine gv_lshl (pc' := 3) rfl rfl ?_
  refine gv_jldn (pc' := 4) rfl rfl rfl ?_
  refine gv_bp (pc' := 6) (x := 63) rfl rfl rfl ?_
  refine gv_lshr (pc' := 7) rfl rfl ?_
  refine gv_lxor (pc' := 8) rfl rfl ?_
  cases e
  exact gv_retJ rfl rfl
def mM_sayLengthy_53 (rec5 : Option Nat → Int64 → Int32 → gx_H → Option gx_H) (l0 : Option Nat) (l6 : Int64) (s0 : Int32) (h : gx_H) : Option gx_H :=
  rec5 l0 l6 s0 h
theorem mM_sayLengthy_53_ok {xs : Option (List Int32)} {rec5 : Option Nat → Int64 → Int32 → gx_H → Option gx_H} (hrec5 : ∀ (l0 : Option Nat) (l3 : Int64) (l5 : Int32) (h : gx_H) (r : gx_H), rec5 l0 l3 l5 h = some r → gv_V xs 1 161 5 [(0, gv_u l0), (3, .long l3), (5, .int l5)] [] h (.returned none) r) {l0 : Option Nat} {l6 : Int64} {s0 : Int32} {h : gx_H} {r : gx_H} (e : mM_sayLengthy_53 rec5 l0 l6 s0 h = some r) : gv_V xs 1 161 53 [(0, gv_u l0), (6, .long l6)] [.int s0] h (.returned none) r := by
  unfold mM_sayLengthy_53 at e
  refine gv_ist (pc' := 55) rfl rfl (gv_Cn rfl) rfl ?_
  refine gv_jld (pc' := 57) rfl rfl rfl ?_
  refine gv_jstn (pc' := 58) rfl rfl (gv_Cn rfl) rfl rfl ?_
  refine gv_goto (pc' := 5) rfl rfl ?_
  exact gv_weak (hrec5 _ _ _ _ _ e) (gv_S1 rfl (gv_S1 rfl (gv_S1 rfl gv_S0)))
def mM_sayLengthy_37 (rec5 : Option Nat → Int64 → Int32 → gx_H → Option gx_H) (l0 : Option Nat) (l6 : Int64) (s0 : Option Nat) (s1 : Int32) (s2 : Int32) (h : gx_H) : Option gx_H :=
  (gv_is h s0 7).bind fun i1 =>
  (mM_say s0 (s1 + s2) h).bind fun h3 =>
  if l6 = (0 : Int64) then (
    mM_sayLengthy_53 rec5 l0 l6 (0 : Int32) h3) else
  mM_sayLengthy_53 rec5 l0 l6 (1 : Int32) h3
theorem mM_sayLengthy_37_ok {xs : Option (List Int32)} {rec5 : Option Nat → Int64 → Int32 → gx_H → Option gx_H} (hrec5 : ∀ (l0 : Option Nat) (l3 : Int64) (l5 : Int32) (h : gx_H) (r : gx_H), rec5 l0 l3 l5 h = some r → gv_V xs 1 161 5 [(0, gv_u l0), (3, .long l3), (5, .int l5)] [] h (.returned none) r) {l0 : Option Nat} {l6 : Int64} {s0 : Option Nat} {s1 : Int32} {s2 : Int32} {h : gx_H} {r : gx_H} (e : mM_sayLengthy_37 rec5 l0 l6 s0 s1 s2 h = some r) : gv_V xs 1 161 37 [(0, gv_u l0), (6, .long l6)] [.int s2, .int s1, gv_u s0] h (.returned none) r := by
  unfold mM_sayLengthy_37 at e
  refine gv_iadd (pc' := 38) rfl rfl ?_
  obtain ⟨i1, qi1, e⟩ := gv_bind e
  obtain ⟨h3, qv2, e⟩ := gv_bind e
  refine gv_vS (jc := 158) (n := 1) (rest := []) (stk := []) (pc' := 41) rfl rfl rfl rfl rfl rfl rfl rfl rfl (gv_zR (gv_zI gv_z0)) rfl (gv_aR (gv_aI gv_a0)) (Nat.le_of_ble_eq_true rfl) qi1 (mM_say_ok qv2) rfl rfl ?_
  refine gv_jld (pc' := 43) rfl rfl rfl ?_
  refine gv_lc (pc' := 44) (x := 0) rfl rfl rfl ?_
  refine gv_lcmp (pc' := 45) rfl rfl ?_
  by_cases c4 : l6 = (0 : Int64)
  · rw [if_pos c4] at e
    refine gv_ifT (pc' := 52) rfl (gv_eqTL c4) rfl ?_
    refine gv_ic (pc' := 53) (x := 0) rfl rfl rfl ?_
    exact gv_weak (mM_sayLengthy_53_ok hrec5 e) (gv_S1 rfl (gv_S1 rfl gv_S0))
  rw [if_neg c4] at e
  refine gv_ifF (pc' := 48) rfl (gv_eqFL c4) rfl rfl ?_
  refine gv_ic (pc' := 49) (x := 1) rfl rfl rfl ?_
  refine gv_goto (pc' := 53) rfl rfl ?_
  exact gv_weak (mM_sayLengthy_53_ok hrec5 e) (gv_S1 rfl (gv_S1 rfl gv_S0))
def mM_sayLengthy_5 : Nat → Option Nat → Int64 → Int32 → gx_H → Option gx_H
  | 0, _, _, _, _ => none
  | n + 1, l0, l3, l5, h =>
    if l5 = 0 then (
      some h) else
    if ((Int64.toUInt64 l3 >>> ((Int32.toInt64 (7 : Int32)).toUInt64 &&& Int64.toUInt64 63)).toInt64) = (0 : Int64) then (
      mM_sayLengthy_37 (mM_sayLengthy_5 n) l0 ((Int64.toUInt64 l3 >>> ((Int32.toInt64 (7 : Int32)).toUInt64 &&& Int64.toUInt64 63)).toInt64) l0 (Int64.toInt32 (l3 &&& (127 : Int64))) (0 : Int32) h) else
    mM_sayLengthy_37 (mM_sayLengthy_5 n) l0 ((Int64.toUInt64 l3 >>> ((Int32.toInt64 (7 : Int32)).toUInt64 &&& Int64.toUInt64 63)).toInt64) l0 (Int64.toInt32 (l3 &&& (127 : Int64))) (128 : Int32) h
theorem mM_sayLengthy_5_ok {xs : Option (List Int32)} : ∀ (n : Nat) (l0 : Option Nat) (l3 : Int64) (l5 : Int32) (h : gx_H) (r : gx_H), mM_sayLengthy_5 n l0 l3 l5 h = some r → gv_V xs 1 161 5 [(0, gv_u l0), (3, .long l3), (5, .int l5)] [] h (.returned none) r := by
  intro n
  induction n with
  | zero => intro l0 l3 l5 h r e; cases e
  | succ n ih =>
    intro l0 l3 l5 h r e
    rw [mM_sayLengthy_5] at e
    refine gv_ild (pc' := 7) rfl rfl rfl ?_
    by_cases c1 : l5 = 0
    · rw [if_pos c1] at e
      refine gv_ifT (pc' := 61) rfl (gv_eqT c1) rfl ?_
      cases e
      exact gv_retV rfl rfl
    rw [if_neg c1] at e
    refine gv_ifF (pc' := 10) rfl (gv_eqF c1) rfl rfl ?_
    refine gv_jldn (pc' := 11) rfl rfl rfl ?_
    refine gv_bp (pc' := 13) (x := 7) rfl rfl rfl ?_
    refine gv_lushr (pc' := 14) rfl rfl ?_
    refine gv_jst (pc' := 16) rfl rfl (gv_Ci rfl) rfl rfl ?_
    refine gv_rldn (pc' := 17) rfl rfl rfl ?_
    refine gv_jldn (pc' := 18) rfl rfl rfl ?_
    refine gv_ld (pc' := 21) (x := 127) rfl rfl rfl ?_
    refine gv_land (pc' := 22) rfl rfl ?_
    refine gv_l2i (pc' := 23) rfl rfl ?_
    refine gv_jld (pc' := 25) rfl rfl rfl ?_
    refine gv_lc (pc' := 26) (x := 0) rfl rfl rfl ?_
    refine gv_lcmp (pc' := 27) rfl rfl ?_
    by_cases c2 : ((Int64.toUInt64 l3 >>> ((Int32.toInt64 (7 : Int32)).toUInt64 &&& Int64.toUInt64 63)).toInt64) = (0 : Int64)
    · rw [if_pos c2] at e
      refine gv_ifT (pc' := 36) rfl (gv_eqTL c2) rfl ?_
      refine gv_ic (pc' := 37) (x := 0) rfl rfl rfl ?_
      exact gv_weak (mM_sayLengthy_37_ok ih e) (gv_S1 rfl (gv_S1 rfl gv_S0))
    rw [if_neg c2] at e
    refine gv_ifF (pc' := 30) rfl (gv_eqFL c2) rfl rfl ?_
    refine gv_sp (pc' := 33) (x := 128) rfl rfl rfl ?_
    refine gv_goto (pc' := 37) rfl rfl ?_
    exact gv_weak (mM_sayLengthy_37_ok ih e) (gv_S1 rfl (gv_S1 rfl gv_S0))
def mM_sayLengthy (l0 : Option Nat) (l1 : Int64) (h : gx_H) : Option gx_H :=
  mM_sayLengthy_5 1000000000000000 l0 l1 (1 : Int32) h
theorem mM_sayLengthy_ok {xs : Option (List Int32)} {l0 : Option Nat} {l1 : Int64} {h : gx_H} {r : gx_H} (e : mM_sayLengthy l0 l1 h = some r) : gv_V xs 1 161 0 [(0, gv_u l0), (1, .long l1)] [] h (.returned none) r := by
  unfold mM_sayLengthy at e
  refine gv_jldn (pc' := 1) rfl rfl rfl ?_
  refine gv_jstn (pc' := 2) rfl rfl (gv_Cn rfl) rfl rfl ?_
  refine gv_ic (pc' := 3) (x := 1) rfl rfl rfl ?_
  refine gv_ist (pc' := 5) rfl rfl (gv_Cn rfl) rfl ?_
  exact gv_weak (mM_sayLengthy_5_ok 1000000000000000 _ _ _ _ _ e) (gv_S1 rfl (gv_S1 rfl (gv_S1 rfl gv_S0)))
def mM_textLength_2 : Nat → Int32 → Int32 → Option Int32
  | 0, _, _ => none
  | n + 1, l0, l1 =>
    if l1 < (4 : Int32) then (
      if ((l0 >>> (((8 : Int32) * l1) &&& 31)) &&& (255 : Int32)) = 0 then (
        some l1) else
      mM_textLength_2 n l0 (l1 + 1)) else
    some l1
theorem mM_textLength_2_ok {xs : Option (List Int32)} : ∀ (n : Nat) (l0 : Int32) (l1 : Int32) (h : gx_H) (r : Int32), mM_textLength_2 n l0 l1 = some r → gv_V xs 0 162 2 [(0, .int l0), (1, .int l1)] [] h (.returned (some (.int r))) h := by
  intro n
  induction n with
  | zero => intro l0 l1 h r e; cases e
  | succ n ih =>
    intro l0 l1 h r e
    rw [mM_textLength_2] at e
    refine gv_ildn (pc' := 3) rfl rfl rfl ?_
    refine gv_ic (pc' := 4) (x := 4) rfl rfl rfl ?_
    by_cases c1 : l1 < (4 : Int32)
    · rw [if_pos c1] at e
      refine gv_cmF (pc' := 7) rfl (gv_geF2 c1) rfl rfl ?_
      refine gv_ildn (pc' := 8) rfl rfl rfl ?_
      refine gv_bp (pc' := 10) (x := 8) rfl rfl rfl ?_
      refine gv_ildn (pc' := 11) rfl rfl rfl ?_
      refine gv_imul (pc' := 12) rfl rfl ?_
      refine gv_ishr (pc' := 13) rfl rfl ?_
      refine gv_sp (pc' := 16) (x := 255) rfl rfl rfl ?_
      refine gv_iand (pc' := 17) rfl rfl ?_
      by_cases c2 : ((l0 >>> (((8 : Int32) * l1) &&& 31)) &&& (255 : Int32)) = 0
      · rw [if_pos c2] at e
        refine gv_ifT (pc' := 26) rfl (gv_eqT c2) rfl ?_
        refine gv_ildn (pc' := 27) rfl rfl rfl ?_
        cases e
        exact gv_retI rfl rfl
      rw [if_neg c2] at e
      refine gv_ifF (pc' := 20) rfl (gv_eqF c2) rfl rfl ?_
      refine gv_inc (pc' := 23) (y := 1) rfl rfl rfl rfl (gv_Ci rfl) rfl ?_
      refine gv_goto (pc' := 2) rfl rfl ?_
      exact gv_weak (ih _ _ _ _ e) (gv_S1 rfl (gv_S1 rfl gv_S0))
    rw [if_neg c1] at e
    refine gv_cmT (pc' := 26) rfl (gv_geT2 c1) rfl ?_
    refine gv_ildn (pc' := 27) rfl rfl rfl ?_
    cases e
    exact gv_retI rfl rfl
def mM_textLength (l0 : Int32) : Option Int32 :=
  mM_textLength_2 1000000000000000 l0 (0 : Int32)
theorem mM_textLength_ok {xs : Option (List Int32)} {l0 : Int32} {h : gx_H} {r : Int32} (e : mM_textLength l0 = some r) : gv_V xs 0 162 0 [(0, .int l0)] [] h (.returned (some (.int r))) h := by
  unfold mM_textLength at e
  refine gv_ic (pc' := 1) (x := 0) rfl rfl rfl ?_
  refine gv_istn (pc' := 2) rfl rfl (gv_Ci rfl) rfl ?_
  exact gv_weak (mM_textLength_2_ok 1000000000000000 _ _ _ _ e) (gv_S1 rfl (gv_S1 rfl gv_S0))
def mM_push (l0 : Option Nat) (l1 : Int32) (l2 : Int32) (h : gx_H) : Option gx_H :=
  (gv_gR h l0 7 19).bind fun v1 =>
  (gv_gI h l0 7 18).bind fun v2 =>
  (gv_wI h v1 v2 l1).bind fun h3 =>
  (gv_gR h3 l0 7 20).bind fun v4 =>
  (gv_gI h3 l0 7 18).bind fun v5 =>
  (gv_wI h3 v4 v5 (0 : Int32)).bind fun h6 =>
  (gv_gR h6 l0 7 21).bind fun v7 =>
  (gv_gI h6 l0 7 18).bind fun v8 =>
  (gv_wI h6 v7 v8 l2).bind fun h9 =>
  (gv_gI h9 l0 7 18).bind fun v10 =>
  (gv_pV h9 l0 7 18 (.int (v10 + (1 : Int32)))).bind fun h11 =>
  some h11
theorem mM_push_ok {xs : Option (List Int32)} {l0 : Option Nat} {l1 : Int32} {l2 : Int32} {h : gx_H} {r : gx_H} (e : mM_push l0 l1 l2 h = some r) : gv_V xs 0 164 0 [(0, gv_u l0), (1, .int l1), (2, .int l2)] [] h (.returned none) r := by
  unfold mM_push at e
  refine gv_rldn (pc' := 1) rfl rfl rfl ?_
  obtain ⟨v1, qv1, e⟩ := gv_bind e
  refine gv_fR (pc' := 4) rfl rfl qv1 rfl ?_
  refine gv_rldn (pc' := 5) rfl rfl rfl ?_
  obtain ⟨v2, qv2, e⟩ := gv_bind e
  refine gv_fI (pc' := 8) rfl rfl qv2 rfl ?_
  refine gv_ildn (pc' := 9) rfl rfl rfl ?_
  obtain ⟨h3, qh3, e⟩ := gv_bind e
  refine gv_iast (pc' := 10) rfl qh3 rfl ?_
  refine gv_rldn (pc' := 11) rfl rfl rfl ?_
  obtain ⟨v4, qv4, e⟩ := gv_bind e
  refine gv_fR (pc' := 14) rfl rfl qv4 rfl ?_
  refine gv_rldn (pc' := 15) rfl rfl rfl ?_
  obtain ⟨v5, qv5, e⟩ := gv_bind e
  refine gv_fI (pc' := 18) rfl rfl qv5 rfl ?_
  refine gv_ic (pc' := 19) (x := 0) rfl rfl rfl ?_
  obtain ⟨h6, qh6, e⟩ := gv_bind e
  refine gv_iast (pc' := 20) rfl qh6 rfl ?_
  refine gv_rldn (pc' := 21) rfl rfl rfl ?_
  obtain ⟨v7, qv7, e⟩ := gv_bind e
  refine gv_fR (pc' := 24) rfl rfl qv7 rfl ?_
  refine gv_rldn (pc' := 25) rfl rfl rfl ?_
  obtain ⟨v8, qv8, e⟩ := gv_bind e
  refine gv_fI (pc' := 28) rfl rfl qv8 rfl ?_
  refine gv_ildn (pc' := 29) rfl rfl rfl ?_
  obtain ⟨h9, qh9, e⟩ := gv_bind e
  refine gv_iast (pc' := 30) rfl qh9 rfl ?_
  refine gv_rldn (pc' := 31) rfl rfl rfl ?_
  refine gv_dup (pc' := 32) rfl (gv_u_cat _) rfl ?_
  obtain ⟨v10, qv10, e⟩ := gv_bind e
  refine gv_fI (pc' := 35) rfl rfl qv10 rfl ?_
  refine gv_ic (pc' := 36) (x := 1) rfl rfl rfl ?_
  refine gv_iadd (pc' := 37) rfl rfl ?_
  obtain ⟨h11, qh11, e⟩ := gv_bind e
  refine gv_pI (pc' := 40) rfl rfl rfl qh11 rfl ?_
  cases e
  exact gv_retV rfl rfl
def mM_getPlace (l0 : Option Nat) (l1 : Int32) (h : gx_H) : Option gx_H :=
  (gv_gR h l0 7 30).bind fun v1 =>
  (gv_gI h l0 7 29).bind fun v2 =>
  (gv_wI h v1 l1 v2).bind fun h3 =>
  (gv_gI h3 l0 7 29).bind fun v4 =>
  (gv_pV h3 l0 7 29 (.int (v4 + (1 : Int32)))).bind fun h5 =>
  some h5
theorem mM_getPlace_ok {xs : Option (List Int32)} {l0 : Option Nat} {l1 : Int32} {h : gx_H} {r : gx_H} (e : mM_getPlace l0 l1 h = some r) : gv_V xs 0 165 0 [(0, gv_u l0), (1, .int l1)] [] h (.returned none) r := by
  unfold mM_getPlace at e
  refine gv_rldn (pc' := 1) rfl rfl rfl ?_
  obtain ⟨v1, qv1, e⟩ := gv_bind e
  refine gv_fR (pc' := 4) rfl rfl qv1 rfl ?_
  refine gv_ildn (pc' := 5) rfl rfl rfl ?_
  refine gv_rldn (pc' := 6) rfl rfl rfl ?_
  obtain ⟨v2, qv2, e⟩ := gv_bind e
  refine gv_fI (pc' := 9) rfl rfl qv2 rfl ?_
  obtain ⟨h3, qh3, e⟩ := gv_bind e
  refine gv_iast (pc' := 10) rfl qh3 rfl ?_
  refine gv_rldn (pc' := 11) rfl rfl rfl ?_
  refine gv_dup (pc' := 12) rfl (gv_u_cat _) rfl ?_
  obtain ⟨v4, qv4, e⟩ := gv_bind e
  refine gv_fI (pc' := 15) rfl rfl qv4 rfl ?_
  refine gv_ic (pc' := 16) (x := 1) rfl rfl rfl ?_
  refine gv_iadd (pc' := 17) rfl rfl ?_
  obtain ⟨h5, qh5, e⟩ := gv_bind e
  refine gv_pI (pc' := 20) rfl rfl rfl qh5 rfl ?_
  cases e
  exact gv_retV rfl rfl
def mM_sayObject_48 : Nat → Option Nat → Int32 → Int32 → gx_H → Option gx_H
  | 0, _, _, _, _ => none
  | n + 1, l0, l1, l3, h =>
    if l3 < (4 : Int32) then (
      (gv_gR h l0 7 9).bind fun v2 =>
      (gv_lI h v2 (((8 : Int32) * l1) + l3)).bind fun v3 =>
      (gv_is h l0 7).bind fun i4 =>
      (mM_say l0 v3 h).bind fun h6 =>
      mM_sayObject_48 n l0 l1 (l3 + 1) h6) else
    (gv_is h l0 7).bind fun i7 =>
    (mM_push l0 l1 (1 : Int32) h).bind fun h9 =>
    some h9
theorem mM_sayObject_48_ok {xs : Option (List Int32)} : ∀ (n : Nat) (l0 : Option Nat) (l1 : Int32) (l3 : Int32) (h : gx_H) (r : gx_H), mM_sayObject_48 n l0 l1 l3 h = some r → gv_V xs 2 163 48 [(0, gv_u l0), (1, .int l1), (3, .int l3)] [] h (.returned none) r := by
  intro n
  induction n with
  | zero => intro l0 l1 l3 h r e; cases e
  | succ n ih =>
    intro l0 l1 l3 h r e
    rw [mM_sayObject_48] at e
    refine gv_ildn (pc' := 49) rfl rfl rfl ?_
    refine gv_ic (pc' := 50) (x := 4) rfl rfl rfl ?_
    by_cases c1 : l3 < (4 : Int32)
    · rw [if_pos c1] at e
      refine gv_cmF (pc' := 53) rfl (gv_geF2 c1) rfl rfl ?_
      refine gv_rldn (pc' := 54) rfl rfl rfl ?_
      refine gv_rldn (pc' := 55) rfl rfl rfl ?_
      obtain ⟨v2, qv2, e⟩ := gv_bind e
      refine gv_fR (pc' := 58) rfl rfl qv2 rfl ?_
      refine gv_bp (pc' := 60) (x := 8) rfl rfl rfl ?_
      refine gv_ildn (pc' := 61) rfl rfl rfl ?_
      refine gv_imul (pc' := 62) rfl rfl ?_
      refine gv_ildn (pc' := 63) rfl rfl rfl ?_
      refine gv_iadd (pc' := 64) rfl rfl ?_
      obtain ⟨v3, qv3, e⟩ := gv_bind e
      refine gv_iald (pc' := 65) rfl qv3 rfl ?_
      obtain ⟨i4, qi4, e⟩ := gv_bind e
      obtain ⟨h6, qv5, e⟩ := gv_bind e
      refine gv_vS (jc := 158) (n := 1) (rest := []) (stk := []) (pc' := 68) rfl rfl rfl rfl rfl rfl rfl rfl rfl (gv_zR (gv_zI gv_z0)) rfl (gv_aR (gv_aI gv_a0)) (Nat.le_of_ble_eq_true rfl) qi4 (mM_say_ok qv5) rfl rfl ?_
      refine gv_inc (pc' := 71) (y := 1) rfl rfl rfl rfl (gv_Cn rfl) rfl ?_
      refine gv_goto (pc' := 48) rfl rfl ?_
      exact gv_weak (ih _ _ _ _ _ e) (gv_S1 rfl (gv_S1 rfl (gv_S1 rfl gv_S0)))
    rw [if_neg c1] at e
    refine gv_cmT (pc' := 74) rfl (gv_geT2 c1) rfl ?_
    refine gv_rldn (pc' := 75) rfl rfl rfl ?_
    refine gv_ildn (pc' := 76) rfl rfl rfl ?_
    refine gv_ic (pc' := 77) (x := 1) rfl rfl rfl ?_
    obtain ⟨i7, qi7, e⟩ := gv_bind e
    obtain ⟨h9, qv8, e⟩ := gv_bind e
    refine gv_vS (jc := 164) (n := 2) (rest := []) (stk := []) (pc' := 80) rfl rfl rfl rfl rfl rfl rfl rfl rfl (gv_zR (gv_zI (gv_zI gv_z0))) rfl (gv_aR (gv_aI (gv_aI gv_a0))) (Nat.le_of_ble_eq_true rfl) qi7 (mM_push_ok qv8) rfl rfl ?_
    cases e
    exact gv_retV rfl rfl
def mM_sayObject_234 (s0 : Option Nat) (s1 : Int32) (s2 : Int32) (h : gx_H) : Option gx_H :=
  (gv_is h s0 7).bind fun i1 =>
  (mM_push s0 s1 s2 h).bind fun h3 =>
  some h3
theorem mM_sayObject_234_ok {xs : Option (List Int32)} {s0 : Option Nat} {s1 : Int32} {s2 : Int32} {h : gx_H} {r : gx_H} (e : mM_sayObject_234 s0 s1 s2 h = some r) : gv_V xs 2 163 234 [] [.int s2, .int s1, gv_u s0] h (.returned none) r := by
  unfold mM_sayObject_234 at e
  obtain ⟨i1, qi1, e⟩ := gv_bind e
  obtain ⟨h3, qv2, e⟩ := gv_bind e
  refine gv_vS (jc := 164) (n := 2) (rest := []) (stk := []) (pc' := 237) rfl rfl rfl rfl rfl rfl rfl rfl rfl (gv_zR (gv_zI (gv_zI gv_z0))) rfl (gv_aR (gv_aI (gv_aI gv_a0))) (Nat.le_of_ble_eq_true rfl) qi1 (mM_push_ok qv2) rfl rfl ?_
  cases e
  exact gv_retV rfl rfl
def mM_sayObject_210 (l0 : Option Nat) (l1 : Int32) (l2 : Int32) (h : gx_H) : Option gx_H :=
  if l2 = (2 : Int32) then (
    (gv_gR h l0 7 3).bind fun v2 =>
    (gv_lI h v2 l1).bind fun v3 =>
    mM_sayObject_234 l0 l1 ((2 : Int32) * v3) h) else
  (gv_gR h l0 7 3).bind fun v4 =>
  (gv_lI h v4 l1).bind fun v5 =>
  mM_sayObject_234 l0 l1 v5 h
theorem mM_sayObject_210_ok {xs : Option (List Int32)} {l0 : Option Nat} {l1 : Int32} {l2 : Int32} {h : gx_H} {r : gx_H} (e : mM_sayObject_210 l0 l1 l2 h = some r) : gv_V xs 2 163 210 [(0, gv_u l0), (1, .int l1), (2, .int l2)] [] h (.returned none) r := by
  unfold mM_sayObject_210 at e
  refine gv_rldn (pc' := 211) rfl rfl rfl ?_
  refine gv_ildn (pc' := 212) rfl rfl rfl ?_
  refine gv_ildn (pc' := 213) rfl rfl rfl ?_
  refine gv_ic (pc' := 214) (x := 2) rfl rfl rfl ?_
  by_cases c1 : l2 = (2 : Int32)
  · rw [if_pos c1] at e
    refine gv_cmF (pc' := 217) rfl (gv_neF2 c1) rfl rfl ?_
    refine gv_ic (pc' := 218) (x := 2) rfl rfl rfl ?_
    refine gv_rldn (pc' := 219) rfl rfl rfl ?_
    obtain ⟨v2, qv2, e⟩ := gv_bind e
    refine gv_fR (pc' := 222) rfl rfl qv2 rfl ?_
    refine gv_ildn (pc' := 223) rfl rfl rfl ?_
    obtain ⟨v3, qv3, e⟩ := gv_bind e
    refine gv_iald (pc' := 224) rfl qv3 rfl ?_
    refine gv_imul (pc' := 225) rfl rfl ?_
    refine gv_goto (pc' := 234) rfl rfl ?_
    exact gv_weak (mM_sayObject_234_ok e) gv_S0
  rw [if_neg c1] at e
  refine gv_cmT (pc' := 228) rfl (gv_neT2 c1) rfl ?_
  refine gv_rldn (pc' := 229) rfl rfl rfl ?_
  obtain ⟨v4, qv4, e⟩ := gv_bind e
  refine gv_fR (pc' := 232) rfl rfl qv4 rfl ?_
  refine gv_ildn (pc' := 233) rfl rfl rfl ?_
  obtain ⟨v5, qv5, e⟩ := gv_bind e
  refine gv_iald (pc' := 234) rfl qv5 rfl ?_
  exact gv_weak (mM_sayObject_234_ok e) gv_S0
def mM_sayObject_165 : Nat → Option Nat → Int32 → Int32 → Int32 → gx_H → Option gx_H
  | 0, _, _, _, _, _ => none
  | n + 1, l0, l1, l2, l3, h =>
    (gv_gR h l0 7 3).bind fun v1 =>
    (gv_lI h v1 l1).bind fun v2 =>
    if l3 < v2 then (
      if l2 = 0 then (
        (gv_gR h l0 7 22).bind fun v5 =>
        (gv_gI h l0 7 18).bind fun v6 =>
        (gv_gR h l0 7 6).bind fun v7 =>
        (gv_lI h v7 (((8 : Int32) * l1) + l3)).bind fun v8 =>
        (gv_wI h v5 (((6 : Int32) * v6) + l3) v8).bind fun h9 =>
        mM_sayObject_165 n l0 l1 l2 (l3 + 1) h9) else
      mM_sayObject_210 l0 l1 l2 h) else
    mM_sayObject_210 l0 l1 l2 h
theorem mM_sayObject_165_ok {xs : Option (List Int32)} : ∀ (n : Nat) (l0 : Option Nat) (l1 : Int32) (l2 : Int32) (l3 : Int32) (h : gx_H) (r : gx_H), mM_sayObject_165 n l0 l1 l2 l3 h = some r → gv_V xs 2 163 165 [(0, gv_u l0), (1, .int l1), (2, .int l2), (3, .int l3)] [] h (.returned none) r := by
  intro n
  induction n with
  | zero => intro l0 l1 l2 l3 h r e; cases e
  | succ n ih =>
    intro l0 l1 l2 l3 h r e
    rw [mM_sayObject_165] at e
    refine gv_ildn (pc' := 166) rfl rfl rfl ?_
    refine gv_rldn (pc' := 167) rfl rfl rfl ?_
    obtain ⟨v1, qv1, e⟩ := gv_bind e
    refine gv_fR (pc' := 170) rfl rfl qv1 rfl ?_
    refine gv_ildn (pc' := 171) rfl rfl rfl ?_
    obtain ⟨v2, qv2, e⟩ := gv_bind e
    refine gv_iald (pc' := 172) rfl qv2 rfl ?_
    by_cases c3 : l3 < v2
    · rw [if_pos c3] at e
      refine gv_cmF (pc' := 175) rfl (gv_geF2 c3) rfl rfl ?_
      refine gv_ildn (pc' := 176) rfl rfl rfl ?_
      by_cases c4 : l2 = 0
      · rw [if_pos c4] at e
        refine gv_ifF (pc' := 179) rfl (gv_neF c4) rfl rfl ?_
        refine gv_rldn (pc' := 180) rfl rfl rfl ?_
        obtain ⟨v5, qv5, e⟩ := gv_bind e
        refine gv_fR (pc' := 183) rfl rfl qv5 rfl ?_
        refine gv_bp (pc' := 185) (x := 6) rfl rfl rfl ?_
        refine gv_rldn (pc' := 186) rfl rfl rfl ?_
        obtain ⟨v6, qv6, e⟩ := gv_bind e
        refine gv_fI (pc' := 189) rfl rfl qv6 rfl ?_
        refine gv_imul (pc' := 190) rfl rfl ?_
        refine gv_ildn (pc' := 191) rfl rfl rfl ?_
        refine gv_iadd (pc' := 192) rfl rfl ?_
        refine gv_rldn (pc' := 193) rfl rfl rfl ?_
        obtain ⟨v7, qv7, e⟩ := gv_bind e
        refine gv_fR (pc' := 196) rfl rfl qv7 rfl ?_
        refine gv_bp (pc' := 198) (x := 8) rfl rfl rfl ?_
        refine gv_ildn (pc' := 199) rfl rfl rfl ?_
        refine gv_imul (pc' := 200) rfl rfl ?_
        refine gv_ildn (pc' := 201) rfl rfl rfl ?_
        refine gv_iadd (pc' := 202) rfl rfl ?_
        obtain ⟨v8, qv8, e⟩ := gv_bind e
        refine gv_iald (pc' := 203) rfl qv8 rfl ?_
        obtain ⟨h9, qh9, e⟩ := gv_bind e
        refine gv_iast (pc' := 204) rfl qh9 rfl ?_
        refine gv_inc (pc' := 207) (y := 1) rfl rfl rfl rfl (gv_Ci rfl) rfl ?_
        refine gv_goto (pc' := 165) rfl rfl ?_
        exact gv_weak (ih _ _ _ _ _ _ e) (gv_S1 rfl (gv_S1 rfl (gv_S1 rfl (gv_S1 rfl gv_S0))))
      rw [if_neg c4] at e
      refine gv_ifT (pc' := 210) rfl (gv_neT c4) rfl ?_
      exact gv_weak (mM_sayObject_210_ok e) (gv_S1 rfl (gv_S1 rfl (gv_S1 rfl gv_S0)))
    rw [if_neg c3] at e
    refine gv_cmT (pc' := 210) rfl (gv_geT2 c3) rfl ?_
    exact gv_weak (mM_sayObject_210_ok e) (gv_S1 rfl (gv_S1 rfl (gv_S1 rfl gv_S0)))
def mM_sayObject_158 (l0 : Option Nat) (l1 : Int32) (l2 : Int32) (h : gx_H) : Option gx_H :=
  if l2 = (4 : Int32) then (
    some h) else
  mM_sayObject_165 1000000000000000 l0 l1 l2 (0 : Int32) h
theorem mM_sayObject_158_ok {xs : Option (List Int32)} {l0 : Option Nat} {l1 : Int32} {l2 : Int32} {h : gx_H} {r : gx_H} (e : mM_sayObject_158 l0 l1 l2 h = some r) : gv_V xs 2 163 158 [(0, gv_u l0), (1, .int l1), (2, .int l2)] [] h (.returned none) r := by
  unfold mM_sayObject_158 at e
  refine gv_ildn (pc' := 159) rfl rfl rfl ?_
  refine gv_ic (pc' := 160) (x := 4) rfl rfl rfl ?_
  by_cases c1 : l2 = (4 : Int32)
  · rw [if_pos c1] at e
    refine gv_cmT (pc' := 237) rfl (gv_eqT2 c1) rfl ?_
    cases e
    exact gv_retV rfl rfl
  rw [if_neg c1] at e
  refine gv_cmF (pc' := 163) rfl (gv_eqF2 c1) rfl rfl ?_
  refine gv_ic (pc' := 164) (x := 0) rfl rfl rfl ?_
  refine gv_istn (pc' := 165) rfl rfl (gv_Ci rfl) rfl ?_
  exact gv_weak (mM_sayObject_165_ok 1000000000000000 _ _ _ _ _ _ e) (gv_S1 rfl (gv_S1 rfl (gv_S1 rfl (gv_S1 rfl gv_S0))))
def mM_sayObject_122 : Nat → Option Nat → Int32 → Int32 → Int32 → gx_H → Option gx_H
  | 0, _, _, _, _, _ => none
  | n + 1, l0, l1, l2, l3, h =>
    (gv_gR h l0 7 3).bind fun v1 =>
    (gv_lI h v1 l1).bind fun v2 =>
    if l3 < v2 then (
      if l2 = (4 : Int32) then (
        (gv_gR h l0 7 9).bind fun v5 =>
        (gv_lI h v5 (((8 : Int32) * l1) + l3)).bind fun v6 =>
        (gv_is h l0 7).bind fun i7 =>
        (mM_say l0 v6 h).bind fun h9 =>
        mM_sayObject_122 n l0 l1 l2 (l3 + 1) h9) else
      mM_sayObject_158 l0 l1 l2 h) else
    mM_sayObject_158 l0 l1 l2 h
theorem mM_sayObject_122_ok {xs : Option (List Int32)} : ∀ (n : Nat) (l0 : Option Nat) (l1 : Int32) (l2 : Int32) (l3 : Int32) (h : gx_H) (r : gx_H), mM_sayObject_122 n l0 l1 l2 l3 h = some r → gv_V xs 2 163 122 [(0, gv_u l0), (1, .int l1), (2, .int l2), (3, .int l3)] [] h (.returned none) r := by
  intro n
  induction n with
  | zero => intro l0 l1 l2 l3 h r e; cases e
  | succ n ih =>
    intro l0 l1 l2 l3 h r e
    rw [mM_sayObject_122] at e
    refine gv_ildn (pc' := 123) rfl rfl rfl ?_
    refine gv_rldn (pc' := 124) rfl rfl rfl ?_
    obtain ⟨v1, qv1, e⟩ := gv_bind e
    refine gv_fR (pc' := 127) rfl rfl qv1 rfl ?_
    refine gv_ildn (pc' := 128) rfl rfl rfl ?_
    obtain ⟨v2, qv2, e⟩ := gv_bind e
    refine gv_iald (pc' := 129) rfl qv2 rfl ?_
    by_cases c3 : l3 < v2
    · rw [if_pos c3] at e
      refine gv_cmF (pc' := 132) rfl (gv_geF2 c3) rfl rfl ?_
      refine gv_ildn (pc' := 133) rfl rfl rfl ?_
      refine gv_ic (pc' := 134) (x := 4) rfl rfl rfl ?_
      by_cases c4 : l2 = (4 : Int32)
      · rw [if_pos c4] at e
        refine gv_cmF (pc' := 137) rfl (gv_neF2 c4) rfl rfl ?_
        refine gv_rldn (pc' := 138) rfl rfl rfl ?_
        refine gv_rldn (pc' := 139) rfl rfl rfl ?_
        obtain ⟨v5, qv5, e⟩ := gv_bind e
        refine gv_fR (pc' := 142) rfl rfl qv5 rfl ?_
        refine gv_bp (pc' := 144) (x := 8) rfl rfl rfl ?_
        refine gv_ildn (pc' := 145) rfl rfl rfl ?_
        refine gv_imul (pc' := 146) rfl rfl ?_
        refine gv_ildn (pc' := 147) rfl rfl rfl ?_
        refine gv_iadd (pc' := 148) rfl rfl ?_
        obtain ⟨v6, qv6, e⟩ := gv_bind e
        refine gv_iald (pc' := 149) rfl qv6 rfl ?_
        obtain ⟨i7, qi7, e⟩ := gv_bind e
        obtain ⟨h9, qv8, e⟩ := gv_bind e
        refine gv_vS (jc := 158) (n := 1) (rest := []) (stk := []) (pc' := 152) rfl rfl rfl rfl rfl rfl rfl rfl rfl (gv_zR (gv_zI gv_z0)) rfl (gv_aR (gv_aI gv_a0)) (Nat.le_of_ble_eq_true rfl) qi7 (mM_say_ok qv8) rfl rfl ?_
        refine gv_inc (pc' := 155) (y := 1) rfl rfl rfl rfl (gv_Ci rfl) rfl ?_
        refine gv_goto (pc' := 122) rfl rfl ?_
        exact gv_weak (ih _ _ _ _ _ _ e) (gv_S1 rfl (gv_S1 rfl (gv_S1 rfl (gv_S1 rfl gv_S0))))
      rw [if_neg c4] at e
      refine gv_cmT (pc' := 158) rfl (gv_neT2 c4) rfl ?_
      exact gv_weak (mM_sayObject_158_ok e) (gv_S1 rfl (gv_S1 rfl (gv_S1 rfl gv_S0)))
    rw [if_neg c3] at e
    refine gv_cmT (pc' := 158) rfl (gv_geT2 c3) rfl ?_
    exact gv_weak (mM_sayObject_158_ok e) (gv_S1 rfl (gv_S1 rfl (gv_S1 rfl gv_S0)))
def mM_sayObject_120 (l0 : Option Nat) (l1 : Int32) (l2 : Int32) (h : gx_H) : Option gx_H :=
  mM_sayObject_122 1000000000000000 l0 l1 l2 (0 : Int32) h
theorem mM_sayObject_120_ok {xs : Option (List Int32)} {l0 : Option Nat} {l1 : Int32} {l2 : Int32} {h : gx_H} {r : gx_H} (e : mM_sayObject_120 l0 l1 l2 h = some r) : gv_V xs 2 163 120 [(0, gv_u l0), (1, .int l1), (2, .int l2)] [] h (.returned none) r := by
  unfold mM_sayObject_120 at e
  refine gv_ic (pc' := 121) (x := 0) rfl rfl rfl ?_
  refine gv_istn (pc' := 122) rfl rfl (gv_Ci rfl) rfl ?_
  exact gv_weak (mM_sayObject_122_ok 1000000000000000 _ _ _ _ _ _ e) (gv_S1 rfl (gv_S1 rfl (gv_S1 rfl (gv_S1 rfl gv_S0))))
def mM_sayObject_33 (l0 : Option Nat) (l1 : Int32) (l2 : Int32) (h : gx_H) : Option gx_H :=
  (gv_is h l0 7).bind fun i1 =>
  (mM_say l0 ((8 : Int32) + l2) h).bind fun h3 =>
  if l2 = (5 : Int32) then (
    mM_sayObject_48 1000000000000000 l0 l1 (1 : Int32) h3) else
  (gv_is h3 l0 7).bind fun i5 =>
  (mM_getPlace l0 l1 h3).bind fun h7 =>
  if l2 = (6 : Int32) then (
    (gv_gR h7 l0 7 5).bind fun v9 =>
    (gv_lJ h7 v9 l1).bind fun v10 =>
    (mM_zigzag v10).bind fun v11 =>
    (gv_is h7 l0 7).bind fun i12 =>
    (mM_sayLengthy l0 v11 h7).bind fun h14 =>
    some h14) else
  if l2 = 0 then (
    mM_sayObject_120 l0 l1 l2 h7) else
  (gv_gR h7 l0 7 3).bind fun v16 =>
  (gv_lI h7 v16 l1).bind fun v17 =>
  (gv_is h7 l0 7).bind fun i18 =>
  (mM_say l0 v17 h7).bind fun h20 =>
  mM_sayObject_120 l0 l1 l2 h20
theorem mM_sayObject_33_ok {xs : Option (List Int32)} {l0 : Option Nat} {l1 : Int32} {l2 : Int32} {h : gx_H} {r : gx_H} (e : mM_sayObject_33 l0 l1 l2 h = some r) : gv_V xs 2 163 33 [(0, gv_u l0), (1, .int l1), (2, .int l2)] [] h (.returned none) r := by
  unfold mM_sayObject_33 at e
  refine gv_rldn (pc' := 34) rfl rfl rfl ?_
  refine gv_bp (pc' := 36) (x := 8) rfl rfl rfl ?_
  refine gv_ildn (pc' := 37) rfl rfl rfl ?_
  refine gv_iadd (pc' := 38) rfl rfl ?_
  obtain ⟨i1, qi1, e⟩ := gv_bind e
  obtain ⟨h3, qv2, e⟩ := gv_bind e
  refine gv_vS (jc := 158) (n := 1) (rest := []) (stk := []) (pc' := 41) rfl rfl rfl rfl rfl rfl rfl rfl rfl (gv_zR (gv_zI gv_z0)) rfl (gv_aR (gv_aI gv_a0)) (Nat.le_of_ble_eq_true rfl) qi1 (mM_say_ok qv2) rfl rfl ?_
  refine gv_ildn (pc' := 42) rfl rfl rfl ?_
  refine gv_ic (pc' := 43) (x := 5) rfl rfl rfl ?_
  by_cases c4 : l2 = (5 : Int32)
  · rw [if_pos c4] at e
    refine gv_cmF (pc' := 46) rfl (gv_neF2 c4) rfl rfl ?_
    refine gv_ic (pc' := 47) (x := 1) rfl rfl rfl ?_
    refine gv_istn (pc' := 48) rfl rfl (gv_Ci rfl) rfl ?_
    exact gv_weak (mM_sayObject_48_ok 1000000000000000 _ _ _ _ _ e) (gv_S1 rfl (gv_S1 rfl (gv_S1 rfl gv_S0)))
  rw [if_neg c4] at e
  refine gv_cmT (pc' := 81) rfl (gv_neT2 c4) rfl ?_
  refine gv_rldn (pc' := 82) rfl rfl rfl ?_
  refine gv_ildn (pc' := 83) rfl rfl rfl ?_
  obtain ⟨i5, qi5, e⟩ := gv_bind e
  obtain ⟨h7, qv6, e⟩ := gv_bind e
  refine gv_vS (jc := 165) (n := 1) (rest := []) (stk := []) (pc' := 86) rfl rfl rfl rfl rfl rfl rfl rfl rfl (gv_zR (gv_zI gv_z0)) rfl (gv_aR (gv_aI gv_a0)) (Nat.le_of_ble_eq_true rfl) qi5 (mM_getPlace_ok qv6) rfl rfl ?_
  refine gv_ildn (pc' := 87) rfl rfl rfl ?_
  refine gv_bp (pc' := 89) (x := 6) rfl rfl rfl ?_
  by_cases c8 : l2 = (6 : Int32)
  · rw [if_pos c8] at e
    refine gv_cmF (pc' := 92) rfl (gv_neF2 c8) rfl rfl ?_
    refine gv_rldn (pc' := 93) rfl rfl rfl ?_
    refine gv_rldn (pc' := 94) rfl rfl rfl ?_
    obtain ⟨v9, qv9, e⟩ := gv_bind e
    refine gv_fR (pc' := 97) rfl rfl qv9 rfl ?_
    refine gv_ildn (pc' := 98) rfl rfl rfl ?_
    obtain ⟨v10, qv10, e⟩ := gv_bind e
    refine gv_lald (pc' := 99) rfl qv10 rfl ?_
    obtain ⟨v11, qv11, e⟩ := gv_bind e
    refine gv_sS (jc := 160) (n := 1) (rest := [gv_u l0]) (stk := [.long v11, gv_u l0]) (pc' := 102) rfl rfl rfl rfl rfl rfl rfl rfl rfl (gv_zJ gv_z0) rfl (gv_aJ gv_a0) (Nat.le_of_ble_eq_true rfl) (mM_zigzag_ok qv11) rfl rfl ?_
    obtain ⟨i12, qi12, e⟩ := gv_bind e
    obtain ⟨h14, qv13, e⟩ := gv_bind e
    refine gv_vS (jc := 161) (n := 1) (rest := []) (stk := []) (pc' := 105) rfl rfl rfl rfl rfl rfl rfl rfl rfl (gv_zR (gv_zJ gv_z0)) rfl (gv_aR (gv_aJ gv_a0)) (Nat.le_of_ble_eq_true rfl) qi12 (mM_sayLengthy_ok qv13) rfl rfl ?_
    cases e
    exact gv_retV rfl rfl
  rw [if_neg c8] at e
  refine gv_cmT (pc' := 106) rfl (gv_neT2 c8) rfl ?_
  refine gv_ildn (pc' := 107) rfl rfl rfl ?_
  by_cases c15 : l2 = 0
  · rw [if_pos c15] at e
    refine gv_ifT (pc' := 120) rfl (gv_eqT c15) rfl ?_
    exact gv_weak (mM_sayObject_120_ok e) (gv_S1 rfl (gv_S1 rfl (gv_S1 rfl gv_S0)))
  rw [if_neg c15] at e
  refine gv_ifF (pc' := 110) rfl (gv_eqF c15) rfl rfl ?_
  refine gv_rldn (pc' := 111) rfl rfl rfl ?_
  refine gv_rldn (pc' := 112) rfl rfl rfl ?_
  obtain ⟨v16, qv16, e⟩ := gv_bind e
  refine gv_fR (pc' := 115) rfl rfl qv16 rfl ?_
  refine gv_ildn (pc' := 116) rfl rfl rfl ?_
  obtain ⟨v17, qv17, e⟩ := gv_bind e
  refine gv_iald (pc' := 117) rfl qv17 rfl ?_
  obtain ⟨i18, qi18, e⟩ := gv_bind e
  obtain ⟨h20, qv19, e⟩ := gv_bind e
  refine gv_vS (jc := 158) (n := 1) (rest := []) (stk := []) (pc' := 120) rfl rfl rfl rfl rfl rfl rfl rfl rfl (gv_zR (gv_zI gv_z0)) rfl (gv_aR (gv_aI gv_a0)) (Nat.le_of_ble_eq_true rfl) qi18 (mM_say_ok qv19) rfl rfl ?_
  exact gv_weak (mM_sayObject_120_ok e) (gv_S1 rfl (gv_S1 rfl (gv_S1 rfl gv_S0)))
def mM_sayObject (l0 : Option Nat) (l1 : Int32) (h : gx_H) : Option gx_H :=
  (gv_gR h l0 7 2).bind fun v1 =>
  (gv_lI h v1 l1).bind fun v2 =>
  if v2 = (7 : Int32) then (
    (gv_pV h l0 7 26 (.int (1 : Int32))).bind fun h4 =>
    some h4) else
  if v2 = (4 : Int32) then (
    (gv_gR h l0 7 4).bind fun v6 =>
    (gv_lZ h v6 l1).bind fun v7 =>
    if v7 = 0 then (
      mM_sayObject_33 l0 l1 v2 h) else
    (gv_pV h l0 7 26 (.int (1 : Int32))).bind fun h9 =>
    some h9) else
  mM_sayObject_33 l0 l1 v2 h
theorem mM_sayObject_ok {xs : Option (List Int32)} {l0 : Option Nat} {l1 : Int32} {h : gx_H} {r : gx_H} (e : mM_sayObject l0 l1 h = some r) : gv_V xs 2 163 0 [(0, gv_u l0), (1, .int l1)] [] h (.returned none) r := by
  unfold mM_sayObject at e
  refine gv_rldn (pc' := 1) rfl rfl rfl ?_
  obtain ⟨v1, qv1, e⟩ := gv_bind e
  refine gv_fR (pc' := 4) rfl rfl qv1 rfl ?_
  refine gv_ildn (pc' := 5) rfl rfl rfl ?_
  obtain ⟨v2, qv2, e⟩ := gv_bind e
  refine gv_iald (pc' := 6) rfl qv2 rfl ?_
  refine gv_istn (pc' := 7) rfl rfl (gv_Ci rfl) rfl ?_
  refine gv_ildn (pc' := 8) rfl rfl rfl ?_
  refine gv_bp (pc' := 10) (x := 7) rfl rfl rfl ?_
  by_cases c3 : v2 = (7 : Int32)
  · rw [if_pos c3] at e
    refine gv_cmT (pc' := 27) rfl (gv_eqT2 c3) rfl ?_
    refine gv_rldn (pc' := 28) rfl rfl rfl ?_
    refine gv_ic (pc' := 29) (x := 1) rfl rfl rfl ?_
    obtain ⟨h4, qh4, e⟩ := gv_bind e
    refine gv_pI (pc' := 32) rfl rfl rfl qh4 rfl ?_
    cases e
    exact gv_retV rfl rfl
  rw [if_neg c3] at e
  refine gv_cmF (pc' := 13) rfl (gv_eqF2 c3) rfl rfl ?_
  refine gv_ildn (pc' := 14) rfl rfl rfl ?_
  refine gv_ic (pc' := 15) (x := 4) rfl rfl rfl ?_
  by_cases c5 : v2 = (4 : Int32)
  · rw [if_pos c5] at e
    refine gv_cmF (pc' := 18) rfl (gv_neF2 c5) rfl rfl ?_
    refine gv_rldn (pc' := 19) rfl rfl rfl ?_
    obtain ⟨v6, qv6, e⟩ := gv_bind e
    refine gv_fR (pc' := 22) rfl rfl qv6 rfl ?_
    refine gv_ildn (pc' := 23) rfl rfl rfl ?_
    obtain ⟨v7, qv7, e⟩ := gv_bind e
    refine gv_bald (pc' := 24) rfl qv7 rfl ?_
    by_cases c8 : v7 = 0
    · rw [if_pos c8] at e
      refine gv_ifT (pc' := 33) rfl (gv_eqT c8) rfl ?_
      exact gv_weak (mM_sayObject_33_ok e) (gv_S1 rfl (gv_S1 rfl (gv_S1 rfl gv_S0)))
    rw [if_neg c8] at e
    refine gv_ifF (pc' := 27) rfl (gv_eqF c8) rfl rfl ?_
    refine gv_rldn (pc' := 28) rfl rfl rfl ?_
    refine gv_ic (pc' := 29) (x := 1) rfl rfl rfl ?_
    obtain ⟨h9, qh9, e⟩ := gv_bind e
    refine gv_pI (pc' := 32) rfl rfl rfl qh9 rfl ?_
    cases e
    exact gv_retV rfl rfl
  rw [if_neg c5] at e
  refine gv_cmT (pc' := 33) rfl (gv_neT2 c5) rfl ?_
  exact gv_weak (mM_sayObject_33_ok e) (gv_S1 rfl (gv_S1 rfl (gv_S1 rfl gv_S0)))
def mM_sayValue_80 : Nat → Option Nat → Int32 → Int32 → gx_H → Option gx_H
  | 0, _, _, _, _ => none
  | n + 1, l0, l2, l3, h =>
    (mM_textLength l2).bind fun v1 =>
    if l3 < v1 then (
      (gv_is h l0 7).bind fun i3 =>
      (mM_say l0 ((l2 >>> (((8 : Int32) * l3) &&& 31)) &&& (255 : Int32)) h).bind fun h5 =>
      mM_sayValue_80 n l0 l2 (l3 + 1) h5) else
    some h
theorem mM_sayValue_80_ok {xs : Option (List Int32)} : ∀ (n : Nat) (l0 : Option Nat) (l2 : Int32) (l3 : Int32) (h : gx_H) (r : gx_H), mM_sayValue_80 n l0 l2 l3 h = some r → gv_V xs 3 159 80 [(0, gv_u l0), (2, .int l2), (3, .int l3)] [] h (.returned none) r := by
  intro n
  induction n with
  | zero => intro l0 l2 l3 h r e; cases e
  | succ n ih =>
    intro l0 l2 l3 h r e
    rw [mM_sayValue_80] at e
    refine gv_ildn (pc' := 81) rfl rfl rfl ?_
    refine gv_ildn (pc' := 82) rfl rfl rfl ?_
    obtain ⟨v1, qv1, e⟩ := gv_bind e
    refine gv_sS (jc := 162) (n := 1) (rest := [.int l3]) (stk := [.int v1, .int l3]) (pc' := 85) rfl rfl rfl rfl rfl rfl rfl rfl rfl (gv_zI gv_z0) rfl (gv_aI gv_a0) (Nat.le_of_ble_eq_true rfl) (mM_textLength_ok qv1) rfl rfl ?_
    by_cases c2 : l3 < v1
    · rw [if_pos c2] at e
      refine gv_cmF (pc' := 88) rfl (gv_geF2 c2) rfl rfl ?_
      refine gv_rldn (pc' := 89) rfl rfl rfl ?_
      refine gv_ildn (pc' := 90) rfl rfl rfl ?_
      refine gv_bp (pc' := 92) (x := 8) rfl rfl rfl ?_
      refine gv_ildn (pc' := 93) rfl rfl rfl ?_
      refine gv_imul (pc' := 94) rfl rfl ?_
      refine gv_ishr (pc' := 95) rfl rfl ?_
      refine gv_sp (pc' := 98) (x := 255) rfl rfl rfl ?_
      refine gv_iand (pc' := 99) rfl rfl ?_
      obtain ⟨i3, qi3, e⟩ := gv_bind e
      obtain ⟨h5, qv4, e⟩ := gv_bind e
      refine gv_vS (jc := 158) (n := 1) (rest := []) (stk := []) (pc' := 102) rfl rfl rfl rfl rfl rfl rfl rfl rfl (gv_zR (gv_zI gv_z0)) rfl (gv_aR (gv_aI gv_a0)) (Nat.le_of_ble_eq_true rfl) qi3 (mM_say_ok qv4) rfl rfl ?_
      refine gv_inc (pc' := 105) (y := 1) rfl rfl rfl rfl (gv_Ci rfl) rfl ?_
      refine gv_goto (pc' := 80) rfl rfl ?_
      exact gv_weak (ih _ _ _ _ _ e) (gv_S1 rfl (gv_S1 rfl (gv_S1 rfl gv_S0)))
    rw [if_neg c2] at e
    refine gv_cmT (pc' := 108) rfl (gv_geT2 c2) rfl ?_
    refine gv_goto (pc' := 172) rfl rfl ?_
    cases e
    exact gv_retV rfl rfl
def mM_sayValue (l0 : Option Nat) (l1 : Int32) (l2 : Int32) (h : gx_H) : Option gx_H :=
  (gv_gI h l0 7 18).bind fun v1 =>
  if (12 : Int32) < (v1 + (1 : Int32)) then (
    (gv_pV h l0 7 26 (.int (1 : Int32))).bind fun h3 =>
    some h3) else
  if l1 = (7 : Int32) then (
    (gv_pV h l0 7 26 (.int (1 : Int32))).bind fun h5 =>
    some h5) else
  if l1 < (4 : Int32) then (
    (gv_is h l0 7).bind fun i7 =>
    (mM_say l0 l1 h).bind fun h9 =>
    some h9) else
  if l1 = (4 : Int32) then (
    (gv_is h l0 7).bind fun i11 =>
    (mM_say l0 (4 : Int32) h).bind fun h13 =>
    (mM_zigzag (Int32.toInt64 l2)).bind fun v14 =>
    (gv_is h13 l0 7).bind fun i15 =>
    (mM_sayLengthy l0 v14 h13).bind fun h17 =>
    some h17) else
  if l1 = (5 : Int32) then (
    (gv_is h l0 7).bind fun i19 =>
    (mM_say l0 (5 : Int32) h).bind fun h21 =>
    (mM_textLength l2).bind fun v22 =>
    (gv_is h21 l0 7).bind fun i23 =>
    (mM_say l0 v22 h21).bind fun h25 =>
    mM_sayValue_80 1000000000000000 l0 l2 (0 : Int32) h25) else
  (gv_gR h l0 7 30).bind fun v26 =>
  (gv_lI h v26 l2).bind fun v27 =>
  if v27 < 0 then (
    (gv_is h l0 7).bind fun i29 =>
    (mM_passOf l0 l2 h).bind fun v30 =>
    if v30 < 0 then (
      (gv_is h l0 7).bind fun i32 =>
      (mM_sayObject l0 l2 h).bind fun h34 =>
      some h34) else
    (gv_is h l0 7).bind fun i35 =>
    (mM_say l0 (7 : Int32) h).bind fun h37 =>
    (gv_is h37 l0 7).bind fun i38 =>
    (mM_passOf l0 l2 h37).bind fun v39 =>
    (gv_is h37 l0 7).bind fun i40 =>
    (mM_sayLengthy l0 (Int32.toInt64 v39) h37).bind fun h42 =>
    some h42) else
  (gv_is h l0 7).bind fun i43 =>
  (mM_say l0 (6 : Int32) h).bind fun h45 =>
  (gv_gR h45 l0 7 30).bind fun v46 =>
  (gv_lI h45 v46 l2).bind fun v47 =>
  (gv_is h45 l0 7).bind fun i48 =>
  (mM_sayLengthy l0 (Int32.toInt64 v47) h45).bind fun h50 =>
  some h50
theorem mM_sayValue_ok {xs : Option (List Int32)} {l0 : Option Nat} {l1 : Int32} {l2 : Int32} {h : gx_H} {r : gx_H} (e : mM_sayValue l0 l1 l2 h = some r) : gv_V xs 3 159 0 [(0, gv_u l0), (1, .int l1), (2, .int l2)] [] h (.returned none) r := by
  unfold mM_sayValue at e
  refine gv_rldn (pc' := 1) rfl rfl rfl ?_
  obtain ⟨v1, qv1, e⟩ := gv_bind e
  refine gv_fI (pc' := 4) rfl rfl qv1 rfl ?_
  refine gv_ic (pc' := 5) (x := 1) rfl rfl rfl ?_
  refine gv_iadd (pc' := 6) rfl rfl ?_
  refine gv_bp (pc' := 8) (x := 12) rfl rfl rfl ?_
  by_cases c2 : (12 : Int32) < (v1 + (1 : Int32))
  · rw [if_pos c2] at e
    refine gv_cmT (pc' := 17) rfl (gv_gtT2 c2) rfl ?_
    refine gv_rldn (pc' := 18) rfl rfl rfl ?_
    refine gv_ic (pc' := 19) (x := 1) rfl rfl rfl ?_
    obtain ⟨h3, qh3, e⟩ := gv_bind e
    refine gv_pI (pc' := 22) rfl rfl rfl qh3 rfl ?_
    refine gv_goto (pc' := 172) rfl rfl ?_
    cases e
    exact gv_retV rfl rfl
  rw [if_neg c2] at e
  refine gv_cmF (pc' := 11) rfl (gv_gtF2 c2) rfl rfl ?_
  refine gv_ildn (pc' := 12) rfl rfl rfl ?_
  refine gv_bp (pc' := 14) (x := 7) rfl rfl rfl ?_
  by_cases c4 : l1 = (7 : Int32)
  · rw [if_pos c4] at e
    refine gv_cmF (pc' := 17) rfl (gv_neF2 c4) rfl rfl ?_
    refine gv_rldn (pc' := 18) rfl rfl rfl ?_
    refine gv_ic (pc' := 19) (x := 1) rfl rfl rfl ?_
    obtain ⟨h5, qh5, e⟩ := gv_bind e
    refine gv_pI (pc' := 22) rfl rfl rfl qh5 rfl ?_
    refine gv_goto (pc' := 172) rfl rfl ?_
    cases e
    exact gv_retV rfl rfl
  rw [if_neg c4] at e
  refine gv_cmT (pc' := 25) rfl (gv_neT2 c4) rfl ?_
  refine gv_ildn (pc' := 26) rfl rfl rfl ?_
  refine gv_ic (pc' := 27) (x := 4) rfl rfl rfl ?_
  by_cases c6 : l1 < (4 : Int32)
  · rw [if_pos c6] at e
    refine gv_cmF (pc' := 30) rfl (gv_geF2 c6) rfl rfl ?_
    refine gv_rldn (pc' := 31) rfl rfl rfl ?_
    refine gv_ildn (pc' := 32) rfl rfl rfl ?_
    obtain ⟨i7, qi7, e⟩ := gv_bind e
    obtain ⟨h9, qv8, e⟩ := gv_bind e
    refine gv_vS (jc := 158) (n := 1) (rest := []) (stk := []) (pc' := 35) rfl rfl rfl rfl rfl rfl rfl rfl rfl (gv_zR (gv_zI gv_z0)) rfl (gv_aR (gv_aI gv_a0)) (Nat.le_of_ble_eq_true rfl) qi7 (mM_say_ok qv8) rfl rfl ?_
    refine gv_goto (pc' := 172) rfl rfl ?_
    cases e
    exact gv_retV rfl rfl
  rw [if_neg c6] at e
  refine gv_cmT (pc' := 38) rfl (gv_geT2 c6) rfl ?_
  refine gv_ildn (pc' := 39) rfl rfl rfl ?_
  refine gv_ic (pc' := 40) (x := 4) rfl rfl rfl ?_
  by_cases c10 : l1 = (4 : Int32)
  · rw [if_pos c10] at e
    refine gv_cmF (pc' := 43) rfl (gv_neF2 c10) rfl rfl ?_
    refine gv_rldn (pc' := 44) rfl rfl rfl ?_
    refine gv_ic (pc' := 45) (x := 4) rfl rfl rfl ?_
    obtain ⟨i11, qi11, e⟩ := gv_bind e
    obtain ⟨h13, qv12, e⟩ := gv_bind e
    refine gv_vS (jc := 158) (n := 1) (rest := []) (stk := []) (pc' := 48) rfl rfl rfl rfl rfl rfl rfl rfl rfl (gv_zR (gv_zI gv_z0)) rfl (gv_aR (gv_aI gv_a0)) (Nat.le_of_ble_eq_true rfl) qi11 (mM_say_ok qv12) rfl rfl ?_
    refine gv_rldn (pc' := 49) rfl rfl rfl ?_
    refine gv_ildn (pc' := 50) rfl rfl rfl ?_
    refine gv_i2l (pc' := 51) rfl rfl ?_
    obtain ⟨v14, qv14, e⟩ := gv_bind e
    refine gv_sS (jc := 160) (n := 1) (rest := [gv_u l0]) (stk := [.long v14, gv_u l0]) (pc' := 54) rfl rfl rfl rfl rfl rfl rfl rfl rfl (gv_zJ gv_z0) rfl (gv_aJ gv_a0) (Nat.le_of_ble_eq_true rfl) (mM_zigzag_ok qv14) rfl rfl ?_
    obtain ⟨i15, qi15, e⟩ := gv_bind e
    obtain ⟨h17, qv16, e⟩ := gv_bind e
    refine gv_vS (jc := 161) (n := 1) (rest := []) (stk := []) (pc' := 57) rfl rfl rfl rfl rfl rfl rfl rfl rfl (gv_zR (gv_zJ gv_z0)) rfl (gv_aR (gv_aJ gv_a0)) (Nat.le_of_ble_eq_true rfl) qi15 (mM_sayLengthy_ok qv16) rfl rfl ?_
    refine gv_goto (pc' := 172) rfl rfl ?_
    cases e
    exact gv_retV rfl rfl
  rw [if_neg c10] at e
  refine gv_cmT (pc' := 60) rfl (gv_neT2 c10) rfl ?_
  refine gv_ildn (pc' := 61) rfl rfl rfl ?_
  refine gv_ic (pc' := 62) (x := 5) rfl rfl rfl ?_
  by_cases c18 : l1 = (5 : Int32)
  · rw [if_pos c18] at e
    refine gv_cmF (pc' := 65) rfl (gv_neF2 c18) rfl rfl ?_
    refine gv_rldn (pc' := 66) rfl rfl rfl ?_
    refine gv_ic (pc' := 67) (x := 5) rfl rfl rfl ?_
    obtain ⟨i19, qi19, e⟩ := gv_bind e
    obtain ⟨h21, qv20, e⟩ := gv_bind e
    refine gv_vS (jc := 158) (n := 1) (rest := []) (stk := []) (pc' := 70) rfl rfl rfl rfl rfl rfl rfl rfl rfl (gv_zR (gv_zI gv_z0)) rfl (gv_aR (gv_aI gv_a0)) (Nat.le_of_ble_eq_true rfl) qi19 (mM_say_ok qv20) rfl rfl ?_
    refine gv_rldn (pc' := 71) rfl rfl rfl ?_
    refine gv_ildn (pc' := 72) rfl rfl rfl ?_
    obtain ⟨v22, qv22, e⟩ := gv_bind e
    refine gv_sS (jc := 162) (n := 1) (rest := [gv_u l0]) (stk := [.int v22, gv_u l0]) (pc' := 75) rfl rfl rfl rfl rfl rfl rfl rfl rfl (gv_zI gv_z0) rfl (gv_aI gv_a0) (Nat.le_of_ble_eq_true rfl) (mM_textLength_ok qv22) rfl rfl ?_
    obtain ⟨i23, qi23, e⟩ := gv_bind e
    obtain ⟨h25, qv24, e⟩ := gv_bind e
    refine gv_vS (jc := 158) (n := 1) (rest := []) (stk := []) (pc' := 78) rfl rfl rfl rfl rfl rfl rfl rfl rfl (gv_zR (gv_zI gv_z0)) rfl (gv_aR (gv_aI gv_a0)) (Nat.le_of_ble_eq_true rfl) qi23 (mM_say_ok qv24) rfl rfl ?_
    refine gv_ic (pc' := 79) (x := 0) rfl rfl rfl ?_
    refine gv_istn (pc' := 80) rfl rfl (gv_Ci rfl) rfl ?_
    exact gv_weak (mM_sayValue_80_ok 1000000000000000 _ _ _ _ _ e) (gv_S1 rfl (gv_S1 rfl (gv_S1 rfl gv_S0)))
  rw [if_neg c18] at e
  refine gv_cmT (pc' := 111) rfl (gv_neT2 c18) rfl ?_
  refine gv_rldn (pc' := 112) rfl rfl rfl ?_
  obtain ⟨v26, qv26, e⟩ := gv_bind e
  refine gv_fR (pc' := 115) rfl rfl qv26 rfl ?_
  refine gv_ildn (pc' := 116) rfl rfl rfl ?_
  obtain ⟨v27, qv27, e⟩ := gv_bind e
  refine gv_iald (pc' := 117) rfl qv27 rfl ?_
  by_cases c28 : v27 < 0
  · rw [if_pos c28] at e
    refine gv_ifT (pc' := 140) rfl (gv_ltT c28) rfl ?_
    refine gv_rldn (pc' := 141) rfl rfl rfl ?_
    refine gv_ildn (pc' := 142) rfl rfl rfl ?_
    obtain ⟨i29, qi29, e⟩ := gv_bind e
    obtain ⟨v30, qv30, e⟩ := gv_bind e
    refine gv_vS (jc := 157) (n := 1) (rest := []) (stk := [.int v30]) (pc' := 145) rfl rfl rfl rfl rfl rfl rfl rfl rfl (gv_zR (gv_zI gv_z0)) rfl (gv_aR (gv_aI gv_a0)) (Nat.le_of_ble_eq_true rfl) qi29 (mM_passOf_ok qv30) rfl rfl ?_
    by_cases c31 : v30 < 0
    · rw [if_pos c31] at e
      refine gv_ifT (pc' := 167) rfl (gv_ltT c31) rfl ?_
      refine gv_rldn (pc' := 168) rfl rfl rfl ?_
      refine gv_ildn (pc' := 169) rfl rfl rfl ?_
      obtain ⟨i32, qi32, e⟩ := gv_bind e
      obtain ⟨h34, qv33, e⟩ := gv_bind e
      refine gv_vS (jc := 163) (n := 1) (rest := []) (stk := []) (pc' := 172) rfl rfl rfl rfl rfl rfl rfl rfl rfl (gv_zR (gv_zI gv_z0)) rfl (gv_aR (gv_aI gv_a0)) (Nat.le_of_ble_eq_true rfl) qi32 (mM_sayObject_ok qv33) rfl rfl ?_
      cases e
      exact gv_retV rfl rfl
    rw [if_neg c31] at e
    refine gv_ifF (pc' := 148) rfl (gv_ltF c31) rfl rfl ?_
    refine gv_rldn (pc' := 149) rfl rfl rfl ?_
    refine gv_bp (pc' := 151) (x := 7) rfl rfl rfl ?_
    obtain ⟨i35, qi35, e⟩ := gv_bind e
    obtain ⟨h37, qv36, e⟩ := gv_bind e
    refine gv_vS (jc := 158) (n := 1) (rest := []) (stk := []) (pc' := 154) rfl rfl rfl rfl rfl rfl rfl rfl rfl (gv_zR (gv_zI gv_z0)) rfl (gv_aR (gv_aI gv_a0)) (Nat.le_of_ble_eq_true rfl) qi35 (mM_say_ok qv36) rfl rfl ?_
    refine gv_rldn (pc' := 155) rfl rfl rfl ?_
    refine gv_rldn (pc' := 156) rfl rfl rfl ?_
    refine gv_ildn (pc' := 157) rfl rfl rfl ?_
    obtain ⟨i38, qi38, e⟩ := gv_bind e
    obtain ⟨v39, qv39, e⟩ := gv_bind e
    refine gv_vS (jc := 157) (n := 1) (rest := [gv_u l0]) (stk := [.int v39, gv_u l0]) (pc' := 160) rfl rfl rfl rfl rfl rfl rfl rfl rfl (gv_zR (gv_zI gv_z0)) rfl (gv_aR (gv_aI gv_a0)) (Nat.le_of_ble_eq_true rfl) qi38 (mM_passOf_ok qv39) rfl rfl ?_
    refine gv_i2l (pc' := 161) rfl rfl ?_
    obtain ⟨i40, qi40, e⟩ := gv_bind e
    obtain ⟨h42, qv41, e⟩ := gv_bind e
    refine gv_vS (jc := 161) (n := 1) (rest := []) (stk := []) (pc' := 164) rfl rfl rfl rfl rfl rfl rfl rfl rfl (gv_zR (gv_zJ gv_z0)) rfl (gv_aR (gv_aJ gv_a0)) (Nat.le_of_ble_eq_true rfl) qi40 (mM_sayLengthy_ok qv41) rfl rfl ?_
    refine gv_goto (pc' := 172) rfl rfl ?_
    cases e
    exact gv_retV rfl rfl
  rw [if_neg c28] at e
  refine gv_ifF (pc' := 120) rfl (gv_ltF c28) rfl rfl ?_
  refine gv_rldn (pc' := 121) rfl rfl rfl ?_
  refine gv_bp (pc' := 123) (x := 6) rfl rfl rfl ?_
  obtain ⟨i43, qi43, e⟩ := gv_bind e
  obtain ⟨h45, qv44, e⟩ := gv_bind e
  refine gv_vS (jc := 158) (n := 1) (rest := []) (stk := []) (pc' := 126) rfl rfl rfl rfl rfl rfl rfl rfl rfl (gv_zR (gv_zI gv_z0)) rfl (gv_aR (gv_aI gv_a0)) (Nat.le_of_ble_eq_true rfl) qi43 (mM_say_ok qv44) rfl rfl ?_
  refine gv_rldn (pc' := 127) rfl rfl rfl ?_
  refine gv_rldn (pc' := 128) rfl rfl rfl ?_
  obtain ⟨v46, qv46, e⟩ := gv_bind e
  refine gv_fR (pc' := 131) rfl rfl qv46 rfl ?_
  refine gv_ildn (pc' := 132) rfl rfl rfl ?_
  obtain ⟨v47, qv47, e⟩ := gv_bind e
  refine gv_iald (pc' := 133) rfl qv47 rfl ?_
  refine gv_i2l (pc' := 134) rfl rfl ?_
  obtain ⟨i48, qi48, e⟩ := gv_bind e
  obtain ⟨h50, qv49, e⟩ := gv_bind e
  refine gv_vS (jc := 161) (n := 1) (rest := []) (stk := []) (pc' := 137) rfl rfl rfl rfl rfl rfl rfl rfl rfl (gv_zR (gv_zJ gv_z0)) rfl (gv_aR (gv_aJ gv_a0)) (Nat.le_of_ble_eq_true rfl) qi48 (mM_sayLengthy_ok qv49) rfl rfl ?_
  refine gv_goto (pc' := 172) rfl rfl ?_
  cases e
  exact gv_retV rfl rfl
def mM_run_79 (l0 : Option Nat) (l3 : Int32) (l4 : Int32) (h : gx_H) : Option (Int32 × gx_H) :=
  if l4 = (4 : Int32) then (
    (gv_is h l0 7).bind fun i2 =>
    (mM_is l0 l3 (4 : Int32) h).bind fun v3 =>
    if v3 = 0 then (
      some (l3, h)) else
    (gv_is h l0 7).bind fun i5 =>
    (mM_detachNow l0 l3 h).bind fun h7 =>
    some (l3, h7)) else
  some (l3, h)
theorem mM_run_79_ok {xs : Option (List Int32)} {l0 : Option Nat} {l3 : Int32} {l4 : Int32} {h : gx_H} {r : (Int32 × gx_H)} (e : mM_run_79 l0 l3 l4 h = some r) : gv_V xs 3 168 79 [(0, gv_u l0), (3, .int l3), (4, .int l4)] [] h (.returned (some (.int r.1))) r.2 := by
  unfold mM_run_79 at e
  refine gv_ild (pc' := 81) rfl rfl rfl ?_
  refine gv_ic (pc' := 82) (x := 4) rfl rfl rfl ?_
  by_cases c1 : l4 = (4 : Int32)
  · rw [if_pos c1] at e
    refine gv_cmF (pc' := 85) rfl (gv_neF2 c1) rfl rfl ?_
    refine gv_rldn (pc' := 86) rfl rfl rfl ?_
    refine gv_ildn (pc' := 87) rfl rfl rfl ?_
    refine gv_ic (pc' := 88) (x := 4) rfl rfl rfl ?_
    obtain ⟨i2, qi2, e⟩ := gv_bind e
    obtain ⟨v3, qv3, e⟩ := gv_bind e
    refine gv_vS (jc := 126) (n := 2) (rest := []) (stk := [.int v3]) (pc' := 91) rfl rfl rfl rfl rfl rfl rfl rfl rfl (gv_zR (gv_zI (gv_zI gv_z0))) rfl (gv_aR (gv_aI (gv_aI gv_a0))) (Nat.le_of_ble_eq_true rfl) qi2 (mM_is_ok qv3) rfl rfl ?_
    by_cases c4 : v3 = 0
    · rw [if_pos c4] at e
      refine gv_ifT (pc' := 99) rfl (gv_eqT c4) rfl ?_
      refine gv_ildn (pc' := 100) rfl rfl rfl ?_
      cases e
      exact gv_retI rfl rfl
    rw [if_neg c4] at e
    refine gv_ifF (pc' := 94) rfl (gv_eqF c4) rfl rfl ?_
    refine gv_rldn (pc' := 95) rfl rfl rfl ?_
    refine gv_ildn (pc' := 96) rfl rfl rfl ?_
    obtain ⟨i5, qi5, e⟩ := gv_bind e
    obtain ⟨h7, qv6, e⟩ := gv_bind e
    refine gv_vS (jc := 147) (n := 1) (rest := []) (stk := []) (pc' := 99) rfl rfl rfl rfl rfl rfl rfl rfl rfl (gv_zR (gv_zI gv_z0)) rfl (gv_aR (gv_aI gv_a0)) (Nat.le_of_ble_eq_true rfl) qi5 (mM_detachNow_ok qv6) rfl rfl ?_
    refine gv_ildn (pc' := 100) rfl rfl rfl ?_
    cases e
    exact gv_retI rfl rfl
  rw [if_neg c1] at e
  refine gv_cmT (pc' := 99) rfl (gv_neT2 c1) rfl ?_
  refine gv_ildn (pc' := 100) rfl rfl rfl ?_
  cases e
  exact gv_retI rfl rfl
def mM_run (l0 : Option Nat) (l1 : Int32) (l2 : Int32) (h : gx_H) : Option (Int32 × gx_H) :=
  if (l2 &&& (7 : Int32)) = (1 : Int32) then (
    (gv_pV h l0 7 26 (.int (2 : Int32))).bind fun h2 =>
    some ((l2 >>> ((3 : Int32) &&& 31)), h2)) else
  if (l2 &&& (7 : Int32)) = (2 : Int32) then (
    (gv_is h l0 7).bind fun i4 =>
    (mM_takeProperty l0 l1 (l2 >>> ((3 : Int32) &&& 31)) h).bind fun r7 =>
    some ((l2 >>> ((3 : Int32) &&& 31)), r7.2)) else
  if (l2 &&& (7 : Int32)) = (3 : Int32) then (
    (gv_is h l0 7).bind fun i9 =>
    (mM_slotOf l0 l1 (l2 >>> ((3 : Int32) &&& 31)) h).bind fun v10 =>
    if v10 < 0 then (
      (gv_gR h l0 7 3).bind fun v12 =>
      (gv_lI h v12 l1).bind fun v13 =>
      if v13 < (6 : Int32) then (
        (gv_is h l0 7).bind fun i15 =>
        (mM_setProperty l0 l1 (l2 >>> ((3 : Int32) &&& 31)) (4 : Int32) (7 : Int32) h).bind fun h17 =>
        some ((l2 >>> ((3 : Int32) &&& 31)), h17)) else
      mM_run_79 l0 (l2 >>> ((3 : Int32) &&& 31)) (l2 &&& (7 : Int32)) h) else
    mM_run_79 l0 (l2 >>> ((3 : Int32) &&& 31)) (l2 &&& (7 : Int32)) h) else
  mM_run_79 l0 (l2 >>> ((3 : Int32) &&& 31)) (l2 &&& (7 : Int32)) h
theorem mM_run_ok {xs : Option (List Int32)} {l0 : Option Nat} {l1 : Int32} {l2 : Int32} {h : gx_H} {r : (Int32 × gx_H)} (e : mM_run l0 l1 l2 h = some r) : gv_V xs 3 168 0 [(0, gv_u l0), (1, .int l1), (2, .int l2)] [] h (.returned (some (.int r.1))) r.2 := by
  unfold mM_run at e
  refine gv_ildn (pc' := 1) rfl rfl rfl ?_
  refine gv_ic (pc' := 2) (x := 3) rfl rfl rfl ?_
  refine gv_ishr (pc' := 3) rfl rfl ?_
  refine gv_istn (pc' := 4) rfl rfl (gv_Ci rfl) rfl ?_
  refine gv_ildn (pc' := 5) rfl rfl rfl ?_
  refine gv_bp (pc' := 7) (x := 7) rfl rfl rfl ?_
  refine gv_iand (pc' := 8) rfl rfl ?_
  refine gv_ist (pc' := 10) rfl rfl (gv_Ci rfl) rfl ?_
  refine gv_ild (pc' := 12) rfl rfl rfl ?_
  refine gv_ic (pc' := 13) (x := 1) rfl rfl rfl ?_
  by_cases c1 : (l2 &&& (7 : Int32)) = (1 : Int32)
  · rw [if_pos c1] at e
    refine gv_cmF (pc' := 16) rfl (gv_neF2 c1) rfl rfl ?_
    refine gv_rldn (pc' := 17) rfl rfl rfl ?_
    refine gv_ic (pc' := 18) (x := 2) rfl rfl rfl ?_
    obtain ⟨h2, qh2, e⟩ := gv_bind e
    refine gv_pI (pc' := 21) rfl rfl rfl qh2 rfl ?_
    refine gv_goto (pc' := 99) rfl rfl ?_
    refine gv_ildn (pc' := 100) rfl rfl rfl ?_
    cases e
    exact gv_retI rfl rfl
  rw [if_neg c1] at e
  refine gv_cmT (pc' := 24) rfl (gv_neT2 c1) rfl ?_
  refine gv_ild (pc' := 26) rfl rfl rfl ?_
  refine gv_ic (pc' := 27) (x := 2) rfl rfl rfl ?_
  by_cases c3 : (l2 &&& (7 : Int32)) = (2 : Int32)
  · rw [if_pos c3] at e
    refine gv_cmF (pc' := 30) rfl (gv_neF2 c3) rfl rfl ?_
    refine gv_rldn (pc' := 31) rfl rfl rfl ?_
    refine gv_ildn (pc' := 32) rfl rfl rfl ?_
    refine gv_ildn (pc' := 33) rfl rfl rfl ?_
    obtain ⟨i4, qi4, e⟩ := gv_bind e
    obtain ⟨⟨v5, h6⟩, qv5, e⟩ := gv_bind e
    refine gv_vS (jc := 141) (n := 2) (rest := []) (stk := [.int v5]) (pc' := 36) rfl rfl rfl rfl rfl rfl rfl rfl rfl (gv_zR (gv_zI (gv_zI gv_z0))) rfl (gv_aR (gv_aI (gv_aI gv_a0))) (Nat.le_of_ble_eq_true rfl) qi4 (mM_takeProperty_ok qv5) rfl rfl ?_
    refine gv_ist (pc' := 38) rfl rfl (gv_Ci rfl) rfl ?_
    refine gv_goto (pc' := 99) rfl rfl ?_
    refine gv_ildn (pc' := 100) rfl rfl rfl ?_
    cases e
    exact gv_retI rfl rfl
  rw [if_neg c3] at e
  refine gv_cmT (pc' := 41) rfl (gv_neT2 c3) rfl ?_
  refine gv_ild (pc' := 43) rfl rfl rfl ?_
  refine gv_ic (pc' := 44) (x := 3) rfl rfl rfl ?_
  by_cases c8 : (l2 &&& (7 : Int32)) = (3 : Int32)
  · rw [if_pos c8] at e
    refine gv_cmF (pc' := 47) rfl (gv_neF2 c8) rfl rfl ?_
    refine gv_rldn (pc' := 48) rfl rfl rfl ?_
    refine gv_ildn (pc' := 49) rfl rfl rfl ?_
    refine gv_ildn (pc' := 50) rfl rfl rfl ?_
    obtain ⟨i9, qi9, e⟩ := gv_bind e
    obtain ⟨v10, qv10, e⟩ := gv_bind e
    refine gv_vS (jc := 135) (n := 2) (rest := []) (stk := [.int v10]) (pc' := 53) rfl rfl rfl rfl rfl rfl rfl rfl rfl (gv_zR (gv_zI (gv_zI gv_z0))) rfl (gv_aR (gv_aI (gv_aI gv_a0))) (Nat.le_of_ble_eq_true rfl) qi9 (mM_slotOf_ok qv10) rfl rfl ?_
    by_cases c11 : v10 < 0
    · rw [if_pos c11] at e
      refine gv_ifF (pc' := 56) rfl (gv_geF c11) rfl rfl ?_
      refine gv_rldn (pc' := 57) rfl rfl rfl ?_
      obtain ⟨v12, qv12, e⟩ := gv_bind e
      refine gv_fR (pc' := 60) rfl rfl qv12 rfl ?_
      refine gv_ildn (pc' := 61) rfl rfl rfl ?_
      obtain ⟨v13, qv13, e⟩ := gv_bind e
      refine gv_iald (pc' := 62) rfl qv13 rfl ?_
      refine gv_bp (pc' := 64) (x := 6) rfl rfl rfl ?_
      by_cases c14 : v13 < (6 : Int32)
      · rw [if_pos c14] at e
        refine gv_cmF (pc' := 67) rfl (gv_geF2 c14) rfl rfl ?_
        refine gv_rldn (pc' := 68) rfl rfl rfl ?_
        refine gv_ildn (pc' := 69) rfl rfl rfl ?_
        refine gv_ildn (pc' := 70) rfl rfl rfl ?_
        refine gv_ic (pc' := 71) (x := 4) rfl rfl rfl ?_
        refine gv_bp (pc' := 73) (x := 7) rfl rfl rfl ?_
        obtain ⟨i15, qi15, e⟩ := gv_bind e
        obtain ⟨h17, qv16, e⟩ := gv_bind e
        refine gv_vS (jc := 136) (n := 4) (rest := []) (stk := []) (pc' := 76) rfl rfl rfl rfl rfl rfl rfl rfl rfl (gv_zR (gv_zI (gv_zI (gv_zI (gv_zI gv_z0))))) rfl (gv_aR (gv_aI (gv_aI (gv_aI (gv_aI gv_a0))))) (Nat.le_of_ble_eq_true rfl) qi15 (mM_setProperty_ok qv16) rfl rfl ?_
        refine gv_goto (pc' := 99) rfl rfl ?_
        refine gv_ildn (pc' := 100) rfl rfl rfl ?_
        cases e
        exact gv_retI rfl rfl
      rw [if_neg c14] at e
      refine gv_cmT (pc' := 79) rfl (gv_geT2 c14) rfl ?_
      exact gv_weak (mM_run_79_ok e) (gv_S1 rfl (gv_S1 rfl (gv_S1 rfl gv_S0)))
    rw [if_neg c11] at e
    refine gv_ifT (pc' := 79) rfl (gv_geT c11) rfl ?_
    exact gv_weak (mM_run_79_ok e) (gv_S1 rfl (gv_S1 rfl (gv_S1 rfl gv_S0)))
  rw [if_neg c8] at e
  refine gv_cmT (pc' := 79) rfl (gv_neT2 c8) rfl ?_
  exact gv_weak (mM_run_79_ok e) (gv_S1 rfl (gv_S1 rfl (gv_S1 rfl gv_S0)))
def mM_sayProperty_68 (l0 : Option Nat) (l4 : Int32) (l5 : Int32) (h : gx_H) : Option gx_H :=
  (gv_gI h l0 7 26).bind fun v1 =>
  if v1 = 0 then (
    (gv_is h l0 7).bind fun i3 =>
    (mM_sayValue l0 l4 l5 h).bind fun h5 =>
    some h5) else
  some h
theorem mM_sayProperty_68_ok {xs : Option (List Int32)} {l0 : Option Nat} {l4 : Int32} {l5 : Int32} {h : gx_H} {r : gx_H} (e : mM_sayProperty_68 l0 l4 l5 h = some r) : gv_V xs 4 167 68 [(0, gv_u l0), (4, .int l4), (5, .int l5)] [] h (.returned none) r := by
  unfold mM_sayProperty_68 at e
  refine gv_rldn (pc' := 69) rfl rfl rfl ?_
  obtain ⟨v1, qv1, e⟩ := gv_bind e
  refine gv_fI (pc' := 72) rfl rfl qv1 rfl ?_
  by_cases c2 : v1 = 0
  · rw [if_pos c2] at e
    refine gv_ifF (pc' := 75) rfl (gv_neF c2) rfl rfl ?_
    refine gv_rldn (pc' := 76) rfl rfl rfl ?_
    refine gv_ild (pc' := 78) rfl rfl rfl ?_
    refine gv_ild (pc' := 80) rfl rfl rfl ?_
    obtain ⟨i3, qi3, e⟩ := gv_bind e
    obtain ⟨h5, qv4, e⟩ := gv_bind e
    refine gv_vS (jc := 159) (n := 2) (rest := []) (stk := []) (pc' := 83) rfl rfl rfl rfl rfl rfl rfl rfl rfl (gv_zR (gv_zI (gv_zI gv_z0))) rfl (gv_aR (gv_aI (gv_aI gv_a0))) (Nat.le_of_ble_eq_true rfl) qi3 (mM_sayValue_ok qv4) rfl rfl ?_
    cases e
    exact gv_retV rfl rfl
  rw [if_neg c2] at e
  refine gv_ifT (pc' := 83) rfl (gv_neT c2) rfl ?_
  cases e
  exact gv_retV rfl rfl
def mM_sayProperty_47 (l0 : Option Nat) (l2 : Int32) (l4 : Int32) (l5 : Int32) (h : gx_H) : Option gx_H :=
  (gv_gI h l0 7 26).bind fun v1 =>
  if v1 = 0 then (
    (gv_is h l0 7).bind fun i3 =>
    (mM_say l0 (1 : Int32) h).bind fun h5 =>
    (mM_zigzag (Int32.toInt64 l2)).bind fun v6 =>
    (gv_is h5 l0 7).bind fun i7 =>
    (mM_sayLengthy l0 v6 h5).bind fun h9 =>
    mM_sayProperty_68 l0 l4 l5 h9) else
  mM_sayProperty_68 l0 l4 l5 h
theorem mM_sayProperty_47_ok {xs : Option (List Int32)} {l0 : Option Nat} {l2 : Int32} {l4 : Int32} {l5 : Int32} {h : gx_H} {r : gx_H} (e : mM_sayProperty_47 l0 l2 l4 l5 h = some r) : gv_V xs 4 167 47 [(0, gv_u l0), (2, .int l2), (4, .int l4), (5, .int l5)] [] h (.returned none) r := by
  unfold mM_sayProperty_47 at e
  refine gv_rldn (pc' := 48) rfl rfl rfl ?_
  obtain ⟨v1, qv1, e⟩ := gv_bind e
  refine gv_fI (pc' := 51) rfl rfl qv1 rfl ?_
  by_cases c2 : v1 = 0
  · rw [if_pos c2] at e
    refine gv_ifF (pc' := 54) rfl (gv_neF c2) rfl rfl ?_
    refine gv_rldn (pc' := 55) rfl rfl rfl ?_
    refine gv_ic (pc' := 56) (x := 1) rfl rfl rfl ?_
    obtain ⟨i3, qi3, e⟩ := gv_bind e
    obtain ⟨h5, qv4, e⟩ := gv_bind e
    refine gv_vS (jc := 158) (n := 1) (rest := []) (stk := []) (pc' := 59) rfl rfl rfl rfl rfl rfl rfl rfl rfl (gv_zR (gv_zI gv_z0)) rfl (gv_aR (gv_aI gv_a0)) (Nat.le_of_ble_eq_true rfl) qi3 (mM_say_ok qv4) rfl rfl ?_
    refine gv_rldn (pc' := 60) rfl rfl rfl ?_
    refine gv_ildn (pc' := 61) rfl rfl rfl ?_
    refine gv_i2l (pc' := 62) rfl rfl ?_
    obtain ⟨v6, qv6, e⟩ := gv_bind e
    refine gv_sS (jc := 160) (n := 1) (rest := [gv_u l0]) (stk := [.long v6, gv_u l0]) (pc' := 65) rfl rfl rfl rfl rfl rfl rfl rfl rfl (gv_zJ gv_z0) rfl (gv_aJ gv_a0) (Nat.le_of_ble_eq_true rfl) (mM_zigzag_ok qv6) rfl rfl ?_
    obtain ⟨i7, qi7, e⟩ := gv_bind e
    obtain ⟨h9, qv8, e⟩ := gv_bind e
    refine gv_vS (jc := 161) (n := 1) (rest := []) (stk := []) (pc' := 68) rfl rfl rfl rfl rfl rfl rfl rfl rfl (gv_zR (gv_zJ gv_z0)) rfl (gv_aR (gv_aJ gv_a0)) (Nat.le_of_ble_eq_true rfl) qi7 (mM_sayLengthy_ok qv8) rfl rfl ?_
    exact gv_weak (mM_sayProperty_68_ok e) (gv_S1 rfl (gv_S1 rfl (gv_S1 rfl gv_S0)))
  rw [if_neg c2] at e
  refine gv_ifT (pc' := 68) rfl (gv_neT c2) rfl ?_
  exact gv_weak (mM_sayProperty_68_ok e) (gv_S1 rfl (gv_S1 rfl (gv_S1 rfl gv_S0)))
def mM_sayProperty (l0 : Option Nat) (l1 : Int32) (l2 : Int32) (h : gx_H) : Option gx_H :=
  (gv_is h l0 7).bind fun i1 =>
  (mM_slotOf l0 l1 l2 h).bind fun v2 =>
  if v2 < 0 then (
    some h) else
  (gv_gR h l0 7 8).bind fun v4 =>
  (gv_lI h v4 v2).bind fun v5 =>
  (gv_gR h l0 7 9).bind fun v6 =>
  (gv_lI h v6 v2).bind fun v7 =>
  if v5 = (8 : Int32) then (
    (gv_is h l0 7).bind fun i9 =>
    (mM_run l0 l1 v7 h).bind fun r12 =>
    mM_sayProperty_47 l0 l2 (4 : Int32) r12.1 r12.2) else
  mM_sayProperty_47 l0 l2 v5 v7 h
theorem mM_sayProperty_ok {xs : Option (List Int32)} {l0 : Option Nat} {l1 : Int32} {l2 : Int32} {h : gx_H} {r : gx_H} (e : mM_sayProperty l0 l1 l2 h = some r) : gv_V xs 4 167 0 [(0, gv_u l0), (1, .int l1), (2, .int l2)] [] h (.returned none) r := by
  unfold mM_sayProperty at e
  refine gv_rldn (pc' := 1) rfl rfl rfl ?_
  refine gv_ildn (pc' := 2) rfl rfl rfl ?_
  refine gv_ildn (pc' := 3) rfl rfl rfl ?_
  obtain ⟨i1, qi1, e⟩ := gv_bind e
  obtain ⟨v2, qv2, e⟩ := gv_bind e
  refine gv_vS (jc := 135) (n := 2) (rest := []) (stk := [.int v2]) (pc' := 6) rfl rfl rfl rfl rfl rfl rfl rfl rfl (gv_zR (gv_zI (gv_zI gv_z0))) rfl (gv_aR (gv_aI (gv_aI gv_a0))) (Nat.le_of_ble_eq_true rfl) qi1 (mM_slotOf_ok qv2) rfl rfl ?_
  refine gv_istn (pc' := 7) rfl rfl (gv_Ci rfl) rfl ?_
  refine gv_ildn (pc' := 8) rfl rfl rfl ?_
  by_cases c3 : v2 < 0
  · rw [if_pos c3] at e
    refine gv_ifF (pc' := 11) rfl (gv_geF c3) rfl rfl ?_
    cases e
    exact gv_retV rfl rfl
  rw [if_neg c3] at e
  refine gv_ifT (pc' := 12) rfl (gv_geT c3) rfl ?_
  refine gv_rldn (pc' := 13) rfl rfl rfl ?_
  obtain ⟨v4, qv4, e⟩ := gv_bind e
  refine gv_fR (pc' := 16) rfl rfl qv4 rfl ?_
  refine gv_ildn (pc' := 17) rfl rfl rfl ?_
  obtain ⟨v5, qv5, e⟩ := gv_bind e
  refine gv_iald (pc' := 18) rfl qv5 rfl ?_
  refine gv_ist (pc' := 20) rfl rfl (gv_Ci rfl) rfl ?_
  refine gv_rldn (pc' := 21) rfl rfl rfl ?_
  obtain ⟨v6, qv6, e⟩ := gv_bind e
  refine gv_fR (pc' := 24) rfl rfl qv6 rfl ?_
  refine gv_ildn (pc' := 25) rfl rfl rfl ?_
  obtain ⟨v7, qv7, e⟩ := gv_bind e
  refine gv_iald (pc' := 26) rfl qv7 rfl ?_
  refine gv_ist (pc' := 28) rfl rfl (gv_Ci rfl) rfl ?_
  refine gv_ild (pc' := 30) rfl rfl rfl ?_
  refine gv_bp (pc' := 32) (x := 8) rfl rfl rfl ?_
  by_cases c8 : v5 = (8 : Int32)
  · rw [if_pos c8] at e
    refine gv_cmF (pc' := 35) rfl (gv_neF2 c8) rfl rfl ?_
    refine gv_ic (pc' := 36) (x := 4) rfl rfl rfl ?_
    refine gv_ist (pc' := 38) rfl rfl (gv_Ci rfl) rfl ?_
    refine gv_rldn (pc' := 39) rfl rfl rfl ?_
    refine gv_ildn (pc' := 40) rfl rfl rfl ?_
    refine gv_ild (pc' := 42) rfl rfl rfl ?_
    obtain ⟨i9, qi9, e⟩ := gv_bind e
    obtain ⟨⟨v10, h11⟩, qv10, e⟩ := gv_bind e
    refine gv_vS (jc := 168) (n := 2) (rest := []) (stk := [.int v10]) (pc' := 45) rfl rfl rfl rfl rfl rfl rfl rfl rfl (gv_zR (gv_zI (gv_zI gv_z0))) rfl (gv_aR (gv_aI (gv_aI gv_a0))) (Nat.le_of_ble_eq_true rfl) qi9 (mM_run_ok qv10) rfl rfl ?_
    refine gv_ist (pc' := 47) rfl rfl (gv_Ci rfl) rfl ?_
    exact gv_weak (mM_sayProperty_47_ok e) (gv_S1 rfl (gv_S1 rfl (gv_S1 rfl (gv_S1 rfl gv_S0))))
  rw [if_neg c8] at e
  refine gv_cmT (pc' := 47) rfl (gv_neT2 c8) rfl ?_
  exact gv_weak (mM_sayProperty_47_ok e) (gv_S1 rfl (gv_S1 rfl (gv_S1 rfl (gv_S1 rfl gv_S0))))
def mM_sayNext_195 (s0 : Option Nat) (s1 : Int32) (s2 : Int32) (h : gx_H) : Option gx_H :=
  (gv_is h s0 7).bind fun i1 =>
  (mM_sayValue s0 s1 s2 h).bind fun h3 =>
  some h3
theorem mM_sayNext_195_ok {xs : Option (List Int32)} {s0 : Option Nat} {s1 : Int32} {s2 : Int32} {h : gx_H} {r : gx_H} (e : mM_sayNext_195 s0 s1 s2 h = some r) : gv_V xs 5 166 195 [] [.int s2, .int s1, gv_u s0] h (.returned none) r := by
  unfold mM_sayNext_195 at e
  obtain ⟨i1, qi1, e⟩ := gv_bind e
  obtain ⟨h3, qv2, e⟩ := gv_bind e
  refine gv_vS (jc := 159) (n := 2) (rest := []) (stk := []) (pc' := 198) rfl rfl rfl rfl rfl rfl rfl rfl rfl (gv_zR (gv_zI (gv_zI gv_z0))) rfl (gv_aR (gv_aI (gv_aI gv_a0))) (Nat.le_of_ble_eq_true rfl) qi1 (mM_sayValue_ok qv2) rfl rfl ?_
  refine gv_goto (pc' := 308) rfl rfl ?_
  cases e
  exact gv_retV rfl rfl
def mM_sayNext_172 (l0 : Option Nat) (l3 : Int32) (l5 : Int32) (s0 : Option Nat) (s1 : Int32) (h : gx_H) : Option gx_H :=
  if (l3 - l3 / (2 : Int32) * (2 : Int32)) = 0 then (
    (gv_gR h l0 7 6).bind fun v2 =>
    (gv_lI h v2 l5).bind fun v3 =>
    mM_sayNext_195 s0 s1 v3 h) else
  (gv_gR h l0 7 9).bind fun v4 =>
  (gv_lI h v4 l5).bind fun v5 =>
  mM_sayNext_195 s0 s1 v5 h
theorem mM_sayNext_172_ok {xs : Option (List Int32)} {l0 : Option Nat} {l3 : Int32} {l5 : Int32} {s0 : Option Nat} {s1 : Int32} {h : gx_H} {r : gx_H} (e : mM_sayNext_172 l0 l3 l5 s0 s1 h = some r) : gv_V xs 5 166 172 [(0, gv_u l0), (3, .int l3), (5, .int l5)] [.int s1, gv_u s0] h (.returned none) r := by
  unfold mM_sayNext_172 at e
  refine gv_ildn (pc' := 173) rfl rfl rfl ?_
  refine gv_ic (pc' := 174) (x := 2) rfl rfl rfl ?_
  refine gv_irem (pc' := 175) rfl (by decide) rfl ?_
  by_cases c1 : (l3 - l3 / (2 : Int32) * (2 : Int32)) = 0
  · rw [if_pos c1] at e
    refine gv_ifF (pc' := 178) rfl (gv_neF c1) rfl rfl ?_
    refine gv_rldn (pc' := 179) rfl rfl rfl ?_
    obtain ⟨v2, qv2, e⟩ := gv_bind e
    refine gv_fR (pc' := 182) rfl rfl qv2 rfl ?_
    refine gv_ild (pc' := 184) rfl rfl rfl ?_
    obtain ⟨v3, qv3, e⟩ := gv_bind e
    refine gv_iald (pc' := 185) rfl qv3 rfl ?_
    refine gv_goto (pc' := 195) rfl rfl ?_
    exact gv_weak (mM_sayNext_195_ok e) gv_S0
  rw [if_neg c1] at e
  refine gv_ifT (pc' := 188) rfl (gv_neT c1) rfl ?_
  refine gv_rldn (pc' := 189) rfl rfl rfl ?_
  obtain ⟨v4, qv4, e⟩ := gv_bind e
  refine gv_fR (pc' := 192) rfl rfl qv4 rfl ?_
  refine gv_ild (pc' := 194) rfl rfl rfl ?_
  obtain ⟨v5, qv5, e⟩ := gv_bind e
  refine gv_iald (pc' := 195) rfl qv5 rfl ?_
  exact gv_weak (mM_sayNext_195_ok e) gv_S0
def mM_sayNext_257 (l0 : Option Nat) (l2 : Int32) (l3 : Int32) (s0 : Option Nat) (s1 : Int32) (h : gx_H) : Option gx_H :=
  (gv_is h s0 7).bind fun i1 =>
  (mM_say s0 s1 h).bind fun h3 =>
  (gv_gR h3 l0 7 8).bind fun v4 =>
  (gv_lI h3 v4 (((8 : Int32) * l2) + l3)).bind fun v5 =>
  if v5 = (-1 : Int32) then (
    some h3) else
  (gv_gI h3 l0 7 26).bind fun v7 =>
  if v7 = 0 then (
    (gv_gR h3 l0 7 8).bind fun v9 =>
    (gv_lI h3 v9 (((8 : Int32) * l2) + l3)).bind fun v10 =>
    (gv_gR h3 l0 7 9).bind fun v11 =>
    (gv_lI h3 v11 (((8 : Int32) * l2) + l3)).bind fun v12 =>
    (gv_is h3 l0 7).bind fun i13 =>
    (mM_sayValue l0 v10 v12 h3).bind fun h15 =>
    some h15) else
  some h3
theorem mM_sayNext_257_ok {xs : Option (List Int32)} {l0 : Option Nat} {l2 : Int32} {l3 : Int32} {s0 : Option Nat} {s1 : Int32} {h : gx_H} {r : gx_H} (e : mM_sayNext_257 l0 l2 l3 s0 s1 h = some r) : gv_V xs 5 166 257 [(0, gv_u l0), (2, .int l2), (3, .int l3)] [.int s1, gv_u s0] h (.returned none) r := by
  unfold mM_sayNext_257 at e
  obtain ⟨i1, qi1, e⟩ := gv_bind e
  obtain ⟨h3, qv2, e⟩ := gv_bind e
  refine gv_vS (jc := 158) (n := 1) (rest := []) (stk := []) (pc' := 260) rfl rfl rfl rfl rfl rfl rfl rfl rfl (gv_zR (gv_zI gv_z0)) rfl (gv_aR (gv_aI gv_a0)) (Nat.le_of_ble_eq_true rfl) qi1 (mM_say_ok qv2) rfl rfl ?_
  refine gv_rldn (pc' := 261) rfl rfl rfl ?_
  obtain ⟨v4, qv4, e⟩ := gv_bind e
  refine gv_fR (pc' := 264) rfl rfl qv4 rfl ?_
  refine gv_bp (pc' := 266) (x := 8) rfl rfl rfl ?_
  refine gv_ildn (pc' := 267) rfl rfl rfl ?_
  refine gv_imul (pc' := 268) rfl rfl ?_
  refine gv_ildn (pc' := 269) rfl rfl rfl ?_
  refine gv_iadd (pc' := 270) rfl rfl ?_
  obtain ⟨v5, qv5, e⟩ := gv_bind e
  refine gv_iald (pc' := 271) rfl qv5 rfl ?_
  refine gv_ic (pc' := 272) (x := -1) rfl rfl rfl ?_
  by_cases c6 : v5 = (-1 : Int32)
  · rw [if_pos c6] at e
    refine gv_cmT (pc' := 308) rfl (gv_eqT2 c6) rfl ?_
    cases e
    exact gv_retV rfl rfl
  rw [if_neg c6] at e
  refine gv_cmF (pc' := 275) rfl (gv_eqF2 c6) rfl rfl ?_
  refine gv_rldn (pc' := 276) rfl rfl rfl ?_
  obtain ⟨v7, qv7, e⟩ := gv_bind e
  refine gv_fI (pc' := 279) rfl rfl qv7 rfl ?_
  by_cases c8 : v7 = 0
  · rw [if_pos c8] at e
    refine gv_ifF (pc' := 282) rfl (gv_neF c8) rfl rfl ?_
    refine gv_rldn (pc' := 283) rfl rfl rfl ?_
    refine gv_rldn (pc' := 284) rfl rfl rfl ?_
    obtain ⟨v9, qv9, e⟩ := gv_bind e
    refine gv_fR (pc' := 287) rfl rfl qv9 rfl ?_
    refine gv_bp (pc' := 289) (x := 8) rfl rfl rfl ?_
    refine gv_ildn (pc' := 290) rfl rfl rfl ?_
    refine gv_imul (pc' := 291) rfl rfl ?_
    refine gv_ildn (pc' := 292) rfl rfl rfl ?_
    refine gv_iadd (pc' := 293) rfl rfl ?_
    obtain ⟨v10, qv10, e⟩ := gv_bind e
    refine gv_iald (pc' := 294) rfl qv10 rfl ?_
    refine gv_rldn (pc' := 295) rfl rfl rfl ?_
    obtain ⟨v11, qv11, e⟩ := gv_bind e
    refine gv_fR (pc' := 298) rfl rfl qv11 rfl ?_
    refine gv_bp (pc' := 300) (x := 8) rfl rfl rfl ?_
    refine gv_ildn (pc' := 301) rfl rfl rfl ?_
    refine gv_imul (pc' := 302) rfl rfl ?_
    refine gv_ildn (pc' := 303) rfl rfl rfl ?_
    refine gv_iadd (pc' := 304) rfl rfl ?_
    obtain ⟨v12, qv12, e⟩ := gv_bind e
    refine gv_iald (pc' := 305) rfl qv12 rfl ?_
    obtain ⟨i13, qi13, e⟩ := gv_bind e
    obtain ⟨h15, qv14, e⟩ := gv_bind e
    refine gv_vS (jc := 159) (n := 2) (rest := []) (stk := []) (pc' := 308) rfl rfl rfl rfl rfl rfl rfl rfl rfl (gv_zR (gv_zI (gv_zI gv_z0))) rfl (gv_aR (gv_aI (gv_aI gv_a0))) (Nat.le_of_ble_eq_true rfl) qi13 (mM_sayValue_ok qv14) rfl rfl ?_
    cases e
    exact gv_retV rfl rfl
  rw [if_neg c8] at e
  refine gv_ifT (pc' := 308) rfl (gv_neT c8) rfl ?_
  cases e
  exact gv_retV rfl rfl
def mM_sayNext (l0 : Option Nat) (h : gx_H) : Option gx_H :=
  (gv_gI h l0 7 18).bind fun v1 =>
  (gv_gR h l0 7 19).bind fun v2 =>
  (gv_lI h v2 (v1 - (1 : Int32))).bind fun v3 =>
  (gv_gR h l0 7 20).bind fun v4 =>
  (gv_lI h v4 (v1 - (1 : Int32))).bind fun v5 =>
  (gv_gR h l0 7 2).bind fun v6 =>
  (gv_lI h v6 v3).bind fun v7 =>
  (gv_gR h l0 7 21).bind fun v8 =>
  (gv_lI h v8 (v1 - (1 : Int32))).bind fun v9 =>
  if v5 = v9 then (
    if v7 = 0 then (
      (gv_is h l0 7).bind fun i12 =>
      (mM_say l0 (0 : Int32) h).bind fun h14 =>
      (gv_gI h14 l0 7 18).bind fun v15 =>
      (gv_pV h14 l0 7 18 (.int (v15 - (1 : Int32)))).bind fun h16 =>
      some h16) else
    if v7 = (5 : Int32) then (
      (gv_is h l0 7).bind fun i18 =>
      (mM_getPlace l0 v3 h).bind fun h20 =>
      (gv_gI h20 l0 7 18).bind fun v21 =>
      (gv_pV h20 l0 7 18 (.int (v21 - (1 : Int32)))).bind fun h22 =>
      some h22) else
    (gv_gI h l0 7 18).bind fun v23 =>
    (gv_pV h l0 7 18 (.int (v23 - (1 : Int32)))).bind fun h24 =>
    some h24) else
  (gv_gR h l0 7 20).bind fun v25 =>
  (gv_lI h v25 (v1 - (1 : Int32))).bind fun v26 =>
  (gv_wI h v25 (v1 - (1 : Int32)) (v26 + (1 : Int32))).bind fun h27 =>
  if v7 = 0 then (
    (gv_gR h27 l0 7 22).bind fun v29 =>
    (gv_lI h27 v29 (((6 : Int32) * (v1 - (1 : Int32))) + v5)).bind fun v30 =>
    (gv_is h27 l0 7).bind fun i31 =>
    (mM_sayProperty l0 v3 v30 h27).bind fun h33 =>
    some h33) else
  if v7 = (5 : Int32) then (
    (gv_gR h27 l0 7 9).bind fun v35 =>
    (gv_lI h27 v35 ((8 : Int32) * v3)).bind fun v36 =>
    (gv_is h27 l0 7).bind fun i37 =>
    (mM_sayValue l0 (6 : Int32) v36 h27).bind fun h39 =>
    some h39) else
  if v7 = (2 : Int32) then (
    if (v5 - v5 / (2 : Int32) * (2 : Int32)) = 0 then (
      (gv_gR h27 l0 7 7).bind fun v42 =>
      (gv_lI h27 v42 (((8 : Int32) * v3) + (v5 / (2 : Int32)))).bind fun v43 =>
      mM_sayNext_172 l0 v5 (((8 : Int32) * v3) + (v5 / (2 : Int32))) l0 v43 h27) else
    (gv_gR h27 l0 7 8).bind fun v44 =>
    (gv_lI h27 v44 (((8 : Int32) * v3) + (v5 / (2 : Int32)))).bind fun v45 =>
    mM_sayNext_172 l0 v5 (((8 : Int32) * v3) + (v5 / (2 : Int32))) l0 v45 h27) else
  if v7 = (3 : Int32) then (
    (gv_gR h27 l0 7 8).bind fun v47 =>
    (gv_lI h27 v47 (((8 : Int32) * v3) + v5)).bind fun v48 =>
    (gv_gR h27 l0 7 9).bind fun v49 =>
    (gv_lI h27 v49 (((8 : Int32) * v3) + v5)).bind fun v50 =>
    (gv_is h27 l0 7).bind fun i51 =>
    (mM_sayValue l0 v48 v50 h27).bind fun h53 =>
    some h53) else
  (gv_gR h27 l0 7 8).bind fun v54 =>
  (gv_lI h27 v54 (((8 : Int32) * v3) + v5)).bind fun v55 =>
  if v55 = (-1 : Int32) then (
    mM_sayNext_257 l0 v3 v5 l0 (0 : Int32) h27) else
  mM_sayNext_257 l0 v3 v5 l0 (1 : Int32) h27
theorem mM_sayNext_ok {xs : Option (List Int32)} {l0 : Option Nat} {h : gx_H} {r : gx_H} (e : mM_sayNext l0 h = some r) : gv_V xs 5 166 0 [(0, gv_u l0)] [] h (.returned none) r := by
  unfold mM_sayNext at e
  refine gv_rldn (pc' := 1) rfl rfl rfl ?_
  obtain ⟨v1, qv1, e⟩ := gv_bind e
  refine gv_fI (pc' := 4) rfl rfl qv1 rfl ?_
  refine gv_ic (pc' := 5) (x := 1) rfl rfl rfl ?_
  refine gv_isub (pc' := 6) rfl rfl ?_
  refine gv_istn (pc' := 7) rfl rfl (gv_Cr rfl) rfl ?_
  refine gv_rldn (pc' := 8) rfl rfl rfl ?_
  obtain ⟨v2, qv2, e⟩ := gv_bind e
  refine gv_fR (pc' := 11) rfl rfl qv2 rfl ?_
  refine gv_ildn (pc' := 12) rfl rfl rfl ?_
  obtain ⟨v3, qv3, e⟩ := gv_bind e
  refine gv_iald (pc' := 13) rfl qv3 rfl ?_
  refine gv_istn (pc' := 14) rfl rfl (gv_Ci rfl) rfl ?_
  refine gv_rldn (pc' := 15) rfl rfl rfl ?_
  obtain ⟨v4, qv4, e⟩ := gv_bind e
  refine gv_fR (pc' := 18) rfl rfl qv4 rfl ?_
  refine gv_ildn (pc' := 19) rfl rfl rfl ?_
  obtain ⟨v5, qv5, e⟩ := gv_bind e
  refine gv_iald (pc' := 20) rfl qv5 rfl ?_
  refine gv_istn (pc' := 21) rfl rfl (gv_Ci rfl) rfl ?_
  refine gv_rldn (pc' := 22) rfl rfl rfl ?_
  obtain ⟨v6, qv6, e⟩ := gv_bind e
  refine gv_fR (pc' := 25) rfl rfl qv6 rfl ?_
  refine gv_ildn (pc' := 26) rfl rfl rfl ?_
  obtain ⟨v7, qv7, e⟩ := gv_bind e
  refine gv_iald (pc' := 27) rfl qv7 rfl ?_
  refine gv_ist (pc' := 29) rfl rfl (gv_Ci rfl) rfl ?_
  refine gv_ildn (pc' := 30) rfl rfl rfl ?_
  refine gv_rldn (pc' := 31) rfl rfl rfl ?_
  obtain ⟨v8, qv8, e⟩ := gv_bind e
  refine gv_fR (pc' := 34) rfl rfl qv8 rfl ?_
  refine gv_ildn (pc' := 35) rfl rfl rfl ?_
  obtain ⟨v9, qv9, e⟩ := gv_bind e
  refine gv_iald (pc' := 36) rfl qv9 rfl ?_
  by_cases c10 : v5 = v9
  · rw [if_pos c10] at e
    refine gv_cmF (pc' := 39) rfl (gv_neF2 c10) rfl rfl ?_
    refine gv_ild (pc' := 41) rfl rfl rfl ?_
    by_cases c11 : v7 = 0
    · rw [if_pos c11] at e
      refine gv_ifF (pc' := 44) rfl (gv_neF c11) rfl rfl ?_
      refine gv_rldn (pc' := 45) rfl rfl rfl ?_
      refine gv_ic (pc' := 46) (x := 0) rfl rfl rfl ?_
      obtain ⟨i12, qi12, e⟩ := gv_bind e
      obtain ⟨h14, qv13, e⟩ := gv_bind e
      refine gv_vS (jc := 158) (n := 1) (rest := []) (stk := []) (pc' := 49) rfl rfl rfl rfl rfl rfl rfl rfl rfl (gv_zR (gv_zI gv_z0)) rfl (gv_aR (gv_aI gv_a0)) (Nat.le_of_ble_eq_true rfl) qi12 (mM_say_ok qv13) rfl rfl ?_
      refine gv_goto (pc' := 63) rfl rfl ?_
      refine gv_rldn (pc' := 64) rfl rfl rfl ?_
      refine gv_dup (pc' := 65) rfl (gv_u_cat _) rfl ?_
      obtain ⟨v15, qv15, e⟩ := gv_bind e
      refine gv_fI (pc' := 68) rfl rfl qv15 rfl ?_
      refine gv_ic (pc' := 69) (x := 1) rfl rfl rfl ?_
      refine gv_isub (pc' := 70) rfl rfl ?_
      obtain ⟨h16, qh16, e⟩ := gv_bind e
      refine gv_pI (pc' := 73) rfl rfl rfl qh16 rfl ?_
      cases e
      exact gv_retV rfl rfl
    rw [if_neg c11] at e
    refine gv_ifT (pc' := 52) rfl (gv_neT c11) rfl ?_
    refine gv_ild (pc' := 54) rfl rfl rfl ?_
    refine gv_ic (pc' := 55) (x := 5) rfl rfl rfl ?_
    by_cases c17 : v7 = (5 : Int32)
    · rw [if_pos c17] at e
      refine gv_cmF (pc' := 58) rfl (gv_neF2 c17) rfl rfl ?_
      refine gv_rldn (pc' := 59) rfl rfl rfl ?_
      refine gv_ildn (pc' := 60) rfl rfl rfl ?_
      obtain ⟨i18, qi18, e⟩ := gv_bind e
      obtain ⟨h20, qv19, e⟩ := gv_bind e
      refine gv_vS (jc := 165) (n := 1) (rest := []) (stk := []) (pc' := 63) rfl rfl rfl rfl rfl rfl rfl rfl rfl (gv_zR (gv_zI gv_z0)) rfl (gv_aR (gv_aI gv_a0)) (Nat.le_of_ble_eq_true rfl) qi18 (mM_getPlace_ok qv19) rfl rfl ?_
      refine gv_rldn (pc' := 64) rfl rfl rfl ?_
      refine gv_dup (pc' := 65) rfl (gv_u_cat _) rfl ?_
      obtain ⟨v21, qv21, e⟩ := gv_bind e
      refine gv_fI (pc' := 68) rfl rfl qv21 rfl ?_
      refine gv_ic (pc' := 69) (x := 1) rfl rfl rfl ?_
      refine gv_isub (pc' := 70) rfl rfl ?_
      obtain ⟨h22, qh22, e⟩ := gv_bind e
      refine gv_pI (pc' := 73) rfl rfl rfl qh22 rfl ?_
      cases e
      exact gv_retV rfl rfl
    rw [if_neg c17] at e
    refine gv_cmT (pc' := 63) rfl (gv_neT2 c17) rfl ?_
    refine gv_rldn (pc' := 64) rfl rfl rfl ?_
    refine gv_dup (pc' := 65) rfl (gv_u_cat _) rfl ?_
    obtain ⟨v23, qv23, e⟩ := gv_bind e
    refine gv_fI (pc' := 68) rfl rfl qv23 rfl ?_
    refine gv_ic (pc' := 69) (x := 1) rfl rfl rfl ?_
    refine gv_isub (pc' := 70) rfl rfl ?_
    obtain ⟨h24, qh24, e⟩ := gv_bind e
    refine gv_pI (pc' := 73) rfl rfl rfl qh24 rfl ?_
    cases e
    exact gv_retV rfl rfl
  rw [if_neg c10] at e
  refine gv_cmT (pc' := 74) rfl (gv_neT2 c10) rfl ?_
  refine gv_rldn (pc' := 75) rfl rfl rfl ?_
  obtain ⟨v25, qv25, e⟩ := gv_bind e
  refine gv_fR (pc' := 78) rfl rfl qv25 rfl ?_
  refine gv_ildn (pc' := 79) rfl rfl rfl ?_
  refine gv_dup2 (pc' := 80) rfl rfl (gv_u_cat _) rfl ?_
  obtain ⟨v26, qv26, e⟩ := gv_bind e
  refine gv_iald (pc' := 81) rfl qv26 rfl ?_
  refine gv_ic (pc' := 82) (x := 1) rfl rfl rfl ?_
  refine gv_iadd (pc' := 83) rfl rfl ?_
  obtain ⟨h27, qh27, e⟩ := gv_bind e
  refine gv_iast (pc' := 84) rfl qh27 rfl ?_
  refine gv_ild (pc' := 86) rfl rfl rfl ?_
  by_cases c28 : v7 = 0
  · rw [if_pos c28] at e
    refine gv_ifF (pc' := 89) rfl (gv_neF c28) rfl rfl ?_
    refine gv_rldn (pc' := 90) rfl rfl rfl ?_
    refine gv_ildn (pc' := 91) rfl rfl rfl ?_
    refine gv_rldn (pc' := 92) rfl rfl rfl ?_
    obtain ⟨v29, qv29, e⟩ := gv_bind e
    refine gv_fR (pc' := 95) rfl rfl qv29 rfl ?_
    refine gv_bp (pc' := 97) (x := 6) rfl rfl rfl ?_
    refine gv_ildn (pc' := 98) rfl rfl rfl ?_
    refine gv_imul (pc' := 99) rfl rfl ?_
    refine gv_ildn (pc' := 100) rfl rfl rfl ?_
    refine gv_iadd (pc' := 101) rfl rfl ?_
    obtain ⟨v30, qv30, e⟩ := gv_bind e
    refine gv_iald (pc' := 102) rfl qv30 rfl ?_
    obtain ⟨i31, qi31, e⟩ := gv_bind e
    obtain ⟨h33, qv32, e⟩ := gv_bind e
    refine gv_vS (jc := 167) (n := 2) (rest := []) (stk := []) (pc' := 105) rfl rfl rfl rfl rfl rfl rfl rfl rfl (gv_zR (gv_zI (gv_zI gv_z0))) rfl (gv_aR (gv_aI (gv_aI gv_a0))) (Nat.le_of_ble_eq_true rfl) qi31 (mM_sayProperty_ok qv32) rfl rfl ?_
    refine gv_goto (pc' := 308) rfl rfl ?_
    cases e
    exact gv_retV rfl rfl
  rw [if_neg c28] at e
  refine gv_ifT (pc' := 108) rfl (gv_neT c28) rfl ?_
  refine gv_ild (pc' := 110) rfl rfl rfl ?_
  refine gv_ic (pc' := 111) (x := 5) rfl rfl rfl ?_
  by_cases c34 : v7 = (5 : Int32)
  · rw [if_pos c34] at e
    refine gv_cmF (pc' := 114) rfl (gv_neF2 c34) rfl rfl ?_
    refine gv_rldn (pc' := 115) rfl rfl rfl ?_
    refine gv_bp (pc' := 117) (x := 6) rfl rfl rfl ?_
    refine gv_rldn (pc' := 118) rfl rfl rfl ?_
    obtain ⟨v35, qv35, e⟩ := gv_bind e
    refine gv_fR (pc' := 121) rfl rfl qv35 rfl ?_
    refine gv_bp (pc' := 123) (x := 8) rfl rfl rfl ?_
    refine gv_ildn (pc' := 124) rfl rfl rfl ?_
    refine gv_imul (pc' := 125) rfl rfl ?_
    obtain ⟨v36, qv36, e⟩ := gv_bind e
    refine gv_iald (pc' := 126) rfl qv36 rfl ?_
    obtain ⟨i37, qi37, e⟩ := gv_bind e
    obtain ⟨h39, qv38, e⟩ := gv_bind e
    refine gv_vS (jc := 159) (n := 2) (rest := []) (stk := []) (pc' := 129) rfl rfl rfl rfl rfl rfl rfl rfl rfl (gv_zR (gv_zI (gv_zI gv_z0))) rfl (gv_aR (gv_aI (gv_aI gv_a0))) (Nat.le_of_ble_eq_true rfl) qi37 (mM_sayValue_ok qv38) rfl rfl ?_
    refine gv_goto (pc' := 308) rfl rfl ?_
    cases e
    exact gv_retV rfl rfl
  rw [if_neg c34] at e
  refine gv_cmT (pc' := 132) rfl (gv_neT2 c34) rfl ?_
  refine gv_ild (pc' := 134) rfl rfl rfl ?_
  refine gv_ic (pc' := 135) (x := 2) rfl rfl rfl ?_
  by_cases c40 : v7 = (2 : Int32)
  · rw [if_pos c40] at e
    refine gv_cmF (pc' := 138) rfl (gv_neF2 c40) rfl rfl ?_
    refine gv_bp (pc' := 140) (x := 8) rfl rfl rfl ?_
    refine gv_ildn (pc' := 141) rfl rfl rfl ?_
    refine gv_imul (pc' := 142) rfl rfl ?_
    refine gv_ildn (pc' := 143) rfl rfl rfl ?_
    refine gv_ic (pc' := 144) (x := 2) rfl rfl rfl ?_
    refine gv_idiv (pc' := 145) rfl (by decide) rfl ?_
    refine gv_iadd (pc' := 146) rfl rfl ?_
    refine gv_ist (pc' := 148) rfl rfl (gv_Ci rfl) rfl ?_
    refine gv_rldn (pc' := 149) rfl rfl rfl ?_
    refine gv_ildn (pc' := 150) rfl rfl rfl ?_
    refine gv_ic (pc' := 151) (x := 2) rfl rfl rfl ?_
    refine gv_irem (pc' := 152) rfl (by decide) rfl ?_
    by_cases c41 : (v5 - v5 / (2 : Int32) * (2 : Int32)) = 0
    · rw [if_pos c41] at e
      refine gv_ifF (pc' := 155) rfl (gv_neF c41) rfl rfl ?_
      refine gv_rldn (pc' := 156) rfl rfl rfl ?_
      obtain ⟨v42, qv42, e⟩ := gv_bind e
      refine gv_fR (pc' := 159) rfl rfl qv42 rfl ?_
      refine gv_ild (pc' := 161) rfl rfl rfl ?_
      obtain ⟨v43, qv43, e⟩ := gv_bind e
      refine gv_iald (pc' := 162) rfl qv43 rfl ?_
      refine gv_goto (pc' := 172) rfl rfl ?_
      exact gv_weak (mM_sayNext_172_ok e) (gv_S1 rfl (gv_S1 rfl (gv_S1 rfl gv_S0)))
    rw [if_neg c41] at e
    refine gv_ifT (pc' := 165) rfl (gv_neT c41) rfl ?_
    refine gv_rldn (pc' := 166) rfl rfl rfl ?_
    obtain ⟨v44, qv44, e⟩ := gv_bind e
    refine gv_fR (pc' := 169) rfl rfl qv44 rfl ?_
    refine gv_ild (pc' := 171) rfl rfl rfl ?_
    obtain ⟨v45, qv45, e⟩ := gv_bind e
    refine gv_iald (pc' := 172) rfl qv45 rfl ?_
    exact gv_weak (mM_sayNext_172_ok e) (gv_S1 rfl (gv_S1 rfl (gv_S1 rfl gv_S0)))
  rw [if_neg c40] at e
  refine gv_cmT (pc' := 201) rfl (gv_neT2 c40) rfl ?_
  refine gv_ild (pc' := 203) rfl rfl rfl ?_
  refine gv_ic (pc' := 204) (x := 3) rfl rfl rfl ?_
  by_cases c46 : v7 = (3 : Int32)
  · rw [if_pos c46] at e
    refine gv_cmF (pc' := 207) rfl (gv_neF2 c46) rfl rfl ?_
    refine gv_rldn (pc' := 208) rfl rfl rfl ?_
    refine gv_rldn (pc' := 209) rfl rfl rfl ?_
    obtain ⟨v47, qv47, e⟩ := gv_bind e
    refine gv_fR (pc' := 212) rfl rfl qv47 rfl ?_
    refine gv_bp (pc' := 214) (x := 8) rfl rfl rfl ?_
    refine gv_ildn (pc' := 215) rfl rfl rfl ?_
    refine gv_imul (pc' := 216) rfl rfl ?_
    refine gv_ildn (pc' := 217) rfl rfl rfl ?_
    refine gv_iadd (pc' := 218) rfl rfl ?_
    obtain ⟨v48, qv48, e⟩ := gv_bind e
    refine gv_iald (pc' := 219) rfl qv48 rfl ?_
    refine gv_rldn (pc' := 220) rfl rfl rfl ?_
    obtain ⟨v49, qv49, e⟩ := gv_bind e
    refine gv_fR (pc' := 223) rfl rfl qv49 rfl ?_
    refine gv_bp (pc' := 225) (x := 8) rfl rfl rfl ?_
    refine gv_ildn (pc' := 226) rfl rfl rfl ?_
    refine gv_imul (pc' := 227) rfl rfl ?_
    refine gv_ildn (pc' := 228) rfl rfl rfl ?_
    refine gv_iadd (pc' := 229) rfl rfl ?_
    obtain ⟨v50, qv50, e⟩ := gv_bind e
    refine gv_iald (pc' := 230) rfl qv50 rfl ?_
    obtain ⟨i51, qi51, e⟩ := gv_bind e
    obtain ⟨h53, qv52, e⟩ := gv_bind e
    refine gv_vS (jc := 159) (n := 2) (rest := []) (stk := []) (pc' := 233) rfl rfl rfl rfl rfl rfl rfl rfl rfl (gv_zR (gv_zI (gv_zI gv_z0))) rfl (gv_aR (gv_aI (gv_aI gv_a0))) (Nat.le_of_ble_eq_true rfl) qi51 (mM_sayValue_ok qv52) rfl rfl ?_
    refine gv_goto (pc' := 308) rfl rfl ?_
    cases e
    exact gv_retV rfl rfl
  rw [if_neg c46] at e
  refine gv_cmT (pc' := 236) rfl (gv_neT2 c46) rfl ?_
  refine gv_rldn (pc' := 237) rfl rfl rfl ?_
  refine gv_rldn (pc' := 238) rfl rfl rfl ?_
  obtain ⟨v54, qv54, e⟩ := gv_bind e
  refine gv_fR (pc' := 241) rfl rfl qv54 rfl ?_
  refine gv_bp (pc' := 243) (x := 8) rfl rfl rfl ?_
  refine gv_ildn (pc' := 244) rfl rfl rfl ?_
  refine gv_imul (pc' := 245) rfl rfl ?_
  refine gv_ildn (pc' := 246) rfl rfl rfl ?_
  refine gv_iadd (pc' := 247) rfl rfl ?_
  obtain ⟨v55, qv55, e⟩ := gv_bind e
  refine gv_iald (pc' := 248) rfl qv55 rfl ?_
  refine gv_ic (pc' := 249) (x := -1) rfl rfl rfl ?_
  by_cases c56 : v55 = (-1 : Int32)
  · rw [if_pos c56] at e
    refine gv_cmF (pc' := 252) rfl (gv_neF2 c56) rfl rfl ?_
    refine gv_ic (pc' := 253) (x := 0) rfl rfl rfl ?_
    refine gv_goto (pc' := 257) rfl rfl ?_
    exact gv_weak (mM_sayNext_257_ok e) (gv_S1 rfl (gv_S1 rfl (gv_S1 rfl gv_S0)))
  rw [if_neg c56] at e
  refine gv_cmT (pc' := 256) rfl (gv_neT2 c56) rfl ?_
  refine gv_ic (pc' := 257) (x := 1) rfl rfl rfl ?_
  exact gv_weak (mM_sayNext_257_ok e) (gv_S1 rfl (gv_S1 rfl (gv_S1 rfl gv_S0)))
def mM_handOver_37 (rec10 : Option Nat → Int32 → gx_H → Option gx_H) : Nat → Option Nat → Int32 → Int32 → gx_H → Option gx_H
  | 0, _, _, _, _ => none
  | n + 1, l0, l1, l2, h =>
    if l2 < (8 : Int32) then (
      (gv_gR h l0 7 14).bind fun v2 =>
      (gv_gR h l0 7 9).bind fun v3 =>
      (gv_gR h l0 7 11).bind fun v4 =>
      (gv_lI h v4 l1).bind fun v5 =>
      (gv_lI h v3 (((8 : Int32) * v5) + l2)).bind fun v6 =>
      (gv_wI h v2 (((8 : Int32) * l1) + l2) v6).bind fun h7 =>
      mM_handOver_37 rec10 n l0 l1 (l2 + 1) h7) else
    (gv_gR h l0 7 11).bind fun v8 =>
    (gv_lI h v8 l1).bind fun v9 =>
    (gv_is h l0 7).bind fun i10 =>
    (mM_detachNow l0 v9 h).bind fun h12 =>
    rec10 l0 (l1 + 1) h12
theorem mM_handOver_37_ok {xs : Option (List Int32)} {rec10 : Option Nat → Int32 → gx_H → Option gx_H} (hrec10 : ∀ (l0 : Option Nat) (l1 : Int32) (h : gx_H) (r : gx_H), rec10 l0 l1 h = some r → gv_V xs 1 169 10 [(0, gv_u l0), (1, .int l1)] [] h (.returned none) r) : ∀ (n : Nat) (l0 : Option Nat) (l1 : Int32) (l2 : Int32) (h : gx_H) (r : gx_H), mM_handOver_37 rec10 n l0 l1 l2 h = some r → gv_V xs 1 169 37 [(0, gv_u l0), (1, .int l1), (2, .int l2)] [] h (.returned none) r := by
  intro n
  induction n with
  | zero => intro l0 l1 l2 h r e; cases e
  | succ n ih =>
    intro l0 l1 l2 h r e
    rw [mM_handOver_37] at e
    refine gv_ildn (pc' := 38) rfl rfl rfl ?_
    refine gv_bp (pc' := 40) (x := 8) rfl rfl rfl ?_
    by_cases c1 : l2 < (8 : Int32)
    · rw [if_pos c1] at e
      refine gv_cmF (pc' := 43) rfl (gv_geF2 c1) rfl rfl ?_
      refine gv_rldn (pc' := 44) rfl rfl rfl ?_
      obtain ⟨v2, qv2, e⟩ := gv_bind e
      refine gv_fR (pc' := 47) rfl rfl qv2 rfl ?_
      refine gv_bp (pc' := 49) (x := 8) rfl rfl rfl ?_
      refine gv_ildn (pc' := 50) rfl rfl rfl ?_
      refine gv_imul (pc' := 51) rfl rfl ?_
      refine gv_ildn (pc' := 52) rfl rfl rfl ?_
      refine gv_iadd (pc' := 53) rfl rfl ?_
      refine gv_rldn (pc' := 54) rfl rfl rfl ?_
      obtain ⟨v3, qv3, e⟩ := gv_bind e
      refine gv_fR (pc' := 57) rfl rfl qv3 rfl ?_
      refine gv_bp (pc' := 59) (x := 8) rfl rfl rfl ?_
      refine gv_rldn (pc' := 60) rfl rfl rfl ?_
      obtain ⟨v4, qv4, e⟩ := gv_bind e
      refine gv_fR (pc' := 63) rfl rfl qv4 rfl ?_
      refine gv_ildn (pc' := 64) rfl rfl rfl ?_
      obtain ⟨v5, qv5, e⟩ := gv_bind e
      refine gv_iald (pc' := 65) rfl qv5 rfl ?_
      refine gv_imul (pc' := 66) rfl rfl ?_
      refine gv_ildn (pc' := 67) rfl rfl rfl ?_
      refine gv_iadd (pc' := 68) rfl rfl ?_
      obtain ⟨v6, qv6, e⟩ := gv_bind e
      refine gv_iald (pc' := 69) rfl qv6 rfl ?_
      obtain ⟨h7, qh7, e⟩ := gv_bind e
      refine gv_iast (pc' := 70) rfl qh7 rfl ?_
      refine gv_inc (pc' := 73) (y := 1) rfl rfl rfl rfl (gv_Ci rfl) rfl ?_
      refine gv_goto (pc' := 37) rfl rfl ?_
      exact gv_weak (ih _ _ _ _ _ e) (gv_S1 rfl (gv_S1 rfl (gv_S1 rfl gv_S0)))
    rw [if_neg c1] at e
    refine gv_cmT (pc' := 76) rfl (gv_geT2 c1) rfl ?_
    refine gv_rldn (pc' := 77) rfl rfl rfl ?_
    refine gv_rldn (pc' := 78) rfl rfl rfl ?_
    obtain ⟨v8, qv8, e⟩ := gv_bind e
    refine gv_fR (pc' := 81) rfl rfl qv8 rfl ?_
    refine gv_ildn (pc' := 82) rfl rfl rfl ?_
    obtain ⟨v9, qv9, e⟩ := gv_bind e
    refine gv_iald (pc' := 83) rfl qv9 rfl ?_
    obtain ⟨i10, qi10, e⟩ := gv_bind e
    obtain ⟨h12, qv11, e⟩ := gv_bind e
    refine gv_vS (jc := 147) (n := 1) (rest := []) (stk := []) (pc' := 86) rfl rfl rfl rfl rfl rfl rfl rfl rfl (gv_zR (gv_zI gv_z0)) rfl (gv_aR (gv_aI gv_a0)) (Nat.le_of_ble_eq_true rfl) qi10 (mM_detachNow_ok qv11) rfl rfl ?_
    refine gv_inc (pc' := 89) (y := 1) rfl rfl rfl rfl (gv_Cr rfl) rfl ?_
    refine gv_goto (pc' := 10) rfl rfl ?_
    exact gv_weak (hrec10 _ _ _ _ e) (gv_S1 rfl (gv_S1 rfl gv_S0))
def mM_handOver_10 : Nat → Option Nat → Int32 → gx_H → Option gx_H
  | 0, _, _, _ => none
  | n + 1, l0, l1, h =>
    (gv_gI h l0 7 10).bind fun v1 =>
    if l1 < v1 then (
      (gv_gR h l0 7 13).bind fun v3 =>
      (gv_gR h l0 7 3).bind fun v4 =>
      (gv_gR h l0 7 11).bind fun v5 =>
      (gv_lI h v5 l1).bind fun v6 =>
      (gv_lI h v4 v6).bind fun v7 =>
      (gv_wI h v3 l1 v7).bind fun h8 =>
      mM_handOver_37 (mM_handOver_10 n) 1000000000000000 l0 l1 (0 : Int32) h8) else
    some h
theorem mM_handOver_10_ok {xs : Option (List Int32)} : ∀ (n : Nat) (l0 : Option Nat) (l1 : Int32) (h : gx_H) (r : gx_H), mM_handOver_10 n l0 l1 h = some r → gv_V xs 1 169 10 [(0, gv_u l0), (1, .int l1)] [] h (.returned none) r := by
  intro n
  induction n with
  | zero => intro l0 l1 h r e; cases e
  | succ n ih =>
    intro l0 l1 h r e
    rw [mM_handOver_10] at e
    refine gv_ildn (pc' := 11) rfl rfl rfl ?_
    refine gv_rldn (pc' := 12) rfl rfl rfl ?_
    obtain ⟨v1, qv1, e⟩ := gv_bind e
    refine gv_fI (pc' := 15) rfl rfl qv1 rfl ?_
    by_cases c2 : l1 < v1
    · rw [if_pos c2] at e
      refine gv_cmF (pc' := 18) rfl (gv_geF2 c2) rfl rfl ?_
      refine gv_rldn (pc' := 19) rfl rfl rfl ?_
      obtain ⟨v3, qv3, e⟩ := gv_bind e
      refine gv_fR (pc' := 22) rfl rfl qv3 rfl ?_
      refine gv_ildn (pc' := 23) rfl rfl rfl ?_
      refine gv_rldn (pc' := 24) rfl rfl rfl ?_
      obtain ⟨v4, qv4, e⟩ := gv_bind e
      refine gv_fR (pc' := 27) rfl rfl qv4 rfl ?_
      refine gv_rldn (pc' := 28) rfl rfl rfl ?_
      obtain ⟨v5, qv5, e⟩ := gv_bind e
      refine gv_fR (pc' := 31) rfl rfl qv5 rfl ?_
      refine gv_ildn (pc' := 32) rfl rfl rfl ?_
      obtain ⟨v6, qv6, e⟩ := gv_bind e
      refine gv_iald (pc' := 33) rfl qv6 rfl ?_
      obtain ⟨v7, qv7, e⟩ := gv_bind e
      refine gv_iald (pc' := 34) rfl qv7 rfl ?_
      obtain ⟨h8, qh8, e⟩ := gv_bind e
      refine gv_iast (pc' := 35) rfl qh8 rfl ?_
      refine gv_ic (pc' := 36) (x := 0) rfl rfl rfl ?_
      refine gv_istn (pc' := 37) rfl rfl (gv_Ci rfl) rfl ?_
      exact gv_weak (mM_handOver_37_ok ih 1000000000000000 _ _ _ _ _ e) (gv_S1 rfl (gv_S1 rfl (gv_S1 rfl gv_S0)))
    rw [if_neg c2] at e
    refine gv_cmT (pc' := 92) rfl (gv_geT2 c2) rfl ?_
    cases e
    exact gv_retV rfl rfl
def mM_handOver (l0 : Option Nat) (h : gx_H) : Option gx_H :=
  (gv_gI h l0 7 10).bind fun v1 =>
  (gv_pV h l0 7 12 (.int v1)).bind fun h2 =>
  mM_handOver_10 1000000000000000 l0 (0 : Int32) h2
theorem mM_handOver_ok {xs : Option (List Int32)} {l0 : Option Nat} {h : gx_H} {r : gx_H} (e : mM_handOver l0 h = some r) : gv_V xs 1 169 0 [(0, gv_u l0)] [] h (.returned none) r := by
  unfold mM_handOver at e
  refine gv_rldn (pc' := 1) rfl rfl rfl ?_
  refine gv_rldn (pc' := 2) rfl rfl rfl ?_
  obtain ⟨v1, qv1, e⟩ := gv_bind e
  refine gv_fI (pc' := 5) rfl rfl qv1 rfl ?_
  obtain ⟨h2, qh2, e⟩ := gv_bind e
  refine gv_pI (pc' := 8) rfl rfl rfl qh2 rfl ?_
  refine gv_ic (pc' := 9) (x := 0) rfl rfl rfl ?_
  refine gv_istn (pc' := 10) rfl rfl (gv_Cr rfl) rfl ?_
  exact gv_weak (mM_handOver_10_ok 1000000000000000 _ _ _ _ e) (gv_S1 rfl (gv_S1 rfl gv_S0))
def mM_write_194 (l0 : Option Nat) (h : gx_H) : Option (Int32 × gx_H) :=
  (gv_pV h l0 7 10 (.int (0 : Int32))).bind fun h1 =>
  (gv_gI h1 l0 7 26).bind fun v2 =>
  (gv_pV h1 l0 7 0 (.int v2)).bind fun h3 =>
  (gv_gI h3 l0 7 26).bind fun v4 =>
  if v4 = 0 then (
    (gv_gI h3 l0 7 15).bind fun v6 =>
    some (v6, h3)) else
  some ((0 : Int32), h3)
theorem mM_write_194_ok {xs : Option (List Int32)} {l0 : Option Nat} {h : gx_H} {r : (Int32 × gx_H)} (e : mM_write_194 l0 h = some r) : gv_V xs 6 155 194 [(0, gv_u l0)] [] h (.returned (some (.int r.1))) r.2 := by
  unfold mM_write_194 at e
  refine gv_rldn (pc' := 195) rfl rfl rfl ?_
  refine gv_ic (pc' := 196) (x := 0) rfl rfl rfl ?_
  obtain ⟨h1, qh1, e⟩ := gv_bind e
  refine gv_pI (pc' := 199) rfl rfl rfl qh1 rfl ?_
  refine gv_rldn (pc' := 200) rfl rfl rfl ?_
  refine gv_rldn (pc' := 201) rfl rfl rfl ?_
  obtain ⟨v2, qv2, e⟩ := gv_bind e
  refine gv_fI (pc' := 204) rfl rfl qv2 rfl ?_
  obtain ⟨h3, qh3, e⟩ := gv_bind e
  refine gv_pI (pc' := 207) rfl rfl rfl qh3 rfl ?_
  refine gv_rldn (pc' := 208) rfl rfl rfl ?_
  obtain ⟨v4, qv4, e⟩ := gv_bind e
  refine gv_fI (pc' := 211) rfl rfl qv4 rfl ?_
  by_cases c5 : v4 = 0
  · rw [if_pos c5] at e
    refine gv_ifF (pc' := 214) rfl (gv_neF c5) rfl rfl ?_
    refine gv_rldn (pc' := 215) rfl rfl rfl ?_
    obtain ⟨v6, qv6, e⟩ := gv_bind e
    refine gv_fI (pc' := 218) rfl rfl qv6 rfl ?_
    refine gv_goto (pc' := 222) rfl rfl ?_
    cases e
    exact gv_retI rfl rfl
  rw [if_neg c5] at e
  refine gv_ifT (pc' := 221) rfl (gv_neT c5) rfl ?_
  refine gv_ic (pc' := 222) (x := 0) rfl rfl rfl ?_
  cases e
  exact gv_retI rfl rfl
def mM_write_168 : Nat → Option Nat → Int32 → gx_H → Option (Int32 × gx_H)
  | 0, _, _, _ => none
  | n + 1, l0, l3, h =>
    (gv_gI h l0 7 27).bind fun v1 =>
    if l3 < v1 then (
      (gv_gR h l0 7 16).bind fun v3 =>
      (gv_gR h l0 7 28).bind fun v4 =>
      (gv_lI h v4 l3).bind fun v5 =>
      (gv_wI h v3 l3 v5).bind fun h6 =>
      mM_write_168 n l0 (l3 + 1) h6) else
    mM_write_194 l0 h
theorem mM_write_168_ok {xs : Option (List Int32)} : ∀ (n : Nat) (l0 : Option Nat) (l3 : Int32) (h : gx_H) (r : (Int32 × gx_H)), mM_write_168 n l0 l3 h = some r → gv_V xs 6 155 168 [(0, gv_u l0), (3, .int l3)] [] h (.returned (some (.int r.1))) r.2 := by
  intro n
  induction n with
  | zero => intro l0 l3 h r e; cases e
  | succ n ih =>
    intro l0 l3 h r e
    rw [mM_write_168] at e
    refine gv_ildn (pc' := 169) rfl rfl rfl ?_
    refine gv_rldn (pc' := 170) rfl rfl rfl ?_
    obtain ⟨v1, qv1, e⟩ := gv_bind e
    refine gv_fI (pc' := 173) rfl rfl qv1 rfl ?_
    by_cases c2 : l3 < v1
    · rw [if_pos c2] at e
      refine gv_cmF (pc' := 176) rfl (gv_geF2 c2) rfl rfl ?_
      refine gv_rldn (pc' := 177) rfl rfl rfl ?_
      obtain ⟨v3, qv3, e⟩ := gv_bind e
      refine gv_fR (pc' := 180) rfl rfl qv3 rfl ?_
      refine gv_ildn (pc' := 181) rfl rfl rfl ?_
      refine gv_rldn (pc' := 182) rfl rfl rfl ?_
      obtain ⟨v4, qv4, e⟩ := gv_bind e
      refine gv_fR (pc' := 185) rfl rfl qv4 rfl ?_
      refine gv_ildn (pc' := 186) rfl rfl rfl ?_
      obtain ⟨v5, qv5, e⟩ := gv_bind e
      refine gv_iald (pc' := 187) rfl qv5 rfl ?_
      obtain ⟨h6, qh6, e⟩ := gv_bind e
      refine gv_iast (pc' := 188) rfl qh6 rfl ?_
      refine gv_inc (pc' := 191) (y := 1) rfl rfl rfl rfl (gv_Cn rfl) rfl ?_
      refine gv_goto (pc' := 168) rfl rfl ?_
      exact gv_weak (ih _ _ _ _ e) (gv_S1 rfl (gv_S1 rfl gv_S0))
    rw [if_neg c2] at e
    refine gv_cmT (pc' := 194) rfl (gv_geT2 c2) rfl ?_
    exact gv_weak (mM_write_194_ok e) (gv_S1 rfl gv_S0)
def mM_write_147 (l0 : Option Nat) (h : gx_H) : Option (Int32 × gx_H) :=
  (gv_gI h l0 7 26).bind fun v1 =>
  if v1 = 0 then (
    (gv_is h l0 7).bind fun i3 =>
    (mM_handOver l0 h).bind fun h5 =>
    (gv_gI h5 l0 7 27).bind fun v6 =>
    (gv_pV h5 l0 7 15 (.int v6)).bind fun h7 =>
    mM_write_168 1000000000000000 l0 (0 : Int32) h7) else
  mM_write_194 l0 h
theorem mM_write_147_ok {xs : Option (List Int32)} {l0 : Option Nat} {h : gx_H} {r : (Int32 × gx_H)} (e : mM_write_147 l0 h = some r) : gv_V xs 6 155 147 [(0, gv_u l0)] [] h (.returned (some (.int r.1))) r.2 := by
  unfold mM_write_147 at e
  refine gv_rldn (pc' := 148) rfl rfl rfl ?_
  obtain ⟨v1, qv1, e⟩ := gv_bind e
  refine gv_fI (pc' := 151) rfl rfl qv1 rfl ?_
  by_cases c2 : v1 = 0
  · rw [if_pos c2] at e
    refine gv_ifF (pc' := 154) rfl (gv_neF c2) rfl rfl ?_
    refine gv_rldn (pc' := 155) rfl rfl rfl ?_
    obtain ⟨i3, qi3, e⟩ := gv_bind e
    obtain ⟨h5, qv4, e⟩ := gv_bind e
    refine gv_vS (jc := 169) (n := 0) (rest := []) (stk := []) (pc' := 158) rfl rfl rfl rfl rfl rfl rfl rfl rfl (gv_zR gv_z0) rfl (gv_aR gv_a0) (Nat.le_of_ble_eq_true rfl) qi3 (mM_handOver_ok qv4) rfl rfl ?_
    refine gv_rldn (pc' := 159) rfl rfl rfl ?_
    refine gv_rldn (pc' := 160) rfl rfl rfl ?_
    obtain ⟨v6, qv6, e⟩ := gv_bind e
    refine gv_fI (pc' := 163) rfl rfl qv6 rfl ?_
    obtain ⟨h7, qh7, e⟩ := gv_bind e
    refine gv_pI (pc' := 166) rfl rfl rfl qh7 rfl ?_
    refine gv_ic (pc' := 167) (x := 0) rfl rfl rfl ?_
    refine gv_istn (pc' := 168) rfl rfl (gv_Cn rfl) rfl ?_
    exact gv_weak (mM_write_168_ok 1000000000000000 _ _ _ _ e) (gv_S1 rfl (gv_S1 rfl gv_S0))
  rw [if_neg c2] at e
  refine gv_ifT (pc' := 194) rfl (gv_neT c2) rfl ?_
  exact gv_weak (mM_write_194_ok e) (gv_S1 rfl gv_S0)
def mM_write_138 (rec103 : Option Nat → Int32 → gx_H → Option (Int32 × gx_H)) (l0 : Option Nat) (l3 : Int32) (s0 : Option Nat) (s1 : Int32) (h : gx_H) : Option (Int32 × gx_H) :=
  (gv_pV h s0 7 26 (.int s1)).bind fun h1 =>
  rec103 l0 (l3 + 1) h1
theorem mM_write_138_ok {xs : Option (List Int32)} {rec103 : Option Nat → Int32 → gx_H → Option (Int32 × gx_H)} (hrec103 : ∀ (l0 : Option Nat) (l3 : Int32) (h : gx_H) (r : (Int32 × gx_H)), rec103 l0 l3 h = some r → gv_V xs 6 155 103 [(0, gv_u l0), (3, .int l3)] [] h (.returned (some (.int r.1))) r.2) {l0 : Option Nat} {l3 : Int32} {s0 : Option Nat} {s1 : Int32} {h : gx_H} {r : (Int32 × gx_H)} (e : mM_write_138 rec103 l0 l3 s0 s1 h = some r) : gv_V xs 6 155 138 [(0, gv_u l0), (3, .int l3)] [.int s1, gv_u s0] h (.returned (some (.int r.1))) r.2 := by
  unfold mM_write_138 at e
  obtain ⟨h1, qh1, e⟩ := gv_bind e
  refine gv_pI (pc' := 141) rfl rfl rfl qh1 rfl ?_
  refine gv_inc (pc' := 144) (y := 1) rfl rfl rfl rfl (gv_Cn rfl) rfl ?_
  refine gv_goto (pc' := 103) rfl rfl ?_
  exact gv_weak (hrec103 _ _ _ _ e) (gv_S1 rfl (gv_S1 rfl gv_S0))
def mM_write_103 : Nat → Option Nat → Int32 → gx_H → Option (Int32 × gx_H)
  | 0, _, _, _ => none
  | n + 1, l0, l3, h =>
    (gv_gI h l0 7 10).bind fun v1 =>
    if l3 < v1 then (
      (gv_gI h l0 7 26).bind fun v3 =>
      if v3 = 0 then (
        (gv_gR h l0 7 4).bind fun v5 =>
        (gv_gR h l0 7 11).bind fun v6 =>
        (gv_lI h v6 l3).bind fun v7 =>
        (gv_lZ h v5 v7).bind fun v8 =>
        if v8 = 0 then (
          mM_write_138 (mM_write_103 n) l0 l3 l0 (0 : Int32) h) else
        mM_write_138 (mM_write_103 n) l0 l3 l0 (1 : Int32) h) else
      mM_write_147 l0 h) else
    mM_write_147 l0 h
theorem mM_write_103_ok {xs : Option (List Int32)} : ∀ (n : Nat) (l0 : Option Nat) (l3 : Int32) (h : gx_H) (r : (Int32 × gx_H)), mM_write_103 n l0 l3 h = some r → gv_V xs 6 155 103 [(0, gv_u l0), (3, .int l3)] [] h (.returned (some (.int r.1))) r.2 := by
  intro n
  induction n with
  | zero => intro l0 l3 h r e; cases e
  | succ n ih =>
    intro l0 l3 h r e
    rw [mM_write_103] at e
    refine gv_ildn (pc' := 104) rfl rfl rfl ?_
    refine gv_rldn (pc' := 105) rfl rfl rfl ?_
    obtain ⟨v1, qv1, e⟩ := gv_bind e
    refine gv_fI (pc' := 108) rfl rfl qv1 rfl ?_
    by_cases c2 : l3 < v1
    · rw [if_pos c2] at e
      refine gv_cmF (pc' := 111) rfl (gv_geF2 c2) rfl rfl ?_
      refine gv_rldn (pc' := 112) rfl rfl rfl ?_
      obtain ⟨v3, qv3, e⟩ := gv_bind e
      refine gv_fI (pc' := 115) rfl rfl qv3 rfl ?_
      by_cases c4 : v3 = 0
      · rw [if_pos c4] at e
        refine gv_ifF (pc' := 118) rfl (gv_neF c4) rfl rfl ?_
        refine gv_rldn (pc' := 119) rfl rfl rfl ?_
        refine gv_rldn (pc' := 120) rfl rfl rfl ?_
        obtain ⟨v5, qv5, e⟩ := gv_bind e
        refine gv_fR (pc' := 123) rfl rfl qv5 rfl ?_
        refine gv_rldn (pc' := 124) rfl rfl rfl ?_
        obtain ⟨v6, qv6, e⟩ := gv_bind e
        refine gv_fR (pc' := 127) rfl rfl qv6 rfl ?_
        refine gv_ildn (pc' := 128) rfl rfl rfl ?_
        obtain ⟨v7, qv7, e⟩ := gv_bind e
        refine gv_iald (pc' := 129) rfl qv7 rfl ?_
        obtain ⟨v8, qv8, e⟩ := gv_bind e
        refine gv_bald (pc' := 130) rfl qv8 rfl ?_
        by_cases c9 : v8 = 0
        · rw [if_pos c9] at e
          refine gv_ifT (pc' := 137) rfl (gv_eqT c9) rfl ?_
          refine gv_ic (pc' := 138) (x := 0) rfl rfl rfl ?_
          exact gv_weak (mM_write_138_ok ih e) (gv_S1 rfl (gv_S1 rfl gv_S0))
        rw [if_neg c9] at e
        refine gv_ifF (pc' := 133) rfl (gv_eqF c9) rfl rfl ?_
        refine gv_ic (pc' := 134) (x := 1) rfl rfl rfl ?_
        refine gv_goto (pc' := 138) rfl rfl ?_
        exact gv_weak (mM_write_138_ok ih e) (gv_S1 rfl (gv_S1 rfl gv_S0))
      rw [if_neg c4] at e
      refine gv_ifT (pc' := 147) rfl (gv_neT c4) rfl ?_
      exact gv_weak (mM_write_147_ok e) (gv_S1 rfl gv_S0)
    rw [if_neg c2] at e
    refine gv_cmT (pc' := 147) rfl (gv_geT2 c2) rfl ?_
    exact gv_weak (mM_write_147_ok e) (gv_S1 rfl gv_S0)
def mM_write_101 (l0 : Option Nat) (h : gx_H) : Option (Int32 × gx_H) :=
  mM_write_103 1000000000000000 l0 (0 : Int32) h
theorem mM_write_101_ok {xs : Option (List Int32)} {l0 : Option Nat} {h : gx_H} {r : (Int32 × gx_H)} (e : mM_write_101 l0 h = some r) : gv_V xs 6 155 101 [(0, gv_u l0)] [] h (.returned (some (.int r.1))) r.2 := by
  unfold mM_write_101 at e
  refine gv_ic (pc' := 102) (x := 0) rfl rfl rfl ?_
  refine gv_istn (pc' := 103) rfl rfl (gv_Cn rfl) rfl ?_
  exact gv_weak (mM_write_103_ok 1000000000000000 _ _ _ _ e) (gv_S1 rfl (gv_S1 rfl gv_S0))
def mM_write_80 : Nat → Option Nat → gx_H → Option (Int32 × gx_H)
  | 0, _, _ => none
  | n + 1, l0, h =>
    (gv_gI h l0 7 26).bind fun v1 =>
    if v1 = 0 then (
      (gv_gI h l0 7 18).bind fun v3 =>
      if 0 < v3 then (
        (gv_is h l0 7).bind fun i5 =>
        (mM_sayNext l0 h).bind fun h7 =>
        mM_write_80 n l0 h7) else
      mM_write_101 l0 h) else
    mM_write_101 l0 h
theorem mM_write_80_ok {xs : Option (List Int32)} : ∀ (n : Nat) (l0 : Option Nat) (h : gx_H) (r : (Int32 × gx_H)), mM_write_80 n l0 h = some r → gv_V xs 6 155 80 [(0, gv_u l0)] [] h (.returned (some (.int r.1))) r.2 := by
  intro n
  induction n with
  | zero => intro l0 h r e; cases e
  | succ n ih =>
    intro l0 h r e
    rw [mM_write_80] at e
    refine gv_rldn (pc' := 81) rfl rfl rfl ?_
    obtain ⟨v1, qv1, e⟩ := gv_bind e
    refine gv_fI (pc' := 84) rfl rfl qv1 rfl ?_
    by_cases c2 : v1 = 0
    · rw [if_pos c2] at e
      refine gv_ifF (pc' := 87) rfl (gv_neF c2) rfl rfl ?_
      refine gv_rldn (pc' := 88) rfl rfl rfl ?_
      obtain ⟨v3, qv3, e⟩ := gv_bind e
      refine gv_fI (pc' := 91) rfl rfl qv3 rfl ?_
      by_cases c4 : 0 < v3
      · rw [if_pos c4] at e
        refine gv_ifF (pc' := 94) rfl (gv_leF c4) rfl rfl ?_
        refine gv_rldn (pc' := 95) rfl rfl rfl ?_
        obtain ⟨i5, qi5, e⟩ := gv_bind e
        obtain ⟨h7, qv6, e⟩ := gv_bind e
        refine gv_vS (jc := 166) (n := 0) (rest := []) (stk := []) (pc' := 98) rfl rfl rfl rfl rfl rfl rfl rfl rfl (gv_zR gv_z0) rfl (gv_aR gv_a0) (Nat.le_of_ble_eq_true rfl) qi5 (mM_sayNext_ok qv6) rfl rfl ?_
        refine gv_goto (pc' := 80) rfl rfl ?_
        exact gv_weak (ih _ _ _ e) (gv_S1 rfl gv_S0)
      rw [if_neg c4] at e
      refine gv_ifT (pc' := 101) rfl (gv_leT c4) rfl ?_
      exact gv_weak (mM_write_101_ok e) (gv_S1 rfl gv_S0)
    rw [if_neg c2] at e
    refine gv_ifT (pc' := 101) rfl (gv_neT c2) rfl ?_
    exact gv_weak (mM_write_101_ok e) (gv_S1 rfl gv_S0)
def mM_write_42 : Nat → Option Nat → Int32 → Int32 → Int32 → gx_H → Option (Int32 × gx_H)
  | 0, _, _, _, _, _ => none
  | n + 1, l0, l1, l2, l3, h =>
    if l3 < (32 : Int32) then (
      (gv_gR h l0 7 30).bind fun v2 =>
      (gv_wI h v2 l3 (-1 : Int32)).bind fun h3 =>
      mM_write_42 n l0 l1 l2 (l3 + 1) h3) else
    (gv_gI h l0 7 26).bind fun v4 =>
    if v4 = 0 then (
      (gv_is h l0 7).bind fun i6 =>
      (mM_say l0 (15 : Int32) h).bind fun h8 =>
      (gv_is h8 l0 7).bind fun i9 =>
      (mM_sayValue l0 l1 l2 h8).bind fun h11 =>
      mM_write_80 1000000000000000 l0 h11) else
    mM_write_80 1000000000000000 l0 h
theorem mM_write_42_ok {xs : Option (List Int32)} : ∀ (n : Nat) (l0 : Option Nat) (l1 : Int32) (l2 : Int32) (l3 : Int32) (h : gx_H) (r : (Int32 × gx_H)), mM_write_42 n l0 l1 l2 l3 h = some r → gv_V xs 6 155 42 [(0, gv_u l0), (1, .int l1), (2, .int l2), (3, .int l3)] [] h (.returned (some (.int r.1))) r.2 := by
  intro n
  induction n with
  | zero => intro l0 l1 l2 l3 h r e; cases e
  | succ n ih =>
    intro l0 l1 l2 l3 h r e
    rw [mM_write_42] at e
    refine gv_ildn (pc' := 43) rfl rfl rfl ?_
    refine gv_bp (pc' := 45) (x := 32) rfl rfl rfl ?_
    by_cases c1 : l3 < (32 : Int32)
    · rw [if_pos c1] at e
      refine gv_cmF (pc' := 48) rfl (gv_geF2 c1) rfl rfl ?_
      refine gv_rldn (pc' := 49) rfl rfl rfl ?_
      obtain ⟨v2, qv2, e⟩ := gv_bind e
      refine gv_fR (pc' := 52) rfl rfl qv2 rfl ?_
      refine gv_ildn (pc' := 53) rfl rfl rfl ?_
      refine gv_ic (pc' := 54) (x := -1) rfl rfl rfl ?_
      obtain ⟨h3, qh3, e⟩ := gv_bind e
      refine gv_iast (pc' := 55) rfl qh3 rfl ?_
      refine gv_inc (pc' := 58) (y := 1) rfl rfl rfl rfl (gv_Ci rfl) rfl ?_
      refine gv_goto (pc' := 42) rfl rfl ?_
      exact gv_weak (ih _ _ _ _ _ _ e) (gv_S1 rfl (gv_S1 rfl (gv_S1 rfl (gv_S1 rfl gv_S0))))
    rw [if_neg c1] at e
    refine gv_cmT (pc' := 61) rfl (gv_geT2 c1) rfl ?_
    refine gv_rldn (pc' := 62) rfl rfl rfl ?_
    obtain ⟨v4, qv4, e⟩ := gv_bind e
    refine gv_fI (pc' := 65) rfl rfl qv4 rfl ?_
    by_cases c5 : v4 = 0
    · rw [if_pos c5] at e
      refine gv_ifF (pc' := 68) rfl (gv_neF c5) rfl rfl ?_
      refine gv_rldn (pc' := 69) rfl rfl rfl ?_
      refine gv_bp (pc' := 71) (x := 15) rfl rfl rfl ?_
      obtain ⟨i6, qi6, e⟩ := gv_bind e
      obtain ⟨h8, qv7, e⟩ := gv_bind e
      refine gv_vS (jc := 158) (n := 1) (rest := []) (stk := []) (pc' := 74) rfl rfl rfl rfl rfl rfl rfl rfl rfl (gv_zR (gv_zI gv_z0)) rfl (gv_aR (gv_aI gv_a0)) (Nat.le_of_ble_eq_true rfl) qi6 (mM_say_ok qv7) rfl rfl ?_
      refine gv_rldn (pc' := 75) rfl rfl rfl ?_
      refine gv_ildn (pc' := 76) rfl rfl rfl ?_
      refine gv_ildn (pc' := 77) rfl rfl rfl ?_
      obtain ⟨i9, qi9, e⟩ := gv_bind e
      obtain ⟨h11, qv10, e⟩ := gv_bind e
      refine gv_vS (jc := 159) (n := 2) (rest := []) (stk := []) (pc' := 80) rfl rfl rfl rfl rfl rfl rfl rfl rfl (gv_zR (gv_zI (gv_zI gv_z0))) rfl (gv_aR (gv_aI (gv_aI gv_a0))) (Nat.le_of_ble_eq_true rfl) qi9 (mM_sayValue_ok qv10) rfl rfl ?_
      exact gv_weak (mM_write_80_ok 1000000000000000 _ _ _ e) (gv_S1 rfl gv_S0)
    rw [if_neg c5] at e
    refine gv_ifT (pc' := 80) rfl (gv_neT c5) rfl ?_
    exact gv_weak (mM_write_80_ok 1000000000000000 _ _ _ e) (gv_S1 rfl gv_S0)
def mM_write_22 (l0 : Option Nat) (l1 : Int32) (l2 : Int32) (s0 : Option Nat) (s1 : Int32) (h : gx_H) : Option (Int32 × gx_H) :=
  (gv_pV h s0 7 26 (.int s1)).bind fun h1 =>
  (gv_pV h1 l0 7 27 (.int (0 : Int32))).bind fun h2 =>
  (gv_pV h2 l0 7 29 (.int (0 : Int32))).bind fun h3 =>
  (gv_pV h3 l0 7 18 (.int (0 : Int32))).bind fun h4 =>
  mM_write_42 1000000000000000 l0 l1 l2 (0 : Int32) h4
theorem mM_write_22_ok {xs : Option (List Int32)} {l0 : Option Nat} {l1 : Int32} {l2 : Int32} {s0 : Option Nat} {s1 : Int32} {h : gx_H} {r : (Int32 × gx_H)} (e : mM_write_22 l0 l1 l2 s0 s1 h = some r) : gv_V xs 6 155 22 [(0, gv_u l0), (1, .int l1), (2, .int l2)] [.int s1, gv_u s0] h (.returned (some (.int r.1))) r.2 := by
  unfold mM_write_22 at e
  obtain ⟨h1, qh1, e⟩ := gv_bind e
  refine gv_pI (pc' := 25) rfl rfl rfl qh1 rfl ?_
  refine gv_rldn (pc' := 26) rfl rfl rfl ?_
  refine gv_ic (pc' := 27) (x := 0) rfl rfl rfl ?_
  obtain ⟨h2, qh2, e⟩ := gv_bind e
  refine gv_pI (pc' := 30) rfl rfl rfl qh2 rfl ?_
  refine gv_rldn (pc' := 31) rfl rfl rfl ?_
  refine gv_ic (pc' := 32) (x := 0) rfl rfl rfl ?_
  obtain ⟨h3, qh3, e⟩ := gv_bind e
  refine gv_pI (pc' := 35) rfl rfl rfl qh3 rfl ?_
  refine gv_rldn (pc' := 36) rfl rfl rfl ?_
  refine gv_ic (pc' := 37) (x := 0) rfl rfl rfl ?_
  obtain ⟨h4, qh4, e⟩ := gv_bind e
  refine gv_pI (pc' := 40) rfl rfl rfl qh4 rfl ?_
  refine gv_ic (pc' := 41) (x := 0) rfl rfl rfl ?_
  refine gv_istn (pc' := 42) rfl rfl (gv_Ci rfl) rfl ?_
  exact gv_weak (mM_write_42_ok 1000000000000000 _ _ _ _ _ _ e) (gv_S1 rfl (gv_S1 rfl (gv_S1 rfl (gv_S1 rfl gv_S0))))
def mM_write_21 (l0 : Option Nat) (l1 : Int32) (l2 : Int32) (s0 : Option Nat) (h : gx_H) : Option (Int32 × gx_H) :=
  mM_write_22 l0 l1 l2 s0 (1 : Int32) h
theorem mM_write_21_ok {xs : Option (List Int32)} {l0 : Option Nat} {l1 : Int32} {l2 : Int32} {s0 : Option Nat} {h : gx_H} {r : (Int32 × gx_H)} (e : mM_write_21 l0 l1 l2 s0 h = some r) : gv_V xs 6 155 21 [(0, gv_u l0), (1, .int l1), (2, .int l2)] [gv_u s0] h (.returned (some (.int r.1))) r.2 := by
  unfold mM_write_21 at e
  refine gv_ic (pc' := 22) (x := 1) rfl rfl rfl ?_
  exact gv_weak (mM_write_22_ok e) (gv_S1 rfl (gv_S1 rfl (gv_S1 rfl gv_S0)))
def mM_write (l0 : Option Nat) (l1 : Int32) (l2 : Int32) (h : gx_H) : Option (Int32 × gx_H) :=
  (gv_is h l0 7).bind fun i1 =>
  (mM_isValue l0 l1 l2 h).bind fun v2 =>
  if v2 = 0 then (
    mM_write_21 l0 l1 l2 l0 h) else
  (gv_is h l0 7).bind fun i4 =>
  (mM_canPass l0 h).bind fun v5 =>
  if v5 = 0 then (
    mM_write_21 l0 l1 l2 l0 h) else
  mM_write_22 l0 l1 l2 l0 (0 : Int32) h
theorem mM_write_ok {xs : Option (List Int32)} {l0 : Option Nat} {l1 : Int32} {l2 : Int32} {h : gx_H} {r : (Int32 × gx_H)} (e : mM_write l0 l1 l2 h = some r) : gv_V xs 6 155 0 [(0, gv_u l0), (1, .int l1), (2, .int l2)] [] h (.returned (some (.int r.1))) r.2 := by
  unfold mM_write at e
  refine gv_rldn (pc' := 1) rfl rfl rfl ?_
  refine gv_rldn (pc' := 2) rfl rfl rfl ?_
  refine gv_ildn (pc' := 3) rfl rfl rfl ?_
  refine gv_ildn (pc' := 4) rfl rfl rfl ?_
  obtain ⟨i1, qi1, e⟩ := gv_bind e
  obtain ⟨v2, qv2, e⟩ := gv_bind e
  refine gv_vS (jc := 133) (n := 2) (rest := [gv_u l0]) (stk := [.int v2, gv_u l0]) (pc' := 7) rfl rfl rfl rfl rfl rfl rfl rfl rfl (gv_zR (gv_zI (gv_zI gv_z0))) rfl (gv_aR (gv_aI (gv_aI gv_a0))) (Nat.le_of_ble_eq_true rfl) qi1 (mM_isValue_ok qv2) rfl rfl ?_
  by_cases c3 : v2 = 0
  · rw [if_pos c3] at e
    refine gv_ifT (pc' := 21) rfl (gv_eqT c3) rfl ?_
    exact gv_weak (mM_write_21_ok e) (gv_S1 rfl (gv_S1 rfl (gv_S1 rfl gv_S0)))
  rw [if_neg c3] at e
  refine gv_ifF (pc' := 10) rfl (gv_eqF c3) rfl rfl ?_
  refine gv_rldn (pc' := 11) rfl rfl rfl ?_
  obtain ⟨i4, qi4, e⟩ := gv_bind e
  obtain ⟨v5, qv5, e⟩ := gv_bind e
  refine gv_vS (jc := 156) (n := 0) (rest := [gv_u l0]) (stk := [.int v5, gv_u l0]) (pc' := 14) rfl rfl rfl rfl rfl rfl rfl rfl rfl (gv_zR gv_z0) rfl (gv_aR gv_a0) (Nat.le_of_ble_eq_true rfl) qi4 (mM_canPass_ok qv5) rfl rfl ?_
  by_cases c6 : v5 = 0
  · rw [if_pos c6] at e
    refine gv_ifT (pc' := 21) rfl (gv_eqT c6) rfl ?_
    exact gv_weak (mM_write_21_ok e) (gv_S1 rfl (gv_S1 rfl (gv_S1 rfl gv_S0)))
  rw [if_neg c6] at e
  refine gv_ifF (pc' := 17) rfl (gv_eqF c6) rfl rfl ?_
  refine gv_ic (pc' := 18) (x := 0) rfl rfl rfl ?_
  refine gv_goto (pc' := 22) rfl rfl ?_
  exact gv_weak (mM_write_22_ok e) (gv_S1 rfl (gv_S1 rfl (gv_S1 rfl gv_S0)))
def mM_nextObject_41 (l0 : Option Nat) (l1 : Int32) (s0 : Int32) (h : gx_H) : Option (Int32 × gx_H) :=
  (gv_gI h l0 7 31).bind fun v1 =>
  if v1 = 0 then (
    some (s0, h)) else
  (gv_is h l0 7).bind fun i3 =>
  (mM_begin l0 s0 l1 h).bind fun h5 =>
  (gv_gI h5 l0 7 33).bind fun v6 =>
  (gv_pV h5 l0 7 33 (.int (v6 + (1 : Int32)))).bind fun h7 =>
  some (s0, h7)
theorem mM_nextObject_41_ok {xs : Option (List Int32)} {l0 : Option Nat} {l1 : Int32} {s0 : Int32} {h : gx_H} {r : (Int32 × gx_H)} (e : mM_nextObject_41 l0 l1 s0 h = some r) : gv_V xs 1 173 41 [(0, gv_u l0), (1, .int l1)] [.int s0] h (.returned (some (.int r.1))) r.2 := by
  unfold mM_nextObject_41 at e
  refine gv_istn (pc' := 42) rfl rfl (gv_Ci rfl) rfl ?_
  refine gv_rldn (pc' := 43) rfl rfl rfl ?_
  obtain ⟨v1, qv1, e⟩ := gv_bind e
  refine gv_fI (pc' := 46) rfl rfl qv1 rfl ?_
  by_cases c2 : v1 = 0
  · rw [if_pos c2] at e
    refine gv_ifT (pc' := 65) rfl (gv_eqT c2) rfl ?_
    refine gv_ildn (pc' := 66) rfl rfl rfl ?_
    cases e
    exact gv_retI rfl rfl
  rw [if_neg c2] at e
  refine gv_ifF (pc' := 49) rfl (gv_eqF c2) rfl rfl ?_
  refine gv_rldn (pc' := 50) rfl rfl rfl ?_
  refine gv_ildn (pc' := 51) rfl rfl rfl ?_
  refine gv_ildn (pc' := 52) rfl rfl rfl ?_
  obtain ⟨i3, qi3, e⟩ := gv_bind e
  obtain ⟨h5, qv4, e⟩ := gv_bind e
  refine gv_vS (jc := 123) (n := 2) (rest := []) (stk := []) (pc' := 55) rfl rfl rfl rfl rfl rfl rfl rfl rfl (gv_zR (gv_zI (gv_zI gv_z0))) rfl (gv_aR (gv_aI (gv_aI gv_a0))) (Nat.le_of_ble_eq_true rfl) qi3 (mM_begin_ok qv4) rfl rfl ?_
  refine gv_rldn (pc' := 56) rfl rfl rfl ?_
  refine gv_dup (pc' := 57) rfl (gv_u_cat _) rfl ?_
  obtain ⟨v6, qv6, e⟩ := gv_bind e
  refine gv_fI (pc' := 60) rfl rfl qv6 rfl ?_
  refine gv_ic (pc' := 61) (x := 1) rfl rfl rfl ?_
  refine gv_iadd (pc' := 62) rfl rfl ?_
  obtain ⟨h7, qh7, e⟩ := gv_bind e
  refine gv_pI (pc' := 65) rfl rfl rfl qh7 rfl ?_
  refine gv_ildn (pc' := 66) rfl rfl rfl ?_
  cases e
  exact gv_retI rfl rfl
def mM_nextObject_22 (l0 : Option Nat) (l1 : Int32) (s0 : Option Nat) (s1 : Int32) (h : gx_H) : Option (Int32 × gx_H) :=
  if ¬ (s1 = 0 ∨ s1 = 1) then none else
  (gv_pV h s0 7 31 (.int s1)).bind fun h1 =>
  (gv_gI h1 l0 7 31).bind fun v3 =>
  if v3 = 0 then (
    mM_nextObject_41 l0 l1 (31 : Int32) h1) else
  (gv_gI h1 l0 7 33).bind fun v5 =>
  mM_nextObject_41 l0 l1 v5 h1
theorem mM_nextObject_22_ok {xs : Option (List Int32)} {l0 : Option Nat} {l1 : Int32} {s0 : Option Nat} {s1 : Int32} {h : gx_H} {r : (Int32 × gx_H)} (e : mM_nextObject_22 l0 l1 s0 s1 h = some r) : gv_V xs 1 173 22 [(0, gv_u l0), (1, .int l1)] [.int s1, gv_u s0] h (.returned (some (.int r.1))) r.2 := by
  unfold mM_nextObject_22 at e
  by_cases c2 : ¬ (s1 = 0 ∨ s1 = 1)
  · rw [if_pos c2] at e; cases e
  rw [if_neg c2] at e
  obtain ⟨h1, qh1, e⟩ := gv_bind e
  refine gv_pZ (pc' := 25) rfl rfl rfl (Decidable.of_not_not c2) qh1 rfl ?_
  refine gv_rldn (pc' := 26) rfl rfl rfl ?_
  obtain ⟨v3, qv3, e⟩ := gv_bind e
  refine gv_fI (pc' := 29) rfl rfl qv3 rfl ?_
  by_cases c4 : v3 = 0
  · rw [if_pos c4] at e
    refine gv_ifT (pc' := 39) rfl (gv_eqT c4) rfl ?_
    refine gv_bp (pc' := 41) (x := 31) rfl rfl rfl ?_
    exact gv_weak (mM_nextObject_41_ok e) (gv_S1 rfl (gv_S1 rfl gv_S0))
  rw [if_neg c4] at e
  refine gv_ifF (pc' := 32) rfl (gv_eqF c4) rfl rfl ?_
  refine gv_rldn (pc' := 33) rfl rfl rfl ?_
  obtain ⟨v5, qv5, e⟩ := gv_bind e
  refine gv_fI (pc' := 36) rfl rfl qv5 rfl ?_
  refine gv_goto (pc' := 41) rfl rfl ?_
  exact gv_weak (mM_nextObject_41_ok e) (gv_S1 rfl (gv_S1 rfl gv_S0))
def mM_nextObject_21 (l0 : Option Nat) (l1 : Int32) (s0 : Option Nat) (h : gx_H) : Option (Int32 × gx_H) :=
  mM_nextObject_22 l0 l1 s0 (0 : Int32) h
theorem mM_nextObject_21_ok {xs : Option (List Int32)} {l0 : Option Nat} {l1 : Int32} {s0 : Option Nat} {h : gx_H} {r : (Int32 × gx_H)} (e : mM_nextObject_21 l0 l1 s0 h = some r) : gv_V xs 1 173 21 [(0, gv_u l0), (1, .int l1)] [gv_u s0] h (.returned (some (.int r.1))) r.2 := by
  unfold mM_nextObject_21 at e
  refine gv_ic (pc' := 22) (x := 0) rfl rfl rfl ?_
  exact gv_weak (mM_nextObject_22_ok e) (gv_S1 rfl (gv_S1 rfl gv_S0))
def mM_nextObject (l0 : Option Nat) (l1 : Int32) (h : gx_H) : Option (Int32 × gx_H) :=
  (gv_gI h l0 7 31).bind fun v1 =>
  if v1 = 0 then (
    mM_nextObject_21 l0 l1 l0 h) else
  (gv_gI h l0 7 33).bind fun v3 =>
  if v3 < (32 : Int32) then (
    mM_nextObject_22 l0 l1 l0 (1 : Int32) h) else
  mM_nextObject_21 l0 l1 l0 h
theorem mM_nextObject_ok {xs : Option (List Int32)} {l0 : Option Nat} {l1 : Int32} {h : gx_H} {r : (Int32 × gx_H)} (e : mM_nextObject l0 l1 h = some r) : gv_V xs 1 173 0 [(0, gv_u l0), (1, .int l1)] [] h (.returned (some (.int r.1))) r.2 := by
  unfold mM_nextObject at e
  refine gv_rldn (pc' := 1) rfl rfl rfl ?_
  refine gv_rldn (pc' := 2) rfl rfl rfl ?_
  obtain ⟨v1, qv1, e⟩ := gv_bind e
  refine gv_fI (pc' := 5) rfl rfl qv1 rfl ?_
  by_cases c2 : v1 = 0
  · rw [if_pos c2] at e
    refine gv_ifT (pc' := 21) rfl (gv_eqT c2) rfl ?_
    exact gv_weak (mM_nextObject_21_ok e) (gv_S1 rfl (gv_S1 rfl gv_S0))
  rw [if_neg c2] at e
  refine gv_ifF (pc' := 8) rfl (gv_eqF c2) rfl rfl ?_
  refine gv_rldn (pc' := 9) rfl rfl rfl ?_
  obtain ⟨v3, qv3, e⟩ := gv_bind e
  refine gv_fI (pc' := 12) rfl rfl qv3 rfl ?_
  refine gv_bp (pc' := 14) (x := 32) rfl rfl rfl ?_
  by_cases c4 : v3 < (32 : Int32)
  · rw [if_pos c4] at e
    refine gv_cmF (pc' := 17) rfl (gv_geF2 c4) rfl rfl ?_
    refine gv_ic (pc' := 18) (x := 1) rfl rfl rfl ?_
    refine gv_goto (pc' := 22) rfl rfl ?_
    exact gv_weak (mM_nextObject_22_ok e) (gv_S1 rfl (gv_S1 rfl gv_S0))
  rw [if_neg c4] at e
  refine gv_cmT (pc' := 21) rfl (gv_geT2 c4) rfl ?_
  exact gv_weak (mM_nextObject_21_ok e) (gv_S1 rfl (gv_S1 rfl gv_S0))
def mM_takeHolders_68 (rec33 : Option Nat → Int32 → gx_H → Option gx_H) : Nat → Option Nat → Int32 → Int32 → Int32 → gx_H → Option gx_H
  | 0, _, _, _, _, _ => none
  | n + 1, l0, l1, l2, l3, h =>
    if l3 < (8 : Int32) then (
      (gv_gR h l0 7 9).bind fun v2 =>
      (gv_gR h l0 7 14).bind fun v3 =>
      (gv_lI h v3 (((8 : Int32) * l1) + l3)).bind fun v4 =>
      (gv_wI h v2 (((8 : Int32) * l2) + l3) v4).bind fun h5 =>
      mM_takeHolders_68 rec33 n l0 l1 l2 (l3 + 1) h5) else
    rec33 l0 (l1 + 1) h
theorem mM_takeHolders_68_ok {xs : Option (List Int32)} {rec33 : Option Nat → Int32 → gx_H → Option gx_H} (hrec33 : ∀ (l0 : Option Nat) (l1 : Int32) (h : gx_H) (r : gx_H), rec33 l0 l1 h = some r → gv_V xs 2 172 33 [(0, gv_u l0), (1, .int l1)] [] h (.returned none) r) : ∀ (n : Nat) (l0 : Option Nat) (l1 : Int32) (l2 : Int32) (l3 : Int32) (h : gx_H) (r : gx_H), mM_takeHolders_68 rec33 n l0 l1 l2 l3 h = some r → gv_V xs 2 172 68 [(0, gv_u l0), (1, .int l1), (2, .int l2), (3, .int l3)] [] h (.returned none) r := by
  intro n
  induction n with
  | zero => intro l0 l1 l2 l3 h r e; cases e
  | succ n ih =>
    intro l0 l1 l2 l3 h r e
    rw [mM_takeHolders_68] at e
    refine gv_ildn (pc' := 69) rfl rfl rfl ?_
    refine gv_bp (pc' := 71) (x := 8) rfl rfl rfl ?_
    by_cases c1 : l3 < (8 : Int32)
    · rw [if_pos c1] at e
      refine gv_cmF (pc' := 74) rfl (gv_geF2 c1) rfl rfl ?_
      refine gv_rldn (pc' := 75) rfl rfl rfl ?_
      obtain ⟨v2, qv2, e⟩ := gv_bind e
      refine gv_fR (pc' := 78) rfl rfl qv2 rfl ?_
      refine gv_bp (pc' := 80) (x := 8) rfl rfl rfl ?_
      refine gv_ildn (pc' := 81) rfl rfl rfl ?_
      refine gv_imul (pc' := 82) rfl rfl ?_
      refine gv_ildn (pc' := 83) rfl rfl rfl ?_
      refine gv_iadd (pc' := 84) rfl rfl ?_
      refine gv_rldn (pc' := 85) rfl rfl rfl ?_
      obtain ⟨v3, qv3, e⟩ := gv_bind e
      refine gv_fR (pc' := 88) rfl rfl qv3 rfl ?_
      refine gv_bp (pc' := 90) (x := 8) rfl rfl rfl ?_
      refine gv_ildn (pc' := 91) rfl rfl rfl ?_
      refine gv_imul (pc' := 92) rfl rfl ?_
      refine gv_ildn (pc' := 93) rfl rfl rfl ?_
      refine gv_iadd (pc' := 94) rfl rfl ?_
      obtain ⟨v4, qv4, e⟩ := gv_bind e
      refine gv_iald (pc' := 95) rfl qv4 rfl ?_
      obtain ⟨h5, qh5, e⟩ := gv_bind e
      refine gv_iast (pc' := 96) rfl qh5 rfl ?_
      refine gv_inc (pc' := 99) (y := 1) rfl rfl rfl rfl (gv_Ci rfl) rfl ?_
      refine gv_goto (pc' := 68) rfl rfl ?_
      exact gv_weak (ih _ _ _ _ _ _ e) (gv_S1 rfl (gv_S1 rfl (gv_S1 rfl (gv_S1 rfl gv_S0))))
    rw [if_neg c1] at e
    refine gv_cmT (pc' := 102) rfl (gv_geT2 c1) rfl ?_
    refine gv_inc (pc' := 105) (y := 1) rfl rfl rfl rfl (gv_Cr rfl) rfl ?_
    refine gv_goto (pc' := 33) rfl rfl ?_
    exact gv_weak (hrec33 _ _ _ _ e) (gv_S1 rfl (gv_S1 rfl gv_S0))
def mM_takeHolders_33 : Nat → Option Nat → Int32 → gx_H → Option gx_H
  | 0, _, _, _ => none
  | n + 1, l0, l1, h =>
    (gv_gI h l0 7 12).bind fun v1 =>
    if l1 < v1 then (
      (gv_gI h l0 7 31).bind fun v3 =>
      if v3 = 0 then (
        some h) else
      (gv_is h l0 7).bind fun i5 =>
      (mM_nextObject l0 (4 : Int32) h).bind fun r8 =>
      (gv_gR r8.2 l0 7 3).bind fun v9 =>
      (gv_gR r8.2 l0 7 13).bind fun v10 =>
      (gv_lI r8.2 v10 l1).bind fun v11 =>
      (gv_wI r8.2 v9 r8.1 v11).bind fun h12 =>
      mM_takeHolders_68 (mM_takeHolders_33 n) 1000000000000000 l0 l1 r8.1 (0 : Int32) h12) else
    some h
theorem mM_takeHolders_33_ok {xs : Option (List Int32)} : ∀ (n : Nat) (l0 : Option Nat) (l1 : Int32) (h : gx_H) (r : gx_H), mM_takeHolders_33 n l0 l1 h = some r → gv_V xs 2 172 33 [(0, gv_u l0), (1, .int l1)] [] h (.returned none) r := by
  intro n
  induction n with
  | zero => intro l0 l1 h r e; cases e
  | succ n ih =>
    intro l0 l1 h r e
    rw [mM_takeHolders_33] at e
    refine gv_ildn (pc' := 34) rfl rfl rfl ?_
    refine gv_rldn (pc' := 35) rfl rfl rfl ?_
    obtain ⟨v1, qv1, e⟩ := gv_bind e
    refine gv_fI (pc' := 38) rfl rfl qv1 rfl ?_
    by_cases c2 : l1 < v1
    · rw [if_pos c2] at e
      refine gv_cmF (pc' := 41) rfl (gv_geF2 c2) rfl rfl ?_
      refine gv_rldn (pc' := 42) rfl rfl rfl ?_
      obtain ⟨v3, qv3, e⟩ := gv_bind e
      refine gv_fI (pc' := 45) rfl rfl qv3 rfl ?_
      by_cases c4 : v3 = 0
      · rw [if_pos c4] at e
        refine gv_ifT (pc' := 108) rfl (gv_eqT c4) rfl ?_
        cases e
        exact gv_retV rfl rfl
      rw [if_neg c4] at e
      refine gv_ifF (pc' := 48) rfl (gv_eqF c4) rfl rfl ?_
      refine gv_rldn (pc' := 49) rfl rfl rfl ?_
      refine gv_ic (pc' := 50) (x := 4) rfl rfl rfl ?_
      obtain ⟨i5, qi5, e⟩ := gv_bind e
      obtain ⟨⟨v6, h7⟩, qv6, e⟩ := gv_bind e
      refine gv_vS (jc := 173) (n := 1) (rest := []) (stk := [.int v6]) (pc' := 53) rfl rfl rfl rfl rfl rfl rfl rfl rfl (gv_zR (gv_zI gv_z0)) rfl (gv_aR (gv_aI gv_a0)) (Nat.le_of_ble_eq_true rfl) qi5 (mM_nextObject_ok qv6) rfl rfl ?_
      refine gv_istn (pc' := 54) rfl rfl (gv_Ci rfl) rfl ?_
      refine gv_rldn (pc' := 55) rfl rfl rfl ?_
      obtain ⟨v9, qv9, e⟩ := gv_bind e
      refine gv_fR (pc' := 58) rfl rfl qv9 rfl ?_
      refine gv_ildn (pc' := 59) rfl rfl rfl ?_
      refine gv_rldn (pc' := 60) rfl rfl rfl ?_
      obtain ⟨v10, qv10, e⟩ := gv_bind e
      refine gv_fR (pc' := 63) rfl rfl qv10 rfl ?_
      refine gv_ildn (pc' := 64) rfl rfl rfl ?_
      obtain ⟨v11, qv11, e⟩ := gv_bind e
      refine gv_iald (pc' := 65) rfl qv11 rfl ?_
      obtain ⟨h12, qh12, e⟩ := gv_bind e
      refine gv_iast (pc' := 66) rfl qh12 rfl ?_
      refine gv_ic (pc' := 67) (x := 0) rfl rfl rfl ?_
      refine gv_istn (pc' := 68) rfl rfl (gv_Ci rfl) rfl ?_
      exact gv_weak (mM_takeHolders_68_ok ih 1000000000000000 _ _ _ _ _ _ e) (gv_S1 rfl (gv_S1 rfl (gv_S1 rfl (gv_S1 rfl gv_S0))))
    rw [if_neg c2] at e
    refine gv_cmT (pc' := 108) rfl (gv_geT2 c2) rfl ?_
    cases e
    exact gv_retV rfl rfl
def mM_takeHolders_28 (l0 : Option Nat) (s0 : Option Nat) (s1 : Int32) (h : gx_H) : Option gx_H :=
  if ¬ (s1 = 0 ∨ s1 = 1) then none else
  (gv_pV h s0 7 31 (.int s1)).bind fun h1 =>
  mM_takeHolders_33 1000000000000000 l0 (0 : Int32) h1
theorem mM_takeHolders_28_ok {xs : Option (List Int32)} {l0 : Option Nat} {s0 : Option Nat} {s1 : Int32} {h : gx_H} {r : gx_H} (e : mM_takeHolders_28 l0 s0 s1 h = some r) : gv_V xs 2 172 28 [(0, gv_u l0)] [.int s1, gv_u s0] h (.returned none) r := by
  unfold mM_takeHolders_28 at e
  by_cases c2 : ¬ (s1 = 0 ∨ s1 = 1)
  · rw [if_pos c2] at e; cases e
  rw [if_neg c2] at e
  obtain ⟨h1, qh1, e⟩ := gv_bind e
  refine gv_pZ (pc' := 31) rfl rfl rfl (Decidable.of_not_not c2) qh1 rfl ?_
  refine gv_ic (pc' := 32) (x := 0) rfl rfl rfl ?_
  refine gv_istn (pc' := 33) rfl rfl (gv_Cr rfl) rfl ?_
  exact gv_weak (mM_takeHolders_33_ok 1000000000000000 _ _ _ _ e) (gv_S1 rfl (gv_S1 rfl gv_S0))
def mM_takeHolders (l0 : Option Nat) (h : gx_H) : Option gx_H :=
  (gv_gI h l0 7 1).bind fun v1 =>
  (gv_pV h l0 7 33 (.int v1)).bind fun h2 =>
  (gv_gI h2 l0 7 1).bind fun v3 =>
  (gv_gI h2 l0 7 12).bind fun v4 =>
  if (32 : Int32) < (v3 + v4) then (
    mM_takeHolders_28 l0 l0 (0 : Int32) h2) else
  mM_takeHolders_28 l0 l0 (1 : Int32) h2
theorem mM_takeHolders_ok {xs : Option (List Int32)} {l0 : Option Nat} {h : gx_H} {r : gx_H} (e : mM_takeHolders l0 h = some r) : gv_V xs 2 172 0 [(0, gv_u l0)] [] h (.returned none) r := by
  unfold mM_takeHolders at e
  refine gv_rldn (pc' := 1) rfl rfl rfl ?_
  refine gv_rldn (pc' := 2) rfl rfl rfl ?_
  obtain ⟨v1, qv1, e⟩ := gv_bind e
  refine gv_fI (pc' := 5) rfl rfl qv1 rfl ?_
  obtain ⟨h2, qh2, e⟩ := gv_bind e
  refine gv_pI (pc' := 8) rfl rfl rfl qh2 rfl ?_
  refine gv_rldn (pc' := 9) rfl rfl rfl ?_
  refine gv_rldn (pc' := 10) rfl rfl rfl ?_
  obtain ⟨v3, qv3, e⟩ := gv_bind e
  refine gv_fI (pc' := 13) rfl rfl qv3 rfl ?_
  refine gv_rldn (pc' := 14) rfl rfl rfl ?_
  obtain ⟨v4, qv4, e⟩ := gv_bind e
  refine gv_fI (pc' := 17) rfl rfl qv4 rfl ?_
  refine gv_iadd (pc' := 18) rfl rfl ?_
  refine gv_bp (pc' := 20) (x := 32) rfl rfl rfl ?_
  by_cases c5 : (32 : Int32) < (v3 + v4)
  · rw [if_pos c5] at e
    refine gv_cmT (pc' := 27) rfl (gv_gtT2 c5) rfl ?_
    refine gv_ic (pc' := 28) (x := 0) rfl rfl rfl ?_
    exact gv_weak (mM_takeHolders_28_ok e) (gv_S1 rfl gv_S0)
  rw [if_neg c5] at e
  refine gv_cmF (pc' := 23) rfl (gv_gtF2 c5) rfl rfl ?_
  refine gv_ic (pc' := 24) (x := 1) rfl rfl rfl ?_
  refine gv_goto (pc' := 28) rfl rfl ?_
  exact gv_weak (mM_takeHolders_28_ok e) (gv_S1 rfl gv_S0)
def mM_next_47 (l0 : Option Nat) (s0 : Int32) (h : gx_H) : Option (Int32 × gx_H) :=
  (gv_gI h l0 7 32).bind fun v1 =>
  (gv_pV h l0 7 32 (.int (v1 + (1 : Int32)))).bind fun h2 =>
  some (s0, h2)
theorem mM_next_47_ok {xs : Option (List Int32)} {l0 : Option Nat} {s0 : Int32} {h : gx_H} {r : (Int32 × gx_H)} (e : mM_next_47 l0 s0 h = some r) : gv_V xs 0 174 47 [(0, gv_u l0)] [.int s0] h (.returned (some (.int r.1))) r.2 := by
  unfold mM_next_47 at e
  refine gv_istn (pc' := 48) rfl rfl (gv_Cr rfl) rfl ?_
  refine gv_rldn (pc' := 49) rfl rfl rfl ?_
  refine gv_dup (pc' := 50) rfl (gv_u_cat _) rfl ?_
  obtain ⟨v1, qv1, e⟩ := gv_bind e
  refine gv_fI (pc' := 53) rfl rfl qv1 rfl ?_
  refine gv_ic (pc' := 54) (x := 1) rfl rfl rfl ?_
  refine gv_iadd (pc' := 55) rfl rfl ?_
  obtain ⟨h2, qh2, e⟩ := gv_bind e
  refine gv_pI (pc' := 58) rfl rfl rfl qh2 rfl ?_
  refine gv_ildn (pc' := 59) rfl rfl rfl ?_
  cases e
  exact gv_retI rfl rfl
def mM_next_24 (l0 : Option Nat) (s0 : Option Nat) (s1 : Int32) (h : gx_H) : Option (Int32 × gx_H) :=
  if ¬ (s1 = 0 ∨ s1 = 1) then none else
  (gv_pV h s0 7 31 (.int s1)).bind fun h1 =>
  (gv_gI h1 l0 7 31).bind fun v3 =>
  if v3 = 0 then (
    mM_next_47 l0 (0 : Int32) h1) else
  (gv_gR h1 l0 7 16).bind fun v5 =>
  (gv_gI h1 l0 7 32).bind fun v6 =>
  (gv_lI h1 v5 v6).bind fun v7 =>
  mM_next_47 l0 v7 h1
theorem mM_next_24_ok {xs : Option (List Int32)} {l0 : Option Nat} {s0 : Option Nat} {s1 : Int32} {h : gx_H} {r : (Int32 × gx_H)} (e : mM_next_24 l0 s0 s1 h = some r) : gv_V xs 0 174 24 [(0, gv_u l0)] [.int s1, gv_u s0] h (.returned (some (.int r.1))) r.2 := by
  unfold mM_next_24 at e
  by_cases c2 : ¬ (s1 = 0 ∨ s1 = 1)
  · rw [if_pos c2] at e; cases e
  rw [if_neg c2] at e
  obtain ⟨h1, qh1, e⟩ := gv_bind e
  refine gv_pZ (pc' := 27) rfl rfl rfl (Decidable.of_not_not c2) qh1 rfl ?_
  refine gv_rldn (pc' := 28) rfl rfl rfl ?_
  obtain ⟨v3, qv3, e⟩ := gv_bind e
  refine gv_fI (pc' := 31) rfl rfl qv3 rfl ?_
  by_cases c4 : v3 = 0
  · rw [if_pos c4] at e
    refine gv_ifT (pc' := 46) rfl (gv_eqT c4) rfl ?_
    refine gv_ic (pc' := 47) (x := 0) rfl rfl rfl ?_
    exact gv_weak (mM_next_47_ok e) (gv_S1 rfl gv_S0)
  rw [if_neg c4] at e
  refine gv_ifF (pc' := 34) rfl (gv_eqF c4) rfl rfl ?_
  refine gv_rldn (pc' := 35) rfl rfl rfl ?_
  obtain ⟨v5, qv5, e⟩ := gv_bind e
  refine gv_fR (pc' := 38) rfl rfl qv5 rfl ?_
  refine gv_rldn (pc' := 39) rfl rfl rfl ?_
  obtain ⟨v6, qv6, e⟩ := gv_bind e
  refine gv_fI (pc' := 42) rfl rfl qv6 rfl ?_
  obtain ⟨v7, qv7, e⟩ := gv_bind e
  refine gv_iald (pc' := 43) rfl qv7 rfl ?_
  refine gv_goto (pc' := 47) rfl rfl ?_
  exact gv_weak (mM_next_47_ok e) (gv_S1 rfl gv_S0)
def mM_next_23 (l0 : Option Nat) (s0 : Option Nat) (h : gx_H) : Option (Int32 × gx_H) :=
  mM_next_24 l0 s0 (0 : Int32) h
theorem mM_next_23_ok {xs : Option (List Int32)} {l0 : Option Nat} {s0 : Option Nat} {h : gx_H} {r : (Int32 × gx_H)} (e : mM_next_23 l0 s0 h = some r) : gv_V xs 0 174 23 [(0, gv_u l0)] [gv_u s0] h (.returned (some (.int r.1))) r.2 := by
  unfold mM_next_23 at e
  refine gv_ic (pc' := 24) (x := 0) rfl rfl rfl ?_
  exact gv_weak (mM_next_24_ok e) (gv_S1 rfl gv_S0)
def mM_next (l0 : Option Nat) (h : gx_H) : Option (Int32 × gx_H) :=
  (gv_gI h l0 7 31).bind fun v1 =>
  if v1 = 0 then (
    mM_next_23 l0 l0 h) else
  (gv_gI h l0 7 32).bind fun v3 =>
  (gv_gI h l0 7 15).bind fun v4 =>
  if v3 < v4 then (
    mM_next_24 l0 l0 (1 : Int32) h) else
  mM_next_23 l0 l0 h
theorem mM_next_ok {xs : Option (List Int32)} {l0 : Option Nat} {h : gx_H} {r : (Int32 × gx_H)} (e : mM_next l0 h = some r) : gv_V xs 0 174 0 [(0, gv_u l0)] [] h (.returned (some (.int r.1))) r.2 := by
  unfold mM_next at e
  refine gv_rldn (pc' := 1) rfl rfl rfl ?_
  refine gv_rldn (pc' := 2) rfl rfl rfl ?_
  obtain ⟨v1, qv1, e⟩ := gv_bind e
  refine gv_fI (pc' := 5) rfl rfl qv1 rfl ?_
  by_cases c2 : v1 = 0
  · rw [if_pos c2] at e
    refine gv_ifT (pc' := 23) rfl (gv_eqT c2) rfl ?_
    exact gv_weak (mM_next_23_ok e) (gv_S1 rfl gv_S0)
  rw [if_neg c2] at e
  refine gv_ifF (pc' := 8) rfl (gv_eqF c2) rfl rfl ?_
  refine gv_rldn (pc' := 9) rfl rfl rfl ?_
  obtain ⟨v3, qv3, e⟩ := gv_bind e
  refine gv_fI (pc' := 12) rfl rfl qv3 rfl ?_
  refine gv_rldn (pc' := 13) rfl rfl rfl ?_
  obtain ⟨v4, qv4, e⟩ := gv_bind e
  refine gv_fI (pc' := 16) rfl rfl qv4 rfl ?_
  by_cases c5 : v3 < v4
  · rw [if_pos c5] at e
    refine gv_cmF (pc' := 19) rfl (gv_geF2 c5) rfl rfl ?_
    refine gv_ic (pc' := 20) (x := 1) rfl rfl rfl ?_
    refine gv_goto (pc' := 24) rfl rfl ?_
    exact gv_weak (mM_next_24_ok e) (gv_S1 rfl gv_S0)
  rw [if_neg c5] at e
  refine gv_cmT (pc' := 23) rfl (gv_geT2 c5) rfl ?_
  exact gv_weak (mM_next_23_ok e) (gv_S1 rfl gv_S0)
def mM_got (l0 : Option Nat) (l1 : Int32) (l2 : Int32) (h : gx_H) : Option gx_H :=
  (gv_pV h l0 7 35 (.int l1)).bind fun h1 =>
  (gv_pV h1 l0 7 36 (.int l2)).bind fun h2 =>
  some h2
theorem mM_got_ok {xs : Option (List Int32)} {l0 : Option Nat} {l1 : Int32} {l2 : Int32} {h : gx_H} {r : gx_H} (e : mM_got l0 l1 l2 h = some r) : gv_V xs 0 176 0 [(0, gv_u l0), (1, .int l1), (2, .int l2)] [] h (.returned none) r := by
  unfold mM_got at e
  refine gv_rldn (pc' := 1) rfl rfl rfl ?_
  refine gv_ildn (pc' := 2) rfl rfl rfl ?_
  obtain ⟨h1, qh1, e⟩ := gv_bind e
  refine gv_pI (pc' := 5) rfl rfl rfl qh1 rfl ?_
  refine gv_rldn (pc' := 6) rfl rfl rfl ?_
  refine gv_ildn (pc' := 7) rfl rfl rfl ?_
  obtain ⟨h2, qh2, e⟩ := gv_bind e
  refine gv_pI (pc' := 10) rfl rfl rfl qh2 rfl ?_
  cases e
  exact gv_retV rfl rfl
def mM_lengthy_112 (rec8 : Option Nat → Int32 → Int64 → Int32 → Int32 → gx_H → Option (Int64 × gx_H)) (l0 : Option Nat) (l1 : Int32) (l2 : Int64) (l4 : Int32) (s0 : Int32) (h : gx_H) : Option (Int64 × gx_H) :=
  rec8 l0 l1 l2 (l4 + 1) s0 h
theorem mM_lengthy_112_ok {xs : Option (List Int32)} {rec8 : Option Nat → Int32 → Int64 → Int32 → Int32 → gx_H → Option (Int64 × gx_H)} (hrec8 : ∀ (l0 : Option Nat) (l1 : Int32) (l2 : Int64) (l4 : Int32) (l5 : Int32) (h : gx_H) (r : (Int64 × gx_H)), rec8 l0 l1 l2 l4 l5 h = some r → gv_V xs 1 177 8 [(0, gv_u l0), (1, .int l1), (2, .long l2), (4, .int l4), (5, .int l5)] [] h (.returned (some (.long r.1))) r.2) {l0 : Option Nat} {l1 : Int32} {l2 : Int64} {l4 : Int32} {s0 : Int32} {h : gx_H} {r : (Int64 × gx_H)} (e : mM_lengthy_112 rec8 l0 l1 l2 l4 s0 h = some r) : gv_V xs 1 177 112 [(0, gv_u l0), (1, .int l1), (2, .long l2), (4, .int l4)] [.int s0] h (.returned (some (.long r.1))) r.2 := by
  unfold mM_lengthy_112 at e
  refine gv_ist (pc' := 114) rfl rfl (gv_Ci rfl) rfl ?_
  refine gv_inc (pc' := 117) (y := 1) rfl rfl rfl rfl (gv_Cn rfl) rfl ?_
  refine gv_goto (pc' := 8) rfl rfl ?_
  exact gv_weak (hrec8 _ _ _ _ _ _ _ e) (gv_S1 rfl (gv_S1 rfl (gv_S1 rfl (gv_S1 rfl (gv_S1 rfl gv_S0)))))
def mM_lengthy_82 (rec8 : Option Nat → Int32 → Int64 → Int32 → Int32 → gx_H → Option (Int64 × gx_H)) (l0 : Option Nat) (l1 : Int32) (l2 : Int64) (l4 : Int32) (l6 : Int32) (s0 : Option Nat) (s1 : Int32) (h : gx_H) : Option (Int64 × gx_H) :=
  if ¬ (s1 = 0 ∨ s1 = 1) then none else
  (gv_pV h s0 7 31 (.int s1)).bind fun h1 =>
  if (127 : Int32) < l6 then (
    mM_lengthy_112 rec8 l0 l1 (l2 ||| ((Int32.toInt64 (l6 &&& (127 : Int32))) <<< (Int32.toInt64 ((7 : Int32) * l4) &&& 63))) l4 (1 : Int32) h1) else
  mM_lengthy_112 rec8 l0 l1 (l2 ||| ((Int32.toInt64 (l6 &&& (127 : Int32))) <<< (Int32.toInt64 ((7 : Int32) * l4) &&& 63))) l4 (0 : Int32) h1
theorem mM_lengthy_82_ok {xs : Option (List Int32)} {rec8 : Option Nat → Int32 → Int64 → Int32 → Int32 → gx_H → Option (Int64 × gx_H)} (hrec8 : ∀ (l0 : Option Nat) (l1 : Int32) (l2 : Int64) (l4 : Int32) (l5 : Int32) (h : gx_H) (r : (Int64 × gx_H)), rec8 l0 l1 l2 l4 l5 h = some r → gv_V xs 1 177 8 [(0, gv_u l0), (1, .int l1), (2, .long l2), (4, .int l4), (5, .int l5)] [] h (.returned (some (.long r.1))) r.2) {l0 : Option Nat} {l1 : Int32} {l2 : Int64} {l4 : Int32} {l6 : Int32} {s0 : Option Nat} {s1 : Int32} {h : gx_H} {r : (Int64 × gx_H)} (e : mM_lengthy_82 rec8 l0 l1 l2 l4 l6 s0 s1 h = some r) : gv_V xs 1 177 82 [(0, gv_u l0), (1, .int l1), (2, .long l2), (4, .int l4), (6, .int l6)] [.int s1, gv_u s0] h (.returned (some (.long r.1))) r.2 := by
  unfold mM_lengthy_82 at e
  by_cases c2 : ¬ (s1 = 0 ∨ s1 = 1)
  · rw [if_pos c2] at e; cases e
  rw [if_neg c2] at e
  obtain ⟨h1, qh1, e⟩ := gv_bind e
  refine gv_pZ (pc' := 85) rfl rfl rfl (Decidable.of_not_not c2) qh1 rfl ?_
  refine gv_jldn (pc' := 86) rfl rfl rfl ?_
  refine gv_ild (pc' := 88) rfl rfl rfl ?_
  refine gv_bp (pc' := 90) (x := 127) rfl rfl rfl ?_
  refine gv_iand (pc' := 91) rfl rfl ?_
  refine gv_i2l (pc' := 92) rfl rfl ?_
  refine gv_bp (pc' := 94) (x := 7) rfl rfl rfl ?_
  refine gv_ild (pc' := 96) rfl rfl rfl ?_
  refine gv_imul (pc' := 97) rfl rfl ?_
  refine gv_lshl (pc' := 98) rfl rfl ?_
  refine gv_lor (pc' := 99) rfl rfl ?_
  refine gv_jstn (pc' := 100) rfl rfl (gv_Ci rfl) rfl rfl ?_
  refine gv_ild (pc' := 102) rfl rfl rfl ?_
  refine gv_bp (pc' := 104) (x := 127) rfl rfl rfl ?_
  by_cases c3 : (127 : Int32) < l6
  · rw [if_pos c3] at e
    refine gv_cmF (pc' := 107) rfl (gv_leF2 c3) rfl rfl ?_
    refine gv_ic (pc' := 108) (x := 1) rfl rfl rfl ?_
    refine gv_goto (pc' := 112) rfl rfl ?_
    exact gv_weak (mM_lengthy_112_ok hrec8 e) (gv_S1 rfl (gv_S1 rfl (gv_S1 rfl (gv_S1 rfl gv_S0))))
  rw [if_neg c3] at e
  refine gv_cmT (pc' := 111) rfl (gv_leT2 c3) rfl ?_
  refine gv_ic (pc' := 112) (x := 0) rfl rfl rfl ?_
  exact gv_weak (mM_lengthy_112_ok hrec8 e) (gv_S1 rfl (gv_S1 rfl (gv_S1 rfl (gv_S1 rfl gv_S0))))
def mM_lengthy_77 (rec8 : Option Nat → Int32 → Int64 → Int32 → Int32 → gx_H → Option (Int64 × gx_H)) (l0 : Option Nat) (l1 : Int32) (l2 : Int64) (l4 : Int32) (l6 : Int32) (s0 : Option Nat) (h : gx_H) : Option (Int64 × gx_H) :=
  mM_lengthy_82 rec8 l0 l1 l2 l4 l6 s0 (1 : Int32) h
theorem mM_lengthy_77_ok {xs : Option (List Int32)} {rec8 : Option Nat → Int32 → Int64 → Int32 → Int32 → gx_H → Option (Int64 × gx_H)} (hrec8 : ∀ (l0 : Option Nat) (l1 : Int32) (l2 : Int64) (l4 : Int32) (l5 : Int32) (h : gx_H) (r : (Int64 × gx_H)), rec8 l0 l1 l2 l4 l5 h = some r → gv_V xs 1 177 8 [(0, gv_u l0), (1, .int l1), (2, .long l2), (4, .int l4), (5, .int l5)] [] h (.returned (some (.long r.1))) r.2) {l0 : Option Nat} {l1 : Int32} {l2 : Int64} {l4 : Int32} {l6 : Int32} {s0 : Option Nat} {h : gx_H} {r : (Int64 × gx_H)} (e : mM_lengthy_77 rec8 l0 l1 l2 l4 l6 s0 h = some r) : gv_V xs 1 177 77 [(0, gv_u l0), (1, .int l1), (2, .long l2), (4, .int l4), (6, .int l6)] [gv_u s0] h (.returned (some (.long r.1))) r.2 := by
  unfold mM_lengthy_77 at e
  refine gv_ic (pc' := 78) (x := 1) rfl rfl rfl ?_
  refine gv_goto (pc' := 82) rfl rfl ?_
  exact gv_weak (mM_lengthy_82_ok hrec8 e) (gv_S1 rfl (gv_S1 rfl (gv_S1 rfl (gv_S1 rfl (gv_S1 rfl gv_S0)))))
def mM_lengthy_81 (rec8 : Option Nat → Int32 → Int64 → Int32 → Int32 → gx_H → Option (Int64 × gx_H)) (l0 : Option Nat) (l1 : Int32) (l2 : Int64) (l4 : Int32) (l6 : Int32) (s0 : Option Nat) (h : gx_H) : Option (Int64 × gx_H) :=
  mM_lengthy_82 rec8 l0 l1 l2 l4 l6 s0 (0 : Int32) h
theorem mM_lengthy_81_ok {xs : Option (List Int32)} {rec8 : Option Nat → Int32 → Int64 → Int32 → Int32 → gx_H → Option (Int64 × gx_H)} (hrec8 : ∀ (l0 : Option Nat) (l1 : Int32) (l2 : Int64) (l4 : Int32) (l5 : Int32) (h : gx_H) (r : (Int64 × gx_H)), rec8 l0 l1 l2 l4 l5 h = some r → gv_V xs 1 177 8 [(0, gv_u l0), (1, .int l1), (2, .long l2), (4, .int l4), (5, .int l5)] [] h (.returned (some (.long r.1))) r.2) {l0 : Option Nat} {l1 : Int32} {l2 : Int64} {l4 : Int32} {l6 : Int32} {s0 : Option Nat} {h : gx_H} {r : (Int64 × gx_H)} (e : mM_lengthy_81 rec8 l0 l1 l2 l4 l6 s0 h = some r) : gv_V xs 1 177 81 [(0, gv_u l0), (1, .int l1), (2, .long l2), (4, .int l4), (6, .int l6)] [gv_u s0] h (.returned (some (.long r.1))) r.2 := by
  unfold mM_lengthy_81 at e
  refine gv_ic (pc' := 82) (x := 0) rfl rfl rfl ?_
  exact gv_weak (mM_lengthy_82_ok hrec8 e) (gv_S1 rfl (gv_S1 rfl (gv_S1 rfl (gv_S1 rfl (gv_S1 rfl gv_S0)))))
def mM_lengthy_67 (rec8 : Option Nat → Int32 → Int64 → Int32 → Int32 → gx_H → Option (Int64 × gx_H)) (l0 : Option Nat) (l1 : Int32) (l2 : Int64) (l4 : Int32) (l6 : Int32) (s0 : Option Nat) (h : gx_H) : Option (Int64 × gx_H) :=
  if l6 = 0 then (
    if l4 = 0 then (
      mM_lengthy_77 rec8 l0 l1 l2 l4 l6 s0 h) else
    mM_lengthy_81 rec8 l0 l1 l2 l4 l6 s0 h) else
  mM_lengthy_77 rec8 l0 l1 l2 l4 l6 s0 h
theorem mM_lengthy_67_ok {xs : Option (List Int32)} {rec8 : Option Nat → Int32 → Int64 → Int32 → Int32 → gx_H → Option (Int64 × gx_H)} (hrec8 : ∀ (l0 : Option Nat) (l1 : Int32) (l2 : Int64) (l4 : Int32) (l5 : Int32) (h : gx_H) (r : (Int64 × gx_H)), rec8 l0 l1 l2 l4 l5 h = some r → gv_V xs 1 177 8 [(0, gv_u l0), (1, .int l1), (2, .long l2), (4, .int l4), (5, .int l5)] [] h (.returned (some (.long r.1))) r.2) {l0 : Option Nat} {l1 : Int32} {l2 : Int64} {l4 : Int32} {l6 : Int32} {s0 : Option Nat} {h : gx_H} {r : (Int64 × gx_H)} (e : mM_lengthy_67 rec8 l0 l1 l2 l4 l6 s0 h = some r) : gv_V xs 1 177 67 [(0, gv_u l0), (1, .int l1), (2, .long l2), (4, .int l4), (6, .int l6)] [gv_u s0] h (.returned (some (.long r.1))) r.2 := by
  unfold mM_lengthy_67 at e
  refine gv_ild (pc' := 69) rfl rfl rfl ?_
  by_cases c1 : l6 = 0
  · rw [if_pos c1] at e
    refine gv_ifF (pc' := 72) rfl (gv_neF c1) rfl rfl ?_
    refine gv_ild (pc' := 74) rfl rfl rfl ?_
    by_cases c2 : l4 = 0
    · rw [if_pos c2] at e
      refine gv_ifF (pc' := 77) rfl (gv_neF c2) rfl rfl ?_
      exact gv_weak (mM_lengthy_77_ok hrec8 e) (gv_S1 rfl (gv_S1 rfl (gv_S1 rfl (gv_S1 rfl (gv_S1 rfl gv_S0)))))
    rw [if_neg c2] at e
    refine gv_ifT (pc' := 81) rfl (gv_neT c2) rfl ?_
    exact gv_weak (mM_lengthy_81_ok hrec8 e) (gv_S1 rfl (gv_S1 rfl (gv_S1 rfl (gv_S1 rfl (gv_S1 rfl gv_S0)))))
  rw [if_neg c1] at e
  refine gv_ifT (pc' := 77) rfl (gv_neT c1) rfl ?_
  exact gv_weak (mM_lengthy_77_ok hrec8 e) (gv_S1 rfl (gv_S1 rfl (gv_S1 rfl (gv_S1 rfl (gv_S1 rfl gv_S0)))))
def mM_lengthy_8 : Nat → Option Nat → Int32 → Int64 → Int32 → Int32 → gx_H → Option (Int64 × gx_H)
  | 0, _, _, _, _, _, _ => none
  | n + 1, l0, l1, l2, l4, l5, h =>
    if l5 = 0 then (
      some (l2, h)) else
    (gv_gI h l0 7 31).bind fun v2 =>
    if v2 = 0 then (
      some (l2, h)) else
    (gv_is h l0 7).bind fun i4 =>
    (mM_next l0 h).bind fun r7 =>
    (gv_gI r7.2 l0 7 31).bind fun v8 =>
    if v8 = 0 then (
      mM_lengthy_81 (mM_lengthy_8 n) l0 l1 l2 l4 r7.1 l0 r7.2) else
    if 0 < (l1 - ((7 : Int32) * l4)) then (
      if (6 : Int32) < (l1 - ((7 : Int32) * l4)) then (
        mM_lengthy_67 (mM_lengthy_8 n) l0 l1 l2 l4 r7.1 l0 r7.2) else
      if (r7.1 &&& (127 : Int32)) < ((1 : Int32) <<< ((l1 - ((7 : Int32) * l4)) &&& 31)) then (
        mM_lengthy_67 (mM_lengthy_8 n) l0 l1 l2 l4 r7.1 l0 r7.2) else
      mM_lengthy_81 (mM_lengthy_8 n) l0 l1 l2 l4 r7.1 l0 r7.2) else
    mM_lengthy_81 (mM_lengthy_8 n) l0 l1 l2 l4 r7.1 l0 r7.2
theorem mM_lengthy_8_ok {xs : Option (List Int32)} : ∀ (n : Nat) (l0 : Option Nat) (l1 : Int32) (l2 : Int64) (l4 : Int32) (l5 : Int32) (h : gx_H) (r : (Int64 × gx_H)), mM_lengthy_8 n l0 l1 l2 l4 l5 h = some r → gv_V xs 1 177 8 [(0, gv_u l0), (1, .int l1), (2, .long l2), (4, .int l4), (5, .int l5)] [] h (.returned (some (.long r.1))) r.2 := by
  intro n
  induction n with
  | zero => intro l0 l1 l2 l4 l5 h r e; cases e
  | succ n ih =>
    intro l0 l1 l2 l4 l5 h r e
    rw [mM_lengthy_8] at e
    refine gv_ild (pc' := 10) rfl rfl rfl ?_
    by_cases c1 : l5 = 0
    · rw [if_pos c1] at e
      refine gv_ifT (pc' := 120) rfl (gv_eqT c1) rfl ?_
      refine gv_jldn (pc' := 121) rfl rfl rfl ?_
      cases e
      exact gv_retJ rfl rfl
    rw [if_neg c1] at e
    refine gv_ifF (pc' := 13) rfl (gv_eqF c1) rfl rfl ?_
    refine gv_rldn (pc' := 14) rfl rfl rfl ?_
    obtain ⟨v2, qv2, e⟩ := gv_bind e
    refine gv_fI (pc' := 17) rfl rfl qv2 rfl ?_
    by_cases c3 : v2 = 0
    · rw [if_pos c3] at e
      refine gv_ifT (pc' := 120) rfl (gv_eqT c3) rfl ?_
      refine gv_jldn (pc' := 121) rfl rfl rfl ?_
      cases e
      exact gv_retJ rfl rfl
    rw [if_neg c3] at e
    refine gv_ifF (pc' := 20) rfl (gv_eqF c3) rfl rfl ?_
    refine gv_rldn (pc' := 21) rfl rfl rfl ?_
    obtain ⟨i4, qi4, e⟩ := gv_bind e
    obtain ⟨⟨v5, h6⟩, qv5, e⟩ := gv_bind e
    refine gv_vS (jc := 174) (n := 0) (rest := []) (stk := [.int v5]) (pc' := 24) rfl rfl rfl rfl rfl rfl rfl rfl rfl (gv_zR gv_z0) rfl (gv_aR gv_a0) (Nat.le_of_ble_eq_true rfl) qi4 (mM_next_ok qv5) rfl rfl ?_
    refine gv_ist (pc' := 26) rfl rfl (gv_Ci rfl) rfl ?_
    refine gv_ildn (pc' := 27) rfl rfl rfl ?_
    refine gv_bp (pc' := 29) (x := 7) rfl rfl rfl ?_
    refine gv_ild (pc' := 31) rfl rfl rfl ?_
    refine gv_imul (pc' := 32) rfl rfl ?_
    refine gv_isub (pc' := 33) rfl rfl ?_
    refine gv_ist (pc' := 35) rfl rfl (gv_Ci rfl) rfl ?_
    refine gv_rldn (pc' := 36) rfl rfl rfl ?_
    refine gv_rldn (pc' := 37) rfl rfl rfl ?_
    obtain ⟨v8, qv8, e⟩ := gv_bind e
    refine gv_fI (pc' := 40) rfl rfl qv8 rfl ?_
    by_cases c9 : v8 = 0
    · rw [if_pos c9] at e
      refine gv_ifT (pc' := 81) rfl (gv_eqT c9) rfl ?_
      exact gv_weak (mM_lengthy_81_ok ih e) (gv_S1 rfl (gv_S1 rfl (gv_S1 rfl (gv_S1 rfl (gv_S1 rfl gv_S0)))))
    rw [if_neg c9] at e
    refine gv_ifF (pc' := 43) rfl (gv_eqF c9) rfl rfl ?_
    refine gv_ild (pc' := 45) rfl rfl rfl ?_
    by_cases c10 : 0 < (l1 - ((7 : Int32) * l4))
    · rw [if_pos c10] at e
      refine gv_ifF (pc' := 48) rfl (gv_leF c10) rfl rfl ?_
      refine gv_ild (pc' := 50) rfl rfl rfl ?_
      refine gv_bp (pc' := 52) (x := 6) rfl rfl rfl ?_
      by_cases c11 : (6 : Int32) < (l1 - ((7 : Int32) * l4))
      · rw [if_pos c11] at e
        refine gv_cmT (pc' := 67) rfl (gv_gtT2 c11) rfl ?_
        exact gv_weak (mM_lengthy_67_ok ih e) (gv_S1 rfl (gv_S1 rfl (gv_S1 rfl (gv_S1 rfl (gv_S1 rfl gv_S0)))))
      rw [if_neg c11] at e
      refine gv_cmF (pc' := 55) rfl (gv_gtF2 c11) rfl rfl ?_
      refine gv_ild (pc' := 57) rfl rfl rfl ?_
      refine gv_bp (pc' := 59) (x := 127) rfl rfl rfl ?_
      refine gv_iand (pc' := 60) rfl rfl ?_
      refine gv_ic (pc' := 61) (x := 1) rfl rfl rfl ?_
      refine gv_ild (pc' := 63) rfl rfl rfl ?_
      refine gv_ishl (pc' := 64) rfl rfl ?_
      by_cases c12 : (v5 &&& (127 : Int32)) < ((1 : Int32) <<< ((l1 - ((7 : Int32) * l4)) &&& 31))
      · rw [if_pos c12] at e
        refine gv_cmF (pc' := 67) rfl (gv_geF2 c12) rfl rfl ?_
        exact gv_weak (mM_lengthy_67_ok ih e) (gv_S1 rfl (gv_S1 rfl (gv_S1 rfl (gv_S1 rfl (gv_S1 rfl gv_S0)))))
      rw [if_neg c12] at e
      refine gv_cmT (pc' := 81) rfl (gv_geT2 c12) rfl ?_
      exact gv_weak (mM_lengthy_81_ok ih e) (gv_S1 rfl (gv_S1 rfl (gv_S1 rfl (gv_S1 rfl (gv_S1 rfl gv_S0)))))
    rw [if_neg c10] at e
    refine gv_ifT (pc' := 81) rfl (gv_leT c10) rfl ?_
    exact gv_weak (mM_lengthy_81_ok ih e) (gv_S1 rfl (gv_S1 rfl (gv_S1 rfl (gv_S1 rfl (gv_S1 rfl gv_S0)))))
def mM_lengthy (l0 : Option Nat) (l1 : Int32) (h : gx_H) : Option (Int64 × gx_H) :=
  mM_lengthy_8 1000000000000000 l0 l1 (0 : Int64) (0 : Int32) (1 : Int32) h
theorem mM_lengthy_ok {xs : Option (List Int32)} {l0 : Option Nat} {l1 : Int32} {h : gx_H} {r : (Int64 × gx_H)} (e : mM_lengthy l0 l1 h = some r) : gv_V xs 1 177 0 [(0, gv_u l0), (1, .int l1)] [] h (.returned (some (.long r.1))) r.2 := by
  unfold mM_lengthy at e
  refine gv_lc (pc' := 1) (x := 0) rfl rfl rfl ?_
  refine gv_jstn (pc' := 2) rfl rfl (gv_Ci rfl) rfl rfl ?_
  refine gv_ic (pc' := 3) (x := 0) rfl rfl rfl ?_
  refine gv_ist (pc' := 5) rfl rfl (gv_Cn rfl) rfl ?_
  refine gv_ic (pc' := 6) (x := 1) rfl rfl rfl ?_
  refine gv_ist (pc' := 8) rfl rfl (gv_Ci rfl) rfl ?_
  exact gv_weak (mM_lengthy_8_ok 1000000000000000 _ _ _ _ _ _ _ e) (gv_S1 rfl (gv_S1 rfl (gv_S1 rfl (gv_S1 rfl (gv_S1 rfl gv_S0)))))
def mM_plain (l0 : Int64) : Option Int64 :=
  some (((Int64.toUInt64 l0 >>> ((Int32.toInt64 (1 : Int32)).toUInt64 &&& Int64.toUInt64 63)).toInt64) ^^^ (-(l0 &&& (1 : Int64))))
theorem mM_plain_ok {xs : Option (List Int32)} {l0 : Int64} {h : gx_H} {r : Int64} (e : mM_plain l0 = some r) : gv_V xs 0 178 0 [(0, .long l0)] [] h (.returned (some (.long r))) h := by
  unfold mM_plain at e
  refine gv_jldn (pc' := 1) rfl rfl rfl ?_
  refine gv_ic (pc' := 2) (x := 1) rfl rfl rfl ?_
  refine gv_lushr (pc' := 3) rfl rfl ?_
  refine gv_jldn (pc' := 4) rfl rfl rfl ?_
  refine gv_lc (pc' := 5) (x := 1) rfl rfl rfl ?_
  refine gv_land (pc' := 6) rfl rfl ?_
  refine gv_lneg (pc' := 7) rfl rfl ?_
  refine gv_lxor (pc' := 8) rfl rfl ?_
  cases e
  exact gv_retJ rfl rfl
def mM_nextUpTo_23 (l0 : Option Nat) (l2 : Int32) (s0 : Option Nat) (s1 : Int32) (h : gx_H) : Option (Int32 × gx_H) :=
  if ¬ (s1 = 0 ∨ s1 = 1) then none else
  (gv_pV h s0 7 31 (.int s1)).bind fun h1 =>
  (gv_gI h1 l0 7 31).bind fun v3 =>
  if v3 = 0 then (
    some ((0 : Int32), h1)) else
  some (l2, h1)
theorem mM_nextUpTo_23_ok {xs : Option (List Int32)} {l0 : Option Nat} {l2 : Int32} {s0 : Option Nat} {s1 : Int32} {h : gx_H} {r : (Int32 × gx_H)} (e : mM_nextUpTo_23 l0 l2 s0 s1 h = some r) : gv_V xs 1 180 23 [(0, gv_u l0), (2, .int l2)] [.int s1, gv_u s0] h (.returned (some (.int r.1))) r.2 := by
  unfold mM_nextUpTo_23 at e
  by_cases c2 : ¬ (s1 = 0 ∨ s1 = 1)
  · rw [if_pos c2] at e; cases e
  rw [if_neg c2] at e
  obtain ⟨h1, qh1, e⟩ := gv_bind e
  refine gv_pZ (pc' := 26) rfl rfl rfl (Decidable.of_not_not c2) qh1 rfl ?_
  refine gv_rldn (pc' := 27) rfl rfl rfl ?_
  obtain ⟨v3, qv3, e⟩ := gv_bind e
  refine gv_fI (pc' := 30) rfl rfl qv3 rfl ?_
  by_cases c4 : v3 = 0
  · rw [if_pos c4] at e
    refine gv_ifT (pc' := 37) rfl (gv_eqT c4) rfl ?_
    refine gv_ic (pc' := 38) (x := 0) rfl rfl rfl ?_
    cases e
    exact gv_retI rfl rfl
  rw [if_neg c4] at e
  refine gv_ifF (pc' := 33) rfl (gv_eqF c4) rfl rfl ?_
  refine gv_ildn (pc' := 34) rfl rfl rfl ?_
  refine gv_goto (pc' := 38) rfl rfl ?_
  cases e
  exact gv_retI rfl rfl
def mM_nextUpTo_22 (l0 : Option Nat) (l2 : Int32) (s0 : Option Nat) (h : gx_H) : Option (Int32 × gx_H) :=
  mM_nextUpTo_23 l0 l2 s0 (0 : Int32) h
theorem mM_nextUpTo_22_ok {xs : Option (List Int32)} {l0 : Option Nat} {l2 : Int32} {s0 : Option Nat} {h : gx_H} {r : (Int32 × gx_H)} (e : mM_nextUpTo_22 l0 l2 s0 h = some r) : gv_V xs 1 180 22 [(0, gv_u l0), (2, .int l2)] [gv_u s0] h (.returned (some (.int r.1))) r.2 := by
  unfold mM_nextUpTo_22 at e
  refine gv_ic (pc' := 23) (x := 0) rfl rfl rfl ?_
  exact gv_weak (mM_nextUpTo_23_ok e) (gv_S1 rfl (gv_S1 rfl gv_S0))
def mM_nextUpTo (l0 : Option Nat) (l1 : Int32) (h : gx_H) : Option (Int32 × gx_H) :=
  (gv_is h l0 7).bind fun i1 =>
  (mM_next l0 h).bind fun r4 =>
  (gv_gI r4.2 l0 7 31).bind fun v5 =>
  if v5 = 0 then (
    mM_nextUpTo_22 l0 r4.1 l0 r4.2) else
  if l1 < r4.1 then (
    mM_nextUpTo_22 l0 r4.1 l0 r4.2) else
  mM_nextUpTo_23 l0 r4.1 l0 (1 : Int32) r4.2
theorem mM_nextUpTo_ok {xs : Option (List Int32)} {l0 : Option Nat} {l1 : Int32} {h : gx_H} {r : (Int32 × gx_H)} (e : mM_nextUpTo l0 l1 h = some r) : gv_V xs 1 180 0 [(0, gv_u l0), (1, .int l1)] [] h (.returned (some (.int r.1))) r.2 := by
  unfold mM_nextUpTo at e
  refine gv_rldn (pc' := 1) rfl rfl rfl ?_
  obtain ⟨i1, qi1, e⟩ := gv_bind e
  obtain ⟨⟨v2, h3⟩, qv2, e⟩ := gv_bind e
  refine gv_vS (jc := 174) (n := 0) (rest := []) (stk := [.int v2]) (pc' := 4) rfl rfl rfl rfl rfl rfl rfl rfl rfl (gv_zR gv_z0) rfl (gv_aR gv_a0) (Nat.le_of_ble_eq_true rfl) qi1 (mM_next_ok qv2) rfl rfl ?_
  refine gv_istn (pc' := 5) rfl rfl (gv_Ci rfl) rfl ?_
  refine gv_rldn (pc' := 6) rfl rfl rfl ?_
  refine gv_rldn (pc' := 7) rfl rfl rfl ?_
  obtain ⟨v5, qv5, e⟩ := gv_bind e
  refine gv_fI (pc' := 10) rfl rfl qv5 rfl ?_
  by_cases c6 : v5 = 0
  · rw [if_pos c6] at e
    refine gv_ifT (pc' := 22) rfl (gv_eqT c6) rfl ?_
    exact gv_weak (mM_nextUpTo_22_ok e) (gv_S1 rfl (gv_S1 rfl gv_S0))
  rw [if_neg c6] at e
  refine gv_ifF (pc' := 13) rfl (gv_eqF c6) rfl rfl ?_
  refine gv_ildn (pc' := 14) rfl rfl rfl ?_
  refine gv_ildn (pc' := 15) rfl rfl rfl ?_
  by_cases c7 : l1 < v2
  · rw [if_pos c7] at e
    refine gv_cmT (pc' := 22) rfl (gv_gtT2 c7) rfl ?_
    exact gv_weak (mM_nextUpTo_22_ok e) (gv_S1 rfl (gv_S1 rfl gv_S0))
  rw [if_neg c7] at e
  refine gv_cmF (pc' := 18) rfl (gv_gtF2 c7) rfl rfl ?_
  refine gv_ic (pc' := 19) (x := 1) rfl rfl rfl ?_
  refine gv_goto (pc' := 23) rfl rfl ?_
  exact gv_weak (mM_nextUpTo_23_ok e) (gv_S1 rfl (gv_S1 rfl gv_S0))
def mM_text_39 (rec10 : Option Nat → Int32 → Int32 → Int32 → gx_H → Option (Int32 × gx_H)) (l0 : Option Nat) (l1 : Int32) (l2 : Int32) (l3 : Int32) (l4 : Int32) (s0 : Option Nat) (s1 : Int32) (h : gx_H) : Option (Int32 × gx_H) :=
  if ¬ (s1 = 0 ∨ s1 = 1) then none else
  (gv_pV h s0 7 31 (.int s1)).bind fun h1 =>
  rec10 l0 l1 (l2 ||| (l4 <<< (((8 : Int32) * l3) &&& 31))) (l3 + 1) h1
theorem mM_text_39_ok {xs : Option (List Int32)} {rec10 : Option Nat → Int32 → Int32 → Int32 → gx_H → Option (Int32 × gx_H)} (hrec10 : ∀ (l0 : Option Nat) (l1 : Int32) (l2 : Int32) (l3 : Int32) (h : gx_H) (r : (Int32 × gx_H)), rec10 l0 l1 l2 l3 h = some r → gv_V xs 2 179 10 [(0, gv_u l0), (1, .int l1), (2, .int l2), (3, .int l3)] [] h (.returned (some (.int r.1))) r.2) {l0 : Option Nat} {l1 : Int32} {l2 : Int32} {l3 : Int32} {l4 : Int32} {s0 : Option Nat} {s1 : Int32} {h : gx_H} {r : (Int32 × gx_H)} (e : mM_text_39 rec10 l0 l1 l2 l3 l4 s0 s1 h = some r) : gv_V xs 2 179 39 [(0, gv_u l0), (1, .int l1), (2, .int l2), (3, .int l3), (4, .int l4)] [.int s1, gv_u s0] h (.returned (some (.int r.1))) r.2 := by
  unfold mM_text_39 at e
  by_cases c2 : ¬ (s1 = 0 ∨ s1 = 1)
  · rw [if_pos c2] at e; cases e
  rw [if_neg c2] at e
  obtain ⟨h1, qh1, e⟩ := gv_bind e
  refine gv_pZ (pc' := 42) rfl rfl rfl (Decidable.of_not_not c2) qh1 rfl ?_
  refine gv_ildn (pc' := 43) rfl rfl rfl ?_
  refine gv_ild (pc' := 45) rfl rfl rfl ?_
  refine gv_bp (pc' := 47) (x := 8) rfl rfl rfl ?_
  refine gv_ildn (pc' := 48) rfl rfl rfl ?_
  refine gv_imul (pc' := 49) rfl rfl ?_
  refine gv_ishl (pc' := 50) rfl rfl ?_
  refine gv_ior (pc' := 51) rfl rfl ?_
  refine gv_istn (pc' := 52) rfl rfl (gv_Ci rfl) rfl ?_
  refine gv_inc (pc' := 55) (y := 1) rfl rfl rfl rfl (gv_Ci rfl) rfl ?_
  refine gv_goto (pc' := 10) rfl rfl ?_
  exact gv_weak (hrec10 _ _ _ _ _ _ e) (gv_S1 rfl (gv_S1 rfl (gv_S1 rfl (gv_S1 rfl gv_S0))))
def mM_text_38 (rec10 : Option Nat → Int32 → Int32 → Int32 → gx_H → Option (Int32 × gx_H)) (l0 : Option Nat) (l1 : Int32) (l2 : Int32) (l3 : Int32) (l4 : Int32) (s0 : Option Nat) (h : gx_H) : Option (Int32 × gx_H) :=
  mM_text_39 rec10 l0 l1 l2 l3 l4 s0 (0 : Int32) h
theorem mM_text_38_ok {xs : Option (List Int32)} {rec10 : Option Nat → Int32 → Int32 → Int32 → gx_H → Option (Int32 × gx_H)} (hrec10 : ∀ (l0 : Option Nat) (l1 : Int32) (l2 : Int32) (l3 : Int32) (h : gx_H) (r : (Int32 × gx_H)), rec10 l0 l1 l2 l3 h = some r → gv_V xs 2 179 10 [(0, gv_u l0), (1, .int l1), (2, .int l2), (3, .int l3)] [] h (.returned (some (.int r.1))) r.2) {l0 : Option Nat} {l1 : Int32} {l2 : Int32} {l3 : Int32} {l4 : Int32} {s0 : Option Nat} {h : gx_H} {r : (Int32 × gx_H)} (e : mM_text_38 rec10 l0 l1 l2 l3 l4 s0 h = some r) : gv_V xs 2 179 38 [(0, gv_u l0), (1, .int l1), (2, .int l2), (3, .int l3), (4, .int l4)] [gv_u s0] h (.returned (some (.int r.1))) r.2 := by
  unfold mM_text_38 at e
  refine gv_ic (pc' := 39) (x := 0) rfl rfl rfl ?_
  exact gv_weak (mM_text_39_ok hrec10 e) (gv_S1 rfl (gv_S1 rfl (gv_S1 rfl (gv_S1 rfl (gv_S1 rfl gv_S0)))))
def mM_text_10 : Nat → Option Nat → Int32 → Int32 → Int32 → gx_H → Option (Int32 × gx_H)
  | 0, _, _, _, _, _ => none
  | n + 1, l0, l1, l2, l3, h =>
    if l3 < l1 then (
      (gv_is h l0 7).bind fun i2 =>
      (mM_next l0 h).bind fun r5 =>
      (gv_gI r5.2 l0 7 31).bind fun v6 =>
      if v6 = 0 then (
        mM_text_38 (mM_text_10 n) l0 l1 l2 l3 r5.1 l0 r5.2) else
      if r5.1 = 0 then (
        mM_text_38 (mM_text_10 n) l0 l1 l2 l3 r5.1 l0 r5.2) else
      mM_text_39 (mM_text_10 n) l0 l1 l2 l3 r5.1 l0 (1 : Int32) r5.2) else
    some (l2, h)
theorem mM_text_10_ok {xs : Option (List Int32)} : ∀ (n : Nat) (l0 : Option Nat) (l1 : Int32) (l2 : Int32) (l3 : Int32) (h : gx_H) (r : (Int32 × gx_H)), mM_text_10 n l0 l1 l2 l3 h = some r → gv_V xs 2 179 10 [(0, gv_u l0), (1, .int l1), (2, .int l2), (3, .int l3)] [] h (.returned (some (.int r.1))) r.2 := by
  intro n
  induction n with
  | zero => intro l0 l1 l2 l3 h r e; cases e
  | succ n ih =>
    intro l0 l1 l2 l3 h r e
    rw [mM_text_10] at e
    refine gv_ildn (pc' := 11) rfl rfl rfl ?_
    refine gv_ildn (pc' := 12) rfl rfl rfl ?_
    by_cases c1 : l3 < l1
    · rw [if_pos c1] at e
      refine gv_cmF (pc' := 15) rfl (gv_geF2 c1) rfl rfl ?_
      refine gv_rldn (pc' := 16) rfl rfl rfl ?_
      obtain ⟨i2, qi2, e⟩ := gv_bind e
      obtain ⟨⟨v3, h4⟩, qv3, e⟩ := gv_bind e
      refine gv_vS (jc := 174) (n := 0) (rest := []) (stk := [.int v3]) (pc' := 19) rfl rfl rfl rfl rfl rfl rfl rfl rfl (gv_zR gv_z0) rfl (gv_aR gv_a0) (Nat.le_of_ble_eq_true rfl) qi2 (mM_next_ok qv3) rfl rfl ?_
      refine gv_ist (pc' := 21) rfl rfl (gv_Ci rfl) rfl ?_
      refine gv_rldn (pc' := 22) rfl rfl rfl ?_
      refine gv_rldn (pc' := 23) rfl rfl rfl ?_
      obtain ⟨v6, qv6, e⟩ := gv_bind e
      refine gv_fI (pc' := 26) rfl rfl qv6 rfl ?_
      by_cases c7 : v6 = 0
      · rw [if_pos c7] at e
        refine gv_ifT (pc' := 38) rfl (gv_eqT c7) rfl ?_
        exact gv_weak (mM_text_38_ok ih e) (gv_S1 rfl (gv_S1 rfl (gv_S1 rfl (gv_S1 rfl (gv_S1 rfl gv_S0)))))
      rw [if_neg c7] at e
      refine gv_ifF (pc' := 29) rfl (gv_eqF c7) rfl rfl ?_
      refine gv_ild (pc' := 31) rfl rfl rfl ?_
      by_cases c8 : v3 = 0
      · rw [if_pos c8] at e
        refine gv_ifT (pc' := 38) rfl (gv_eqT c8) rfl ?_
        exact gv_weak (mM_text_38_ok ih e) (gv_S1 rfl (gv_S1 rfl (gv_S1 rfl (gv_S1 rfl (gv_S1 rfl gv_S0)))))
      rw [if_neg c8] at e
      refine gv_ifF (pc' := 34) rfl (gv_eqF c8) rfl rfl ?_
      refine gv_ic (pc' := 35) (x := 1) rfl rfl rfl ?_
      refine gv_goto (pc' := 39) rfl rfl ?_
      exact gv_weak (mM_text_39_ok ih e) (gv_S1 rfl (gv_S1 rfl (gv_S1 rfl (gv_S1 rfl (gv_S1 rfl gv_S0)))))
    rw [if_neg c1] at e
    refine gv_cmT (pc' := 58) rfl (gv_geT2 c1) rfl ?_
    refine gv_ildn (pc' := 59) rfl rfl rfl ?_
    cases e
    exact gv_retI rfl rfl
def mM_text (l0 : Option Nat) (h : gx_H) : Option (Int32 × gx_H) :=
  (gv_is h l0 7).bind fun i1 =>
  (mM_nextUpTo l0 (4 : Int32) h).bind fun r4 =>
  mM_text_10 1000000000000000 l0 r4.1 (0 : Int32) (0 : Int32) r4.2
theorem mM_text_ok {xs : Option (List Int32)} {l0 : Option Nat} {h : gx_H} {r : (Int32 × gx_H)} (e : mM_text l0 h = some r) : gv_V xs 2 179 0 [(0, gv_u l0)] [] h (.returned (some (.int r.1))) r.2 := by
  unfold mM_text at e
  refine gv_rldn (pc' := 1) rfl rfl rfl ?_
  refine gv_ic (pc' := 2) (x := 4) rfl rfl rfl ?_
  obtain ⟨i1, qi1, e⟩ := gv_bind e
  obtain ⟨⟨v2, h3⟩, qv2, e⟩ := gv_bind e
  refine gv_vS (jc := 180) (n := 1) (rest := []) (stk := [.int v2]) (pc' := 5) rfl rfl rfl rfl rfl rfl rfl rfl rfl (gv_zR (gv_zI gv_z0)) rfl (gv_aR (gv_aI gv_a0)) (Nat.le_of_ble_eq_true rfl) qi1 (mM_nextUpTo_ok qv2) rfl rfl ?_
  refine gv_istn (pc' := 6) rfl rfl (gv_Cr rfl) rfl ?_
  refine gv_ic (pc' := 7) (x := 0) rfl rfl rfl ?_
  refine gv_istn (pc' := 8) rfl rfl (gv_Ci rfl) rfl ?_
  refine gv_ic (pc' := 9) (x := 0) rfl rfl rfl ?_
  refine gv_istn (pc' := 10) rfl rfl (gv_Ci rfl) rfl ?_
  exact gv_weak (mM_text_10_ok 1000000000000000 _ _ _ _ _ _ e) (gv_S1 rfl (gv_S1 rfl (gv_S1 rfl (gv_S1 rfl gv_S0))))
def mM_takePlace_71 (s0 : Option Nat) (s1 : Int32) (s2 : Int32) (h : gx_H) : Option gx_H :=
  (gv_is h s0 7).bind fun i1 =>
  (mM_got s0 s1 s2 h).bind fun h3 =>
  some h3
theorem mM_takePlace_71_ok {xs : Option (List Int32)} {s0 : Option Nat} {s1 : Int32} {s2 : Int32} {h : gx_H} {r : gx_H} (e : mM_takePlace_71 s0 s1 s2 h = some r) : gv_V xs 2 181 71 [] [.int s2, .int s1, gv_u s0] h (.returned none) r := by
  unfold mM_takePlace_71 at e
  obtain ⟨i1, qi1, e⟩ := gv_bind e
  obtain ⟨h3, qv2, e⟩ := gv_bind e
  refine gv_vS (jc := 176) (n := 2) (rest := []) (stk := []) (pc' := 74) rfl rfl rfl rfl rfl rfl rfl rfl rfl (gv_zR (gv_zI (gv_zI gv_z0))) rfl (gv_aR (gv_aI (gv_aI gv_a0))) (Nat.le_of_ble_eq_true rfl) qi1 (mM_got_ok qv2) rfl rfl ?_
  cases e
  exact gv_retV rfl rfl
def mM_takePlace_33 (l0 : Option Nat) (l2 : Int32) (l3 : Int64) (s0 : Option Nat) (s1 : Int32) (h : gx_H) : Option gx_H :=
  if ¬ (s1 = 0 ∨ s1 = 1) then none else
  (gv_pV h s0 7 31 (.int s1)).bind fun h1 =>
  (gv_gI h1 l0 7 31).bind fun v3 =>
  if v3 = 0 then (
    mM_takePlace_71 l0 (6 : Int32) (0 : Int32) h1) else
  if l2 = 0 then (
    (gv_gR h1 l0 7 34).bind fun v6 =>
    (gv_lI h1 v6 (Int64.toInt32 l3)).bind fun v7 =>
    mM_takePlace_71 l0 (6 : Int32) v7 h1) else
  (gv_gI h1 l0 7 1).bind fun v8 =>
  mM_takePlace_71 l0 (6 : Int32) (v8 + (Int64.toInt32 l3)) h1
theorem mM_takePlace_33_ok {xs : Option (List Int32)} {l0 : Option Nat} {l2 : Int32} {l3 : Int64} {s0 : Option Nat} {s1 : Int32} {h : gx_H} {r : gx_H} (e : mM_takePlace_33 l0 l2 l3 s0 s1 h = some r) : gv_V xs 2 181 33 [(0, gv_u l0), (2, .int l2), (3, .long l3)] [.int s1, gv_u s0] h (.returned none) r := by
  unfold mM_takePlace_33 at e
  by_cases c2 : ¬ (s1 = 0 ∨ s1 = 1)
  · rw [if_pos c2] at e; cases e
  rw [if_neg c2] at e
  obtain ⟨h1, qh1, e⟩ := gv_bind e
  refine gv_pZ (pc' := 36) rfl rfl rfl (Decidable.of_not_not c2) qh1 rfl ?_
  refine gv_rldn (pc' := 37) rfl rfl rfl ?_
  refine gv_bp (pc' := 39) (x := 6) rfl rfl rfl ?_
  refine gv_rldn (pc' := 40) rfl rfl rfl ?_
  obtain ⟨v3, qv3, e⟩ := gv_bind e
  refine gv_fI (pc' := 43) rfl rfl qv3 rfl ?_
  by_cases c4 : v3 = 0
  · rw [if_pos c4] at e
    refine gv_ifF (pc' := 46) rfl (gv_neF c4) rfl rfl ?_
    refine gv_ic (pc' := 47) (x := 0) rfl rfl rfl ?_
    refine gv_goto (pc' := 71) rfl rfl ?_
    exact gv_weak (mM_takePlace_71_ok e) gv_S0
  rw [if_neg c4] at e
  refine gv_ifT (pc' := 50) rfl (gv_neT c4) rfl ?_
  refine gv_ildn (pc' := 51) rfl rfl rfl ?_
  by_cases c5 : l2 = 0
  · rw [if_pos c5] at e
    refine gv_ifF (pc' := 54) rfl (gv_neF c5) rfl rfl ?_
    refine gv_rldn (pc' := 55) rfl rfl rfl ?_
    obtain ⟨v6, qv6, e⟩ := gv_bind e
    refine gv_fR (pc' := 58) rfl rfl qv6 rfl ?_
    refine gv_jldn (pc' := 59) rfl rfl rfl ?_
    refine gv_l2i (pc' := 60) rfl rfl ?_
    obtain ⟨v7, qv7, e⟩ := gv_bind e
    refine gv_iald (pc' := 61) rfl qv7 rfl ?_
    refine gv_goto (pc' := 71) rfl rfl ?_
    exact gv_weak (mM_takePlace_71_ok e) gv_S0
  rw [if_neg c5] at e
  refine gv_ifT (pc' := 64) rfl (gv_neT c5) rfl ?_
  refine gv_rldn (pc' := 65) rfl rfl rfl ?_
  obtain ⟨v8, qv8, e⟩ := gv_bind e
  refine gv_fI (pc' := 68) rfl rfl qv8 rfl ?_
  refine gv_jldn (pc' := 69) rfl rfl rfl ?_
  refine gv_l2i (pc' := 70) rfl rfl ?_
  refine gv_iadd (pc' := 71) rfl rfl ?_
  exact gv_weak (mM_takePlace_71_ok e) gv_S0
def mM_takePlace_32 (l0 : Option Nat) (l2 : Int32) (l3 : Int64) (s0 : Option Nat) (h : gx_H) : Option gx_H :=
  mM_takePlace_33 l0 l2 l3 s0 (0 : Int32) h
theorem mM_takePlace_32_ok {xs : Option (List Int32)} {l0 : Option Nat} {l2 : Int32} {l3 : Int64} {s0 : Option Nat} {h : gx_H} {r : gx_H} (e : mM_takePlace_32 l0 l2 l3 s0 h = some r) : gv_V xs 2 181 32 [(0, gv_u l0), (2, .int l2), (3, .long l3)] [gv_u s0] h (.returned none) r := by
  unfold mM_takePlace_32 at e
  refine gv_ic (pc' := 33) (x := 0) rfl rfl rfl ?_
  exact gv_weak (mM_takePlace_33_ok e) (gv_S1 rfl (gv_S1 rfl (gv_S1 rfl gv_S0)))
def mM_takePlace (l0 : Option Nat) (l1 : Int32) (l2 : Int32) (h : gx_H) : Option gx_H :=
  (gv_is h l0 7).bind fun i1 =>
  (mM_lengthy l0 (64 : Int32) h).bind fun r4 =>
  (gv_gI r4.2 l0 7 31).bind fun v5 =>
  if v5 = 0 then (
    mM_takePlace_32 l0 l2 r4.1 l0 r4.2) else
  if r4.1 < (0 : Int64) then (
    mM_takePlace_32 l0 l2 r4.1 l0 r4.2) else
  if r4.1 < (Int32.toInt64 l1) then (
    mM_takePlace_33 l0 l2 r4.1 l0 (1 : Int32) r4.2) else
  mM_takePlace_32 l0 l2 r4.1 l0 r4.2
theorem mM_takePlace_ok {xs : Option (List Int32)} {l0 : Option Nat} {l1 : Int32} {l2 : Int32} {h : gx_H} {r : gx_H} (e : mM_takePlace l0 l1 l2 h = some r) : gv_V xs 2 181 0 [(0, gv_u l0), (1, .int l1), (2, .int l2)] [] h (.returned none) r := by
  unfold mM_takePlace at e
  refine gv_rldn (pc' := 1) rfl rfl rfl ?_
  refine gv_bp (pc' := 3) (x := 64) rfl rfl rfl ?_
  obtain ⟨i1, qi1, e⟩ := gv_bind e
  obtain ⟨⟨v2, h3⟩, qv2, e⟩ := gv_bind e
  refine gv_vS (jc := 177) (n := 1) (rest := []) (stk := [.long v2]) (pc' := 6) rfl rfl rfl rfl rfl rfl rfl rfl rfl (gv_zR (gv_zI gv_z0)) rfl (gv_aR (gv_aI gv_a0)) (Nat.le_of_ble_eq_true rfl) qi1 (mM_lengthy_ok qv2) rfl rfl ?_
  refine gv_jstn (pc' := 7) rfl rfl (gv_Ci rfl) rfl rfl ?_
  refine gv_rldn (pc' := 8) rfl rfl rfl ?_
  refine gv_rldn (pc' := 9) rfl rfl rfl ?_
  obtain ⟨v5, qv5, e⟩ := gv_bind e
  refine gv_fI (pc' := 12) rfl rfl qv5 rfl ?_
  by_cases c6 : v5 = 0
  · rw [if_pos c6] at e
    refine gv_ifT (pc' := 32) rfl (gv_eqT c6) rfl ?_
    exact gv_weak (mM_takePlace_32_ok e) (gv_S1 rfl (gv_S1 rfl (gv_S1 rfl gv_S0)))
  rw [if_neg c6] at e
  refine gv_ifF (pc' := 15) rfl (gv_eqF c6) rfl rfl ?_
  refine gv_jldn (pc' := 16) rfl rfl rfl ?_
  refine gv_lc (pc' := 17) (x := 0) rfl rfl rfl ?_
  refine gv_lcmp (pc' := 18) rfl rfl ?_
  by_cases c7 : v2 < (0 : Int64)
  · rw [if_pos c7] at e
    refine gv_ifT (pc' := 32) rfl (gv_ltTL c7) rfl ?_
    exact gv_weak (mM_takePlace_32_ok e) (gv_S1 rfl (gv_S1 rfl (gv_S1 rfl gv_S0)))
  rw [if_neg c7] at e
  refine gv_ifF (pc' := 21) rfl (gv_ltFL c7) rfl rfl ?_
  refine gv_jldn (pc' := 22) rfl rfl rfl ?_
  refine gv_ildn (pc' := 23) rfl rfl rfl ?_
  refine gv_i2l (pc' := 24) rfl rfl ?_
  refine gv_lcmp (pc' := 25) rfl rfl ?_
  by_cases c8 : v2 < (Int32.toInt64 l1)
  · rw [if_pos c8] at e
    refine gv_ifF (pc' := 28) rfl (gv_geFL c8) rfl rfl ?_
    refine gv_ic (pc' := 29) (x := 1) rfl rfl rfl ?_
    refine gv_goto (pc' := 33) rfl rfl ?_
    exact gv_weak (mM_takePlace_33_ok e) (gv_S1 rfl (gv_S1 rfl (gv_S1 rfl gv_S0)))
  rw [if_neg c8] at e
  refine gv_ifT (pc' := 32) rfl (gv_geTL c8) rfl ?_
  exact gv_weak (mM_takePlace_32_ok e) (gv_S1 rfl (gv_S1 rfl (gv_S1 rfl gv_S0)))
def mM_enroll (l0 : Option Nat) (l1 : Int32) (h : gx_H) : Option gx_H :=
  (gv_gI h l0 7 31).bind fun v1 =>
  if v1 = 0 then (
    some h) else
  (gv_gR h l0 7 34).bind fun v3 =>
  (gv_gI h l0 7 29).bind fun v4 =>
  (gv_wI h v3 v4 l1).bind fun h5 =>
  (gv_gI h5 l0 7 29).bind fun v6 =>
  (gv_pV h5 l0 7 29 (.int (v6 + (1 : Int32)))).bind fun h7 =>
  some h7
theorem mM_enroll_ok {xs : Option (List Int32)} {l0 : Option Nat} {l1 : Int32} {h : gx_H} {r : gx_H} (e : mM_enroll l0 l1 h = some r) : gv_V xs 0 183 0 [(0, gv_u l0), (1, .int l1)] [] h (.returned none) r := by
  unfold mM_enroll at e
  refine gv_rldn (pc' := 1) rfl rfl rfl ?_
  obtain ⟨v1, qv1, e⟩ := gv_bind e
  refine gv_fI (pc' := 4) rfl rfl qv1 rfl ?_
  by_cases c2 : v1 = 0
  · rw [if_pos c2] at e
    refine gv_ifT (pc' := 27) rfl (gv_eqT c2) rfl ?_
    cases e
    exact gv_retV rfl rfl
  rw [if_neg c2] at e
  refine gv_ifF (pc' := 7) rfl (gv_eqF c2) rfl rfl ?_
  refine gv_rldn (pc' := 8) rfl rfl rfl ?_
  obtain ⟨v3, qv3, e⟩ := gv_bind e
  refine gv_fR (pc' := 11) rfl rfl qv3 rfl ?_
  refine gv_rldn (pc' := 12) rfl rfl rfl ?_
  obtain ⟨v4, qv4, e⟩ := gv_bind e
  refine gv_fI (pc' := 15) rfl rfl qv4 rfl ?_
  refine gv_ildn (pc' := 16) rfl rfl rfl ?_
  obtain ⟨h5, qh5, e⟩ := gv_bind e
  refine gv_iast (pc' := 17) rfl qh5 rfl ?_
  refine gv_rldn (pc' := 18) rfl rfl rfl ?_
  refine gv_dup (pc' := 19) rfl (gv_u_cat _) rfl ?_
  obtain ⟨v6, qv6, e⟩ := gv_bind e
  refine gv_fI (pc' := 22) rfl rfl qv6 rfl ?_
  refine gv_ic (pc' := 23) (x := 1) rfl rfl rfl ?_
  refine gv_iadd (pc' := 24) rfl rfl ?_
  obtain ⟨h7, qh7, e⟩ := gv_bind e
  refine gv_pI (pc' := 27) rfl rfl rfl qh7 rfl ?_
  cases e
  exact gv_retV rfl rfl
def mM_takeMany_65 (s0 : Option Nat) (s1 : Int32) (s2 : Int32) (h : gx_H) : Option gx_H :=
  (gv_is h s0 7).bind fun i1 =>
  (mM_push s0 s1 s2 h).bind fun h3 =>
  some h3
theorem mM_takeMany_65_ok {xs : Option (List Int32)} {s0 : Option Nat} {s1 : Int32} {s2 : Int32} {h : gx_H} {r : gx_H} (e : mM_takeMany_65 s0 s1 s2 h = some r) : gv_V xs 2 182 65 [] [.int s2, .int s1, gv_u s0] h (.returned none) r := by
  unfold mM_takeMany_65 at e
  obtain ⟨i1, qi1, e⟩ := gv_bind e
  obtain ⟨h3, qv2, e⟩ := gv_bind e
  refine gv_vS (jc := 164) (n := 2) (rest := []) (stk := []) (pc' := 68) rfl rfl rfl rfl rfl rfl rfl rfl rfl (gv_zR (gv_zI (gv_zI gv_z0))) rfl (gv_aR (gv_aI (gv_aI gv_a0))) (Nat.le_of_ble_eq_true rfl) qi1 (mM_push_ok qv2) rfl rfl ?_
  cases e
  exact gv_retV rfl rfl
def mM_takeMany_43 (l0 : Option Nat) (l1 : Int32) (l2 : Int32) (s0 : Int32) (h : gx_H) : Option gx_H :=
  (gv_gI h l0 7 31).bind fun v1 =>
  if v1 = 0 then (
    some h) else
  if l1 = (2 : Int32) then (
    mM_takeMany_65 l0 l2 ((2 : Int32) * s0) h) else
  mM_takeMany_65 l0 l2 s0 h
theorem mM_takeMany_43_ok {xs : Option (List Int32)} {l0 : Option Nat} {l1 : Int32} {l2 : Int32} {s0 : Int32} {h : gx_H} {r : gx_H} (e : mM_takeMany_43 l0 l1 l2 s0 h = some r) : gv_V xs 2 182 43 [(0, gv_u l0), (1, .int l1), (2, .int l2)] [.int s0] h (.returned none) r := by
  unfold mM_takeMany_43 at e
  refine gv_istn (pc' := 44) rfl rfl (gv_Ci rfl) rfl ?_
  refine gv_rldn (pc' := 45) rfl rfl rfl ?_
  obtain ⟨v1, qv1, e⟩ := gv_bind e
  refine gv_fI (pc' := 48) rfl rfl qv1 rfl ?_
  by_cases c2 : v1 = 0
  · rw [if_pos c2] at e
    refine gv_ifT (pc' := 68) rfl (gv_eqT c2) rfl ?_
    cases e
    exact gv_retV rfl rfl
  rw [if_neg c2] at e
  refine gv_ifF (pc' := 51) rfl (gv_eqF c2) rfl rfl ?_
  refine gv_rldn (pc' := 52) rfl rfl rfl ?_
  refine gv_ildn (pc' := 53) rfl rfl rfl ?_
  refine gv_ildn (pc' := 54) rfl rfl rfl ?_
  refine gv_ic (pc' := 55) (x := 2) rfl rfl rfl ?_
  by_cases c3 : l1 = (2 : Int32)
  · rw [if_pos c3] at e
    refine gv_cmF (pc' := 58) rfl (gv_neF2 c3) rfl rfl ?_
    refine gv_ic (pc' := 59) (x := 2) rfl rfl rfl ?_
    refine gv_ildn (pc' := 60) rfl rfl rfl ?_
    refine gv_imul (pc' := 61) rfl rfl ?_
    refine gv_goto (pc' := 65) rfl rfl ?_
    exact gv_weak (mM_takeMany_65_ok e) gv_S0
  rw [if_neg c3] at e
  refine gv_cmT (pc' := 64) rfl (gv_neT2 c3) rfl ?_
  refine gv_ildn (pc' := 65) rfl rfl rfl ?_
  exact gv_weak (mM_takeMany_65_ok e) gv_S0
def mM_takeMany_40 (l0 : Option Nat) (l1 : Int32) (l2 : Int32) (s0 : Option Nat) (s1 : Int32) (h : gx_H) : Option gx_H :=
  (gv_is h s0 7).bind fun i1 =>
  (mM_nextUpTo s0 s1 h).bind fun r4 =>
  mM_takeMany_43 l0 l1 l2 r4.1 r4.2
theorem mM_takeMany_40_ok {xs : Option (List Int32)} {l0 : Option Nat} {l1 : Int32} {l2 : Int32} {s0 : Option Nat} {s1 : Int32} {h : gx_H} {r : gx_H} (e : mM_takeMany_40 l0 l1 l2 s0 s1 h = some r) : gv_V xs 2 182 40 [(0, gv_u l0), (1, .int l1), (2, .int l2)] [.int s1, gv_u s0] h (.returned none) r := by
  unfold mM_takeMany_40 at e
  obtain ⟨i1, qi1, e⟩ := gv_bind e
  obtain ⟨⟨v2, h3⟩, qv2, e⟩ := gv_bind e
  refine gv_vS (jc := 180) (n := 1) (rest := []) (stk := [.int v2]) (pc' := 43) rfl rfl rfl rfl rfl rfl rfl rfl rfl (gv_zR (gv_zI gv_z0)) rfl (gv_aR (gv_aI gv_a0)) (Nat.le_of_ble_eq_true rfl) qi1 (mM_nextUpTo_ok qv2) rfl rfl ?_
  exact gv_weak (mM_takeMany_43_ok e) (gv_S1 rfl (gv_S1 rfl (gv_S1 rfl gv_S0)))
def mM_takeMany (l0 : Option Nat) (l1 : Int32) (h : gx_H) : Option gx_H :=
  (gv_is h l0 7).bind fun i1 =>
  (mM_nextObject l0 l1 h).bind fun r4 =>
  (gv_is r4.2 l0 7).bind fun i5 =>
  (mM_enroll l0 r4.1 r4.2).bind fun h7 =>
  if l1 = 0 then (
    mM_takeMany_43 l0 l1 r4.1 (0 : Int32) h7) else
  if l1 = (1 : Int32) then (
    mM_takeMany_40 l0 l1 r4.1 l0 (8 : Int32) h7) else
  if l1 = (2 : Int32) then (
    mM_takeMany_40 l0 l1 r4.1 l0 (4 : Int32) h7) else
  mM_takeMany_40 l0 l1 r4.1 l0 (5 : Int32) h7
theorem mM_takeMany_ok {xs : Option (List Int32)} {l0 : Option Nat} {l1 : Int32} {h : gx_H} {r : gx_H} (e : mM_takeMany l0 l1 h = some r) : gv_V xs 2 182 0 [(0, gv_u l0), (1, .int l1)] [] h (.returned none) r := by
  unfold mM_takeMany at e
  refine gv_rldn (pc' := 1) rfl rfl rfl ?_
  refine gv_ildn (pc' := 2) rfl rfl rfl ?_
  obtain ⟨i1, qi1, e⟩ := gv_bind e
  obtain ⟨⟨v2, h3⟩, qv2, e⟩ := gv_bind e
  refine gv_vS (jc := 173) (n := 1) (rest := []) (stk := [.int v2]) (pc' := 5) rfl rfl rfl rfl rfl rfl rfl rfl rfl (gv_zR (gv_zI gv_z0)) rfl (gv_aR (gv_aI gv_a0)) (Nat.le_of_ble_eq_true rfl) qi1 (mM_nextObject_ok qv2) rfl rfl ?_
  refine gv_istn (pc' := 6) rfl rfl (gv_Ci rfl) rfl ?_
  refine gv_rldn (pc' := 7) rfl rfl rfl ?_
  refine gv_ildn (pc' := 8) rfl rfl rfl ?_
  obtain ⟨i5, qi5, e⟩ := gv_bind e
  obtain ⟨h7, qv6, e⟩ := gv_bind e
  refine gv_vS (jc := 183) (n := 1) (rest := []) (stk := []) (pc' := 11) rfl rfl rfl rfl rfl rfl rfl rfl rfl (gv_zR (gv_zI gv_z0)) rfl (gv_aR (gv_aI gv_a0)) (Nat.le_of_ble_eq_true rfl) qi5 (mM_enroll_ok qv6) rfl rfl ?_
  refine gv_ildn (pc' := 12) rfl rfl rfl ?_
  by_cases c8 : l1 = 0
  · rw [if_pos c8] at e
    refine gv_ifF (pc' := 15) rfl (gv_neF c8) rfl rfl ?_
    refine gv_ic (pc' := 16) (x := 0) rfl rfl rfl ?_
    refine gv_goto (pc' := 43) rfl rfl ?_
    exact gv_weak (mM_takeMany_43_ok e) (gv_S1 rfl (gv_S1 rfl (gv_S1 rfl gv_S0)))
  rw [if_neg c8] at e
  refine gv_ifT (pc' := 19) rfl (gv_neT c8) rfl ?_
  refine gv_rldn (pc' := 20) rfl rfl rfl ?_
  refine gv_ildn (pc' := 21) rfl rfl rfl ?_
  refine gv_ic (pc' := 22) (x := 1) rfl rfl rfl ?_
  by_cases c9 : l1 = (1 : Int32)
  · rw [if_pos c9] at e
    refine gv_cmF (pc' := 25) rfl (gv_neF2 c9) rfl rfl ?_
    refine gv_bp (pc' := 27) (x := 8) rfl rfl rfl ?_
    refine gv_goto (pc' := 40) rfl rfl ?_
    exact gv_weak (mM_takeMany_40_ok e) (gv_S1 rfl (gv_S1 rfl (gv_S1 rfl gv_S0)))
  rw [if_neg c9] at e
  refine gv_cmT (pc' := 30) rfl (gv_neT2 c9) rfl ?_
  refine gv_ildn (pc' := 31) rfl rfl rfl ?_
  refine gv_ic (pc' := 32) (x := 2) rfl rfl rfl ?_
  by_cases c10 : l1 = (2 : Int32)
  · rw [if_pos c10] at e
    refine gv_cmF (pc' := 35) rfl (gv_neF2 c10) rfl rfl ?_
    refine gv_ic (pc' := 36) (x := 4) rfl rfl rfl ?_
    refine gv_goto (pc' := 40) rfl rfl ?_
    exact gv_weak (mM_takeMany_40_ok e) (gv_S1 rfl (gv_S1 rfl (gv_S1 rfl gv_S0)))
  rw [if_neg c10] at e
  refine gv_cmT (pc' := 39) rfl (gv_neT2 c10) rfl ?_
  refine gv_ic (pc' := 40) (x := 5) rfl rfl rfl ?_
  exact gv_weak (mM_takeMany_40_ok e) (gv_S1 rfl (gv_S1 rfl (gv_S1 rfl gv_S0)))
def mM_takeBuffer_75 (l0 : Option Nat) (l2 : Int32) (s0 : Option Nat) (s1 : Int32) (s2 : Int32) (h : gx_H) : Option gx_H :=
  (gv_wI h s0 s1 s2).bind fun h1 =>
  (gv_is h1 l0 7).bind fun i2 =>
  (mM_got l0 (6 : Int32) l2 h1).bind fun h4 =>
  some h4
theorem mM_takeBuffer_75_ok {xs : Option (List Int32)} {l0 : Option Nat} {l2 : Int32} {s0 : Option Nat} {s1 : Int32} {s2 : Int32} {h : gx_H} {r : gx_H} (e : mM_takeBuffer_75 l0 l2 s0 s1 s2 h = some r) : gv_V xs 2 184 75 [(0, gv_u l0), (2, .int l2)] [.int s2, .int s1, gv_u s0] h (.returned none) r := by
  unfold mM_takeBuffer_75 at e
  obtain ⟨h1, qh1, e⟩ := gv_bind e
  refine gv_iast (pc' := 76) rfl qh1 rfl ?_
  refine gv_rldn (pc' := 77) rfl rfl rfl ?_
  refine gv_bp (pc' := 79) (x := 6) rfl rfl rfl ?_
  refine gv_ildn (pc' := 80) rfl rfl rfl ?_
  obtain ⟨i2, qi2, e⟩ := gv_bind e
  obtain ⟨h4, qv3, e⟩ := gv_bind e
  refine gv_vS (jc := 176) (n := 2) (rest := []) (stk := []) (pc' := 83) rfl rfl rfl rfl rfl rfl rfl rfl rfl (gv_zR (gv_zI (gv_zI gv_z0))) rfl (gv_aR (gv_aI (gv_aI gv_a0))) (Nat.le_of_ble_eq_true rfl) qi2 (mM_got_ok qv3) rfl rfl ?_
  cases e
  exact gv_retV rfl rfl
def mM_takeBuffer_53 (l0 : Option Nat) (l1 : Int32) (l2 : Int32) (h : gx_H) : Option gx_H :=
  (gv_gR h l0 7 3).bind fun v1 =>
  (gv_gI h l0 7 31).bind fun v2 =>
  if v2 = 0 then (
    (gv_gR h l0 7 3).bind fun v4 =>
    (gv_lI h v4 l2).bind fun v5 =>
    mM_takeBuffer_75 l0 l2 v1 l2 v5 h) else
  mM_takeBuffer_75 l0 l2 v1 l2 l1 h
theorem mM_takeBuffer_53_ok {xs : Option (List Int32)} {l0 : Option Nat} {l1 : Int32} {l2 : Int32} {h : gx_H} {r : gx_H} (e : mM_takeBuffer_53 l0 l1 l2 h = some r) : gv_V xs 2 184 53 [(0, gv_u l0), (1, .int l1), (2, .int l2)] [] h (.returned none) r := by
  unfold mM_takeBuffer_53 at e
  refine gv_rldn (pc' := 54) rfl rfl rfl ?_
  obtain ⟨v1, qv1, e⟩ := gv_bind e
  refine gv_fR (pc' := 57) rfl rfl qv1 rfl ?_
  refine gv_ildn (pc' := 58) rfl rfl rfl ?_
  refine gv_rldn (pc' := 59) rfl rfl rfl ?_
  obtain ⟨v2, qv2, e⟩ := gv_bind e
  refine gv_fI (pc' := 62) rfl rfl qv2 rfl ?_
  by_cases c3 : v2 = 0
  · rw [if_pos c3] at e
    refine gv_ifT (pc' := 69) rfl (gv_eqT c3) rfl ?_
    refine gv_rldn (pc' := 70) rfl rfl rfl ?_
    obtain ⟨v4, qv4, e⟩ := gv_bind e
    refine gv_fR (pc' := 73) rfl rfl qv4 rfl ?_
    refine gv_ildn (pc' := 74) rfl rfl rfl ?_
    obtain ⟨v5, qv5, e⟩ := gv_bind e
    refine gv_iald (pc' := 75) rfl qv5 rfl ?_
    exact gv_weak (mM_takeBuffer_75_ok e) (gv_S1 rfl (gv_S1 rfl gv_S0))
  rw [if_neg c3] at e
  refine gv_ifF (pc' := 65) rfl (gv_eqF c3) rfl rfl ?_
  refine gv_ildn (pc' := 66) rfl rfl rfl ?_
  refine gv_goto (pc' := 75) rfl rfl ?_
  exact gv_weak (mM_takeBuffer_75_ok e) (gv_S1 rfl (gv_S1 rfl gv_S0))
def mM_takeBuffer_20 : Nat → Option Nat → Int32 → Int32 → Int32 → gx_H → Option gx_H
  | 0, _, _, _, _, _ => none
  | n + 1, l0, l1, l2, l3, h =>
    if l3 < l1 then (
      (gv_gI h l0 7 31).bind fun v2 =>
      if v2 = 0 then (
        mM_takeBuffer_53 l0 l1 l2 h) else
      (gv_gR h l0 7 9).bind fun v4 =>
      (gv_is h l0 7).bind fun i5 =>
      (mM_next l0 h).bind fun r8 =>
      (gv_wI r8.2 v4 (((8 : Int32) * l2) + l3) r8.1).bind fun h9 =>
      mM_takeBuffer_20 n l0 l1 l2 (l3 + 1) h9) else
    mM_takeBuffer_53 l0 l1 l2 h
theorem mM_takeBuffer_20_ok {xs : Option (List Int32)} : ∀ (n : Nat) (l0 : Option Nat) (l1 : Int32) (l2 : Int32) (l3 : Int32) (h : gx_H) (r : gx_H), mM_takeBuffer_20 n l0 l1 l2 l3 h = some r → gv_V xs 2 184 20 [(0, gv_u l0), (1, .int l1), (2, .int l2), (3, .int l3)] [] h (.returned none) r := by
  intro n
  induction n with
  | zero => intro l0 l1 l2 l3 h r e; cases e
  | succ n ih =>
    intro l0 l1 l2 l3 h r e
    rw [mM_takeBuffer_20] at e
    refine gv_ildn (pc' := 21) rfl rfl rfl ?_
    refine gv_ildn (pc' := 22) rfl rfl rfl ?_
    by_cases c1 : l3 < l1
    · rw [if_pos c1] at e
      refine gv_cmF (pc' := 25) rfl (gv_geF2 c1) rfl rfl ?_
      refine gv_rldn (pc' := 26) rfl rfl rfl ?_
      obtain ⟨v2, qv2, e⟩ := gv_bind e
      refine gv_fI (pc' := 29) rfl rfl qv2 rfl ?_
      by_cases c3 : v2 = 0
      · rw [if_pos c3] at e
        refine gv_ifT (pc' := 53) rfl (gv_eqT c3) rfl ?_
        exact gv_weak (mM_takeBuffer_53_ok e) (gv_S1 rfl (gv_S1 rfl (gv_S1 rfl gv_S0)))
      rw [if_neg c3] at e
      refine gv_ifF (pc' := 32) rfl (gv_eqF c3) rfl rfl ?_
      refine gv_rldn (pc' := 33) rfl rfl rfl ?_
      obtain ⟨v4, qv4, e⟩ := gv_bind e
      refine gv_fR (pc' := 36) rfl rfl qv4 rfl ?_
      refine gv_bp (pc' := 38) (x := 8) rfl rfl rfl ?_
      refine gv_ildn (pc' := 39) rfl rfl rfl ?_
      refine gv_imul (pc' := 40) rfl rfl ?_
      refine gv_ildn (pc' := 41) rfl rfl rfl ?_
      refine gv_iadd (pc' := 42) rfl rfl ?_
      refine gv_rldn (pc' := 43) rfl rfl rfl ?_
      obtain ⟨i5, qi5, e⟩ := gv_bind e
      obtain ⟨⟨v6, h7⟩, qv6, e⟩ := gv_bind e
      refine gv_vS (jc := 174) (n := 0) (rest := [.int (((8 : Int32) * l2) + l3), gv_u v4]) (stk := [.int v6, .int (((8 : Int32) * l2) + l3), gv_u v4]) (pc' := 46) rfl rfl rfl rfl rfl rfl rfl rfl rfl (gv_zR gv_z0) rfl (gv_aR gv_a0) (Nat.le_of_ble_eq_true rfl) qi5 (mM_next_ok qv6) rfl rfl ?_
      obtain ⟨h9, qh9, e⟩ := gv_bind e
      refine gv_iast (pc' := 47) rfl qh9 rfl ?_
      refine gv_inc (pc' := 50) (y := 1) rfl rfl rfl rfl (gv_Ci rfl) rfl ?_
      refine gv_goto (pc' := 20) rfl rfl ?_
      exact gv_weak (ih _ _ _ _ _ _ e) (gv_S1 rfl (gv_S1 rfl (gv_S1 rfl (gv_S1 rfl gv_S0))))
    rw [if_neg c1] at e
    refine gv_cmT (pc' := 53) rfl (gv_geT2 c1) rfl ?_
    exact gv_weak (mM_takeBuffer_53_ok e) (gv_S1 rfl (gv_S1 rfl (gv_S1 rfl gv_S0)))
def mM_takeBuffer (l0 : Option Nat) (h : gx_H) : Option gx_H :=
  (gv_is h l0 7).bind fun i1 =>
  (mM_nextUpTo l0 (8 : Int32) h).bind fun r4 =>
  (gv_is r4.2 l0 7).bind fun i5 =>
  (mM_nextObject l0 (4 : Int32) r4.2).bind fun r8 =>
  (gv_is r8.2 l0 7).bind fun i9 =>
  (mM_enroll l0 r8.1 r8.2).bind fun h11 =>
  mM_takeBuffer_20 1000000000000000 l0 r4.1 r8.1 (0 : Int32) h11
theorem mM_takeBuffer_ok {xs : Option (List Int32)} {l0 : Option Nat} {h : gx_H} {r : gx_H} (e : mM_takeBuffer l0 h = some r) : gv_V xs 2 184 0 [(0, gv_u l0)] [] h (.returned none) r := by
  unfold mM_takeBuffer at e
  refine gv_rldn (pc' := 1) rfl rfl rfl ?_
  refine gv_bp (pc' := 3) (x := 8) rfl rfl rfl ?_
  obtain ⟨i1, qi1, e⟩ := gv_bind e
  obtain ⟨⟨v2, h3⟩, qv2, e⟩ := gv_bind e
  refine gv_vS (jc := 180) (n := 1) (rest := []) (stk := [.int v2]) (pc' := 6) rfl rfl rfl rfl rfl rfl rfl rfl rfl (gv_zR (gv_zI gv_z0)) rfl (gv_aR (gv_aI gv_a0)) (Nat.le_of_ble_eq_true rfl) qi1 (mM_nextUpTo_ok qv2) rfl rfl ?_
  refine gv_istn (pc' := 7) rfl rfl (gv_Cr rfl) rfl ?_
  refine gv_rldn (pc' := 8) rfl rfl rfl ?_
  refine gv_ic (pc' := 9) (x := 4) rfl rfl rfl ?_
  obtain ⟨i5, qi5, e⟩ := gv_bind e
  obtain ⟨⟨v6, h7⟩, qv6, e⟩ := gv_bind e
  refine gv_vS (jc := 173) (n := 1) (rest := []) (stk := [.int v6]) (pc' := 12) rfl rfl rfl rfl rfl rfl rfl rfl rfl (gv_zR (gv_zI gv_z0)) rfl (gv_aR (gv_aI gv_a0)) (Nat.le_of_ble_eq_true rfl) qi5 (mM_nextObject_ok qv6) rfl rfl ?_
  refine gv_istn (pc' := 13) rfl rfl (gv_Ci rfl) rfl ?_
  refine gv_rldn (pc' := 14) rfl rfl rfl ?_
  refine gv_ildn (pc' := 15) rfl rfl rfl ?_
  obtain ⟨i9, qi9, e⟩ := gv_bind e
  obtain ⟨h11, qv10, e⟩ := gv_bind e
  refine gv_vS (jc := 183) (n := 1) (rest := []) (stk := []) (pc' := 18) rfl rfl rfl rfl rfl rfl rfl rfl rfl (gv_zR (gv_zI gv_z0)) rfl (gv_aR (gv_aI gv_a0)) (Nat.le_of_ble_eq_true rfl) qi9 (mM_enroll_ok qv10) rfl rfl ?_
  refine gv_ic (pc' := 19) (x := 0) rfl rfl rfl ?_
  refine gv_istn (pc' := 20) rfl rfl (gv_Ci rfl) rfl ?_
  exact gv_weak (mM_takeBuffer_20_ok 1000000000000000 _ _ _ _ _ _ e) (gv_S1 rfl (gv_S1 rfl (gv_S1 rfl (gv_S1 rfl gv_S0))))
def mM_takeStamp_36 (l0 : Option Nat) (l1 : Int32) (h : gx_H) : Option gx_H :=
  (gv_is h l0 7).bind fun i1 =>
  (mM_got l0 (6 : Int32) l1 h).bind fun h3 =>
  some h3
theorem mM_takeStamp_36_ok {xs : Option (List Int32)} {l0 : Option Nat} {l1 : Int32} {h : gx_H} {r : gx_H} (e : mM_takeStamp_36 l0 l1 h = some r) : gv_V xs 2 185 36 [(0, gv_u l0), (1, .int l1)] [] h (.returned none) r := by
  unfold mM_takeStamp_36 at e
  refine gv_rldn (pc' := 37) rfl rfl rfl ?_
  refine gv_bp (pc' := 39) (x := 6) rfl rfl rfl ?_
  refine gv_ildn (pc' := 40) rfl rfl rfl ?_
  obtain ⟨i1, qi1, e⟩ := gv_bind e
  obtain ⟨h3, qv2, e⟩ := gv_bind e
  refine gv_vS (jc := 176) (n := 2) (rest := []) (stk := []) (pc' := 43) rfl rfl rfl rfl rfl rfl rfl rfl rfl (gv_zR (gv_zI (gv_zI gv_z0))) rfl (gv_aR (gv_aI (gv_aI gv_a0))) (Nat.le_of_ble_eq_true rfl) qi1 (mM_got_ok qv2) rfl rfl ?_
  cases e
  exact gv_retV rfl rfl
def mM_takeStamp (l0 : Option Nat) (h : gx_H) : Option gx_H :=
  (gv_is h l0 7).bind fun i1 =>
  (mM_nextObject l0 (6 : Int32) h).bind fun r4 =>
  (gv_is r4.2 l0 7).bind fun i5 =>
  (mM_enroll l0 r4.1 r4.2).bind fun h7 =>
  (gv_is h7 l0 7).bind fun i8 =>
  (mM_lengthy l0 (64 : Int32) h7).bind fun r11 =>
  (mM_plain r11.1).bind fun v12 =>
  (gv_gI r11.2 l0 7 31).bind fun v13 =>
  if v13 = 0 then (
    mM_takeStamp_36 l0 r4.1 r11.2) else
  (gv_gR r11.2 l0 7 5).bind fun v15 =>
  (gv_wJ r11.2 v15 r4.1 v12).bind fun h16 =>
  mM_takeStamp_36 l0 r4.1 h16
theorem mM_takeStamp_ok {xs : Option (List Int32)} {l0 : Option Nat} {h : gx_H} {r : gx_H} (e : mM_takeStamp l0 h = some r) : gv_V xs 2 185 0 [(0, gv_u l0)] [] h (.returned none) r := by
  unfold mM_takeStamp at e
  refine gv_rldn (pc' := 1) rfl rfl rfl ?_
  refine gv_bp (pc' := 3) (x := 6) rfl rfl rfl ?_
  obtain ⟨i1, qi1, e⟩ := gv_bind e
  obtain ⟨⟨v2, h3⟩, qv2, e⟩ := gv_bind e
  refine gv_vS (jc := 173) (n := 1) (rest := []) (stk := [.int v2]) (pc' := 6) rfl rfl rfl rfl rfl rfl rfl rfl rfl (gv_zR (gv_zI gv_z0)) rfl (gv_aR (gv_aI gv_a0)) (Nat.le_of_ble_eq_true rfl) qi1 (mM_nextObject_ok qv2) rfl rfl ?_
  refine gv_istn (pc' := 7) rfl rfl (gv_Cr rfl) rfl ?_
  refine gv_rldn (pc' := 8) rfl rfl rfl ?_
  refine gv_ildn (pc' := 9) rfl rfl rfl ?_
  obtain ⟨i5, qi5, e⟩ := gv_bind e
  obtain ⟨h7, qv6, e⟩ := gv_bind e
  refine gv_vS (jc := 183) (n := 1) (rest := []) (stk := []) (pc' := 12) rfl rfl rfl rfl rfl rfl rfl rfl rfl (gv_zR (gv_zI gv_z0)) rfl (gv_aR (gv_aI gv_a0)) (Nat.le_of_ble_eq_true rfl) qi5 (mM_enroll_ok qv6) rfl rfl ?_
  refine gv_rldn (pc' := 13) rfl rfl rfl ?_
  refine gv_bp (pc' := 15) (x := 64) rfl rfl rfl ?_
  obtain ⟨i8, qi8, e⟩ := gv_bind e
  obtain ⟨⟨v9, h10⟩, qv9, e⟩ := gv_bind e
  refine gv_vS (jc := 177) (n := 1) (rest := []) (stk := [.long v9]) (pc' := 18) rfl rfl rfl rfl rfl rfl rfl rfl rfl (gv_zR (gv_zI gv_z0)) rfl (gv_aR (gv_aI gv_a0)) (Nat.le_of_ble_eq_true rfl) qi8 (mM_lengthy_ok qv9) rfl rfl ?_
  obtain ⟨v12, qv12, e⟩ := gv_bind e
  refine gv_sS (jc := 178) (n := 1) (rest := []) (stk := [.long v12]) (pc' := 21) rfl rfl rfl rfl rfl rfl rfl rfl rfl (gv_zJ gv_z0) rfl (gv_aJ gv_a0) (Nat.le_of_ble_eq_true rfl) (mM_plain_ok qv12) rfl rfl ?_
  refine gv_jstn (pc' := 22) rfl rfl (gv_Ci rfl) rfl rfl ?_
  refine gv_rldn (pc' := 23) rfl rfl rfl ?_
  obtain ⟨v13, qv13, e⟩ := gv_bind e
  refine gv_fI (pc' := 26) rfl rfl qv13 rfl ?_
  by_cases c14 : v13 = 0
  · rw [if_pos c14] at e
    refine gv_ifT (pc' := 36) rfl (gv_eqT c14) rfl ?_
    exact gv_weak (mM_takeStamp_36_ok e) (gv_S1 rfl (gv_S1 rfl gv_S0))
  rw [if_neg c14] at e
  refine gv_ifF (pc' := 29) rfl (gv_eqF c14) rfl rfl ?_
  refine gv_rldn (pc' := 30) rfl rfl rfl ?_
  obtain ⟨v15, qv15, e⟩ := gv_bind e
  refine gv_fR (pc' := 33) rfl rfl qv15 rfl ?_
  refine gv_ildn (pc' := 34) rfl rfl rfl ?_
  refine gv_jldn (pc' := 35) rfl rfl rfl ?_
  obtain ⟨h16, qh16, e⟩ := gv_bind e
  refine gv_last (pc' := 36) rfl qh16 rfl ?_
  exact gv_weak (mM_takeStamp_36_ok e) (gv_S1 rfl (gv_S1 rfl gv_S0))
def mM_takeValue_261 (l0 : Option Nat) (s0 : Option Nat) (s1 : Int32) (h : gx_H) : Option (Int32 × gx_H) :=
  if ¬ (s1 = 0 ∨ s1 = 1) then none else
  (gv_pV h s0 7 31 (.int s1)).bind fun h1 =>
  (gv_is h1 l0 7).bind fun i3 =>
  (mM_push l0 (-1 : Int32) (1 : Int32) h1).bind fun h5 =>
  some ((0 : Int32), h5)
theorem mM_takeValue_261_ok {xs : Option (List Int32)} {l0 : Option Nat} {s0 : Option Nat} {s1 : Int32} {h : gx_H} {r : (Int32 × gx_H)} (e : mM_takeValue_261 l0 s0 s1 h = some r) : gv_V xs 3 175 261 [(0, gv_u l0)] [.int s1, gv_u s0] h (.returned (some (.int r.1))) r.2 := by
  unfold mM_takeValue_261 at e
  by_cases c2 : ¬ (s1 = 0 ∨ s1 = 1)
  · rw [if_pos c2] at e; cases e
  rw [if_neg c2] at e
  obtain ⟨h1, qh1, e⟩ := gv_bind e
  refine gv_pZ (pc' := 264) rfl rfl rfl (Decidable.of_not_not c2) qh1 rfl ?_
  refine gv_rldn (pc' := 265) rfl rfl rfl ?_
  refine gv_ic (pc' := 266) (x := -1) rfl rfl rfl ?_
  refine gv_ic (pc' := 267) (x := 1) rfl rfl rfl ?_
  obtain ⟨i3, qi3, e⟩ := gv_bind e
  obtain ⟨h5, qv4, e⟩ := gv_bind e
  refine gv_vS (jc := 164) (n := 2) (rest := []) (stk := []) (pc' := 270) rfl rfl rfl rfl rfl rfl rfl rfl rfl (gv_zR (gv_zI (gv_zI gv_z0))) rfl (gv_aR (gv_aI (gv_aI gv_a0))) (Nat.le_of_ble_eq_true rfl) qi3 (mM_push_ok qv4) rfl rfl ?_
  refine gv_ic (pc' := 271) (x := 0) rfl rfl rfl ?_
  cases e
  exact gv_retZ rfl rfl (by decide)
def mM_takeValue_260 (l0 : Option Nat) (s0 : Option Nat) (h : gx_H) : Option (Int32 × gx_H) :=
  mM_takeValue_261 l0 s0 (0 : Int32) h
theorem mM_takeValue_260_ok {xs : Option (List Int32)} {l0 : Option Nat} {s0 : Option Nat} {h : gx_H} {r : (Int32 × gx_H)} (e : mM_takeValue_260 l0 s0 h = some r) : gv_V xs 3 175 260 [(0, gv_u l0)] [gv_u s0] h (.returned (some (.int r.1))) r.2 := by
  unfold mM_takeValue_260 at e
  refine gv_ic (pc' := 261) (x := 0) rfl rfl rfl ?_
  exact gv_weak (mM_takeValue_261_ok e) (gv_S1 rfl gv_S0)
def mM_takeValue_44 (l0 : Option Nat) (l1 : Int32) (s0 : Int32) (h : gx_H) : Option (Int32 × gx_H) :=
  if s0 = (0 : Int32) then (
    (gv_is h l0 7).bind fun i2 =>
    (mM_got l0 l1 (0 : Int32) h).bind fun h4 =>
    some ((1 : Int32), h4)) else
  if s0 = (1 : Int32) then (
    (gv_is h l0 7).bind fun i6 =>
    (mM_got l0 l1 (0 : Int32) h).bind fun h8 =>
    some ((1 : Int32), h8)) else
  if s0 = (2 : Int32) then (
    (gv_is h l0 7).bind fun i10 =>
    (mM_got l0 l1 (0 : Int32) h).bind fun h12 =>
    some ((1 : Int32), h12)) else
  if s0 = (3 : Int32) then (
    (gv_is h l0 7).bind fun i14 =>
    (mM_got l0 l1 (0 : Int32) h).bind fun h16 =>
    some ((1 : Int32), h16)) else
  if s0 = (4 : Int32) then (
    (gv_is h l0 7).bind fun i18 =>
    (mM_lengthy l0 (32 : Int32) h).bind fun r21 =>
    (mM_plain r21.1).bind fun v22 =>
    (gv_is r21.2 l0 7).bind fun i23 =>
    (mM_got l0 (4 : Int32) (Int64.toInt32 v22) r21.2).bind fun h25 =>
    some ((1 : Int32), h25)) else
  if s0 = (5 : Int32) then (
    (gv_is h l0 7).bind fun i27 =>
    (mM_text l0 h).bind fun r30 =>
    (gv_is r30.2 l0 7).bind fun i31 =>
    (mM_got l0 (5 : Int32) r30.1 r30.2).bind fun h33 =>
    some ((1 : Int32), h33)) else
  if s0 = (6 : Int32) then (
    (gv_gI h l0 7 29).bind fun v35 =>
    (gv_is h l0 7).bind fun i36 =>
    (mM_takePlace l0 v35 (0 : Int32) h).bind fun h38 =>
    some ((1 : Int32), h38)) else
  if s0 = (7 : Int32) then (
    (gv_gI h l0 7 12).bind fun v40 =>
    (gv_is h l0 7).bind fun i41 =>
    (mM_takePlace l0 v40 (1 : Int32) h).bind fun h43 =>
    some ((1 : Int32), h43)) else
  if s0 = (8 : Int32) then (
    (gv_is h l0 7).bind fun i45 =>
    (mM_takeMany l0 (l1 - (8 : Int32)) h).bind fun h47 =>
    some ((0 : Int32), h47)) else
  if s0 = (9 : Int32) then (
    (gv_is h l0 7).bind fun i49 =>
    (mM_takeMany l0 (l1 - (8 : Int32)) h).bind fun h51 =>
    some ((0 : Int32), h51)) else
  if s0 = (10 : Int32) then (
    (gv_is h l0 7).bind fun i53 =>
    (mM_takeMany l0 (l1 - (8 : Int32)) h).bind fun h55 =>
    some ((0 : Int32), h55)) else
  if s0 = (11 : Int32) then (
    (gv_is h l0 7).bind fun i57 =>
    (mM_takeMany l0 (l1 - (8 : Int32)) h).bind fun h59 =>
    some ((0 : Int32), h59)) else
  if s0 = (12 : Int32) then (
    (gv_is h l0 7).bind fun i61 =>
    (mM_takeBuffer l0 h).bind fun h63 =>
    some ((1 : Int32), h63)) else
  if s0 = (13 : Int32) then (
    (gv_gR h l0 7 23).bind fun v65 =>
    (gv_gI h l0 7 18).bind fun v66 =>
    (gv_is h l0 7).bind fun i67 =>
    (mM_next l0 h).bind fun r70 =>
    (gv_wI r70.2 v65 v66 r70.1).bind fun h71 =>
    (gv_gR h71 l0 7 24).bind fun v72 =>
    (gv_gI h71 l0 7 18).bind fun v73 =>
    (gv_is h71 l0 7).bind fun i74 =>
    (mM_next l0 h71).bind fun r77 =>
    (gv_wI r77.2 v72 v73 r77.1).bind fun h78 =>
    (gv_gR h78 l0 7 25).bind fun v79 =>
    (gv_gI h78 l0 7 18).bind fun v80 =>
    (gv_is h78 l0 7).bind fun i81 =>
    (mM_next l0 h78).bind fun r84 =>
    (gv_wI r84.2 v79 v80 r84.1).bind fun h85 =>
    (gv_gI h85 l0 7 31).bind fun v86 =>
    if v86 = 0 then (
      mM_takeValue_260 l0 l0 h85) else
    (gv_gR h85 l0 7 23).bind fun v88 =>
    (gv_gI h85 l0 7 18).bind fun v89 =>
    (gv_lI h85 v88 v89).bind fun v90 =>
    (mM_isUnit v90).bind fun v91 =>
    if v91 = 0 then (
      mM_takeValue_260 l0 l0 h85) else
    mM_takeValue_261 l0 l0 (1 : Int32) h85) else
  if s0 = (14 : Int32) then (
    (gv_is h l0 7).bind fun i94 =>
    (mM_takeStamp l0 h).bind fun h96 =>
    some ((1 : Int32), h96)) else
  (gv_pV h l0 7 31 (.int (0 : Int32))).bind fun h97 =>
  some ((1 : Int32), h97)
theorem mM_takeValue_44_ok {xs : Option (List Int32)} {l0 : Option Nat} {l1 : Int32} {s0 : Int32} {h : gx_H} {r : (Int32 × gx_H)} (e : mM_takeValue_44 l0 l1 s0 h = some r) : gv_V xs 3 175 44 [(0, gv_u l0), (1, .int l1)] [.int s0] h (.returned (some (.int r.1))) r.2 := by
  unfold mM_takeValue_44 at e
  by_cases c1 : s0 = (0 : Int32)
  · rw [if_pos c1] at e
    refine gv_sw (pc' := 120) (off := 76) rfl (by rw [c1]; rfl) rfl ?_
    refine gv_rldn (pc' := 121) rfl rfl rfl ?_
    refine gv_ildn (pc' := 122) rfl rfl rfl ?_
    refine gv_ic (pc' := 123) (x := 0) rfl rfl rfl ?_
    obtain ⟨i2, qi2, e⟩ := gv_bind e
    obtain ⟨h4, qv3, e⟩ := gv_bind e
    refine gv_vS (jc := 176) (n := 2) (rest := []) (stk := []) (pc' := 126) rfl rfl rfl rfl rfl rfl rfl rfl rfl (gv_zR (gv_zI (gv_zI gv_z0))) rfl (gv_aR (gv_aI (gv_aI gv_a0))) (Nat.le_of_ble_eq_true rfl) qi2 (mM_got_ok qv3) rfl rfl ?_
    refine gv_ic (pc' := 127) (x := 1) rfl rfl rfl ?_
    cases e
    exact gv_retZ rfl rfl (by decide)
  rw [if_neg c1] at e
  by_cases c5 : s0 = (1 : Int32)
  · rw [if_pos c5] at e
    refine gv_sw (pc' := 120) (off := 76) rfl (by rw [c5]; rfl) rfl ?_
    refine gv_rldn (pc' := 121) rfl rfl rfl ?_
    refine gv_ildn (pc' := 122) rfl rfl rfl ?_
    refine gv_ic (pc' := 123) (x := 0) rfl rfl rfl ?_
    obtain ⟨i6, qi6, e⟩ := gv_bind e
    obtain ⟨h8, qv7, e⟩ := gv_bind e
    refine gv_vS (jc := 176) (n := 2) (rest := []) (stk := []) (pc' := 126) rfl rfl rfl rfl rfl rfl rfl rfl rfl (gv_zR (gv_zI (gv_zI gv_z0))) rfl (gv_aR (gv_aI (gv_aI gv_a0))) (Nat.le_of_ble_eq_true rfl) qi6 (mM_got_ok qv7) rfl rfl ?_
    refine gv_ic (pc' := 127) (x := 1) rfl rfl rfl ?_
    cases e
    exact gv_retZ rfl rfl (by decide)
  rw [if_neg c5] at e
  by_cases c9 : s0 = (2 : Int32)
  · rw [if_pos c9] at e
    refine gv_sw (pc' := 120) (off := 76) rfl (by rw [c9]; rfl) rfl ?_
    refine gv_rldn (pc' := 121) rfl rfl rfl ?_
    refine gv_ildn (pc' := 122) rfl rfl rfl ?_
    refine gv_ic (pc' := 123) (x := 0) rfl rfl rfl ?_
    obtain ⟨i10, qi10, e⟩ := gv_bind e
    obtain ⟨h12, qv11, e⟩ := gv_bind e
    refine gv_vS (jc := 176) (n := 2) (rest := []) (stk := []) (pc' := 126) rfl rfl rfl rfl rfl rfl rfl rfl rfl (gv_zR (gv_zI (gv_zI gv_z0))) rfl (gv_aR (gv_aI (gv_aI gv_a0))) (Nat.le_of_ble_eq_true rfl) qi10 (mM_got_ok qv11) rfl rfl ?_
    refine gv_ic (pc' := 127) (x := 1) rfl rfl rfl ?_
    cases e
    exact gv_retZ rfl rfl (by decide)
  rw [if_neg c9] at e
  by_cases c13 : s0 = (3 : Int32)
  · rw [if_pos c13] at e
    refine gv_sw (pc' := 120) (off := 76) rfl (by rw [c13]; rfl) rfl ?_
    refine gv_rldn (pc' := 121) rfl rfl rfl ?_
    refine gv_ildn (pc' := 122) rfl rfl rfl ?_
    refine gv_ic (pc' := 123) (x := 0) rfl rfl rfl ?_
    obtain ⟨i14, qi14, e⟩ := gv_bind e
    obtain ⟨h16, qv15, e⟩ := gv_bind e
    refine gv_vS (jc := 176) (n := 2) (rest := []) (stk := []) (pc' := 126) rfl rfl rfl rfl rfl rfl rfl rfl rfl (gv_zR (gv_zI (gv_zI gv_z0))) rfl (gv_aR (gv_aI (gv_aI gv_a0))) (Nat.le_of_ble_eq_true rfl) qi14 (mM_got_ok qv15) rfl rfl ?_
    refine gv_ic (pc' := 127) (x := 1) rfl rfl rfl ?_
    cases e
    exact gv_retZ rfl rfl (by decide)
  rw [if_neg c13] at e
  by_cases c17 : s0 = (4 : Int32)
  · rw [if_pos c17] at e
    refine gv_sw (pc' := 128) (off := 84) rfl (by rw [c17]; rfl) rfl ?_
    refine gv_rldn (pc' := 129) rfl rfl rfl ?_
    refine gv_ic (pc' := 130) (x := 4) rfl rfl rfl ?_
    refine gv_rldn (pc' := 131) rfl rfl rfl ?_
    refine gv_bp (pc' := 133) (x := 32) rfl rfl rfl ?_
    obtain ⟨i18, qi18, e⟩ := gv_bind e
    obtain ⟨⟨v19, h20⟩, qv19, e⟩ := gv_bind e
    refine gv_vS (jc := 177) (n := 1) (rest := [.int (4 : Int32), gv_u l0]) (stk := [.long v19, .int (4 : Int32), gv_u l0]) (pc' := 136) rfl rfl rfl rfl rfl rfl rfl rfl rfl (gv_zR (gv_zI gv_z0)) rfl (gv_aR (gv_aI gv_a0)) (Nat.le_of_ble_eq_true rfl) qi18 (mM_lengthy_ok qv19) rfl rfl ?_
    obtain ⟨v22, qv22, e⟩ := gv_bind e
    refine gv_sS (jc := 178) (n := 1) (rest := [.int (4 : Int32), gv_u l0]) (stk := [.long v22, .int (4 : Int32), gv_u l0]) (pc' := 139) rfl rfl rfl rfl rfl rfl rfl rfl rfl (gv_zJ gv_z0) rfl (gv_aJ gv_a0) (Nat.le_of_ble_eq_true rfl) (mM_plain_ok qv22) rfl rfl ?_
    refine gv_l2i (pc' := 140) rfl rfl ?_
    obtain ⟨i23, qi23, e⟩ := gv_bind e
    obtain ⟨h25, qv24, e⟩ := gv_bind e
    refine gv_vS (jc := 176) (n := 2) (rest := []) (stk := []) (pc' := 143) rfl rfl rfl rfl rfl rfl rfl rfl rfl (gv_zR (gv_zI (gv_zI gv_z0))) rfl (gv_aR (gv_aI (gv_aI gv_a0))) (Nat.le_of_ble_eq_true rfl) qi23 (mM_got_ok qv24) rfl rfl ?_
    refine gv_ic (pc' := 144) (x := 1) rfl rfl rfl ?_
    cases e
    exact gv_retZ rfl rfl (by decide)
  rw [if_neg c17] at e
  by_cases c26 : s0 = (5 : Int32)
  · rw [if_pos c26] at e
    refine gv_sw (pc' := 145) (off := 101) rfl (by rw [c26]; rfl) rfl ?_
    refine gv_rldn (pc' := 146) rfl rfl rfl ?_
    refine gv_ic (pc' := 147) (x := 5) rfl rfl rfl ?_
    refine gv_rldn (pc' := 148) rfl rfl rfl ?_
    obtain ⟨i27, qi27, e⟩ := gv_bind e
    obtain ⟨⟨v28, h29⟩, qv28, e⟩ := gv_bind e
    refine gv_vS (jc := 179) (n := 0) (rest := [.int (5 : Int32), gv_u l0]) (stk := [.int v28, .int (5 : Int32), gv_u l0]) (pc' := 151) rfl rfl rfl rfl rfl rfl rfl rfl rfl (gv_zR gv_z0) rfl (gv_aR gv_a0) (Nat.le_of_ble_eq_true rfl) qi27 (mM_text_ok qv28) rfl rfl ?_
    obtain ⟨i31, qi31, e⟩ := gv_bind e
    obtain ⟨h33, qv32, e⟩ := gv_bind e
    refine gv_vS (jc := 176) (n := 2) (rest := []) (stk := []) (pc' := 154) rfl rfl rfl rfl rfl rfl rfl rfl rfl (gv_zR (gv_zI (gv_zI gv_z0))) rfl (gv_aR (gv_aI (gv_aI gv_a0))) (Nat.le_of_ble_eq_true rfl) qi31 (mM_got_ok qv32) rfl rfl ?_
    refine gv_ic (pc' := 155) (x := 1) rfl rfl rfl ?_
    cases e
    exact gv_retZ rfl rfl (by decide)
  rw [if_neg c26] at e
  by_cases c34 : s0 = (6 : Int32)
  · rw [if_pos c34] at e
    refine gv_sw (pc' := 156) (off := 112) rfl (by rw [c34]; rfl) rfl ?_
    refine gv_rldn (pc' := 157) rfl rfl rfl ?_
    refine gv_rldn (pc' := 158) rfl rfl rfl ?_
    obtain ⟨v35, qv35, e⟩ := gv_bind e
    refine gv_fI (pc' := 161) rfl rfl qv35 rfl ?_
    refine gv_ic (pc' := 162) (x := 0) rfl rfl rfl ?_
    obtain ⟨i36, qi36, e⟩ := gv_bind e
    obtain ⟨h38, qv37, e⟩ := gv_bind e
    refine gv_vS (jc := 181) (n := 2) (rest := []) (stk := []) (pc' := 165) rfl rfl rfl rfl rfl rfl rfl rfl rfl (gv_zR (gv_zI (gv_zI gv_z0))) rfl (gv_aR (gv_aI (gv_aI gv_a0))) (Nat.le_of_ble_eq_true rfl) qi36 (mM_takePlace_ok qv37) rfl rfl ?_
    refine gv_ic (pc' := 166) (x := 1) rfl rfl rfl ?_
    cases e
    exact gv_retZ rfl rfl (by decide)
  rw [if_neg c34] at e
  by_cases c39 : s0 = (7 : Int32)
  · rw [if_pos c39] at e
    refine gv_sw (pc' := 167) (off := 123) rfl (by rw [c39]; rfl) rfl ?_
    refine gv_rldn (pc' := 168) rfl rfl rfl ?_
    refine gv_rldn (pc' := 169) rfl rfl rfl ?_
    obtain ⟨v40, qv40, e⟩ := gv_bind e
    refine gv_fI (pc' := 172) rfl rfl qv40 rfl ?_
    refine gv_ic (pc' := 173) (x := 1) rfl rfl rfl ?_
    obtain ⟨i41, qi41, e⟩ := gv_bind e
    obtain ⟨h43, qv42, e⟩ := gv_bind e
    refine gv_vS (jc := 181) (n := 2) (rest := []) (stk := []) (pc' := 176) rfl rfl rfl rfl rfl rfl rfl rfl rfl (gv_zR (gv_zI (gv_zI gv_z0))) rfl (gv_aR (gv_aI (gv_aI gv_a0))) (Nat.le_of_ble_eq_true rfl) qi41 (mM_takePlace_ok qv42) rfl rfl ?_
    refine gv_ic (pc' := 177) (x := 1) rfl rfl rfl ?_
    cases e
    exact gv_retZ rfl rfl (by decide)
  rw [if_neg c39] at e
  by_cases c44 : s0 = (8 : Int32)
  · rw [if_pos c44] at e
    refine gv_sw (pc' := 178) (off := 134) rfl (by rw [c44]; rfl) rfl ?_
    refine gv_rldn (pc' := 179) rfl rfl rfl ?_
    refine gv_ildn (pc' := 180) rfl rfl rfl ?_
    refine gv_bp (pc' := 182) (x := 8) rfl rfl rfl ?_
    refine gv_isub (pc' := 183) rfl rfl ?_
    obtain ⟨i45, qi45, e⟩ := gv_bind e
    obtain ⟨h47, qv46, e⟩ := gv_bind e
    refine gv_vS (jc := 182) (n := 1) (rest := []) (stk := []) (pc' := 186) rfl rfl rfl rfl rfl rfl rfl rfl rfl (gv_zR (gv_zI gv_z0)) rfl (gv_aR (gv_aI gv_a0)) (Nat.le_of_ble_eq_true rfl) qi45 (mM_takeMany_ok qv46) rfl rfl ?_
    refine gv_ic (pc' := 187) (x := 0) rfl rfl rfl ?_
    cases e
    exact gv_retZ rfl rfl (by decide)
  rw [if_neg c44] at e
  by_cases c48 : s0 = (9 : Int32)
  · rw [if_pos c48] at e
    refine gv_sw (pc' := 178) (off := 134) rfl (by rw [c48]; rfl) rfl ?_
    refine gv_rldn (pc' := 179) rfl rfl rfl ?_
    refine gv_ildn (pc' := 180) rfl rfl rfl ?_
    refine gv_bp (pc' := 182) (x := 8) rfl rfl rfl ?_
    refine gv_isub (pc' := 183) rfl rfl ?_
    obtain ⟨i49, qi49, e⟩ := gv_bind e
    obtain ⟨h51, qv50, e⟩ := gv_bind e
    refine gv_vS (jc := 182) (n := 1) (rest := []) (stk := []) (pc' := 186) rfl rfl rfl rfl rfl rfl rfl rfl rfl (gv_zR (gv_zI gv_z0)) rfl (gv_aR (gv_aI gv_a0)) (Nat.le_of_ble_eq_true rfl) qi49 (mM_takeMany_ok qv50) rfl rfl ?_
    refine gv_ic (pc' := 187) (x := 0) rfl rfl rfl ?_
    cases e
    exact gv_retZ rfl rfl (by decide)
  rw [if_neg c48] at e
  by_cases c52 : s0 = (10 : Int32)
  · rw [if_pos c52] at e
    refine gv_sw (pc' := 178) (off := 134) rfl (by rw [c52]; rfl) rfl ?_
    refine gv_rldn (pc' := 179) rfl rfl rfl ?_
    refine gv_ildn (pc' := 180) rfl rfl rfl ?_
    refine gv_bp (pc' := 182) (x := 8) rfl rfl rfl ?_
    refine gv_isub (pc' := 183) rfl rfl ?_
    obtain ⟨i53, qi53, e⟩ := gv_bind e
    obtain ⟨h55, qv54, e⟩ := gv_bind e
    refine gv_vS (jc := 182) (n := 1) (rest := []) (stk := []) (pc' := 186) rfl rfl rfl rfl rfl rfl rfl rfl rfl (gv_zR (gv_zI gv_z0)) rfl (gv_aR (gv_aI gv_a0)) (Nat.le_of_ble_eq_true rfl) qi53 (mM_takeMany_ok qv54) rfl rfl ?_
    refine gv_ic (pc' := 187) (x := 0) rfl rfl rfl ?_
    cases e
    exact gv_retZ rfl rfl (by decide)
  rw [if_neg c52] at e
  by_cases c56 : s0 = (11 : Int32)
  · rw [if_pos c56] at e
    refine gv_sw (pc' := 178) (off := 134) rfl (by rw [c56]; rfl) rfl ?_
    refine gv_rldn (pc' := 179) rfl rfl rfl ?_
    refine gv_ildn (pc' := 180) rfl rfl rfl ?_
    refine gv_bp (pc' := 182) (x := 8) rfl rfl rfl ?_
    refine gv_isub (pc' := 183) rfl rfl ?_
    obtain ⟨i57, qi57, e⟩ := gv_bind e
    obtain ⟨h59, qv58, e⟩ := gv_bind e
    refine gv_vS (jc := 182) (n := 1) (rest := []) (stk := []) (pc' := 186) rfl rfl rfl rfl rfl rfl rfl rfl rfl (gv_zR (gv_zI gv_z0)) rfl (gv_aR (gv_aI gv_a0)) (Nat.le_of_ble_eq_true rfl) qi57 (mM_takeMany_ok qv58) rfl rfl ?_
    refine gv_ic (pc' := 187) (x := 0) rfl rfl rfl ?_
    cases e
    exact gv_retZ rfl rfl (by decide)
  rw [if_neg c56] at e
  by_cases c60 : s0 = (12 : Int32)
  · rw [if_pos c60] at e
    refine gv_sw (pc' := 188) (off := 144) rfl (by rw [c60]; rfl) rfl ?_
    refine gv_rldn (pc' := 189) rfl rfl rfl ?_
    obtain ⟨i61, qi61, e⟩ := gv_bind e
    obtain ⟨h63, qv62, e⟩ := gv_bind e
    refine gv_vS (jc := 184) (n := 0) (rest := []) (stk := []) (pc' := 192) rfl rfl rfl rfl rfl rfl rfl rfl rfl (gv_zR gv_z0) rfl (gv_aR gv_a0) (Nat.le_of_ble_eq_true rfl) qi61 (mM_takeBuffer_ok qv62) rfl rfl ?_
    refine gv_ic (pc' := 193) (x := 1) rfl rfl rfl ?_
    cases e
    exact gv_retZ rfl rfl (by decide)
  rw [if_neg c60] at e
  by_cases c64 : s0 = (13 : Int32)
  · rw [if_pos c64] at e
    refine gv_sw (pc' := 194) (off := 150) rfl (by rw [c64]; rfl) rfl ?_
    refine gv_rldn (pc' := 195) rfl rfl rfl ?_
    obtain ⟨v65, qv65, e⟩ := gv_bind e
    refine gv_fR (pc' := 198) rfl rfl qv65 rfl ?_
    refine gv_rldn (pc' := 199) rfl rfl rfl ?_
    obtain ⟨v66, qv66, e⟩ := gv_bind e
    refine gv_fI (pc' := 202) rfl rfl qv66 rfl ?_
    refine gv_rldn (pc' := 203) rfl rfl rfl ?_
    obtain ⟨i67, qi67, e⟩ := gv_bind e
    obtain ⟨⟨v68, h69⟩, qv68, e⟩ := gv_bind e
    refine gv_vS (jc := 174) (n := 0) (rest := [.int v66, gv_u v65]) (stk := [.int v68, .int v66, gv_u v65]) (pc' := 206) rfl rfl rfl rfl rfl rfl rfl rfl rfl (gv_zR gv_z0) rfl (gv_aR gv_a0) (Nat.le_of_ble_eq_true rfl) qi67 (mM_next_ok qv68) rfl rfl ?_
    obtain ⟨h71, qh71, e⟩ := gv_bind e
    refine gv_iast (pc' := 207) rfl qh71 rfl ?_
    refine gv_rldn (pc' := 208) rfl rfl rfl ?_
    obtain ⟨v72, qv72, e⟩ := gv_bind e
    refine gv_fR (pc' := 211) rfl rfl qv72 rfl ?_
    refine gv_rldn (pc' := 212) rfl rfl rfl ?_
    obtain ⟨v73, qv73, e⟩ := gv_bind e
    refine gv_fI (pc' := 215) rfl rfl qv73 rfl ?_
    refine gv_rldn (pc' := 216) rfl rfl rfl ?_
    obtain ⟨i74, qi74, e⟩ := gv_bind e
    obtain ⟨⟨v75, h76⟩, qv75, e⟩ := gv_bind e
    refine gv_vS (jc := 174) (n := 0) (rest := [.int v73, gv_u v72]) (stk := [.int v75, .int v73, gv_u v72]) (pc' := 219) rfl rfl rfl rfl rfl rfl rfl rfl rfl (gv_zR gv_z0) rfl (gv_aR gv_a0) (Nat.le_of_ble_eq_true rfl) qi74 (mM_next_ok qv75) rfl rfl ?_
    obtain ⟨h78, qh78, e⟩ := gv_bind e
    refine gv_iast (pc' := 220) rfl qh78 rfl ?_
    refine gv_rldn (pc' := 221) rfl rfl rfl ?_
    obtain ⟨v79, qv79, e⟩ := gv_bind e
    refine gv_fR (pc' := 224) rfl rfl qv79 rfl ?_
    refine gv_rldn (pc' := 225) rfl rfl rfl ?_
    obtain ⟨v80, qv80, e⟩ := gv_bind e
    refine gv_fI (pc' := 228) rfl rfl qv80 rfl ?_
    refine gv_rldn (pc' := 229) rfl rfl rfl ?_
    obtain ⟨i81, qi81, e⟩ := gv_bind e
    obtain ⟨⟨v82, h83⟩, qv82, e⟩ := gv_bind e
    refine gv_vS (jc := 174) (n := 0) (rest := [.int v80, gv_u v79]) (stk := [.int v82, .int v80, gv_u v79]) (pc' := 232) rfl rfl rfl rfl rfl rfl rfl rfl rfl (gv_zR gv_z0) rfl (gv_aR gv_a0) (Nat.le_of_ble_eq_true rfl) qi81 (mM_next_ok qv82) rfl rfl ?_
    obtain ⟨h85, qh85, e⟩ := gv_bind e
    refine gv_iast (pc' := 233) rfl qh85 rfl ?_
    refine gv_rldn (pc' := 234) rfl rfl rfl ?_
    refine gv_rldn (pc' := 235) rfl rfl rfl ?_
    obtain ⟨v86, qv86, e⟩ := gv_bind e
    refine gv_fI (pc' := 238) rfl rfl qv86 rfl ?_
    by_cases c87 : v86 = 0
    · rw [if_pos c87] at e
      refine gv_ifT (pc' := 260) rfl (gv_eqT c87) rfl ?_
      exact gv_weak (mM_takeValue_260_ok e) (gv_S1 rfl gv_S0)
    rw [if_neg c87] at e
    refine gv_ifF (pc' := 241) rfl (gv_eqF c87) rfl rfl ?_
    refine gv_rldn (pc' := 242) rfl rfl rfl ?_
    obtain ⟨v88, qv88, e⟩ := gv_bind e
    refine gv_fR (pc' := 245) rfl rfl qv88 rfl ?_
    refine gv_rldn (pc' := 246) rfl rfl rfl ?_
    obtain ⟨v89, qv89, e⟩ := gv_bind e
    refine gv_fI (pc' := 249) rfl rfl qv89 rfl ?_
    obtain ⟨v90, qv90, e⟩ := gv_bind e
    refine gv_iald (pc' := 250) rfl qv90 rfl ?_
    obtain ⟨v91, qv91, e⟩ := gv_bind e
    refine gv_sS (jc := 129) (n := 1) (rest := [gv_u l0]) (stk := [.int v91, gv_u l0]) (pc' := 253) rfl rfl rfl rfl rfl rfl rfl rfl rfl (gv_zI gv_z0) rfl (gv_aI gv_a0) (Nat.le_of_ble_eq_true rfl) (mM_isUnit_ok qv91) rfl rfl ?_
    by_cases c92 : v91 = 0
    · rw [if_pos c92] at e
      refine gv_ifT (pc' := 260) rfl (gv_eqT c92) rfl ?_
      exact gv_weak (mM_takeValue_260_ok e) (gv_S1 rfl gv_S0)
    rw [if_neg c92] at e
    refine gv_ifF (pc' := 256) rfl (gv_eqF c92) rfl rfl ?_
    refine gv_ic (pc' := 257) (x := 1) rfl rfl rfl ?_
    refine gv_goto (pc' := 261) rfl rfl ?_
    exact gv_weak (mM_takeValue_261_ok e) (gv_S1 rfl gv_S0)
  rw [if_neg c64] at e
  by_cases c93 : s0 = (14 : Int32)
  · rw [if_pos c93] at e
    refine gv_sw (pc' := 272) (off := 228) rfl (by rw [c93]; rfl) rfl ?_
    refine gv_rldn (pc' := 273) rfl rfl rfl ?_
    obtain ⟨i94, qi94, e⟩ := gv_bind e
    obtain ⟨h96, qv95, e⟩ := gv_bind e
    refine gv_vS (jc := 185) (n := 0) (rest := []) (stk := []) (pc' := 276) rfl rfl rfl rfl rfl rfl rfl rfl rfl (gv_zR gv_z0) rfl (gv_aR gv_a0) (Nat.le_of_ble_eq_true rfl) qi94 (mM_takeStamp_ok qv95) rfl rfl ?_
    refine gv_ic (pc' := 277) (x := 1) rfl rfl rfl ?_
    cases e
    exact gv_retZ rfl rfl (by decide)
  rw [if_neg c93] at e
  refine gv_sw (pc' := 278) (off := 234) rfl (gv_tabd (gv_N1 c1 (gv_N1 c5 (gv_N1 c9 (gv_N1 c13 (gv_N1 c17 (gv_N1 c26 (gv_N1 c34 (gv_N1 c39 (gv_N1 c44 (gv_N1 c48 (gv_N1 c52 (gv_N1 c56 (gv_N1 c60 (gv_N1 c64 (gv_N1 c93 gv_N0))))))))))))))) (by decide)) rfl ?_
  refine gv_rldn (pc' := 279) rfl rfl rfl ?_
  refine gv_ic (pc' := 280) (x := 0) rfl rfl rfl ?_
  obtain ⟨h97, qh97, e⟩ := gv_bind e
  refine gv_pZ (pc' := 283) rfl rfl rfl (by decide) qh97 rfl ?_
  refine gv_ic (pc' := 284) (x := 1) rfl rfl rfl ?_
  cases e
  exact gv_retZ rfl rfl (by decide)
def mM_takeValue_24 (l0 : Option Nat) (s0 : Option Nat) (s1 : Int32) (h : gx_H) : Option (Int32 × gx_H) :=
  if ¬ (s1 = 0 ∨ s1 = 1) then none else
  (gv_pV h s0 7 31 (.int s1)).bind fun h1 =>
  (gv_is h1 l0 7).bind fun i3 =>
  (mM_next l0 h1).bind fun r6 =>
  (gv_gI r6.2 l0 7 31).bind fun v7 =>
  if v7 = 0 then (
    mM_takeValue_44 l0 r6.1 (0 : Int32) r6.2) else
  mM_takeValue_44 l0 r6.1 r6.1 r6.2
theorem mM_takeValue_24_ok {xs : Option (List Int32)} {l0 : Option Nat} {s0 : Option Nat} {s1 : Int32} {h : gx_H} {r : (Int32 × gx_H)} (e : mM_takeValue_24 l0 s0 s1 h = some r) : gv_V xs 3 175 24 [(0, gv_u l0)] [.int s1, gv_u s0] h (.returned (some (.int r.1))) r.2 := by
  unfold mM_takeValue_24 at e
  by_cases c2 : ¬ (s1 = 0 ∨ s1 = 1)
  · rw [if_pos c2] at e; cases e
  rw [if_neg c2] at e
  obtain ⟨h1, qh1, e⟩ := gv_bind e
  refine gv_pZ (pc' := 27) rfl rfl rfl (Decidable.of_not_not c2) qh1 rfl ?_
  refine gv_rldn (pc' := 28) rfl rfl rfl ?_
  obtain ⟨i3, qi3, e⟩ := gv_bind e
  obtain ⟨⟨v4, h5⟩, qv4, e⟩ := gv_bind e
  refine gv_vS (jc := 174) (n := 0) (rest := []) (stk := [.int v4]) (pc' := 31) rfl rfl rfl rfl rfl rfl rfl rfl rfl (gv_zR gv_z0) rfl (gv_aR gv_a0) (Nat.le_of_ble_eq_true rfl) qi3 (mM_next_ok qv4) rfl rfl ?_
  refine gv_istn (pc' := 32) rfl rfl (gv_Cr rfl) rfl ?_
  refine gv_rldn (pc' := 33) rfl rfl rfl ?_
  obtain ⟨v7, qv7, e⟩ := gv_bind e
  refine gv_fI (pc' := 36) rfl rfl qv7 rfl ?_
  by_cases c8 : v7 = 0
  · rw [if_pos c8] at e
    refine gv_ifT (pc' := 43) rfl (gv_eqT c8) rfl ?_
    refine gv_ic (pc' := 44) (x := 0) rfl rfl rfl ?_
    exact gv_weak (mM_takeValue_44_ok e) (gv_S1 rfl (gv_S1 rfl gv_S0))
  rw [if_neg c8] at e
  refine gv_ifF (pc' := 39) rfl (gv_eqF c8) rfl rfl ?_
  refine gv_ildn (pc' := 40) rfl rfl rfl ?_
  refine gv_goto (pc' := 44) rfl rfl ?_
  exact gv_weak (mM_takeValue_44_ok e) (gv_S1 rfl (gv_S1 rfl gv_S0))
def mM_takeValue_23 (l0 : Option Nat) (s0 : Option Nat) (h : gx_H) : Option (Int32 × gx_H) :=
  mM_takeValue_24 l0 s0 (0 : Int32) h
theorem mM_takeValue_23_ok {xs : Option (List Int32)} {l0 : Option Nat} {s0 : Option Nat} {h : gx_H} {r : (Int32 × gx_H)} (e : mM_takeValue_23 l0 s0 h = some r) : gv_V xs 3 175 23 [(0, gv_u l0)] [gv_u s0] h (.returned (some (.int r.1))) r.2 := by
  unfold mM_takeValue_23 at e
  refine gv_ic (pc' := 24) (x := 0) rfl rfl rfl ?_
  exact gv_weak (mM_takeValue_24_ok e) (gv_S1 rfl gv_S0)
def mM_takeValue (l0 : Option Nat) (h : gx_H) : Option (Int32 × gx_H) :=
  (gv_gI h l0 7 31).bind fun v1 =>
  if v1 = 0 then (
    mM_takeValue_23 l0 l0 h) else
  (gv_gI h l0 7 18).bind fun v3 =>
  if (12 : Int32) < (v3 + (1 : Int32)) then (
    mM_takeValue_23 l0 l0 h) else
  mM_takeValue_24 l0 l0 (1 : Int32) h
theorem mM_takeValue_ok {xs : Option (List Int32)} {l0 : Option Nat} {h : gx_H} {r : (Int32 × gx_H)} (e : mM_takeValue l0 h = some r) : gv_V xs 3 175 0 [(0, gv_u l0)] [] h (.returned (some (.int r.1))) r.2 := by
  unfold mM_takeValue at e
  refine gv_rldn (pc' := 1) rfl rfl rfl ?_
  refine gv_rldn (pc' := 2) rfl rfl rfl ?_
  obtain ⟨v1, qv1, e⟩ := gv_bind e
  refine gv_fI (pc' := 5) rfl rfl qv1 rfl ?_
  by_cases c2 : v1 = 0
  · rw [if_pos c2] at e
    refine gv_ifT (pc' := 23) rfl (gv_eqT c2) rfl ?_
    exact gv_weak (mM_takeValue_23_ok e) (gv_S1 rfl gv_S0)
  rw [if_neg c2] at e
  refine gv_ifF (pc' := 8) rfl (gv_eqF c2) rfl rfl ?_
  refine gv_rldn (pc' := 9) rfl rfl rfl ?_
  obtain ⟨v3, qv3, e⟩ := gv_bind e
  refine gv_fI (pc' := 12) rfl rfl qv3 rfl ?_
  refine gv_ic (pc' := 13) (x := 1) rfl rfl rfl ?_
  refine gv_iadd (pc' := 14) rfl rfl ?_
  refine gv_bp (pc' := 16) (x := 12) rfl rfl rfl ?_
  by_cases c4 : (12 : Int32) < (v3 + (1 : Int32))
  · rw [if_pos c4] at e
    refine gv_cmT (pc' := 23) rfl (gv_gtT2 c4) rfl ?_
    exact gv_weak (mM_takeValue_23_ok e) (gv_S1 rfl gv_S0)
  rw [if_neg c4] at e
  refine gv_cmF (pc' := 19) rfl (gv_gtF2 c4) rfl rfl ?_
  refine gv_ic (pc' := 20) (x := 1) rfl rfl rfl ?_
  refine gv_goto (pc' := 24) rfl rfl ?_
  exact gv_weak (mM_takeValue_24_ok e) (gv_S1 rfl gv_S0)
def mM_finish_147 (l0 : Option Nat) (l3 : Int32) (h : gx_H) : Option gx_H :=
  (gv_is h l0 7).bind fun i1 =>
  (mM_enroll l0 l3 h).bind fun h3 =>
  (gv_is h3 l0 7).bind fun i4 =>
  (mM_got l0 (6 : Int32) l3 h3).bind fun h6 =>
  some h6
theorem mM_finish_147_ok {xs : Option (List Int32)} {l0 : Option Nat} {l3 : Int32} {h : gx_H} {r : gx_H} (e : mM_finish_147 l0 l3 h = some r) : gv_V xs 2 187 147 [(0, gv_u l0), (3, .int l3)] [] h (.returned none) r := by
  unfold mM_finish_147 at e
  refine gv_rldn (pc' := 148) rfl rfl rfl ?_
  refine gv_ildn (pc' := 149) rfl rfl rfl ?_
  obtain ⟨i1, qi1, e⟩ := gv_bind e
  obtain ⟨h3, qv2, e⟩ := gv_bind e
  refine gv_vS (jc := 183) (n := 1) (rest := []) (stk := []) (pc' := 152) rfl rfl rfl rfl rfl rfl rfl rfl rfl (gv_zR (gv_zI gv_z0)) rfl (gv_aR (gv_aI gv_a0)) (Nat.le_of_ble_eq_true rfl) qi1 (mM_enroll_ok qv2) rfl rfl ?_
  refine gv_rldn (pc' := 153) rfl rfl rfl ?_
  refine gv_bp (pc' := 155) (x := 6) rfl rfl rfl ?_
  refine gv_ildn (pc' := 156) rfl rfl rfl ?_
  obtain ⟨i4, qi4, e⟩ := gv_bind e
  obtain ⟨h6, qv5, e⟩ := gv_bind e
  refine gv_vS (jc := 176) (n := 2) (rest := []) (stk := []) (pc' := 159) rfl rfl rfl rfl rfl rfl rfl rfl rfl (gv_zR (gv_zI (gv_zI gv_z0))) rfl (gv_aR (gv_aI (gv_aI gv_a0))) (Nat.le_of_ble_eq_true rfl) qi4 (mM_got_ok qv5) rfl rfl ?_
  cases e
  exact gv_retV rfl rfl
def mM_finish_98 (l0 : Option Nat) (l2 : Int32) (s0 : Option Nat) (s1 : Int32) (h : gx_H) : Option gx_H :=
  if ¬ (s1 = 0 ∨ s1 = 1) then none else
  (gv_pV h s0 7 31 (.int s1)).bind fun h1 =>
  (gv_is h1 l0 7).bind fun i3 =>
  (mM_nextObject l0 (5 : Int32) h1).bind fun r6 =>
  (gv_gI r6.2 l0 7 31).bind fun v7 =>
  if v7 = 0 then (
    mM_finish_147 l0 r6.1 r6.2) else
  (gv_gR r6.2 l0 7 23).bind fun v9 =>
  (gv_gI r6.2 l0 7 18).bind fun v10 =>
  (gv_lI r6.2 v9 v10).bind fun v11 =>
  (gv_gR r6.2 l0 7 24).bind fun v12 =>
  (gv_gI r6.2 l0 7 18).bind fun v13 =>
  (gv_lI r6.2 v12 v13).bind fun v14 =>
  (gv_gR r6.2 l0 7 25).bind fun v15 =>
  (gv_gI r6.2 l0 7 18).bind fun v16 =>
  (gv_lI r6.2 v15 v16).bind fun v17 =>
  (gv_is r6.2 l0 7).bind fun i18 =>
  (mM_setView l0 r6.1 l2 v11 v14 v17 r6.2).bind fun h20 =>
  mM_finish_147 l0 r6.1 h20
theorem mM_finish_98_ok {xs : Option (List Int32)} {l0 : Option Nat} {l2 : Int32} {s0 : Option Nat} {s1 : Int32} {h : gx_H} {r : gx_H} (e : mM_finish_98 l0 l2 s0 s1 h = some r) : gv_V xs 2 187 98 [(0, gv_u l0), (2, .int l2)] [.int s1, gv_u s0] h (.returned none) r := by
  unfold mM_finish_98 at e
  by_cases c2 : ¬ (s1 = 0 ∨ s1 = 1)
  · rw [if_pos c2] at e; cases e
  rw [if_neg c2] at e
  obtain ⟨h1, qh1, e⟩ := gv_bind e
  refine gv_pZ (pc' := 101) rfl rfl rfl (Decidable.of_not_not c2) qh1 rfl ?_
  refine gv_rldn (pc' := 102) rfl rfl rfl ?_
  refine gv_ic (pc' := 103) (x := 5) rfl rfl rfl ?_
  obtain ⟨i3, qi3, e⟩ := gv_bind e
  obtain ⟨⟨v4, h5⟩, qv4, e⟩ := gv_bind e
  refine gv_vS (jc := 173) (n := 1) (rest := []) (stk := [.int v4]) (pc' := 106) rfl rfl rfl rfl rfl rfl rfl rfl rfl (gv_zR (gv_zI gv_z0)) rfl (gv_aR (gv_aI gv_a0)) (Nat.le_of_ble_eq_true rfl) qi3 (mM_nextObject_ok qv4) rfl rfl ?_
  refine gv_istn (pc' := 107) rfl rfl (gv_Ci rfl) rfl ?_
  refine gv_rldn (pc' := 108) rfl rfl rfl ?_
  obtain ⟨v7, qv7, e⟩ := gv_bind e
  refine gv_fI (pc' := 111) rfl rfl qv7 rfl ?_
  by_cases c8 : v7 = 0
  · rw [if_pos c8] at e
    refine gv_ifT (pc' := 147) rfl (gv_eqT c8) rfl ?_
    exact gv_weak (mM_finish_147_ok e) (gv_S1 rfl (gv_S1 rfl gv_S0))
  rw [if_neg c8] at e
  refine gv_ifF (pc' := 114) rfl (gv_eqF c8) rfl rfl ?_
  refine gv_rldn (pc' := 115) rfl rfl rfl ?_
  refine gv_ildn (pc' := 116) rfl rfl rfl ?_
  refine gv_ildn (pc' := 117) rfl rfl rfl ?_
  refine gv_rldn (pc' := 118) rfl rfl rfl ?_
  obtain ⟨v9, qv9, e⟩ := gv_bind e
  refine gv_fR (pc' := 121) rfl rfl qv9 rfl ?_
  refine gv_rldn (pc' := 122) rfl rfl rfl ?_
  obtain ⟨v10, qv10, e⟩ := gv_bind e
  refine gv_fI (pc' := 125) rfl rfl qv10 rfl ?_
  obtain ⟨v11, qv11, e⟩ := gv_bind e
  refine gv_iald (pc' := 126) rfl qv11 rfl ?_
  refine gv_rldn (pc' := 127) rfl rfl rfl ?_
  obtain ⟨v12, qv12, e⟩ := gv_bind e
  refine gv_fR (pc' := 130) rfl rfl qv12 rfl ?_
  refine gv_rldn (pc' := 131) rfl rfl rfl ?_
  obtain ⟨v13, qv13, e⟩ := gv_bind e
  refine gv_fI (pc' := 134) rfl rfl qv13 rfl ?_
  obtain ⟨v14, qv14, e⟩ := gv_bind e
  refine gv_iald (pc' := 135) rfl qv14 rfl ?_
  refine gv_rldn (pc' := 136) rfl rfl rfl ?_
  obtain ⟨v15, qv15, e⟩ := gv_bind e
  refine gv_fR (pc' := 139) rfl rfl qv15 rfl ?_
  refine gv_rldn (pc' := 140) rfl rfl rfl ?_
  obtain ⟨v16, qv16, e⟩ := gv_bind e
  refine gv_fI (pc' := 143) rfl rfl qv16 rfl ?_
  obtain ⟨v17, qv17, e⟩ := gv_bind e
  refine gv_iald (pc' := 144) rfl qv17 rfl ?_
  obtain ⟨i18, qi18, e⟩ := gv_bind e
  obtain ⟨h20, qv19, e⟩ := gv_bind e
  refine gv_vS (jc := 130) (n := 5) (rest := []) (stk := []) (pc' := 147) rfl rfl rfl rfl rfl rfl rfl rfl rfl (gv_zR (gv_zI (gv_zI (gv_zI (gv_zI (gv_zI gv_z0)))))) rfl (gv_aR (gv_aI (gv_aI (gv_aI (gv_aI (gv_aI gv_a0)))))) (Nat.le_of_ble_eq_true rfl) qi18 (mM_setView_ok qv19) rfl rfl ?_
  exact gv_weak (mM_finish_147_ok e) (gv_S1 rfl (gv_S1 rfl gv_S0))
def mM_finish_97 (l0 : Option Nat) (l2 : Int32) (s0 : Option Nat) (h : gx_H) : Option gx_H :=
  mM_finish_98 l0 l2 s0 (0 : Int32) h
theorem mM_finish_97_ok {xs : Option (List Int32)} {l0 : Option Nat} {l2 : Int32} {s0 : Option Nat} {h : gx_H} {r : gx_H} (e : mM_finish_97 l0 l2 s0 h = some r) : gv_V xs 2 187 97 [(0, gv_u l0), (2, .int l2)] [gv_u s0] h (.returned none) r := by
  unfold mM_finish_97 at e
  refine gv_ic (pc' := 98) (x := 0) rfl rfl rfl ?_
  exact gv_weak (mM_finish_98_ok e) (gv_S1 rfl (gv_S1 rfl gv_S0))
def mM_finish (l0 : Option Nat) (l1 : Int32) (h : gx_H) : Option gx_H :=
  (gv_gI h l0 7 18).bind fun v1 =>
  (gv_pV h l0 7 18 (.int (v1 - (1 : Int32)))).bind fun h2 =>
  if l1 < 0 then (
    (gv_gI h2 l0 7 36).bind fun v4 =>
    (gv_gI h2 l0 7 31).bind fun v5 =>
    if v5 = 0 then (
      mM_finish_97 l0 v4 l0 h2) else
    (gv_gI h2 l0 7 35).bind fun v7 =>
    if v7 = (6 : Int32) then (
      (gv_gR h2 l0 7 2).bind fun v9 =>
      (gv_lI h2 v9 v4).bind fun v10 =>
      if v10 = (4 : Int32) then (
        (gv_gR h2 l0 7 23).bind fun v12 =>
        (gv_gI h2 l0 7 18).bind fun v13 =>
        (gv_lI h2 v12 v13).bind fun v14 =>
        (gv_gR h2 l0 7 24).bind fun v15 =>
        (gv_gI h2 l0 7 18).bind fun v16 =>
        (gv_lI h2 v15 v16).bind fun v17 =>
        (gv_gR h2 l0 7 25).bind fun v18 =>
        (gv_gI h2 l0 7 18).bind fun v19 =>
        (gv_lI h2 v18 v19).bind fun v20 =>
        (gv_gR h2 l0 7 3).bind fun v21 =>
        (gv_lI h2 v21 v4).bind fun v22 =>
        (mM_lies v14 v17 v20 v22).bind fun v23 =>
        if v23 = 0 then (
          mM_finish_97 l0 v4 l0 h2) else
        mM_finish_98 l0 v4 l0 (1 : Int32) h2) else
      mM_finish_97 l0 v4 l0 h2) else
    mM_finish_97 l0 v4 l0 h2) else
  (gv_is h2 l0 7).bind fun i25 =>
  (mM_got l0 (6 : Int32) l1 h2).bind fun h27 =>
  some h27
theorem mM_finish_ok {xs : Option (List Int32)} {l0 : Option Nat} {l1 : Int32} {h : gx_H} {r : gx_H} (e : mM_finish l0 l1 h = some r) : gv_V xs 2 187 0 [(0, gv_u l0), (1, .int l1)] [] h (.returned none) r := by
  unfold mM_finish at e
  refine gv_rldn (pc' := 1) rfl rfl rfl ?_
  refine gv_dup (pc' := 2) rfl (gv_u_cat _) rfl ?_
  obtain ⟨v1, qv1, e⟩ := gv_bind e
  refine gv_fI (pc' := 5) rfl rfl qv1 rfl ?_
  refine gv_ic (pc' := 6) (x := 1) rfl rfl rfl ?_
  refine gv_isub (pc' := 7) rfl rfl ?_
  obtain ⟨h2, qh2, e⟩ := gv_bind e
  refine gv_pI (pc' := 10) rfl rfl rfl qh2 rfl ?_
  refine gv_ildn (pc' := 11) rfl rfl rfl ?_
  by_cases c3 : l1 < 0
  · rw [if_pos c3] at e
    refine gv_ifT (pc' := 22) rfl (gv_ltT c3) rfl ?_
    refine gv_rldn (pc' := 23) rfl rfl rfl ?_
    obtain ⟨v4, qv4, e⟩ := gv_bind e
    refine gv_fI (pc' := 26) rfl rfl qv4 rfl ?_
    refine gv_istn (pc' := 27) rfl rfl (gv_Ci rfl) rfl ?_
    refine gv_rldn (pc' := 28) rfl rfl rfl ?_
    refine gv_rldn (pc' := 29) rfl rfl rfl ?_
    obtain ⟨v5, qv5, e⟩ := gv_bind e
    refine gv_fI (pc' := 32) rfl rfl qv5 rfl ?_
    by_cases c6 : v5 = 0
    · rw [if_pos c6] at e
      refine gv_ifT (pc' := 97) rfl (gv_eqT c6) rfl ?_
      exact gv_weak (mM_finish_97_ok e) (gv_S1 rfl (gv_S1 rfl gv_S0))
    rw [if_neg c6] at e
    refine gv_ifF (pc' := 35) rfl (gv_eqF c6) rfl rfl ?_
    refine gv_rldn (pc' := 36) rfl rfl rfl ?_
    obtain ⟨v7, qv7, e⟩ := gv_bind e
    refine gv_fI (pc' := 39) rfl rfl qv7 rfl ?_
    refine gv_bp (pc' := 41) (x := 6) rfl rfl rfl ?_
    by_cases c8 : v7 = (6 : Int32)
    · rw [if_pos c8] at e
      refine gv_cmF (pc' := 44) rfl (gv_neF2 c8) rfl rfl ?_
      refine gv_rldn (pc' := 45) rfl rfl rfl ?_
      obtain ⟨v9, qv9, e⟩ := gv_bind e
      refine gv_fR (pc' := 48) rfl rfl qv9 rfl ?_
      refine gv_ildn (pc' := 49) rfl rfl rfl ?_
      obtain ⟨v10, qv10, e⟩ := gv_bind e
      refine gv_iald (pc' := 50) rfl qv10 rfl ?_
      refine gv_ic (pc' := 51) (x := 4) rfl rfl rfl ?_
      by_cases c11 : v10 = (4 : Int32)
      · rw [if_pos c11] at e
        refine gv_cmF (pc' := 54) rfl (gv_neF2 c11) rfl rfl ?_
        refine gv_rldn (pc' := 55) rfl rfl rfl ?_
        obtain ⟨v12, qv12, e⟩ := gv_bind e
        refine gv_fR (pc' := 58) rfl rfl qv12 rfl ?_
        refine gv_rldn (pc' := 59) rfl rfl rfl ?_
        obtain ⟨v13, qv13, e⟩ := gv_bind e
        refine gv_fI (pc' := 62) rfl rfl qv13 rfl ?_
        obtain ⟨v14, qv14, e⟩ := gv_bind e
        refine gv_iald (pc' := 63) rfl qv14 rfl ?_
        refine gv_rldn (pc' := 64) rfl rfl rfl ?_
        obtain ⟨v15, qv15, e⟩ := gv_bind e
        refine gv_fR (pc' := 67) rfl rfl qv15 rfl ?_
        refine gv_rldn (pc' := 68) rfl rfl rfl ?_
        obtain ⟨v16, qv16, e⟩ := gv_bind e
        refine gv_fI (pc' := 71) rfl rfl qv16 rfl ?_
        obtain ⟨v17, qv17, e⟩ := gv_bind e
        refine gv_iald (pc' := 72) rfl qv17 rfl ?_
        refine gv_rldn (pc' := 73) rfl rfl rfl ?_
        obtain ⟨v18, qv18, e⟩ := gv_bind e
        refine gv_fR (pc' := 76) rfl rfl qv18 rfl ?_
        refine gv_rldn (pc' := 77) rfl rfl rfl ?_
        obtain ⟨v19, qv19, e⟩ := gv_bind e
        refine gv_fI (pc' := 80) rfl rfl qv19 rfl ?_
        obtain ⟨v20, qv20, e⟩ := gv_bind e
        refine gv_iald (pc' := 81) rfl qv20 rfl ?_
        refine gv_rldn (pc' := 82) rfl rfl rfl ?_
        obtain ⟨v21, qv21, e⟩ := gv_bind e
        refine gv_fR (pc' := 85) rfl rfl qv21 rfl ?_
        refine gv_ildn (pc' := 86) rfl rfl rfl ?_
        obtain ⟨v22, qv22, e⟩ := gv_bind e
        refine gv_iald (pc' := 87) rfl qv22 rfl ?_
        obtain ⟨v23, qv23, e⟩ := gv_bind e
        refine gv_sS (jc := 128) (n := 4) (rest := [gv_u l0]) (stk := [.int v23, gv_u l0]) (pc' := 90) rfl rfl rfl rfl rfl rfl rfl rfl rfl (gv_zI (gv_zI (gv_zI (gv_zI gv_z0)))) rfl (gv_aI (gv_aI (gv_aI (gv_aI gv_a0)))) (Nat.le_of_ble_eq_true rfl) (mM_lies_ok qv23) rfl rfl ?_
        by_cases c24 : v23 = 0
        · rw [if_pos c24] at e
          refine gv_ifT (pc' := 97) rfl (gv_eqT c24) rfl ?_
          exact gv_weak (mM_finish_97_ok e) (gv_S1 rfl (gv_S1 rfl gv_S0))
        rw [if_neg c24] at e
        refine gv_ifF (pc' := 93) rfl (gv_eqF c24) rfl rfl ?_
        refine gv_ic (pc' := 94) (x := 1) rfl rfl rfl ?_
        refine gv_goto (pc' := 98) rfl rfl ?_
        exact gv_weak (mM_finish_98_ok e) (gv_S1 rfl (gv_S1 rfl gv_S0))
      rw [if_neg c11] at e
      refine gv_cmT (pc' := 97) rfl (gv_neT2 c11) rfl ?_
      exact gv_weak (mM_finish_97_ok e) (gv_S1 rfl (gv_S1 rfl gv_S0))
    rw [if_neg c8] at e
    refine gv_cmT (pc' := 97) rfl (gv_neT2 c8) rfl ?_
    exact gv_weak (mM_finish_97_ok e) (gv_S1 rfl (gv_S1 rfl gv_S0))
  rw [if_neg c3] at e
  refine gv_ifF (pc' := 14) rfl (gv_ltF c3) rfl rfl ?_
  refine gv_rldn (pc' := 15) rfl rfl rfl ?_
  refine gv_bp (pc' := 17) (x := 6) rfl rfl rfl ?_
  refine gv_ildn (pc' := 18) rfl rfl rfl ?_
  obtain ⟨i25, qi25, e⟩ := gv_bind e
  obtain ⟨h27, qv26, e⟩ := gv_bind e
  refine gv_vS (jc := 176) (n := 2) (rest := []) (stk := []) (pc' := 21) rfl rfl rfl rfl rfl rfl rfl rfl rfl (gv_zR (gv_zI (gv_zI gv_z0))) rfl (gv_aR (gv_aI (gv_aI gv_a0))) (Nat.le_of_ble_eq_true rfl) qi25 (mM_got_ok qv26) rfl rfl ?_
  cases e
  exact gv_retV rfl rfl
def mM_goesOn_94 (l0 : Option Nat) (l1 : Int32) (l4 : Int32) (s0 : Option Nat) (s1 : Int32) (h : gx_H) : Option (Int32 × gx_H) :=
  if ¬ (s1 = 0 ∨ s1 = 1) then none else
  (gv_pV h s0 7 31 (.int s1)).bind fun h1 =>
  (gv_gR h1 l0 7 22).bind fun v3 =>
  (gv_wI h1 v3 ((6 : Int32) * l1) l4).bind fun h4 =>
  some ((1 : Int32), h4)
theorem mM_goesOn_94_ok {xs : Option (List Int32)} {l0 : Option Nat} {l1 : Int32} {l4 : Int32} {s0 : Option Nat} {s1 : Int32} {h : gx_H} {r : (Int32 × gx_H)} (e : mM_goesOn_94 l0 l1 l4 s0 s1 h = some r) : gv_V xs 3 186 94 [(0, gv_u l0), (1, .int l1), (4, .int l4)] [.int s1, gv_u s0] h (.returned (some (.int r.1))) r.2 := by
  unfold mM_goesOn_94 at e
  by_cases c2 : ¬ (s1 = 0 ∨ s1 = 1)
  · rw [if_pos c2] at e; cases e
  rw [if_neg c2] at e
  obtain ⟨h1, qh1, e⟩ := gv_bind e
  refine gv_pZ (pc' := 97) rfl rfl rfl (Decidable.of_not_not c2) qh1 rfl ?_
  refine gv_rldn (pc' := 98) rfl rfl rfl ?_
  obtain ⟨v3, qv3, e⟩ := gv_bind e
  refine gv_fR (pc' := 101) rfl rfl qv3 rfl ?_
  refine gv_bp (pc' := 103) (x := 6) rfl rfl rfl ?_
  refine gv_ildn (pc' := 104) rfl rfl rfl ?_
  refine gv_imul (pc' := 105) rfl rfl ?_
  refine gv_ild (pc' := 107) rfl rfl rfl ?_
  obtain ⟨h4, qh4, e⟩ := gv_bind e
  refine gv_iast (pc' := 108) rfl qh4 rfl ?_
  refine gv_ic (pc' := 109) (x := 1) rfl rfl rfl ?_
  cases e
  exact gv_retI rfl rfl
def mM_goesOn_93 (l0 : Option Nat) (l1 : Int32) (l4 : Int32) (s0 : Option Nat) (h : gx_H) : Option (Int32 × gx_H) :=
  mM_goesOn_94 l0 l1 l4 s0 (0 : Int32) h
theorem mM_goesOn_93_ok {xs : Option (List Int32)} {l0 : Option Nat} {l1 : Int32} {l4 : Int32} {s0 : Option Nat} {h : gx_H} {r : (Int32 × gx_H)} (e : mM_goesOn_93 l0 l1 l4 s0 h = some r) : gv_V xs 3 186 93 [(0, gv_u l0), (1, .int l1), (4, .int l4)] [gv_u s0] h (.returned (some (.int r.1))) r.2 := by
  unfold mM_goesOn_93 at e
  refine gv_ic (pc' := 94) (x := 0) rfl rfl rfl ?_
  exact gv_weak (mM_goesOn_94_ok e) (gv_S1 rfl (gv_S1 rfl (gv_S1 rfl gv_S0)))
def mM_goesOn_179 (l0 : Option Nat) (l1 : Int32) (h : gx_H) : Option (Int32 × gx_H) :=
  (gv_gR h l0 7 20).bind fun v1 =>
  (gv_lI h v1 l1).bind fun v2 =>
  (gv_wI h v1 l1 (v2 + (1 : Int32))).bind fun h3 =>
  some ((0 : Int32), h3)
theorem mM_goesOn_179_ok {xs : Option (List Int32)} {l0 : Option Nat} {l1 : Int32} {h : gx_H} {r : (Int32 × gx_H)} (e : mM_goesOn_179 l0 l1 h = some r) : gv_V xs 3 186 179 [(0, gv_u l0), (1, .int l1)] [] h (.returned (some (.int r.1))) r.2 := by
  unfold mM_goesOn_179 at e
  refine gv_rldn (pc' := 180) rfl rfl rfl ?_
  obtain ⟨v1, qv1, e⟩ := gv_bind e
  refine gv_fR (pc' := 183) rfl rfl qv1 rfl ?_
  refine gv_ildn (pc' := 184) rfl rfl rfl ?_
  refine gv_dup2 (pc' := 185) rfl rfl (gv_u_cat _) rfl ?_
  obtain ⟨v2, qv2, e⟩ := gv_bind e
  refine gv_iald (pc' := 186) rfl qv2 rfl ?_
  refine gv_ic (pc' := 187) (x := 1) rfl rfl rfl ?_
  refine gv_iadd (pc' := 188) rfl rfl ?_
  obtain ⟨h3, qh3, e⟩ := gv_bind e
  refine gv_iast (pc' := 189) rfl qh3 rfl ?_
  refine gv_ic (pc' := 190) (x := 0) rfl rfl rfl ?_
  cases e
  exact gv_retI rfl rfl
def mM_goesOn_28 (l0 : Option Nat) (l1 : Int32) (l2 : Int32) (s0 : Int32) (h : gx_H) : Option (Int32 × gx_H) :=
  if s0 = 0 then (
    (gv_is h l0 7).bind fun i2 =>
    (mM_nextUpTo l0 (1 : Int32) h).bind fun r5 =>
    if r5.1 = 0 then (
      (gv_is r5.2 l0 7).bind fun i7 =>
      (mM_finish l0 l2 r5.2).bind fun h9 =>
      some ((2 : Int32), h9)) else
    (gv_is r5.2 l0 7).bind fun i10 =>
    (mM_lengthy l0 (32 : Int32) r5.2).bind fun r13 =>
    (mM_plain r13.1).bind fun v14 =>
    (gv_gI r13.2 l0 7 31).bind fun v15 =>
    if v15 = 0 then (
      mM_goesOn_93 l0 l1 (Int64.toInt32 v14) l0 r13.2) else
    (gv_gR r13.2 l0 7 3).bind fun v17 =>
    (gv_lI r13.2 v17 l2).bind fun v18 =>
    if v18 < (6 : Int32) then (
      (gv_is r13.2 l0 7).bind fun i20 =>
      (mM_slotOf l0 l2 (Int64.toInt32 v14) r13.2).bind fun v21 =>
      if v21 < 0 then (
        mM_goesOn_94 l0 l1 (Int64.toInt32 v14) l0 (1 : Int32) r13.2) else
      mM_goesOn_93 l0 l1 (Int64.toInt32 v14) l0 r13.2) else
    mM_goesOn_93 l0 l1 (Int64.toInt32 v14) l0 r13.2) else
  (gv_gR h l0 7 20).bind fun v23 =>
  (gv_lI h v23 l1).bind fun v24 =>
  (gv_gR h l0 7 21).bind fun v25 =>
  (gv_lI h v25 l1).bind fun v26 =>
  if v24 = v26 then (
    (gv_is h l0 7).bind fun i28 =>
    (mM_finish l0 l2 h).bind fun h30 =>
    some ((2 : Int32), h30)) else
  if s0 = (1 : Int32) then (
    (gv_is h l0 7).bind fun i32 =>
    (mM_nextUpTo l0 (1 : Int32) h).bind fun r35 =>
    if r35.1 = 0 then (
      (gv_gI r35.2 l0 7 31).bind fun v37 =>
      if v37 = 0 then (
        mM_goesOn_179 l0 l1 r35.2) else
      (gv_gR r35.2 l0 7 3).bind fun v39 =>
      (gv_lI r35.2 v39 l2).bind fun v40 =>
      (gv_is r35.2 l0 7).bind fun i41 =>
      (mM_setSlot l0 (((8 : Int32) * l2) + v40) (-1 : Int32) (0 : Int32) r35.2).bind fun h43 =>
      (gv_gR h43 l0 7 3).bind fun v44 =>
      (gv_lI h43 v44 l2).bind fun v45 =>
      (gv_wI h43 v44 l2 (v45 + (1 : Int32))).bind fun h46 =>
      mM_goesOn_179 l0 l1 h46) else
    some ((1 : Int32), r35.2)) else
  some ((1 : Int32), h)
theorem mM_goesOn_28_ok {xs : Option (List Int32)} {l0 : Option Nat} {l1 : Int32} {l2 : Int32} {s0 : Int32} {h : gx_H} {r : (Int32 × gx_H)} (e : mM_goesOn_28 l0 l1 l2 s0 h = some r) : gv_V xs 3 186 28 [(0, gv_u l0), (1, .int l1), (2, .int l2)] [.int s0] h (.returned (some (.int r.1))) r.2 := by
  unfold mM_goesOn_28 at e
  refine gv_istn (pc' := 29) rfl rfl (gv_Ci rfl) rfl ?_
  refine gv_ildn (pc' := 30) rfl rfl rfl ?_
  by_cases c1 : s0 = 0
  · rw [if_pos c1] at e
    refine gv_ifF (pc' := 33) rfl (gv_neF c1) rfl rfl ?_
    refine gv_rldn (pc' := 34) rfl rfl rfl ?_
    refine gv_ic (pc' := 35) (x := 1) rfl rfl rfl ?_
    obtain ⟨i2, qi2, e⟩ := gv_bind e
    obtain ⟨⟨v3, h4⟩, qv3, e⟩ := gv_bind e
    refine gv_vS (jc := 180) (n := 1) (rest := []) (stk := [.int v3]) (pc' := 38) rfl rfl rfl rfl rfl rfl rfl rfl rfl (gv_zR (gv_zI gv_z0)) rfl (gv_aR (gv_aI gv_a0)) (Nat.le_of_ble_eq_true rfl) qi2 (mM_nextUpTo_ok qv3) rfl rfl ?_
    by_cases c6 : v3 = 0
    · rw [if_pos c6] at e
      refine gv_ifF (pc' := 41) rfl (gv_neF c6) rfl rfl ?_
      refine gv_rldn (pc' := 42) rfl rfl rfl ?_
      refine gv_ildn (pc' := 43) rfl rfl rfl ?_
      obtain ⟨i7, qi7, e⟩ := gv_bind e
      obtain ⟨h9, qv8, e⟩ := gv_bind e
      refine gv_vS (jc := 187) (n := 1) (rest := []) (stk := []) (pc' := 46) rfl rfl rfl rfl rfl rfl rfl rfl rfl (gv_zR (gv_zI gv_z0)) rfl (gv_aR (gv_aI gv_a0)) (Nat.le_of_ble_eq_true rfl) qi7 (mM_finish_ok qv8) rfl rfl ?_
      refine gv_ic (pc' := 47) (x := 2) rfl rfl rfl ?_
      cases e
      exact gv_retI rfl rfl
    rw [if_neg c6] at e
    refine gv_ifT (pc' := 48) rfl (gv_neT c6) rfl ?_
    refine gv_rldn (pc' := 49) rfl rfl rfl ?_
    refine gv_bp (pc' := 51) (x := 32) rfl rfl rfl ?_
    obtain ⟨i10, qi10, e⟩ := gv_bind e
    obtain ⟨⟨v11, h12⟩, qv11, e⟩ := gv_bind e
    refine gv_vS (jc := 177) (n := 1) (rest := []) (stk := [.long v11]) (pc' := 54) rfl rfl rfl rfl rfl rfl rfl rfl rfl (gv_zR (gv_zI gv_z0)) rfl (gv_aR (gv_aI gv_a0)) (Nat.le_of_ble_eq_true rfl) qi10 (mM_lengthy_ok qv11) rfl rfl ?_
    obtain ⟨v14, qv14, e⟩ := gv_bind e
    refine gv_sS (jc := 178) (n := 1) (rest := []) (stk := [.long v14]) (pc' := 57) rfl rfl rfl rfl rfl rfl rfl rfl rfl (gv_zJ gv_z0) rfl (gv_aJ gv_a0) (Nat.le_of_ble_eq_true rfl) (mM_plain_ok qv14) rfl rfl ?_
    refine gv_l2i (pc' := 58) rfl rfl ?_
    refine gv_ist (pc' := 60) rfl rfl (gv_Ci rfl) rfl ?_
    refine gv_rldn (pc' := 61) rfl rfl rfl ?_
    refine gv_rldn (pc' := 62) rfl rfl rfl ?_
    obtain ⟨v15, qv15, e⟩ := gv_bind e
    refine gv_fI (pc' := 65) rfl rfl qv15 rfl ?_
    by_cases c16 : v15 = 0
    · rw [if_pos c16] at e
      refine gv_ifT (pc' := 93) rfl (gv_eqT c16) rfl ?_
      exact gv_weak (mM_goesOn_93_ok e) (gv_S1 rfl (gv_S1 rfl (gv_S1 rfl gv_S0)))
    rw [if_neg c16] at e
    refine gv_ifF (pc' := 68) rfl (gv_eqF c16) rfl rfl ?_
    refine gv_rldn (pc' := 69) rfl rfl rfl ?_
    obtain ⟨v17, qv17, e⟩ := gv_bind e
    refine gv_fR (pc' := 72) rfl rfl qv17 rfl ?_
    refine gv_ildn (pc' := 73) rfl rfl rfl ?_
    obtain ⟨v18, qv18, e⟩ := gv_bind e
    refine gv_iald (pc' := 74) rfl qv18 rfl ?_
    refine gv_bp (pc' := 76) (x := 6) rfl rfl rfl ?_
    by_cases c19 : v18 < (6 : Int32)
    · rw [if_pos c19] at e
      refine gv_cmF (pc' := 79) rfl (gv_geF2 c19) rfl rfl ?_
      refine gv_rldn (pc' := 80) rfl rfl rfl ?_
      refine gv_ildn (pc' := 81) rfl rfl rfl ?_
      refine gv_ild (pc' := 83) rfl rfl rfl ?_
      obtain ⟨i20, qi20, e⟩ := gv_bind e
      obtain ⟨v21, qv21, e⟩ := gv_bind e
      refine gv_vS (jc := 135) (n := 2) (rest := [gv_u l0]) (stk := [.int v21, gv_u l0]) (pc' := 86) rfl rfl rfl rfl rfl rfl rfl rfl rfl (gv_zR (gv_zI (gv_zI gv_z0))) rfl (gv_aR (gv_aI (gv_aI gv_a0))) (Nat.le_of_ble_eq_true rfl) qi20 (mM_slotOf_ok qv21) rfl rfl ?_
      by_cases c22 : v21 < 0
      · rw [if_pos c22] at e
        refine gv_ifF (pc' := 89) rfl (gv_geF c22) rfl rfl ?_
        refine gv_ic (pc' := 90) (x := 1) rfl rfl rfl ?_
        refine gv_goto (pc' := 94) rfl rfl ?_
        exact gv_weak (mM_goesOn_94_ok e) (gv_S1 rfl (gv_S1 rfl (gv_S1 rfl gv_S0)))
      rw [if_neg c22] at e
      refine gv_ifT (pc' := 93) rfl (gv_geT c22) rfl ?_
      exact gv_weak (mM_goesOn_93_ok e) (gv_S1 rfl (gv_S1 rfl (gv_S1 rfl gv_S0)))
    rw [if_neg c19] at e
    refine gv_cmT (pc' := 93) rfl (gv_geT2 c19) rfl ?_
    exact gv_weak (mM_goesOn_93_ok e) (gv_S1 rfl (gv_S1 rfl (gv_S1 rfl gv_S0)))
  rw [if_neg c1] at e
  refine gv_ifT (pc' := 110) rfl (gv_neT c1) rfl ?_
  refine gv_rldn (pc' := 111) rfl rfl rfl ?_
  obtain ⟨v23, qv23, e⟩ := gv_bind e
  refine gv_fR (pc' := 114) rfl rfl qv23 rfl ?_
  refine gv_ildn (pc' := 115) rfl rfl rfl ?_
  obtain ⟨v24, qv24, e⟩ := gv_bind e
  refine gv_iald (pc' := 116) rfl qv24 rfl ?_
  refine gv_rldn (pc' := 117) rfl rfl rfl ?_
  obtain ⟨v25, qv25, e⟩ := gv_bind e
  refine gv_fR (pc' := 120) rfl rfl qv25 rfl ?_
  refine gv_ildn (pc' := 121) rfl rfl rfl ?_
  obtain ⟨v26, qv26, e⟩ := gv_bind e
  refine gv_iald (pc' := 122) rfl qv26 rfl ?_
  by_cases c27 : v24 = v26
  · rw [if_pos c27] at e
    refine gv_cmF (pc' := 125) rfl (gv_neF2 c27) rfl rfl ?_
    refine gv_rldn (pc' := 126) rfl rfl rfl ?_
    refine gv_ildn (pc' := 127) rfl rfl rfl ?_
    obtain ⟨i28, qi28, e⟩ := gv_bind e
    obtain ⟨h30, qv29, e⟩ := gv_bind e
    refine gv_vS (jc := 187) (n := 1) (rest := []) (stk := []) (pc' := 130) rfl rfl rfl rfl rfl rfl rfl rfl rfl (gv_zR (gv_zI gv_z0)) rfl (gv_aR (gv_aI gv_a0)) (Nat.le_of_ble_eq_true rfl) qi28 (mM_finish_ok qv29) rfl rfl ?_
    refine gv_ic (pc' := 131) (x := 2) rfl rfl rfl ?_
    cases e
    exact gv_retI rfl rfl
  rw [if_neg c27] at e
  refine gv_cmT (pc' := 132) rfl (gv_neT2 c27) rfl ?_
  refine gv_ildn (pc' := 133) rfl rfl rfl ?_
  refine gv_ic (pc' := 134) (x := 1) rfl rfl rfl ?_
  by_cases c31 : s0 = (1 : Int32)
  · rw [if_pos c31] at e
    refine gv_cmF (pc' := 137) rfl (gv_neF2 c31) rfl rfl ?_
    refine gv_rldn (pc' := 138) rfl rfl rfl ?_
    refine gv_ic (pc' := 139) (x := 1) rfl rfl rfl ?_
    obtain ⟨i32, qi32, e⟩ := gv_bind e
    obtain ⟨⟨v33, h34⟩, qv33, e⟩ := gv_bind e
    refine gv_vS (jc := 180) (n := 1) (rest := []) (stk := [.int v33]) (pc' := 142) rfl rfl rfl rfl rfl rfl rfl rfl rfl (gv_zR (gv_zI gv_z0)) rfl (gv_aR (gv_aI gv_a0)) (Nat.le_of_ble_eq_true rfl) qi32 (mM_nextUpTo_ok qv33) rfl rfl ?_
    by_cases c36 : v33 = 0
    · rw [if_pos c36] at e
      refine gv_ifF (pc' := 145) rfl (gv_neF c36) rfl rfl ?_
      refine gv_rldn (pc' := 146) rfl rfl rfl ?_
      obtain ⟨v37, qv37, e⟩ := gv_bind e
      refine gv_fI (pc' := 149) rfl rfl qv37 rfl ?_
      by_cases c38 : v37 = 0
      · rw [if_pos c38] at e
        refine gv_ifT (pc' := 179) rfl (gv_eqT c38) rfl ?_
        exact gv_weak (mM_goesOn_179_ok e) (gv_S1 rfl (gv_S1 rfl gv_S0))
      rw [if_neg c38] at e
      refine gv_ifF (pc' := 152) rfl (gv_eqF c38) rfl rfl ?_
      refine gv_rldn (pc' := 153) rfl rfl rfl ?_
      refine gv_bp (pc' := 155) (x := 8) rfl rfl rfl ?_
      refine gv_ildn (pc' := 156) rfl rfl rfl ?_
      refine gv_imul (pc' := 157) rfl rfl ?_
      refine gv_rldn (pc' := 158) rfl rfl rfl ?_
      obtain ⟨v39, qv39, e⟩ := gv_bind e
      refine gv_fR (pc' := 161) rfl rfl qv39 rfl ?_
      refine gv_ildn (pc' := 162) rfl rfl rfl ?_
      obtain ⟨v40, qv40, e⟩ := gv_bind e
      refine gv_iald (pc' := 163) rfl qv40 rfl ?_
      refine gv_iadd (pc' := 164) rfl rfl ?_
      refine gv_ic (pc' := 165) (x := -1) rfl rfl rfl ?_
      refine gv_ic (pc' := 166) (x := 0) rfl rfl rfl ?_
      obtain ⟨i41, qi41, e⟩ := gv_bind e
      obtain ⟨h43, qv42, e⟩ := gv_bind e
      refine gv_vS (jc := 138) (n := 3) (rest := []) (stk := []) (pc' := 169) rfl rfl rfl rfl rfl rfl rfl rfl rfl (gv_zR (gv_zI (gv_zI (gv_zI gv_z0)))) rfl (gv_aR (gv_aI (gv_aI (gv_aI gv_a0)))) (Nat.le_of_ble_eq_true rfl) qi41 (mM_setSlot_ok qv42) rfl rfl ?_
      refine gv_rldn (pc' := 170) rfl rfl rfl ?_
      obtain ⟨v44, qv44, e⟩ := gv_bind e
      refine gv_fR (pc' := 173) rfl rfl qv44 rfl ?_
      refine gv_ildn (pc' := 174) rfl rfl rfl ?_
      refine gv_dup2 (pc' := 175) rfl rfl (gv_u_cat _) rfl ?_
      obtain ⟨v45, qv45, e⟩ := gv_bind e
      refine gv_iald (pc' := 176) rfl qv45 rfl ?_
      refine gv_ic (pc' := 177) (x := 1) rfl rfl rfl ?_
      refine gv_iadd (pc' := 178) rfl rfl ?_
      obtain ⟨h46, qh46, e⟩ := gv_bind e
      refine gv_iast (pc' := 179) rfl qh46 rfl ?_
      exact gv_weak (mM_goesOn_179_ok e) (gv_S1 rfl (gv_S1 rfl gv_S0))
    rw [if_neg c36] at e
    refine gv_ifT (pc' := 191) rfl (gv_neT c36) rfl ?_
    refine gv_ic (pc' := 192) (x := 1) rfl rfl rfl ?_
    cases e
    exact gv_retI rfl rfl
  rw [if_neg c31] at e
  refine gv_cmT (pc' := 191) rfl (gv_neT2 c31) rfl ?_
  refine gv_ic (pc' := 192) (x := 1) rfl rfl rfl ?_
  cases e
  exact gv_retI rfl rfl
def mM_goesOn (l0 : Option Nat) (h : gx_H) : Option (Int32 × gx_H) :=
  (gv_gI h l0 7 18).bind fun v1 =>
  (gv_gR h l0 7 19).bind fun v2 =>
  (gv_lI h v2 (v1 - (1 : Int32))).bind fun v3 =>
  if v3 < 0 then (
    mM_goesOn_28 l0 (v1 - (1 : Int32)) v3 (5 : Int32) h) else
  (gv_gR h l0 7 2).bind fun v5 =>
  (gv_lI h v5 v3).bind fun v6 =>
  mM_goesOn_28 l0 (v1 - (1 : Int32)) v3 v6 h
theorem mM_goesOn_ok {xs : Option (List Int32)} {l0 : Option Nat} {h : gx_H} {r : (Int32 × gx_H)} (e : mM_goesOn l0 h = some r) : gv_V xs 3 186 0 [(0, gv_u l0)] [] h (.returned (some (.int r.1))) r.2 := by
  unfold mM_goesOn at e
  refine gv_rldn (pc' := 1) rfl rfl rfl ?_
  obtain ⟨v1, qv1, e⟩ := gv_bind e
  refine gv_fI (pc' := 4) rfl rfl qv1 rfl ?_
  refine gv_ic (pc' := 5) (x := 1) rfl rfl rfl ?_
  refine gv_isub (pc' := 6) rfl rfl ?_
  refine gv_istn (pc' := 7) rfl rfl (gv_Cr rfl) rfl ?_
  refine gv_rldn (pc' := 8) rfl rfl rfl ?_
  obtain ⟨v2, qv2, e⟩ := gv_bind e
  refine gv_fR (pc' := 11) rfl rfl qv2 rfl ?_
  refine gv_ildn (pc' := 12) rfl rfl rfl ?_
  obtain ⟨v3, qv3, e⟩ := gv_bind e
  refine gv_iald (pc' := 13) rfl qv3 rfl ?_
  refine gv_istn (pc' := 14) rfl rfl (gv_Ci rfl) rfl ?_
  refine gv_ildn (pc' := 15) rfl rfl rfl ?_
  by_cases c4 : v3 < 0
  · rw [if_pos c4] at e
    refine gv_ifF (pc' := 18) rfl (gv_geF c4) rfl rfl ?_
    refine gv_ic (pc' := 19) (x := 5) rfl rfl rfl ?_
    refine gv_goto (pc' := 28) rfl rfl ?_
    exact gv_weak (mM_goesOn_28_ok e) (gv_S1 rfl (gv_S1 rfl (gv_S1 rfl gv_S0)))
  rw [if_neg c4] at e
  refine gv_ifT (pc' := 22) rfl (gv_geT c4) rfl ?_
  refine gv_rldn (pc' := 23) rfl rfl rfl ?_
  obtain ⟨v5, qv5, e⟩ := gv_bind e
  refine gv_fR (pc' := 26) rfl rfl qv5 rfl ?_
  refine gv_ildn (pc' := 27) rfl rfl rfl ?_
  obtain ⟨v6, qv6, e⟩ := gv_bind e
  refine gv_iald (pc' := 28) rfl qv6 rfl ?_
  exact gv_weak (mM_goesOn_28_ok e) (gv_S1 rfl (gv_S1 rfl (gv_S1 rfl gv_S0)))
def mM_deliver_151 (l0 : Option Nat) (l2 : Int32) (s0 : Option Nat) (s1 : Int32) (h : gx_H) : Option gx_H :=
  if ¬ (s1 = 0 ∨ s1 = 1) then none else
  (gv_pV h s0 7 31 (.int s1)).bind fun h1 =>
  (gv_gR h1 l0 7 3).bind fun v3 =>
  (gv_lI h1 v3 l2).bind fun v4 =>
  (gv_gI h1 l0 7 35).bind fun v5 =>
  (gv_gI h1 l0 7 36).bind fun v6 =>
  (gv_is h1 l0 7).bind fun i7 =>
  (mM_setSlot l0 (((8 : Int32) * l2) + v4) v5 v6 h1).bind fun h9 =>
  (gv_gR h9 l0 7 3).bind fun v10 =>
  (gv_lI h9 v10 l2).bind fun v11 =>
  (gv_wI h9 v10 l2 (v11 + (1 : Int32))).bind fun h12 =>
  some h12
theorem mM_deliver_151_ok {xs : Option (List Int32)} {l0 : Option Nat} {l2 : Int32} {s0 : Option Nat} {s1 : Int32} {h : gx_H} {r : gx_H} (e : mM_deliver_151 l0 l2 s0 s1 h = some r) : gv_V xs 3 188 151 [(0, gv_u l0), (2, .int l2)] [.int s1, gv_u s0] h (.returned none) r := by
  unfold mM_deliver_151 at e
  by_cases c2 : ¬ (s1 = 0 ∨ s1 = 1)
  · rw [if_pos c2] at e; cases e
  rw [if_neg c2] at e
  obtain ⟨h1, qh1, e⟩ := gv_bind e
  refine gv_pZ (pc' := 154) rfl rfl rfl (Decidable.of_not_not c2) qh1 rfl ?_
  refine gv_rldn (pc' := 155) rfl rfl rfl ?_
  refine gv_bp (pc' := 157) (x := 8) rfl rfl rfl ?_
  refine gv_ildn (pc' := 158) rfl rfl rfl ?_
  refine gv_imul (pc' := 159) rfl rfl ?_
  refine gv_rldn (pc' := 160) rfl rfl rfl ?_
  obtain ⟨v3, qv3, e⟩ := gv_bind e
  refine gv_fR (pc' := 163) rfl rfl qv3 rfl ?_
  refine gv_ildn (pc' := 164) rfl rfl rfl ?_
  obtain ⟨v4, qv4, e⟩ := gv_bind e
  refine gv_iald (pc' := 165) rfl qv4 rfl ?_
  refine gv_iadd (pc' := 166) rfl rfl ?_
  refine gv_rldn (pc' := 167) rfl rfl rfl ?_
  obtain ⟨v5, qv5, e⟩ := gv_bind e
  refine gv_fI (pc' := 170) rfl rfl qv5 rfl ?_
  refine gv_rldn (pc' := 171) rfl rfl rfl ?_
  obtain ⟨v6, qv6, e⟩ := gv_bind e
  refine gv_fI (pc' := 174) rfl rfl qv6 rfl ?_
  obtain ⟨i7, qi7, e⟩ := gv_bind e
  obtain ⟨h9, qv8, e⟩ := gv_bind e
  refine gv_vS (jc := 138) (n := 3) (rest := []) (stk := []) (pc' := 177) rfl rfl rfl rfl rfl rfl rfl rfl rfl (gv_zR (gv_zI (gv_zI (gv_zI gv_z0)))) rfl (gv_aR (gv_aI (gv_aI (gv_aI gv_a0)))) (Nat.le_of_ble_eq_true rfl) qi7 (mM_setSlot_ok qv8) rfl rfl ?_
  refine gv_rldn (pc' := 178) rfl rfl rfl ?_
  obtain ⟨v10, qv10, e⟩ := gv_bind e
  refine gv_fR (pc' := 181) rfl rfl qv10 rfl ?_
  refine gv_ildn (pc' := 182) rfl rfl rfl ?_
  refine gv_dup2 (pc' := 183) rfl rfl (gv_u_cat _) rfl ?_
  obtain ⟨v11, qv11, e⟩ := gv_bind e
  refine gv_iald (pc' := 184) rfl qv11 rfl ?_
  refine gv_ic (pc' := 185) (x := 1) rfl rfl rfl ?_
  refine gv_iadd (pc' := 186) rfl rfl ?_
  obtain ⟨h12, qh12, e⟩ := gv_bind e
  refine gv_iast (pc' := 187) rfl qh12 rfl ?_
  refine gv_goto (pc' := 309) rfl rfl ?_
  cases e
  exact gv_retV rfl rfl
def mM_deliver_150 (l0 : Option Nat) (l2 : Int32) (s0 : Option Nat) (h : gx_H) : Option gx_H :=
  mM_deliver_151 l0 l2 s0 (0 : Int32) h
theorem mM_deliver_150_ok {xs : Option (List Int32)} {l0 : Option Nat} {l2 : Int32} {s0 : Option Nat} {h : gx_H} {r : gx_H} (e : mM_deliver_150 l0 l2 s0 h = some r) : gv_V xs 3 188 150 [(0, gv_u l0), (2, .int l2)] [gv_u s0] h (.returned none) r := by
  unfold mM_deliver_150 at e
  refine gv_ic (pc' := 151) (x := 0) rfl rfl rfl ?_
  exact gv_weak (mM_deliver_151_ok e) (gv_S1 rfl (gv_S1 rfl gv_S0))
def mM_deliver_231 (l0 : Option Nat) (l2 : Int32) (l4 : Int32) (s0 : Option Nat) (s1 : Int32) (h : gx_H) : Option gx_H :=
  if ¬ (s1 = 0 ∨ s1 = 1) then none else
  (gv_pV h s0 7 31 (.int s1)).bind fun h1 =>
  (gv_gR h1 l0 7 7).bind fun v3 =>
  (gv_gI h1 l0 7 35).bind fun v4 =>
  (gv_wI h1 v3 (((8 : Int32) * l2) + (l4 / (2 : Int32))) v4).bind fun h5 =>
  (gv_gR h5 l0 7 6).bind fun v6 =>
  (gv_gI h5 l0 7 36).bind fun v7 =>
  (gv_wI h5 v6 (((8 : Int32) * l2) + (l4 / (2 : Int32))) v7).bind fun h8 =>
  some h8
theorem mM_deliver_231_ok {xs : Option (List Int32)} {l0 : Option Nat} {l2 : Int32} {l4 : Int32} {s0 : Option Nat} {s1 : Int32} {h : gx_H} {r : gx_H} (e : mM_deliver_231 l0 l2 l4 s0 s1 h = some r) : gv_V xs 3 188 231 [(0, gv_u l0), (2, .int l2), (4, .int l4)] [.int s1, gv_u s0] h (.returned none) r := by
  unfold mM_deliver_231 at e
  by_cases c2 : ¬ (s1 = 0 ∨ s1 = 1)
  · rw [if_pos c2] at e; cases e
  rw [if_neg c2] at e
  obtain ⟨h1, qh1, e⟩ := gv_bind e
  refine gv_pZ (pc' := 234) rfl rfl rfl (Decidable.of_not_not c2) qh1 rfl ?_
  refine gv_rldn (pc' := 235) rfl rfl rfl ?_
  obtain ⟨v3, qv3, e⟩ := gv_bind e
  refine gv_fR (pc' := 238) rfl rfl qv3 rfl ?_
  refine gv_bp (pc' := 240) (x := 8) rfl rfl rfl ?_
  refine gv_ildn (pc' := 241) rfl rfl rfl ?_
  refine gv_imul (pc' := 242) rfl rfl ?_
  refine gv_ild (pc' := 244) rfl rfl rfl ?_
  refine gv_ic (pc' := 245) (x := 2) rfl rfl rfl ?_
  refine gv_idiv (pc' := 246) rfl (by decide) rfl ?_
  refine gv_iadd (pc' := 247) rfl rfl ?_
  refine gv_rldn (pc' := 248) rfl rfl rfl ?_
  obtain ⟨v4, qv4, e⟩ := gv_bind e
  refine gv_fI (pc' := 251) rfl rfl qv4 rfl ?_
  obtain ⟨h5, qh5, e⟩ := gv_bind e
  refine gv_iast (pc' := 252) rfl qh5 rfl ?_
  refine gv_rldn (pc' := 253) rfl rfl rfl ?_
  obtain ⟨v6, qv6, e⟩ := gv_bind e
  refine gv_fR (pc' := 256) rfl rfl qv6 rfl ?_
  refine gv_bp (pc' := 258) (x := 8) rfl rfl rfl ?_
  refine gv_ildn (pc' := 259) rfl rfl rfl ?_
  refine gv_imul (pc' := 260) rfl rfl ?_
  refine gv_ild (pc' := 262) rfl rfl rfl ?_
  refine gv_ic (pc' := 263) (x := 2) rfl rfl rfl ?_
  refine gv_idiv (pc' := 264) rfl (by decide) rfl ?_
  refine gv_iadd (pc' := 265) rfl rfl ?_
  refine gv_rldn (pc' := 266) rfl rfl rfl ?_
  obtain ⟨v7, qv7, e⟩ := gv_bind e
  refine gv_fI (pc' := 269) rfl rfl qv7 rfl ?_
  obtain ⟨h8, qh8, e⟩ := gv_bind e
  refine gv_iast (pc' := 270) rfl qh8 rfl ?_
  refine gv_goto (pc' := 309) rfl rfl ?_
  cases e
  exact gv_retV rfl rfl
def mM_deliver_230 (l0 : Option Nat) (l2 : Int32) (l4 : Int32) (s0 : Option Nat) (h : gx_H) : Option gx_H :=
  mM_deliver_231 l0 l2 l4 s0 (0 : Int32) h
theorem mM_deliver_230_ok {xs : Option (List Int32)} {l0 : Option Nat} {l2 : Int32} {l4 : Int32} {s0 : Option Nat} {h : gx_H} {r : gx_H} (e : mM_deliver_230 l0 l2 l4 s0 h = some r) : gv_V xs 3 188 230 [(0, gv_u l0), (2, .int l2), (4, .int l4)] [gv_u s0] h (.returned none) r := by
  unfold mM_deliver_230 at e
  refine gv_ic (pc' := 231) (x := 0) rfl rfl rfl ?_
  exact gv_weak (mM_deliver_231_ok e) (gv_S1 rfl (gv_S1 rfl (gv_S1 rfl gv_S0)))
def mM_deliver_273 (l0 : Option Nat) (l2 : Int32) (l3 : Int32) (l4 : Int32) (h : gx_H) : Option gx_H :=
  if l3 = (2 : Int32) then (
    (gv_gI h l0 7 35).bind fun v2 =>
    (gv_gI h l0 7 36).bind fun v3 =>
    (gv_is h l0 7).bind fun i4 =>
    (mM_setSlot l0 (((8 : Int32) * l2) + (l4 / (2 : Int32))) v2 v3 h).bind fun h6 =>
    (gv_gR h6 l0 7 3).bind fun v7 =>
    (gv_lI h6 v7 l2).bind fun v8 =>
    (gv_wI h6 v7 l2 (v8 + (1 : Int32))).bind fun h9 =>
    some h9) else
  some h
theorem mM_deliver_273_ok {xs : Option (List Int32)} {l0 : Option Nat} {l2 : Int32} {l3 : Int32} {l4 : Int32} {h : gx_H} {r : gx_H} (e : mM_deliver_273 l0 l2 l3 l4 h = some r) : gv_V xs 3 188 273 [(0, gv_u l0), (2, .int l2), (3, .int l3), (4, .int l4)] [] h (.returned none) r := by
  unfold mM_deliver_273 at e
  refine gv_ildn (pc' := 274) rfl rfl rfl ?_
  refine gv_ic (pc' := 275) (x := 2) rfl rfl rfl ?_
  by_cases c1 : l3 = (2 : Int32)
  · rw [if_pos c1] at e
    refine gv_cmF (pc' := 278) rfl (gv_neF2 c1) rfl rfl ?_
    refine gv_rldn (pc' := 279) rfl rfl rfl ?_
    refine gv_bp (pc' := 281) (x := 8) rfl rfl rfl ?_
    refine gv_ildn (pc' := 282) rfl rfl rfl ?_
    refine gv_imul (pc' := 283) rfl rfl ?_
    refine gv_ild (pc' := 285) rfl rfl rfl ?_
    refine gv_ic (pc' := 286) (x := 2) rfl rfl rfl ?_
    refine gv_idiv (pc' := 287) rfl (by decide) rfl ?_
    refine gv_iadd (pc' := 288) rfl rfl ?_
    refine gv_rldn (pc' := 289) rfl rfl rfl ?_
    obtain ⟨v2, qv2, e⟩ := gv_bind e
    refine gv_fI (pc' := 292) rfl rfl qv2 rfl ?_
    refine gv_rldn (pc' := 293) rfl rfl rfl ?_
    obtain ⟨v3, qv3, e⟩ := gv_bind e
    refine gv_fI (pc' := 296) rfl rfl qv3 rfl ?_
    obtain ⟨i4, qi4, e⟩ := gv_bind e
    obtain ⟨h6, qv5, e⟩ := gv_bind e
    refine gv_vS (jc := 138) (n := 3) (rest := []) (stk := []) (pc' := 299) rfl rfl rfl rfl rfl rfl rfl rfl rfl (gv_zR (gv_zI (gv_zI (gv_zI gv_z0)))) rfl (gv_aR (gv_aI (gv_aI (gv_aI gv_a0)))) (Nat.le_of_ble_eq_true rfl) qi4 (mM_setSlot_ok qv5) rfl rfl ?_
    refine gv_rldn (pc' := 300) rfl rfl rfl ?_
    obtain ⟨v7, qv7, e⟩ := gv_bind e
    refine gv_fR (pc' := 303) rfl rfl qv7 rfl ?_
    refine gv_ildn (pc' := 304) rfl rfl rfl ?_
    refine gv_dup2 (pc' := 305) rfl rfl (gv_u_cat _) rfl ?_
    obtain ⟨v8, qv8, e⟩ := gv_bind e
    refine gv_iald (pc' := 306) rfl qv8 rfl ?_
    refine gv_ic (pc' := 307) (x := 1) rfl rfl rfl ?_
    refine gv_iadd (pc' := 308) rfl rfl ?_
    obtain ⟨h9, qh9, e⟩ := gv_bind e
    refine gv_iast (pc' := 309) rfl qh9 rfl ?_
    cases e
    exact gv_retV rfl rfl
  rw [if_neg c1] at e
  refine gv_cmT (pc' := 309) rfl (gv_neT2 c1) rfl ?_
  cases e
  exact gv_retV rfl rfl
def mM_deliver_28 (l0 : Option Nat) (l1 : Int32) (l2 : Int32) (s0 : Int32) (h : gx_H) : Option gx_H :=
  (gv_gR h l0 7 20).bind fun v1 =>
  (gv_lI h v1 l1).bind fun v2 =>
  (gv_gR h l0 7 20).bind fun v3 =>
  (gv_lI h v3 l1).bind fun v4 =>
  (gv_wI h v3 l1 (v4 + (1 : Int32))).bind fun h5 =>
  if s0 = 0 then (
    (gv_gR h5 l0 7 22).bind fun v7 =>
    (gv_lI h5 v7 ((6 : Int32) * l1)).bind fun v8 =>
    (gv_gI h5 l0 7 35).bind fun v9 =>
    (gv_gI h5 l0 7 36).bind fun v10 =>
    (gv_is h5 l0 7).bind fun i11 =>
    (mM_setProperty l0 l2 v8 v9 v10 h5).bind fun h13 =>
    some h13) else
  if s0 = (1 : Int32) then (
    (gv_gR h5 l0 7 3).bind fun v15 =>
    (gv_lI h5 v15 l2).bind fun v16 =>
    (gv_gI h5 l0 7 35).bind fun v17 =>
    (gv_gI h5 l0 7 36).bind fun v18 =>
    (gv_is h5 l0 7).bind fun i19 =>
    (mM_setSlot l0 (((8 : Int32) * l2) + v16) v17 v18 h5).bind fun h21 =>
    (gv_gR h21 l0 7 3).bind fun v22 =>
    (gv_lI h21 v22 l2).bind fun v23 =>
    (gv_wI h21 v22 l2 (v23 + (1 : Int32))).bind fun h24 =>
    some h24) else
  if s0 = (3 : Int32) then (
    (gv_gI h5 l0 7 31).bind fun v26 =>
    if v26 = 0 then (
      mM_deliver_150 l0 l2 l0 h5) else
    (gv_gI h5 l0 7 35).bind fun v28 =>
    (gv_gI h5 l0 7 36).bind fun v29 =>
    (gv_is h5 l0 7).bind fun i30 =>
    (mM_hasMember l0 l2 v28 v29 h5).bind fun v31 =>
    if v31 = 0 then (
      mM_deliver_151 l0 l2 l0 (1 : Int32) h5) else
    mM_deliver_150 l0 l2 l0 h5) else
  if s0 = (2 : Int32) then (
    if (v2 - v2 / (2 : Int32) * (2 : Int32)) = 0 then (
      (gv_gI h5 l0 7 31).bind fun v35 =>
      if v35 = 0 then (
        mM_deliver_230 l0 l2 v2 l0 h5) else
      (gv_gI h5 l0 7 35).bind fun v37 =>
      (gv_gI h5 l0 7 36).bind fun v38 =>
      (gv_is h5 l0 7).bind fun i39 =>
      (mM_entryOf l0 l2 v37 v38 h5).bind fun v40 =>
      if v40 < 0 then (
        mM_deliver_231 l0 l2 v2 l0 (1 : Int32) h5) else
      mM_deliver_230 l0 l2 v2 l0 h5) else
    mM_deliver_273 l0 l2 s0 v2 h5) else
  mM_deliver_273 l0 l2 s0 v2 h5
theorem mM_deliver_28_ok {xs : Option (List Int32)} {l0 : Option Nat} {l1 : Int32} {l2 : Int32} {s0 : Int32} {h : gx_H} {r : gx_H} (e : mM_deliver_28 l0 l1 l2 s0 h = some r) : gv_V xs 3 188 28 [(0, gv_u l0), (1, .int l1), (2, .int l2)] [.int s0] h (.returned none) r := by
  unfold mM_deliver_28 at e
  refine gv_istn (pc' := 29) rfl rfl (gv_Ci rfl) rfl ?_
  refine gv_rldn (pc' := 30) rfl rfl rfl ?_
  obtain ⟨v1, qv1, e⟩ := gv_bind e
  refine gv_fR (pc' := 33) rfl rfl qv1 rfl ?_
  refine gv_ildn (pc' := 34) rfl rfl rfl ?_
  obtain ⟨v2, qv2, e⟩ := gv_bind e
  refine gv_iald (pc' := 35) rfl qv2 rfl ?_
  refine gv_ist (pc' := 37) rfl rfl (gv_Ci rfl) rfl ?_
  refine gv_rldn (pc' := 38) rfl rfl rfl ?_
  obtain ⟨v3, qv3, e⟩ := gv_bind e
  refine gv_fR (pc' := 41) rfl rfl qv3 rfl ?_
  refine gv_ildn (pc' := 42) rfl rfl rfl ?_
  refine gv_dup2 (pc' := 43) rfl rfl (gv_u_cat _) rfl ?_
  obtain ⟨v4, qv4, e⟩ := gv_bind e
  refine gv_iald (pc' := 44) rfl qv4 rfl ?_
  refine gv_ic (pc' := 45) (x := 1) rfl rfl rfl ?_
  refine gv_iadd (pc' := 46) rfl rfl ?_
  obtain ⟨h5, qh5, e⟩ := gv_bind e
  refine gv_iast (pc' := 47) rfl qh5 rfl ?_
  refine gv_ildn (pc' := 48) rfl rfl rfl ?_
  by_cases c6 : s0 = 0
  · rw [if_pos c6] at e
    refine gv_ifF (pc' := 51) rfl (gv_neF c6) rfl rfl ?_
    refine gv_rldn (pc' := 52) rfl rfl rfl ?_
    refine gv_ildn (pc' := 53) rfl rfl rfl ?_
    refine gv_rldn (pc' := 54) rfl rfl rfl ?_
    obtain ⟨v7, qv7, e⟩ := gv_bind e
    refine gv_fR (pc' := 57) rfl rfl qv7 rfl ?_
    refine gv_bp (pc' := 59) (x := 6) rfl rfl rfl ?_
    refine gv_ildn (pc' := 60) rfl rfl rfl ?_
    refine gv_imul (pc' := 61) rfl rfl ?_
    obtain ⟨v8, qv8, e⟩ := gv_bind e
    refine gv_iald (pc' := 62) rfl qv8 rfl ?_
    refine gv_rldn (pc' := 63) rfl rfl rfl ?_
    obtain ⟨v9, qv9, e⟩ := gv_bind e
    refine gv_fI (pc' := 66) rfl rfl qv9 rfl ?_
    refine gv_rldn (pc' := 67) rfl rfl rfl ?_
    obtain ⟨v10, qv10, e⟩ := gv_bind e
    refine gv_fI (pc' := 70) rfl rfl qv10 rfl ?_
    obtain ⟨i11, qi11, e⟩ := gv_bind e
    obtain ⟨h13, qv12, e⟩ := gv_bind e
    refine gv_vS (jc := 136) (n := 4) (rest := []) (stk := []) (pc' := 73) rfl rfl rfl rfl rfl rfl rfl rfl rfl (gv_zR (gv_zI (gv_zI (gv_zI (gv_zI gv_z0))))) rfl (gv_aR (gv_aI (gv_aI (gv_aI (gv_aI gv_a0))))) (Nat.le_of_ble_eq_true rfl) qi11 (mM_setProperty_ok qv12) rfl rfl ?_
    refine gv_goto (pc' := 309) rfl rfl ?_
    cases e
    exact gv_retV rfl rfl
  rw [if_neg c6] at e
  refine gv_ifT (pc' := 76) rfl (gv_neT c6) rfl ?_
  refine gv_ildn (pc' := 77) rfl rfl rfl ?_
  refine gv_ic (pc' := 78) (x := 1) rfl rfl rfl ?_
  by_cases c14 : s0 = (1 : Int32)
  · rw [if_pos c14] at e
    refine gv_cmF (pc' := 81) rfl (gv_neF2 c14) rfl rfl ?_
    refine gv_rldn (pc' := 82) rfl rfl rfl ?_
    refine gv_bp (pc' := 84) (x := 8) rfl rfl rfl ?_
    refine gv_ildn (pc' := 85) rfl rfl rfl ?_
    refine gv_imul (pc' := 86) rfl rfl ?_
    refine gv_rldn (pc' := 87) rfl rfl rfl ?_
    obtain ⟨v15, qv15, e⟩ := gv_bind e
    refine gv_fR (pc' := 90) rfl rfl qv15 rfl ?_
    refine gv_ildn (pc' := 91) rfl rfl rfl ?_
    obtain ⟨v16, qv16, e⟩ := gv_bind e
    refine gv_iald (pc' := 92) rfl qv16 rfl ?_
    refine gv_iadd (pc' := 93) rfl rfl ?_
    refine gv_rldn (pc' := 94) rfl rfl rfl ?_
    obtain ⟨v17, qv17, e⟩ := gv_bind e
    refine gv_fI (pc' := 97) rfl rfl qv17 rfl ?_
    refine gv_rldn (pc' := 98) rfl rfl rfl ?_
    obtain ⟨v18, qv18, e⟩ := gv_bind e
    refine gv_fI (pc' := 101) rfl rfl qv18 rfl ?_
    obtain ⟨i19, qi19, e⟩ := gv_bind e
    obtain ⟨h21, qv20, e⟩ := gv_bind e
    refine gv_vS (jc := 138) (n := 3) (rest := []) (stk := []) (pc' := 104) rfl rfl rfl rfl rfl rfl rfl rfl rfl (gv_zR (gv_zI (gv_zI (gv_zI gv_z0)))) rfl (gv_aR (gv_aI (gv_aI (gv_aI gv_a0)))) (Nat.le_of_ble_eq_true rfl) qi19 (mM_setSlot_ok qv20) rfl rfl ?_
    refine gv_rldn (pc' := 105) rfl rfl rfl ?_
    obtain ⟨v22, qv22, e⟩ := gv_bind e
    refine gv_fR (pc' := 108) rfl rfl qv22 rfl ?_
    refine gv_ildn (pc' := 109) rfl rfl rfl ?_
    refine gv_dup2 (pc' := 110) rfl rfl (gv_u_cat _) rfl ?_
    obtain ⟨v23, qv23, e⟩ := gv_bind e
    refine gv_iald (pc' := 111) rfl qv23 rfl ?_
    refine gv_ic (pc' := 112) (x := 1) rfl rfl rfl ?_
    refine gv_iadd (pc' := 113) rfl rfl ?_
    obtain ⟨h24, qh24, e⟩ := gv_bind e
    refine gv_iast (pc' := 114) rfl qh24 rfl ?_
    refine gv_goto (pc' := 309) rfl rfl ?_
    cases e
    exact gv_retV rfl rfl
  rw [if_neg c14] at e
  refine gv_cmT (pc' := 117) rfl (gv_neT2 c14) rfl ?_
  refine gv_ildn (pc' := 118) rfl rfl rfl ?_
  refine gv_ic (pc' := 119) (x := 3) rfl rfl rfl ?_
  by_cases c25 : s0 = (3 : Int32)
  · rw [if_pos c25] at e
    refine gv_cmF (pc' := 122) rfl (gv_neF2 c25) rfl rfl ?_
    refine gv_rldn (pc' := 123) rfl rfl rfl ?_
    refine gv_rldn (pc' := 124) rfl rfl rfl ?_
    obtain ⟨v26, qv26, e⟩ := gv_bind e
    refine gv_fI (pc' := 127) rfl rfl qv26 rfl ?_
    by_cases c27 : v26 = 0
    · rw [if_pos c27] at e
      refine gv_ifT (pc' := 150) rfl (gv_eqT c27) rfl ?_
      exact gv_weak (mM_deliver_150_ok e) (gv_S1 rfl (gv_S1 rfl gv_S0))
    rw [if_neg c27] at e
    refine gv_ifF (pc' := 130) rfl (gv_eqF c27) rfl rfl ?_
    refine gv_rldn (pc' := 131) rfl rfl rfl ?_
    refine gv_ildn (pc' := 132) rfl rfl rfl ?_
    refine gv_rldn (pc' := 133) rfl rfl rfl ?_
    obtain ⟨v28, qv28, e⟩ := gv_bind e
    refine gv_fI (pc' := 136) rfl rfl qv28 rfl ?_
    refine gv_rldn (pc' := 137) rfl rfl rfl ?_
    obtain ⟨v29, qv29, e⟩ := gv_bind e
    refine gv_fI (pc' := 140) rfl rfl qv29 rfl ?_
    obtain ⟨i30, qi30, e⟩ := gv_bind e
    obtain ⟨v31, qv31, e⟩ := gv_bind e
    refine gv_vS (jc := 145) (n := 3) (rest := [gv_u l0]) (stk := [.int v31, gv_u l0]) (pc' := 143) rfl rfl rfl rfl rfl rfl rfl rfl rfl (gv_zR (gv_zI (gv_zI (gv_zI gv_z0)))) rfl (gv_aR (gv_aI (gv_aI (gv_aI gv_a0)))) (Nat.le_of_ble_eq_true rfl) qi30 (mM_hasMember_ok qv31) rfl rfl ?_
    by_cases c32 : v31 = 0
    · rw [if_pos c32] at e
      refine gv_ifF (pc' := 146) rfl (gv_neF c32) rfl rfl ?_
      refine gv_ic (pc' := 147) (x := 1) rfl rfl rfl ?_
      refine gv_goto (pc' := 151) rfl rfl ?_
      exact gv_weak (mM_deliver_151_ok e) (gv_S1 rfl (gv_S1 rfl gv_S0))
    rw [if_neg c32] at e
    refine gv_ifT (pc' := 150) rfl (gv_neT c32) rfl ?_
    exact gv_weak (mM_deliver_150_ok e) (gv_S1 rfl (gv_S1 rfl gv_S0))
  rw [if_neg c25] at e
  refine gv_cmT (pc' := 190) rfl (gv_neT2 c25) rfl ?_
  refine gv_ildn (pc' := 191) rfl rfl rfl ?_
  refine gv_ic (pc' := 192) (x := 2) rfl rfl rfl ?_
  by_cases c33 : s0 = (2 : Int32)
  · rw [if_pos c33] at e
    refine gv_cmF (pc' := 195) rfl (gv_neF2 c33) rfl rfl ?_
    refine gv_ild (pc' := 197) rfl rfl rfl ?_
    refine gv_ic (pc' := 198) (x := 2) rfl rfl rfl ?_
    refine gv_irem (pc' := 199) rfl (by decide) rfl ?_
    by_cases c34 : (v2 - v2 / (2 : Int32) * (2 : Int32)) = 0
    · rw [if_pos c34] at e
      refine gv_ifF (pc' := 202) rfl (gv_neF c34) rfl rfl ?_
      refine gv_rldn (pc' := 203) rfl rfl rfl ?_
      refine gv_rldn (pc' := 204) rfl rfl rfl ?_
      obtain ⟨v35, qv35, e⟩ := gv_bind e
      refine gv_fI (pc' := 207) rfl rfl qv35 rfl ?_
      by_cases c36 : v35 = 0
      · rw [if_pos c36] at e
        refine gv_ifT (pc' := 230) rfl (gv_eqT c36) rfl ?_
        exact gv_weak (mM_deliver_230_ok e) (gv_S1 rfl (gv_S1 rfl (gv_S1 rfl gv_S0)))
      rw [if_neg c36] at e
      refine gv_ifF (pc' := 210) rfl (gv_eqF c36) rfl rfl ?_
      refine gv_rldn (pc' := 211) rfl rfl rfl ?_
      refine gv_ildn (pc' := 212) rfl rfl rfl ?_
      refine gv_rldn (pc' := 213) rfl rfl rfl ?_
      obtain ⟨v37, qv37, e⟩ := gv_bind e
      refine gv_fI (pc' := 216) rfl rfl qv37 rfl ?_
      refine gv_rldn (pc' := 217) rfl rfl rfl ?_
      obtain ⟨v38, qv38, e⟩ := gv_bind e
      refine gv_fI (pc' := 220) rfl rfl qv38 rfl ?_
      obtain ⟨i39, qi39, e⟩ := gv_bind e
      obtain ⟨v40, qv40, e⟩ := gv_bind e
      refine gv_vS (jc := 143) (n := 3) (rest := [gv_u l0]) (stk := [.int v40, gv_u l0]) (pc' := 223) rfl rfl rfl rfl rfl rfl rfl rfl rfl (gv_zR (gv_zI (gv_zI (gv_zI gv_z0)))) rfl (gv_aR (gv_aI (gv_aI (gv_aI gv_a0)))) (Nat.le_of_ble_eq_true rfl) qi39 (mM_entryOf_ok qv40) rfl rfl ?_
      by_cases c41 : v40 < 0
      · rw [if_pos c41] at e
        refine gv_ifF (pc' := 226) rfl (gv_geF c41) rfl rfl ?_
        refine gv_ic (pc' := 227) (x := 1) rfl rfl rfl ?_
        refine gv_goto (pc' := 231) rfl rfl ?_
        exact gv_weak (mM_deliver_231_ok e) (gv_S1 rfl (gv_S1 rfl (gv_S1 rfl gv_S0)))
      rw [if_neg c41] at e
      refine gv_ifT (pc' := 230) rfl (gv_geT c41) rfl ?_
      exact gv_weak (mM_deliver_230_ok e) (gv_S1 rfl (gv_S1 rfl (gv_S1 rfl gv_S0)))
    rw [if_neg c34] at e
    refine gv_ifT (pc' := 273) rfl (gv_neT c34) rfl ?_
    exact gv_weak (mM_deliver_273_ok e) (gv_S1 rfl (gv_S1 rfl (gv_S1 rfl (gv_S1 rfl gv_S0))))
  rw [if_neg c33] at e
  refine gv_cmT (pc' := 273) rfl (gv_neT2 c33) rfl ?_
  exact gv_weak (mM_deliver_273_ok e) (gv_S1 rfl (gv_S1 rfl (gv_S1 rfl (gv_S1 rfl gv_S0))))
def mM_deliver (l0 : Option Nat) (h : gx_H) : Option gx_H :=
  (gv_gI h l0 7 18).bind fun v1 =>
  (gv_gR h l0 7 19).bind fun v2 =>
  (gv_lI h v2 (v1 - (1 : Int32))).bind fun v3 =>
  if v3 < 0 then (
    mM_deliver_28 l0 (v1 - (1 : Int32)) v3 (5 : Int32) h) else
  (gv_gR h l0 7 2).bind fun v5 =>
  (gv_lI h v5 v3).bind fun v6 =>
  mM_deliver_28 l0 (v1 - (1 : Int32)) v3 v6 h
theorem mM_deliver_ok {xs : Option (List Int32)} {l0 : Option Nat} {h : gx_H} {r : gx_H} (e : mM_deliver l0 h = some r) : gv_V xs 3 188 0 [(0, gv_u l0)] [] h (.returned none) r := by
  unfold mM_deliver at e
  refine gv_rldn (pc' := 1) rfl rfl rfl ?_
  obtain ⟨v1, qv1, e⟩ := gv_bind e
  refine gv_fI (pc' := 4) rfl rfl qv1 rfl ?_
  refine gv_ic (pc' := 5) (x := 1) rfl rfl rfl ?_
  refine gv_isub (pc' := 6) rfl rfl ?_
  refine gv_istn (pc' := 7) rfl rfl (gv_Cr rfl) rfl ?_
  refine gv_rldn (pc' := 8) rfl rfl rfl ?_
  obtain ⟨v2, qv2, e⟩ := gv_bind e
  refine gv_fR (pc' := 11) rfl rfl qv2 rfl ?_
  refine gv_ildn (pc' := 12) rfl rfl rfl ?_
  obtain ⟨v3, qv3, e⟩ := gv_bind e
  refine gv_iald (pc' := 13) rfl qv3 rfl ?_
  refine gv_istn (pc' := 14) rfl rfl (gv_Ci rfl) rfl ?_
  refine gv_ildn (pc' := 15) rfl rfl rfl ?_
  by_cases c4 : v3 < 0
  · rw [if_pos c4] at e
    refine gv_ifF (pc' := 18) rfl (gv_geF c4) rfl rfl ?_
    refine gv_ic (pc' := 19) (x := 5) rfl rfl rfl ?_
    refine gv_goto (pc' := 28) rfl rfl ?_
    exact gv_weak (mM_deliver_28_ok e) (gv_S1 rfl (gv_S1 rfl (gv_S1 rfl gv_S0)))
  rw [if_neg c4] at e
  refine gv_ifT (pc' := 22) rfl (gv_geT c4) rfl ?_
  refine gv_rldn (pc' := 23) rfl rfl rfl ?_
  obtain ⟨v5, qv5, e⟩ := gv_bind e
  refine gv_fR (pc' := 26) rfl rfl qv5 rfl ?_
  refine gv_ildn (pc' := 27) rfl rfl rfl ?_
  obtain ⟨v6, qv6, e⟩ := gv_bind e
  refine gv_iald (pc' := 28) rfl qv6 rfl ?_
  exact gv_weak (mM_deliver_28_ok e) (gv_S1 rfl (gv_S1 rfl (gv_S1 rfl gv_S0)))
def mM_takeAll_145 (l0 : Option Nat) (h : gx_H) : Option gx_H :=
  (gv_gI h l0 7 31).bind fun v1 =>
  if v1 = 0 then (
    (gv_pV h l0 7 31 (.int (0 : Int32))).bind fun h3 =>
    some h3) else
  (gv_gI h l0 7 32).bind fun v4 =>
  (gv_gI h l0 7 15).bind fun v5 =>
  if v4 = v5 then (
    (gv_pV h l0 7 31 (.int (1 : Int32))).bind fun h7 =>
    some h7) else
  (gv_pV h l0 7 31 (.int (0 : Int32))).bind fun h8 =>
  some h8
theorem mM_takeAll_145_ok {xs : Option (List Int32)} {l0 : Option Nat} {h : gx_H} {r : gx_H} (e : mM_takeAll_145 l0 h = some r) : gv_V xs 4 171 145 [(0, gv_u l0)] [] h (.returned none) r := by
  unfold mM_takeAll_145 at e
  refine gv_rldn (pc' := 146) rfl rfl rfl ?_
  refine gv_rldn (pc' := 147) rfl rfl rfl ?_
  obtain ⟨v1, qv1, e⟩ := gv_bind e
  refine gv_fI (pc' := 150) rfl rfl qv1 rfl ?_
  by_cases c2 : v1 = 0
  · rw [if_pos c2] at e
    refine gv_ifT (pc' := 168) rfl (gv_eqT c2) rfl ?_
    refine gv_ic (pc' := 169) (x := 0) rfl rfl rfl ?_
    obtain ⟨h3, qh3, e⟩ := gv_bind e
    refine gv_pZ (pc' := 172) rfl rfl rfl (by decide) qh3 rfl ?_
    cases e
    exact gv_retV rfl rfl
  rw [if_neg c2] at e
  refine gv_ifF (pc' := 153) rfl (gv_eqF c2) rfl rfl ?_
  refine gv_rldn (pc' := 154) rfl rfl rfl ?_
  obtain ⟨v4, qv4, e⟩ := gv_bind e
  refine gv_fI (pc' := 157) rfl rfl qv4 rfl ?_
  refine gv_rldn (pc' := 158) rfl rfl rfl ?_
  obtain ⟨v5, qv5, e⟩ := gv_bind e
  refine gv_fI (pc' := 161) rfl rfl qv5 rfl ?_
  by_cases c6 : v4 = v5
  · rw [if_pos c6] at e
    refine gv_cmF (pc' := 164) rfl (gv_neF2 c6) rfl rfl ?_
    refine gv_ic (pc' := 165) (x := 1) rfl rfl rfl ?_
    refine gv_goto (pc' := 169) rfl rfl ?_
    obtain ⟨h7, qh7, e⟩ := gv_bind e
    refine gv_pZ (pc' := 172) rfl rfl rfl (by decide) qh7 rfl ?_
    cases e
    exact gv_retV rfl rfl
  rw [if_neg c6] at e
  refine gv_cmT (pc' := 168) rfl (gv_neT2 c6) rfl ?_
  refine gv_ic (pc' := 169) (x := 0) rfl rfl rfl ?_
  obtain ⟨h8, qh8, e⟩ := gv_bind e
  refine gv_pZ (pc' := 172) rfl rfl rfl (by decide) qh8 rfl ?_
  cases e
  exact gv_retV rfl rfl
def mM_takeAll_142 (rec48 : Option Nat → Int32 → Int32 → gx_H → Option gx_H) (l0 : Option Nat) (l1 : Int32) (l2 : Int32) (h : gx_H) : Option gx_H :=
  rec48 l0 l1 l2 h
theorem mM_takeAll_142_ok {xs : Option (List Int32)} {rec48 : Option Nat → Int32 → Int32 → gx_H → Option gx_H} (hrec48 : ∀ (l0 : Option Nat) (l1 : Int32) (l2 : Int32) (h : gx_H) (r : gx_H), rec48 l0 l1 l2 h = some r → gv_V xs 4 171 48 [(0, gv_u l0), (1, .int l1), (2, .int l2)] [] h (.returned none) r) {l0 : Option Nat} {l1 : Int32} {l2 : Int32} {h : gx_H} {r : gx_H} (e : mM_takeAll_142 rec48 l0 l1 l2 h = some r) : gv_V xs 4 171 142 [(0, gv_u l0), (1, .int l1), (2, .int l2)] [] h (.returned none) r := by
  unfold mM_takeAll_142 at e
  refine gv_goto (pc' := 48) rfl rfl ?_
  exact gv_weak (hrec48 _ _ _ _ _ e) (gv_S1 rfl (gv_S1 rfl (gv_S1 rfl gv_S0)))
def mM_takeAll_119 (rec48 : Option Nat → Int32 → Int32 → gx_H → Option gx_H) (l0 : Option Nat) (l1 : Int32) (l3 : Int32) (s0 : Int32) (h : gx_H) : Option gx_H :=
  (gv_gI h l0 7 31).bind fun v1 =>
  if v1 = 0 then (
    mM_takeAll_142 rec48 l0 l1 s0 h) else
  if l3 = 0 then (
    mM_takeAll_142 rec48 l0 l1 s0 h) else
  (gv_gI h l0 7 18).bind fun v4 =>
  if 0 < v4 then (
    (gv_is h l0 7).bind fun i6 =>
    (mM_deliver l0 h).bind fun h8 =>
    mM_takeAll_142 rec48 l0 l1 s0 h8) else
  mM_takeAll_142 rec48 l0 l1 s0 h
theorem mM_takeAll_119_ok {xs : Option (List Int32)} {rec48 : Option Nat → Int32 → Int32 → gx_H → Option gx_H} (hrec48 : ∀ (l0 : Option Nat) (l1 : Int32) (l2 : Int32) (h : gx_H) (r : gx_H), rec48 l0 l1 l2 h = some r → gv_V xs 4 171 48 [(0, gv_u l0), (1, .int l1), (2, .int l2)] [] h (.returned none) r) {l0 : Option Nat} {l1 : Int32} {l3 : Int32} {s0 : Int32} {h : gx_H} {r : gx_H} (e : mM_takeAll_119 rec48 l0 l1 l3 s0 h = some r) : gv_V xs 4 171 119 [(0, gv_u l0), (1, .int l1), (3, .int l3)] [.int s0] h (.returned none) r := by
  unfold mM_takeAll_119 at e
  refine gv_istn (pc' := 120) rfl rfl (gv_Ci rfl) rfl ?_
  refine gv_rldn (pc' := 121) rfl rfl rfl ?_
  obtain ⟨v1, qv1, e⟩ := gv_bind e
  refine gv_fI (pc' := 124) rfl rfl qv1 rfl ?_
  by_cases c2 : v1 = 0
  · rw [if_pos c2] at e
    refine gv_ifT (pc' := 142) rfl (gv_eqT c2) rfl ?_
    exact gv_weak (mM_takeAll_142_ok hrec48 e) (gv_S1 rfl (gv_S1 rfl (gv_S1 rfl gv_S0)))
  rw [if_neg c2] at e
  refine gv_ifF (pc' := 127) rfl (gv_eqF c2) rfl rfl ?_
  refine gv_ildn (pc' := 128) rfl rfl rfl ?_
  by_cases c3 : l3 = 0
  · rw [if_pos c3] at e
    refine gv_ifT (pc' := 142) rfl (gv_eqT c3) rfl ?_
    exact gv_weak (mM_takeAll_142_ok hrec48 e) (gv_S1 rfl (gv_S1 rfl (gv_S1 rfl gv_S0)))
  rw [if_neg c3] at e
  refine gv_ifF (pc' := 131) rfl (gv_eqF c3) rfl rfl ?_
  refine gv_rldn (pc' := 132) rfl rfl rfl ?_
  obtain ⟨v4, qv4, e⟩ := gv_bind e
  refine gv_fI (pc' := 135) rfl rfl qv4 rfl ?_
  by_cases c5 : 0 < v4
  · rw [if_pos c5] at e
    refine gv_ifF (pc' := 138) rfl (gv_leF c5) rfl rfl ?_
    refine gv_rldn (pc' := 139) rfl rfl rfl ?_
    obtain ⟨i6, qi6, e⟩ := gv_bind e
    obtain ⟨h8, qv7, e⟩ := gv_bind e
    refine gv_vS (jc := 188) (n := 0) (rest := []) (stk := []) (pc' := 142) rfl rfl rfl rfl rfl rfl rfl rfl rfl (gv_zR gv_z0) rfl (gv_aR gv_a0) (Nat.le_of_ble_eq_true rfl) qi6 (mM_deliver_ok qv7) rfl rfl ?_
    exact gv_weak (mM_takeAll_142_ok hrec48 e) (gv_S1 rfl (gv_S1 rfl (gv_S1 rfl gv_S0)))
  rw [if_neg c5] at e
  refine gv_ifT (pc' := 142) rfl (gv_leT c5) rfl ?_
  exact gv_weak (mM_takeAll_142_ok hrec48 e) (gv_S1 rfl (gv_S1 rfl (gv_S1 rfl gv_S0)))
def mM_takeAll_118 (rec48 : Option Nat → Int32 → Int32 → gx_H → Option gx_H) (l0 : Option Nat) (l1 : Int32) (l3 : Int32) (h : gx_H) : Option gx_H :=
  mM_takeAll_119 rec48 l0 l1 l3 (0 : Int32) h
theorem mM_takeAll_118_ok {xs : Option (List Int32)} {rec48 : Option Nat → Int32 → Int32 → gx_H → Option gx_H} (hrec48 : ∀ (l0 : Option Nat) (l1 : Int32) (l2 : Int32) (h : gx_H) (r : gx_H), rec48 l0 l1 l2 h = some r → gv_V xs 4 171 48 [(0, gv_u l0), (1, .int l1), (2, .int l2)] [] h (.returned none) r) {l0 : Option Nat} {l1 : Int32} {l3 : Int32} {h : gx_H} {r : gx_H} (e : mM_takeAll_118 rec48 l0 l1 l3 h = some r) : gv_V xs 4 171 118 [(0, gv_u l0), (1, .int l1), (3, .int l3)] [] h (.returned none) r := by
  unfold mM_takeAll_118 at e
  refine gv_ic (pc' := 119) (x := 0) rfl rfl rfl ?_
  exact gv_weak (mM_takeAll_119_ok hrec48 e) (gv_S1 rfl (gv_S1 rfl (gv_S1 rfl gv_S0)))
def mM_takeAll_103 (rec48 : Option Nat → Int32 → Int32 → gx_H → Option gx_H) (l0 : Option Nat) (l1 : Int32) (l3 : Int32) (h : gx_H) : Option gx_H :=
  if l3 = 0 then (
    mM_takeAll_118 rec48 l0 l1 l3 h) else
  (gv_gI h l0 7 18).bind fun v2 =>
  if v2 = 0 then (
    mM_takeAll_119 rec48 l0 l1 l3 (1 : Int32) h) else
  mM_takeAll_118 rec48 l0 l1 l3 h
theorem mM_takeAll_103_ok {xs : Option (List Int32)} {rec48 : Option Nat → Int32 → Int32 → gx_H → Option gx_H} (hrec48 : ∀ (l0 : Option Nat) (l1 : Int32) (l2 : Int32) (h : gx_H) (r : gx_H), rec48 l0 l1 l2 h = some r → gv_V xs 4 171 48 [(0, gv_u l0), (1, .int l1), (2, .int l2)] [] h (.returned none) r) {l0 : Option Nat} {l1 : Int32} {l3 : Int32} {h : gx_H} {r : gx_H} (e : mM_takeAll_103 rec48 l0 l1 l3 h = some r) : gv_V xs 4 171 103 [(0, gv_u l0), (1, .int l1), (3, .int l3)] [] h (.returned none) r := by
  unfold mM_takeAll_103 at e
  refine gv_ildn (pc' := 104) rfl rfl rfl ?_
  by_cases c1 : l3 = 0
  · rw [if_pos c1] at e
    refine gv_ifT (pc' := 118) rfl (gv_eqT c1) rfl ?_
    exact gv_weak (mM_takeAll_118_ok hrec48 e) (gv_S1 rfl (gv_S1 rfl (gv_S1 rfl gv_S0)))
  rw [if_neg c1] at e
  refine gv_ifF (pc' := 107) rfl (gv_eqF c1) rfl rfl ?_
  refine gv_rldn (pc' := 108) rfl rfl rfl ?_
  obtain ⟨v2, qv2, e⟩ := gv_bind e
  refine gv_fI (pc' := 111) rfl rfl qv2 rfl ?_
  by_cases c3 : v2 = 0
  · rw [if_pos c3] at e
    refine gv_ifF (pc' := 114) rfl (gv_neF c3) rfl rfl ?_
    refine gv_ic (pc' := 115) (x := 1) rfl rfl rfl ?_
    refine gv_goto (pc' := 119) rfl rfl ?_
    exact gv_weak (mM_takeAll_119_ok hrec48 e) (gv_S1 rfl (gv_S1 rfl (gv_S1 rfl gv_S0)))
  rw [if_neg c3] at e
  refine gv_ifT (pc' := 118) rfl (gv_neT c3) rfl ?_
  exact gv_weak (mM_takeAll_118_ok hrec48 e) (gv_S1 rfl (gv_S1 rfl (gv_S1 rfl gv_S0)))
def mM_takeAll_102 (rec48 : Option Nat → Int32 → Int32 → gx_H → Option gx_H) (l0 : Option Nat) (l1 : Int32) (s0 : Int32) (h : gx_H) : Option gx_H :=
  mM_takeAll_103 rec48 l0 l1 s0 h
theorem mM_takeAll_102_ok {xs : Option (List Int32)} {rec48 : Option Nat → Int32 → Int32 → gx_H → Option gx_H} (hrec48 : ∀ (l0 : Option Nat) (l1 : Int32) (l2 : Int32) (h : gx_H) (r : gx_H), rec48 l0 l1 l2 h = some r → gv_V xs 4 171 48 [(0, gv_u l0), (1, .int l1), (2, .int l2)] [] h (.returned none) r) {l0 : Option Nat} {l1 : Int32} {s0 : Int32} {h : gx_H} {r : gx_H} (e : mM_takeAll_102 rec48 l0 l1 s0 h = some r) : gv_V xs 4 171 102 [(0, gv_u l0), (1, .int l1)] [.int s0] h (.returned none) r := by
  unfold mM_takeAll_102 at e
  refine gv_istn (pc' := 103) rfl rfl (gv_Cn rfl) rfl ?_
  exact gv_weak (mM_takeAll_103_ok hrec48 e) (gv_S1 rfl (gv_S1 rfl (gv_S1 rfl gv_S0)))
def mM_takeAll_90 (rec48 : Option Nat → Int32 → Int32 → gx_H → Option gx_H) (l0 : Option Nat) (l4 : Int32) (s0 : Int32) (h : gx_H) : Option gx_H :=
  if l4 = (2 : Int32) then (
    mM_takeAll_102 rec48 l0 s0 (1 : Int32) h) else
  mM_takeAll_102 rec48 l0 s0 (0 : Int32) h
theorem mM_takeAll_90_ok {xs : Option (List Int32)} {rec48 : Option Nat → Int32 → Int32 → gx_H → Option gx_H} (hrec48 : ∀ (l0 : Option Nat) (l1 : Int32) (l2 : Int32) (h : gx_H) (r : gx_H), rec48 l0 l1 l2 h = some r → gv_V xs 4 171 48 [(0, gv_u l0), (1, .int l1), (2, .int l2)] [] h (.returned none) r) {l0 : Option Nat} {l4 : Int32} {s0 : Int32} {h : gx_H} {r : gx_H} (e : mM_takeAll_90 rec48 l0 l4 s0 h = some r) : gv_V xs 4 171 90 [(0, gv_u l0), (4, .int l4)] [.int s0] h (.returned none) r := by
  unfold mM_takeAll_90 at e
  refine gv_istn (pc' := 91) rfl rfl (gv_Cr rfl) rfl ?_
  refine gv_ild (pc' := 93) rfl rfl rfl ?_
  refine gv_ic (pc' := 94) (x := 2) rfl rfl rfl ?_
  by_cases c1 : l4 = (2 : Int32)
  · rw [if_pos c1] at e
    refine gv_cmF (pc' := 97) rfl (gv_neF2 c1) rfl rfl ?_
    refine gv_ic (pc' := 98) (x := 1) rfl rfl rfl ?_
    refine gv_goto (pc' := 102) rfl rfl ?_
    exact gv_weak (mM_takeAll_102_ok hrec48 e) (gv_S1 rfl (gv_S1 rfl gv_S0))
  rw [if_neg c1] at e
  refine gv_cmT (pc' := 101) rfl (gv_neT2 c1) rfl ?_
  refine gv_ic (pc' := 102) (x := 0) rfl rfl rfl ?_
  exact gv_weak (mM_takeAll_102_ok hrec48 e) (gv_S1 rfl (gv_S1 rfl gv_S0))
def mM_takeAll_48 : Nat → Option Nat → Int32 → Int32 → gx_H → Option gx_H
  | 0, _, _, _, _ => none
  | n + 1, l0, l1, l2, h =>
    (gv_gI h l0 7 31).bind fun v1 =>
    if v1 = 0 then (
      mM_takeAll_145 l0 h) else
    if l2 = 0 then (
      if l1 = 0 then (
        (gv_is h l0 7).bind fun i5 =>
        (mM_goesOn l0 h).bind fun r8 =>
        if r8.1 = (1 : Int32) then (
          mM_takeAll_90 (mM_takeAll_48 n) l0 r8.1 (1 : Int32) r8.2) else
        mM_takeAll_90 (mM_takeAll_48 n) l0 r8.1 (0 : Int32) r8.2) else
      (gv_is h l0 7).bind fun i10 =>
      (mM_takeValue l0 h).bind fun r13 =>
      mM_takeAll_103 (mM_takeAll_48 n) l0 (0 : Int32) r13.1 r13.2) else
    mM_takeAll_145 l0 h
theorem mM_takeAll_48_ok {xs : Option (List Int32)} : ∀ (n : Nat) (l0 : Option Nat) (l1 : Int32) (l2 : Int32) (h : gx_H) (r : gx_H), mM_takeAll_48 n l0 l1 l2 h = some r → gv_V xs 4 171 48 [(0, gv_u l0), (1, .int l1), (2, .int l2)] [] h (.returned none) r := by
  intro n
  induction n with
  | zero => intro l0 l1 l2 h r e; cases e
  | succ n ih =>
    intro l0 l1 l2 h r e
    rw [mM_takeAll_48] at e
    refine gv_rldn (pc' := 49) rfl rfl rfl ?_
    obtain ⟨v1, qv1, e⟩ := gv_bind e
    refine gv_fI (pc' := 52) rfl rfl qv1 rfl ?_
    by_cases c2 : v1 = 0
    · rw [if_pos c2] at e
      refine gv_ifT (pc' := 145) rfl (gv_eqT c2) rfl ?_
      exact gv_weak (mM_takeAll_145_ok e) (gv_S1 rfl gv_S0)
    rw [if_neg c2] at e
    refine gv_ifF (pc' := 55) rfl (gv_eqF c2) rfl rfl ?_
    refine gv_ildn (pc' := 56) rfl rfl rfl ?_
    by_cases c3 : l2 = 0
    · rw [if_pos c3] at e
      refine gv_ifF (pc' := 59) rfl (gv_neF c3) rfl rfl ?_
      refine gv_ildn (pc' := 60) rfl rfl rfl ?_
      by_cases c4 : l1 = 0
      · rw [if_pos c4] at e
        refine gv_ifT (pc' := 73) rfl (gv_eqT c4) rfl ?_
        refine gv_rldn (pc' := 74) rfl rfl rfl ?_
        obtain ⟨i5, qi5, e⟩ := gv_bind e
        obtain ⟨⟨v6, h7⟩, qv6, e⟩ := gv_bind e
        refine gv_vS (jc := 186) (n := 0) (rest := []) (stk := [.int v6]) (pc' := 77) rfl rfl rfl rfl rfl rfl rfl rfl rfl (gv_zR gv_z0) rfl (gv_aR gv_a0) (Nat.le_of_ble_eq_true rfl) qi5 (mM_goesOn_ok qv6) rfl rfl ?_
        refine gv_ist (pc' := 79) rfl rfl (gv_Cn rfl) rfl ?_
        refine gv_ild (pc' := 81) rfl rfl rfl ?_
        refine gv_ic (pc' := 82) (x := 1) rfl rfl rfl ?_
        by_cases c9 : v6 = (1 : Int32)
        · rw [if_pos c9] at e
          refine gv_cmF (pc' := 85) rfl (gv_neF2 c9) rfl rfl ?_
          refine gv_ic (pc' := 86) (x := 1) rfl rfl rfl ?_
          refine gv_goto (pc' := 90) rfl rfl ?_
          exact gv_weak (mM_takeAll_90_ok ih e) (gv_S1 rfl (gv_S1 rfl gv_S0))
        rw [if_neg c9] at e
        refine gv_cmT (pc' := 89) rfl (gv_neT2 c9) rfl ?_
        refine gv_ic (pc' := 90) (x := 0) rfl rfl rfl ?_
        exact gv_weak (mM_takeAll_90_ok ih e) (gv_S1 rfl (gv_S1 rfl gv_S0))
      rw [if_neg c4] at e
      refine gv_ifF (pc' := 63) rfl (gv_eqF c4) rfl rfl ?_
      refine gv_rldn (pc' := 64) rfl rfl rfl ?_
      obtain ⟨i10, qi10, e⟩ := gv_bind e
      obtain ⟨⟨v11, h12⟩, qv11, e⟩ := gv_bind e
      refine gv_vS (jc := 175) (n := 0) (rest := []) (stk := [.int v11]) (pc' := 67) rfl rfl rfl rfl rfl rfl rfl rfl rfl (gv_zR gv_z0) rfl (gv_aR gv_a0) (Nat.le_of_ble_eq_true rfl) qi10 (mM_takeValue_ok qv11) rfl rfl ?_
      refine gv_istn (pc' := 68) rfl rfl (gv_Ci rfl) rfl ?_
      refine gv_ic (pc' := 69) (x := 0) rfl rfl rfl ?_
      refine gv_istn (pc' := 70) rfl rfl (gv_Cr rfl) rfl ?_
      refine gv_goto (pc' := 103) rfl rfl ?_
      exact gv_weak (mM_takeAll_103_ok ih e) (gv_S1 rfl (gv_S1 rfl (gv_S1 rfl gv_S0)))
    rw [if_neg c3] at e
    refine gv_ifT (pc' := 145) rfl (gv_neT c3) rfl ?_
    exact gv_weak (mM_takeAll_145_ok e) (gv_S1 rfl gv_S0)
def mM_takeAll_41 (l0 : Option Nat) (s0 : Option Nat) (s1 : Int32) (h : gx_H) : Option gx_H :=
  if ¬ (s1 = 0 ∨ s1 = 1) then none else
  (gv_pV h s0 7 31 (.int s1)).bind fun h1 =>
  mM_takeAll_48 1000000000000000 l0 (1 : Int32) (0 : Int32) h1
theorem mM_takeAll_41_ok {xs : Option (List Int32)} {l0 : Option Nat} {s0 : Option Nat} {s1 : Int32} {h : gx_H} {r : gx_H} (e : mM_takeAll_41 l0 s0 s1 h = some r) : gv_V xs 4 171 41 [(0, gv_u l0)] [.int s1, gv_u s0] h (.returned none) r := by
  unfold mM_takeAll_41 at e
  by_cases c2 : ¬ (s1 = 0 ∨ s1 = 1)
  · rw [if_pos c2] at e; cases e
  rw [if_neg c2] at e
  obtain ⟨h1, qh1, e⟩ := gv_bind e
  refine gv_pZ (pc' := 44) rfl rfl rfl (Decidable.of_not_not c2) qh1 rfl ?_
  refine gv_ic (pc' := 45) (x := 1) rfl rfl rfl ?_
  refine gv_istn (pc' := 46) rfl rfl (gv_Cr rfl) rfl ?_
  refine gv_ic (pc' := 47) (x := 0) rfl rfl rfl ?_
  refine gv_istn (pc' := 48) rfl rfl (gv_Ci rfl) rfl ?_
  exact gv_weak (mM_takeAll_48_ok 1000000000000000 _ _ _ _ _ e) (gv_S1 rfl (gv_S1 rfl (gv_S1 rfl gv_S0)))
def mM_takeAll_40 (l0 : Option Nat) (s0 : Option Nat) (h : gx_H) : Option gx_H :=
  mM_takeAll_41 l0 s0 (0 : Int32) h
theorem mM_takeAll_40_ok {xs : Option (List Int32)} {l0 : Option Nat} {s0 : Option Nat} {h : gx_H} {r : gx_H} (e : mM_takeAll_40 l0 s0 h = some r) : gv_V xs 4 171 40 [(0, gv_u l0)] [gv_u s0] h (.returned none) r := by
  unfold mM_takeAll_40 at e
  refine gv_ic (pc' := 41) (x := 0) rfl rfl rfl ?_
  exact gv_weak (mM_takeAll_41_ok e) (gv_S1 rfl gv_S0)
def mM_takeAll (l0 : Option Nat) (h : gx_H) : Option gx_H :=
  (gv_is h l0 7).bind fun i1 =>
  (mM_takeHolders l0 h).bind fun h3 =>
  (gv_pV h3 l0 7 32 (.int (0 : Int32))).bind fun h4 =>
  (gv_pV h4 l0 7 29 (.int (0 : Int32))).bind fun h5 =>
  (gv_pV h5 l0 7 18 (.int (0 : Int32))).bind fun h6 =>
  (gv_gI h6 l0 7 31).bind fun v7 =>
  if v7 = 0 then (
    mM_takeAll_40 l0 l0 h6) else
  (gv_is h6 l0 7).bind fun i9 =>
  (mM_next l0 h6).bind fun r12 =>
  if r12.1 = (15 : Int32) then (
    mM_takeAll_41 l0 l0 (1 : Int32) r12.2) else
  mM_takeAll_40 l0 l0 r12.2
theorem mM_takeAll_ok {xs : Option (List Int32)} {l0 : Option Nat} {h : gx_H} {r : gx_H} (e : mM_takeAll l0 h = some r) : gv_V xs 4 171 0 [(0, gv_u l0)] [] h (.returned none) r := by
  unfold mM_takeAll at e
  refine gv_rldn (pc' := 1) rfl rfl rfl ?_
  obtain ⟨i1, qi1, e⟩ := gv_bind e
  obtain ⟨h3, qv2, e⟩ := gv_bind e
  refine gv_vS (jc := 172) (n := 0) (rest := []) (stk := []) (pc' := 4) rfl rfl rfl rfl rfl rfl rfl rfl rfl (gv_zR gv_z0) rfl (gv_aR gv_a0) (Nat.le_of_ble_eq_true rfl) qi1 (mM_takeHolders_ok qv2) rfl rfl ?_
  refine gv_rldn (pc' := 5) rfl rfl rfl ?_
  refine gv_ic (pc' := 6) (x := 0) rfl rfl rfl ?_
  obtain ⟨h4, qh4, e⟩ := gv_bind e
  refine gv_pI (pc' := 9) rfl rfl rfl qh4 rfl ?_
  refine gv_rldn (pc' := 10) rfl rfl rfl ?_
  refine gv_ic (pc' := 11) (x := 0) rfl rfl rfl ?_
  obtain ⟨h5, qh5, e⟩ := gv_bind e
  refine gv_pI (pc' := 14) rfl rfl rfl qh5 rfl ?_
  refine gv_rldn (pc' := 15) rfl rfl rfl ?_
  refine gv_ic (pc' := 16) (x := 0) rfl rfl rfl ?_
  obtain ⟨h6, qh6, e⟩ := gv_bind e
  refine gv_pI (pc' := 19) rfl rfl rfl qh6 rfl ?_
  refine gv_rldn (pc' := 20) rfl rfl rfl ?_
  refine gv_rldn (pc' := 21) rfl rfl rfl ?_
  obtain ⟨v7, qv7, e⟩ := gv_bind e
  refine gv_fI (pc' := 24) rfl rfl qv7 rfl ?_
  by_cases c8 : v7 = 0
  · rw [if_pos c8] at e
    refine gv_ifT (pc' := 40) rfl (gv_eqT c8) rfl ?_
    exact gv_weak (mM_takeAll_40_ok e) (gv_S1 rfl gv_S0)
  rw [if_neg c8] at e
  refine gv_ifF (pc' := 27) rfl (gv_eqF c8) rfl rfl ?_
  refine gv_rldn (pc' := 28) rfl rfl rfl ?_
  obtain ⟨i9, qi9, e⟩ := gv_bind e
  obtain ⟨⟨v10, h11⟩, qv10, e⟩ := gv_bind e
  refine gv_vS (jc := 174) (n := 0) (rest := [gv_u l0]) (stk := [.int v10, gv_u l0]) (pc' := 31) rfl rfl rfl rfl rfl rfl rfl rfl rfl (gv_zR gv_z0) rfl (gv_aR gv_a0) (Nat.le_of_ble_eq_true rfl) qi9 (mM_next_ok qv10) rfl rfl ?_
  refine gv_bp (pc' := 33) (x := 15) rfl rfl rfl ?_
  by_cases c13 : v10 = (15 : Int32)
  · rw [if_pos c13] at e
    refine gv_cmF (pc' := 36) rfl (gv_neF2 c13) rfl rfl ?_
    refine gv_ic (pc' := 37) (x := 1) rfl rfl rfl ?_
    refine gv_goto (pc' := 41) rfl rfl ?_
    exact gv_weak (mM_takeAll_41_ok e) (gv_S1 rfl gv_S0)
  rw [if_neg c13] at e
  refine gv_cmT (pc' := 40) rfl (gv_neT2 c13) rfl ?_
  exact gv_weak (mM_takeAll_40_ok e) (gv_S1 rfl gv_S0)
def mM_read_17 (l0 : Option Nat) (s0 : Option Nat) (s1 : Int32) (h : gx_H) : Option (Int32 × gx_H) :=
  (gv_pV h s0 7 0 (.int s1)).bind fun h1 =>
  (gv_gI h1 l0 7 0).bind fun v2 =>
  if 0 < v2 then (
    some ((0 : Int32), h1)) else
  (gv_gI h1 l0 7 33).bind fun v4 =>
  (gv_pV h1 l0 7 1 (.int v4)).bind fun h5 =>
  (gv_pV h5 l0 7 12 (.int (0 : Int32))).bind fun h6 =>
  (gv_gI h6 l0 7 36).bind fun v7 =>
  (gv_pV h6 l0 7 17 (.int v7)).bind fun h8 =>
  (gv_gI h8 l0 7 35).bind fun v9 =>
  some (v9, h8)
theorem mM_read_17_ok {xs : Option (List Int32)} {l0 : Option Nat} {s0 : Option Nat} {s1 : Int32} {h : gx_H} {r : (Int32 × gx_H)} (e : mM_read_17 l0 s0 s1 h = some r) : gv_V xs 5 170 17 [(0, gv_u l0)] [.int s1, gv_u s0] h (.returned (some (.int r.1))) r.2 := by
  unfold mM_read_17 at e
  obtain ⟨h1, qh1, e⟩ := gv_bind e
  refine gv_pI (pc' := 20) rfl rfl rfl qh1 rfl ?_
  refine gv_rldn (pc' := 21) rfl rfl rfl ?_
  obtain ⟨v2, qv2, e⟩ := gv_bind e
  refine gv_fI (pc' := 24) rfl rfl qv2 rfl ?_
  by_cases c3 : 0 < v2
  · rw [if_pos c3] at e
    refine gv_ifF (pc' := 27) rfl (gv_leF c3) rfl rfl ?_
    refine gv_ic (pc' := 28) (x := 0) rfl rfl rfl ?_
    cases e
    exact gv_retI rfl rfl
  rw [if_neg c3] at e
  refine gv_ifT (pc' := 29) rfl (gv_leT c3) rfl ?_
  refine gv_rldn (pc' := 30) rfl rfl rfl ?_
  refine gv_rldn (pc' := 31) rfl rfl rfl ?_
  obtain ⟨v4, qv4, e⟩ := gv_bind e
  refine gv_fI (pc' := 34) rfl rfl qv4 rfl ?_
  obtain ⟨h5, qh5, e⟩ := gv_bind e
  refine gv_pI (pc' := 37) rfl rfl rfl qh5 rfl ?_
  refine gv_rldn (pc' := 38) rfl rfl rfl ?_
  refine gv_ic (pc' := 39) (x := 0) rfl rfl rfl ?_
  obtain ⟨h6, qh6, e⟩ := gv_bind e
  refine gv_pI (pc' := 42) rfl rfl rfl qh6 rfl ?_
  refine gv_rldn (pc' := 43) rfl rfl rfl ?_
  refine gv_rldn (pc' := 44) rfl rfl rfl ?_
  obtain ⟨v7, qv7, e⟩ := gv_bind e
  refine gv_fI (pc' := 47) rfl rfl qv7 rfl ?_
  obtain ⟨h8, qh8, e⟩ := gv_bind e
  refine gv_pI (pc' := 50) rfl rfl rfl qh8 rfl ?_
  refine gv_rldn (pc' := 51) rfl rfl rfl ?_
  obtain ⟨v9, qv9, e⟩ := gv_bind e
  refine gv_fI (pc' := 54) rfl rfl qv9 rfl ?_
  cases e
  exact gv_retI rfl rfl
def mM_read (l0 : Option Nat) (h : gx_H) : Option (Int32 × gx_H) :=
  (gv_is h l0 7).bind fun i1 =>
  (mM_takeAll l0 h).bind fun h3 =>
  (gv_gI h3 l0 7 31).bind fun v4 =>
  if v4 = 0 then (
    mM_read_17 l0 l0 (1 : Int32) h3) else
  mM_read_17 l0 l0 (0 : Int32) h3
theorem mM_read_ok {xs : Option (List Int32)} {l0 : Option Nat} {h : gx_H} {r : (Int32 × gx_H)} (e : mM_read l0 h = some r) : gv_V xs 5 170 0 [(0, gv_u l0)] [] h (.returned (some (.int r.1))) r.2 := by
  unfold mM_read at e
  refine gv_rldn (pc' := 1) rfl rfl rfl ?_
  obtain ⟨i1, qi1, e⟩ := gv_bind e
  obtain ⟨h3, qv2, e⟩ := gv_bind e
  refine gv_vS (jc := 171) (n := 0) (rest := []) (stk := []) (pc' := 4) rfl rfl rfl rfl rfl rfl rfl rfl rfl (gv_zR gv_z0) rfl (gv_aR gv_a0) (Nat.le_of_ble_eq_true rfl) qi1 (mM_takeAll_ok qv2) rfl rfl ?_
  refine gv_rldn (pc' := 5) rfl rfl rfl ?_
  refine gv_rldn (pc' := 6) rfl rfl rfl ?_
  obtain ⟨v4, qv4, e⟩ := gv_bind e
  refine gv_fI (pc' := 9) rfl rfl qv4 rfl ?_
  by_cases c5 : v4 = 0
  · rw [if_pos c5] at e
    refine gv_ifT (pc' := 16) rfl (gv_eqT c5) rfl ?_
    refine gv_ic (pc' := 17) (x := 1) rfl rfl rfl ?_
    exact gv_weak (mM_read_17_ok e) (gv_S1 rfl gv_S0)
  rw [if_neg c5] at e
  refine gv_ifF (pc' := 12) rfl (gv_eqF c5) rfl rfl ?_
  refine gv_ic (pc' := 13) (x := 0) rfl rfl rfl ?_
  refine gv_goto (pc' := 17) rfl rfl ?_
  exact gv_weak (mM_read_17_ok e) (gv_S1 rfl gv_S0)
def mM_found (l0 : Option Nat) (h : gx_H) : Option (Int32 × gx_H) :=
  (gv_pV h l0 7 0 (.int (0 : Int32))).bind fun h1 =>
  (gv_gI h1 l0 7 17).bind fun v2 =>
  some (v2, h1)
theorem mM_found_ok {xs : Option (List Int32)} {l0 : Option Nat} {h : gx_H} {r : (Int32 × gx_H)} (e : mM_found l0 h = some r) : gv_V xs 0 189 0 [(0, gv_u l0)] [] h (.returned (some (.int r.1))) r.2 := by
  unfold mM_found at e
  refine gv_rldn (pc' := 1) rfl rfl rfl ?_
  refine gv_ic (pc' := 2) (x := 0) rfl rfl rfl ?_
  obtain ⟨h1, qh1, e⟩ := gv_bind e
  refine gv_pI (pc' := 5) rfl rfl rfl qh1 rfl ?_
  refine gv_rldn (pc' := 6) rfl rfl rfl ?_
  obtain ⟨v2, qv2, e⟩ := gv_bind e
  refine gv_fI (pc' := 9) rfl rfl qv2 rfl ?_
  cases e
  exact gv_retI rfl rfl
def mM_feed_33 : Nat → Option Nat → Int64 → Int32 → Int32 → gx_H → Option (Int32 × gx_H)
  | 0, _, _, _, _, _ => none
  | n + 1, l0, l1, l3, l4, h =>
    if l4 < l3 then (
      (gv_gR h l0 7 16).bind fun v2 =>
      (gv_gI h l0 7 15).bind fun v3 =>
      (gv_wI h v2 v3 (Int64.toInt32 ((l1 >>> (Int32.toInt64 ((8 : Int32) * l4) &&& 63)) &&& (255 : Int64)))).bind fun h4 =>
      (gv_gI h4 l0 7 15).bind fun v5 =>
      (gv_pV h4 l0 7 15 (.int (v5 + (1 : Int32)))).bind fun h6 =>
      mM_feed_33 n l0 l1 l3 (l4 + 1) h6) else
    (gv_gI h l0 7 15).bind fun v7 =>
    some (v7, h)
theorem mM_feed_33_ok {xs : Option (List Int32)} : ∀ (n : Nat) (l0 : Option Nat) (l1 : Int64) (l3 : Int32) (l4 : Int32) (h : gx_H) (r : (Int32 × gx_H)), mM_feed_33 n l0 l1 l3 l4 h = some r → gv_V xs 0 190 33 [(0, gv_u l0), (1, .long l1), (3, .int l3), (4, .int l4)] [] h (.returned (some (.int r.1))) r.2 := by
  intro n
  induction n with
  | zero => intro l0 l1 l3 l4 h r e; cases e
  | succ n ih =>
    intro l0 l1 l3 l4 h r e
    rw [mM_feed_33] at e
    refine gv_ild (pc' := 35) rfl rfl rfl ?_
    refine gv_ildn (pc' := 36) rfl rfl rfl ?_
    by_cases c1 : l4 < l3
    · rw [if_pos c1] at e
      refine gv_cmF (pc' := 39) rfl (gv_geF2 c1) rfl rfl ?_
      refine gv_rldn (pc' := 40) rfl rfl rfl ?_
      obtain ⟨v2, qv2, e⟩ := gv_bind e
      refine gv_fR (pc' := 43) rfl rfl qv2 rfl ?_
      refine gv_rldn (pc' := 44) rfl rfl rfl ?_
      obtain ⟨v3, qv3, e⟩ := gv_bind e
      refine gv_fI (pc' := 47) rfl rfl qv3 rfl ?_
      refine gv_jldn (pc' := 48) rfl rfl rfl ?_
      refine gv_bp (pc' := 50) (x := 8) rfl rfl rfl ?_
      refine gv_ild (pc' := 52) rfl rfl rfl ?_
      refine gv_imul (pc' := 53) rfl rfl ?_
      refine gv_lshr (pc' := 54) rfl rfl ?_
      refine gv_ld (pc' := 57) (x := 255) rfl rfl rfl ?_
      refine gv_land (pc' := 58) rfl rfl ?_
      refine gv_l2i (pc' := 59) rfl rfl ?_
      obtain ⟨h4, qh4, e⟩ := gv_bind e
      refine gv_iast (pc' := 60) rfl qh4 rfl ?_
      refine gv_rldn (pc' := 61) rfl rfl rfl ?_
      refine gv_dup (pc' := 62) rfl (gv_u_cat _) rfl ?_
      obtain ⟨v5, qv5, e⟩ := gv_bind e
      refine gv_fI (pc' := 65) rfl rfl qv5 rfl ?_
      refine gv_ic (pc' := 66) (x := 1) rfl rfl rfl ?_
      refine gv_iadd (pc' := 67) rfl rfl ?_
      obtain ⟨h6, qh6, e⟩ := gv_bind e
      refine gv_pI (pc' := 70) rfl rfl rfl qh6 rfl ?_
      refine gv_inc (pc' := 73) (y := 1) rfl rfl rfl rfl (gv_Ci rfl) rfl ?_
      refine gv_goto (pc' := 33) rfl rfl ?_
      exact gv_weak (ih _ _ _ _ _ _ e) (gv_S1 rfl (gv_S1 rfl (gv_S1 rfl (gv_S1 rfl gv_S0))))
    rw [if_neg c1] at e
    refine gv_cmT (pc' := 76) rfl (gv_geT2 c1) rfl ?_
    refine gv_rldn (pc' := 77) rfl rfl rfl ?_
    obtain ⟨v7, qv7, e⟩ := gv_bind e
    refine gv_fI (pc' := 80) rfl rfl qv7 rfl ?_
    cases e
    exact gv_retI rfl rfl
def mM_feed (l0 : Option Nat) (l1 : Int64) (l3 : Int32) (h : gx_H) : Option (Int32 × gx_H) :=
  (gv_pV h l0 7 0 (.int (0 : Int32))).bind fun h1 =>
  if l3 < (1 : Int32) then (
    some ((-1 : Int32), h1)) else
  if (8 : Int32) < l3 then (
    some ((-1 : Int32), h1)) else
  (gv_gI h1 l0 7 15).bind fun v4 =>
  if (300 : Int32) < (v4 + l3) then (
    some ((-1 : Int32), h1)) else
  mM_feed_33 1000000000000000 l0 l1 l3 (0 : Int32) h1
theorem mM_feed_ok {xs : Option (List Int32)} {l0 : Option Nat} {l1 : Int64} {l3 : Int32} {h : gx_H} {r : (Int32 × gx_H)} (e : mM_feed l0 l1 l3 h = some r) : gv_V xs 0 190 0 [(0, gv_u l0), (1, .long l1), (3, .int l3)] [] h (.returned (some (.int r.1))) r.2 := by
  unfold mM_feed at e
  refine gv_rldn (pc' := 1) rfl rfl rfl ?_
  refine gv_ic (pc' := 2) (x := 0) rfl rfl rfl ?_
  obtain ⟨h1, qh1, e⟩ := gv_bind e
  refine gv_pI (pc' := 5) rfl rfl rfl qh1 rfl ?_
  refine gv_ildn (pc' := 6) rfl rfl rfl ?_
  refine gv_ic (pc' := 7) (x := 1) rfl rfl rfl ?_
  by_cases c2 : l3 < (1 : Int32)
  · rw [if_pos c2] at e
    refine gv_cmT (pc' := 28) rfl (gv_ltT2 c2) rfl ?_
    refine gv_ic (pc' := 29) (x := -1) rfl rfl rfl ?_
    cases e
    exact gv_retI rfl rfl
  rw [if_neg c2] at e
  refine gv_cmF (pc' := 10) rfl (gv_ltF2 c2) rfl rfl ?_
  refine gv_ildn (pc' := 11) rfl rfl rfl ?_
  refine gv_bp (pc' := 13) (x := 8) rfl rfl rfl ?_
  by_cases c3 : (8 : Int32) < l3
  · rw [if_pos c3] at e
    refine gv_cmT (pc' := 28) rfl (gv_gtT2 c3) rfl ?_
    refine gv_ic (pc' := 29) (x := -1) rfl rfl rfl ?_
    cases e
    exact gv_retI rfl rfl
  rw [if_neg c3] at e
  refine gv_cmF (pc' := 16) rfl (gv_gtF2 c3) rfl rfl ?_
  refine gv_rldn (pc' := 17) rfl rfl rfl ?_
  obtain ⟨v4, qv4, e⟩ := gv_bind e
  refine gv_fI (pc' := 20) rfl rfl qv4 rfl ?_
  refine gv_ildn (pc' := 21) rfl rfl rfl ?_
  refine gv_iadd (pc' := 22) rfl rfl ?_
  refine gv_sp (pc' := 25) (x := 300) rfl rfl rfl ?_
  by_cases c5 : (300 : Int32) < (v4 + l3)
  · rw [if_pos c5] at e
    refine gv_cmF (pc' := 28) rfl (gv_leF2 c5) rfl rfl ?_
    refine gv_ic (pc' := 29) (x := -1) rfl rfl rfl ?_
    cases e
    exact gv_retI rfl rfl
  rw [if_neg c5] at e
  refine gv_cmT (pc' := 30) rfl (gv_leT2 c5) rfl ?_
  refine gv_ic (pc' := 31) (x := 0) rfl rfl rfl ?_
  refine gv_ist (pc' := 33) rfl rfl (gv_Ci rfl) rfl ?_
  exact gv_weak (mM_feed_33_ok 1000000000000000 _ _ _ _ _ _ e) (gv_S1 rfl (gv_S1 rfl (gv_S1 rfl (gv_S1 rfl gv_S0))))
def mM_wipe (l0 : Option Nat) (h : gx_H) : Option (Int32 × gx_H) :=
  (gv_pV h l0 7 0 (.int (0 : Int32))).bind fun h1 =>
  (gv_gI h1 l0 7 15).bind fun v2 =>
  (gv_pV h1 l0 7 15 (.int (0 : Int32))).bind fun h3 =>
  some (v2, h3)
theorem mM_wipe_ok {xs : Option (List Int32)} {l0 : Option Nat} {h : gx_H} {r : (Int32 × gx_H)} (e : mM_wipe l0 h = some r) : gv_V xs 0 191 0 [(0, gv_u l0)] [] h (.returned (some (.int r.1))) r.2 := by
  unfold mM_wipe at e
  refine gv_rldn (pc' := 1) rfl rfl rfl ?_
  refine gv_ic (pc' := 2) (x := 0) rfl rfl rfl ?_
  obtain ⟨h1, qh1, e⟩ := gv_bind e
  refine gv_pI (pc' := 5) rfl rfl rfl qh1 rfl ?_
  refine gv_rldn (pc' := 6) rfl rfl rfl ?_
  obtain ⟨v2, qv2, e⟩ := gv_bind e
  refine gv_fI (pc' := 9) rfl rfl qv2 rfl ?_
  refine gv_istn (pc' := 10) rfl rfl (gv_Cr rfl) rfl ?_
  refine gv_rldn (pc' := 11) rfl rfl rfl ?_
  refine gv_ic (pc' := 12) (x := 0) rfl rfl rfl ?_
  obtain ⟨h3, qh3, e⟩ := gv_bind e
  refine gv_pI (pc' := 15) rfl rfl rfl qh3 rfl ?_
  refine gv_ildn (pc' := 16) rfl rfl rfl ?_
  cases e
  exact gv_retI rfl rfl
def mM_spoil (l0 : Option Nat) (l1 : Int32) (l2 : Int32) (h : gx_H) : Option (Int32 × gx_H) :=
  (gv_pV h l0 7 0 (.int (0 : Int32))).bind fun h1 =>
  if l1 < 0 then (
    some ((0 : Int32), h1)) else
  (gv_gI h1 l0 7 15).bind fun v3 =>
  if l1 < v3 then (
    (gv_gR h1 l0 7 16).bind fun v5 =>
    (gv_wI h1 v5 l1 (l2 &&& (255 : Int32))).bind fun h6 =>
    some ((1 : Int32), h6)) else
  some ((0 : Int32), h1)
theorem mM_spoil_ok {xs : Option (List Int32)} {l0 : Option Nat} {l1 : Int32} {l2 : Int32} {h : gx_H} {r : (Int32 × gx_H)} (e : mM_spoil l0 l1 l2 h = some r) : gv_V xs 0 192 0 [(0, gv_u l0), (1, .int l1), (2, .int l2)] [] h (.returned (some (.int r.1))) r.2 := by
  unfold mM_spoil at e
  refine gv_rldn (pc' := 1) rfl rfl rfl ?_
  refine gv_ic (pc' := 2) (x := 0) rfl rfl rfl ?_
  obtain ⟨h1, qh1, e⟩ := gv_bind e
  refine gv_pI (pc' := 5) rfl rfl rfl qh1 rfl ?_
  refine gv_ildn (pc' := 6) rfl rfl rfl ?_
  by_cases c2 : l1 < 0
  · rw [if_pos c2] at e
    refine gv_ifT (pc' := 17) rfl (gv_ltT c2) rfl ?_
    refine gv_ic (pc' := 18) (x := 0) rfl rfl rfl ?_
    cases e
    exact gv_retZ rfl rfl (by decide)
  rw [if_neg c2] at e
  refine gv_ifF (pc' := 9) rfl (gv_ltF c2) rfl rfl ?_
  refine gv_ildn (pc' := 10) rfl rfl rfl ?_
  refine gv_rldn (pc' := 11) rfl rfl rfl ?_
  obtain ⟨v3, qv3, e⟩ := gv_bind e
  refine gv_fI (pc' := 14) rfl rfl qv3 rfl ?_
  by_cases c4 : l1 < v3
  · rw [if_pos c4] at e
    refine gv_cmT (pc' := 19) rfl (gv_ltT2 c4) rfl ?_
    refine gv_rldn (pc' := 20) rfl rfl rfl ?_
    obtain ⟨v5, qv5, e⟩ := gv_bind e
    refine gv_fR (pc' := 23) rfl rfl qv5 rfl ?_
    refine gv_ildn (pc' := 24) rfl rfl rfl ?_
    refine gv_ildn (pc' := 25) rfl rfl rfl ?_
    refine gv_sp (pc' := 28) (x := 255) rfl rfl rfl ?_
    refine gv_iand (pc' := 29) rfl rfl ?_
    obtain ⟨h6, qh6, e⟩ := gv_bind e
    refine gv_iast (pc' := 30) rfl qh6 rfl ?_
    refine gv_ic (pc' := 31) (x := 1) rfl rfl rfl ?_
    cases e
    exact gv_retZ rfl rfl (by decide)
  rw [if_neg c4] at e
  refine gv_cmF (pc' := 17) rfl (gv_ltF2 c4) rfl rfl ?_
  refine gv_ic (pc' := 18) (x := 0) rfl rfl rfl ?_
  cases e
  exact gv_retZ rfl rfl (by decide)
def mM_byteAt (l0 : Option Nat) (l1 : Int32) (h : gx_H) : Option (Int32 × gx_H) :=
  (gv_pV h l0 7 0 (.int (0 : Int32))).bind fun h1 =>
  if l1 < 0 then (
    some ((-1 : Int32), h1)) else
  (gv_gI h1 l0 7 15).bind fun v3 =>
  if l1 < v3 then (
    (gv_gR h1 l0 7 16).bind fun v5 =>
    (gv_lI h1 v5 l1).bind fun v6 =>
    some (v6, h1)) else
  some ((-1 : Int32), h1)
theorem mM_byteAt_ok {xs : Option (List Int32)} {l0 : Option Nat} {l1 : Int32} {h : gx_H} {r : (Int32 × gx_H)} (e : mM_byteAt l0 l1 h = some r) : gv_V xs 0 193 0 [(0, gv_u l0), (1, .int l1)] [] h (.returned (some (.int r.1))) r.2 := by
  unfold mM_byteAt at e
  refine gv_rldn (pc' := 1) rfl rfl rfl ?_
  refine gv_ic (pc' := 2) (x := 0) rfl rfl rfl ?_
  obtain ⟨h1, qh1, e⟩ := gv_bind e
  refine gv_pI (pc' := 5) rfl rfl rfl qh1 rfl ?_
  refine gv_ildn (pc' := 6) rfl rfl rfl ?_
  by_cases c2 : l1 < 0
  · rw [if_pos c2] at e
    refine gv_ifT (pc' := 26) rfl (gv_ltT c2) rfl ?_
    refine gv_ic (pc' := 27) (x := -1) rfl rfl rfl ?_
    cases e
    exact gv_retI rfl rfl
  rw [if_neg c2] at e
  refine gv_ifF (pc' := 9) rfl (gv_ltF c2) rfl rfl ?_
  refine gv_ildn (pc' := 10) rfl rfl rfl ?_
  refine gv_rldn (pc' := 11) rfl rfl rfl ?_
  obtain ⟨v3, qv3, e⟩ := gv_bind e
  refine gv_fI (pc' := 14) rfl rfl qv3 rfl ?_
  by_cases c4 : l1 < v3
  · rw [if_pos c4] at e
    refine gv_cmF (pc' := 17) rfl (gv_geF2 c4) rfl rfl ?_
    refine gv_rldn (pc' := 18) rfl rfl rfl ?_
    obtain ⟨v5, qv5, e⟩ := gv_bind e
    refine gv_fR (pc' := 21) rfl rfl qv5 rfl ?_
    refine gv_ildn (pc' := 22) rfl rfl rfl ?_
    obtain ⟨v6, qv6, e⟩ := gv_bind e
    refine gv_iald (pc' := 23) rfl qv6 rfl ?_
    refine gv_goto (pc' := 27) rfl rfl ?_
    cases e
    exact gv_retI rfl rfl
  rw [if_neg c4] at e
  refine gv_cmT (pc' := 26) rfl (gv_geT2 c4) rfl ?_
  refine gv_ic (pc' := 27) (x := -1) rfl rfl rfl ?_
  cases e
  exact gv_retI rfl rfl
end
section
/-! by program: the methods as functions, and that the small machine does what they say -/
def lw_make (l0 : Option Nat) (l1 : Int32) (l2 : Option Nat) (h : gx_H) : Option (Int32 × gx_H) :=
  (gv_is h l0 0).bind fun i1 =>
  (cG_make l0 l1 h).bind fun r4 =>
  match r4.1 with
  | .returned (some (.int v2)) => (
    (gv_wJ r4.2 l2 (0 : Int32) (Int32.toInt64 v2)).bind fun h6 =>
    some ((0 : Int32), h6))
  | .threw x5 => (r4.2[x5]?).bind fun w7 => (
    if w7.1 = 8 then (
      some ((1 : Int32), r4.2)) else
    if w7.1 = 9 then (
      some ((2 : Int32), r4.2)) else
    none)
  | _ => none
theorem lw_make_ok {xs : Option (List Int32)} {l0 : Option Nat} {l1 : Int32} {l2 : Option Nat} {h : gx_H} {r : (Int32 × gx_H)} (e : lw_make l0 l1 l2 h = some r) : gv_V xs 4 23 0 [(0, gv_u l0), (1, .int l1), (2, gv_u l2)] [] h (.returned (some (.int r.1))) r.2 := by
  unfold lw_make at e
  refine gv_rldn (pc' := 1) rfl rfl rfl ?_
  refine gv_ic (pc' := 2) (x := 0) rfl rfl rfl ?_
  refine gv_rldn (pc' := 3) rfl rfl rfl ?_
  refine gv_ildn (pc' := 4) rfl rfl rfl ?_
  obtain ⟨i1, qi1, e⟩ := gv_bind e
  obtain ⟨⟨or4, h3⟩, qv2, e⟩ := gv_bind e
  cases or4 with
  | threw x5 =>
    obtain ⟨w7, qw7, e⟩ := gv_bind e
    by_cases c8 : w7.1 = 8
    · rw [if_pos c8] at e
      refine gv_vC (jc := 24) (n := 1) (rest := [.int (0 : Int32), gv_u l2]) (pc' := 12) rfl rfl rfl rfl rfl rfl rfl rfl rfl (gv_zR (gv_zI gv_z0)) rfl (gv_aR (gv_aI gv_a0)) (Nat.le_of_ble_eq_true rfl) qi1 (cG_make_ok qv2) (gv_catT qw7 c8 rfl) ?_
      refine gv_rstn (pc' := 13) rfl rfl (gv_Cr rfl) rfl ?_
      refine gv_ic (pc' := 14) (x := 1) rfl rfl rfl ?_
      cases e
      exact gv_retI rfl rfl
    rw [if_neg c8] at e
    by_cases c9 : w7.1 = 9
    · rw [if_pos c9] at e
      refine gv_vC (jc := 24) (n := 1) (rest := [.int (0 : Int32), gv_u l2]) (pc' := 15) rfl rfl rfl rfl rfl rfl rfl rfl rfl (gv_zR (gv_zI gv_z0)) rfl (gv_aR (gv_aI gv_a0)) (Nat.le_of_ble_eq_true rfl) qi1 (cG_make_ok qv2) (gv_catT qw7 c9 rfl) ?_
      refine gv_rstn (pc' := 16) rfl rfl (gv_Cr rfl) rfl ?_
      refine gv_ic (pc' := 17) (x := 2) rfl rfl rfl ?_
      cases e
      exact gv_retI rfl rfl
    rw [if_neg c9] at e
    cases e
  | returned zr4 =>
  cases zr4 with
  | none => cases e
  | some zz =>
  cases zz with
  | long _ => cases e
  | float _ => cases e
  | double _ => cases e
  | ref _ => cases e
  | null => cases e
  | retAddr _ => cases e
  | int v2 =>
    dsimp only at e
    refine gv_vS (jc := 24) (n := 1) (rest := [.int (0 : Int32), gv_u l2]) (stk := [.int v2, .int (0 : Int32), gv_u l2]) (pc' := 7) rfl rfl rfl rfl rfl rfl rfl rfl rfl (gv_zR (gv_zI gv_z0)) rfl (gv_aR (gv_aI gv_a0)) (Nat.le_of_ble_eq_true rfl) qi1 (cG_make_ok qv2) rfl rfl ?_
    refine gv_i2l (pc' := 8) rfl rfl ?_
    obtain ⟨h6, qh6, e⟩ := gv_bind e
    refine gv_last (pc' := 9) rfl qh6 rfl ?_
    refine gv_goto (pc' := 18) rfl rfl ?_
    refine gv_ic (pc' := 19) (x := 0) rfl rfl rfl ?_
    cases e
    exact gv_retI rfl rfl
def lw_buffer (l0 : Option Nat) (l1 : Int64) (l3 : Int32) (l4 : Option Nat) (h : gx_H) : Option (Int32 × gx_H) :=
  (gv_is h l0 0).bind fun i1 =>
  (cG_buffer l0 l1 l3 h).bind fun r4 =>
  match r4.1 with
  | .returned (some (.int v2)) => (
    (gv_wJ r4.2 l4 (0 : Int32) (Int32.toInt64 v2)).bind fun h6 =>
    some ((0 : Int32), h6))
  | .threw x5 => (r4.2[x5]?).bind fun w7 => (
    if w7.1 = 8 then (
      some ((1 : Int32), r4.2)) else
    if w7.1 = 9 then (
      some ((2 : Int32), r4.2)) else
    none)
  | _ => none
theorem lw_buffer_ok {xs : Option (List Int32)} {l0 : Option Nat} {l1 : Int64} {l3 : Int32} {l4 : Option Nat} {h : gx_H} {r : (Int32 × gx_H)} (e : lw_buffer l0 l1 l3 l4 h = some r) : gv_V xs 4 28 0 [(0, gv_u l0), (1, .long l1), (3, .int l3), (4, gv_u l4)] [] h (.returned (some (.int r.1))) r.2 := by
  unfold lw_buffer at e
  refine gv_rld (pc' := 2) rfl rfl rfl ?_
  refine gv_ic (pc' := 3) (x := 0) rfl rfl rfl ?_
  refine gv_rldn (pc' := 4) rfl rfl rfl ?_
  refine gv_jldn (pc' := 5) rfl rfl rfl ?_
  refine gv_ildn (pc' := 6) rfl rfl rfl ?_
  obtain ⟨i1, qi1, e⟩ := gv_bind e
  obtain ⟨⟨or4, h3⟩, qv2, e⟩ := gv_bind e
  cases or4 with
  | threw x5 =>
    obtain ⟨w7, qw7, e⟩ := gv_bind e
    by_cases c8 : w7.1 = 8
    · rw [if_pos c8] at e
      refine gv_vC (jc := 29) (n := 2) (rest := [.int (0 : Int32), gv_u l4]) (pc' := 14) rfl rfl rfl rfl rfl rfl rfl rfl rfl (gv_zR (gv_zJ (gv_zI gv_z0))) rfl (gv_aR (gv_aJ (gv_aI gv_a0))) (Nat.le_of_ble_eq_true rfl) qi1 (cG_buffer_ok qv2) (gv_catT qw7 c8 rfl) ?_
      refine gv_rst (pc' := 16) rfl rfl (gv_Cr rfl) rfl ?_
      refine gv_ic (pc' := 17) (x := 1) rfl rfl rfl ?_
      cases e
      exact gv_retI rfl rfl
    rw [if_neg c8] at e
    by_cases c9 : w7.1 = 9
    · rw [if_pos c9] at e
      refine gv_vC (jc := 29) (n := 2) (rest := [.int (0 : Int32), gv_u l4]) (pc' := 18) rfl rfl rfl rfl rfl rfl rfl rfl rfl (gv_zR (gv_zJ (gv_zI gv_z0))) rfl (gv_aR (gv_aJ (gv_aI gv_a0))) (Nat.le_of_ble_eq_true rfl) qi1 (cG_buffer_ok qv2) (gv_catT qw7 c9 rfl) ?_
      refine gv_rst (pc' := 20) rfl rfl (gv_Cr rfl) rfl ?_
      refine gv_ic (pc' := 21) (x := 2) rfl rfl rfl ?_
      cases e
      exact gv_retI rfl rfl
    rw [if_neg c9] at e
    cases e
  | returned zr4 =>
  cases zr4 with
  | none => cases e
  | some zz =>
  cases zz with
  | long _ => cases e
  | float _ => cases e
  | double _ => cases e
  | ref _ => cases e
  | null => cases e
  | retAddr _ => cases e
  | int v2 =>
    dsimp only at e
    refine gv_vS (jc := 29) (n := 2) (rest := [.int (0 : Int32), gv_u l4]) (stk := [.int v2, .int (0 : Int32), gv_u l4]) (pc' := 9) rfl rfl rfl rfl rfl rfl rfl rfl rfl (gv_zR (gv_zJ (gv_zI gv_z0))) rfl (gv_aR (gv_aJ (gv_aI gv_a0))) (Nat.le_of_ble_eq_true rfl) qi1 (cG_buffer_ok qv2) rfl rfl ?_
    refine gv_i2l (pc' := 10) rfl rfl ?_
    obtain ⟨h6, qh6, e⟩ := gv_bind e
    refine gv_last (pc' := 11) rfl qh6 rfl ?_
    refine gv_goto (pc' := 22) rfl rfl ?_
    refine gv_ic (pc' := 23) (x := 0) rfl rfl rfl ?_
    cases e
    exact gv_retI rfl rfl
def lw_view (l0 : Option Nat) (l1 : Int32) (l2 : Int32) (l3 : Int32) (l4 : Int32) (l5 : Option Nat) (h : gx_H) : Option (Int32 × gx_H) :=
  (gv_is h l0 0).bind fun i1 =>
  (cG_view l0 l1 l2 l3 l4 h).bind fun r4 =>
  match r4.1 with
  | .returned (some (.int v2)) => (
    (gv_wJ r4.2 l5 (0 : Int32) (Int32.toInt64 v2)).bind fun h6 =>
    some ((0 : Int32), h6))
  | .threw x5 => (r4.2[x5]?).bind fun w7 => (
    if w7.1 = 8 then (
      some ((1 : Int32), r4.2)) else
    if w7.1 = 9 then (
      some ((2 : Int32), r4.2)) else
    none)
  | _ => none
theorem lw_view_ok {xs : Option (List Int32)} {l0 : Option Nat} {l1 : Int32} {l2 : Int32} {l3 : Int32} {l4 : Int32} {l5 : Option Nat} {h : gx_H} {r : (Int32 × gx_H)} (e : lw_view l0 l1 l2 l3 l4 l5 h = some r) : gv_V xs 4 31 0 [(0, gv_u l0), (1, .int l1), (2, .int l2), (3, .int l3), (4, .int l4), (5, gv_u l5)] [] h (.returned (some (.int r.1))) r.2 := by
  unfold lw_view at e
  refine gv_rld (pc' := 2) rfl rfl rfl ?_
  refine gv_ic (pc' := 3) (x := 0) rfl rfl rfl ?_
  refine gv_rldn (pc' := 4) rfl rfl rfl ?_
  refine gv_ildn (pc' := 5) rfl rfl rfl ?_
  refine gv_ildn (pc' := 6) rfl rfl rfl ?_
  refine gv_ildn (pc' := 7) rfl rfl rfl ?_
  refine gv_ild (pc' := 9) rfl rfl rfl ?_
  obtain ⟨i1, qi1, e⟩ := gv_bind e
  obtain ⟨⟨or4, h3⟩, qv2, e⟩ := gv_bind e
  cases or4 with
  | threw x5 =>
    obtain ⟨w7, qw7, e⟩ := gv_bind e
    by_cases c8 : w7.1 = 8
    · rw [if_pos c8] at e
      refine gv_vC (jc := 32) (n := 4) (rest := [.int (0 : Int32), gv_u l5]) (pc' := 17) rfl rfl rfl rfl rfl rfl rfl rfl rfl (gv_zR (gv_zI (gv_zI (gv_zI (gv_zI gv_z0))))) rfl (gv_aR (gv_aI (gv_aI (gv_aI (gv_aI gv_a0))))) (Nat.le_of_ble_eq_true rfl) qi1 (cG_view_ok qv2) (gv_catT qw7 c8 rfl) ?_
      refine gv_rst (pc' := 19) rfl rfl (gv_Cr rfl) rfl ?_
      refine gv_ic (pc' := 20) (x := 1) rfl rfl rfl ?_
      cases e
      exact gv_retI rfl rfl
    rw [if_neg c8] at e
    by_cases c9 : w7.1 = 9
    · rw [if_pos c9] at e
      refine gv_vC (jc := 32) (n := 4) (rest := [.int (0 : Int32), gv_u l5]) (pc' := 21) rfl rfl rfl rfl rfl rfl rfl rfl rfl (gv_zR (gv_zI (gv_zI (gv_zI (gv_zI gv_z0))))) rfl (gv_aR (gv_aI (gv_aI (gv_aI (gv_aI gv_a0))))) (Nat.le_of_ble_eq_true rfl) qi1 (cG_view_ok qv2) (gv_catT qw7 c9 rfl) ?_
      refine gv_rst (pc' := 23) rfl rfl (gv_Cr rfl) rfl ?_
      refine gv_ic (pc' := 24) (x := 2) rfl rfl rfl ?_
      cases e
      exact gv_retI rfl rfl
    rw [if_neg c9] at e
    cases e
  | returned zr4 =>
  cases zr4 with
  | none => cases e
  | some zz =>
  cases zz with
  | long _ => cases e
  | float _ => cases e
  | double _ => cases e
  | ref _ => cases e
  | null => cases e
  | retAddr _ => cases e
  | int v2 =>
    dsimp only at e
    refine gv_vS (jc := 32) (n := 4) (rest := [.int (0 : Int32), gv_u l5]) (stk := [.int v2, .int (0 : Int32), gv_u l5]) (pc' := 12) rfl rfl rfl rfl rfl rfl rfl rfl rfl (gv_zR (gv_zI (gv_zI (gv_zI (gv_zI gv_z0))))) rfl (gv_aR (gv_aI (gv_aI (gv_aI (gv_aI gv_a0))))) (Nat.le_of_ble_eq_true rfl) qi1 (cG_view_ok qv2) rfl rfl ?_
    refine gv_i2l (pc' := 13) rfl rfl ?_
    obtain ⟨h6, qh6, e⟩ := gv_bind e
    refine gv_last (pc' := 14) rfl qh6 rfl ?_
    refine gv_goto (pc' := 25) rfl rfl ?_
    refine gv_ic (pc' := 26) (x := 0) rfl rfl rfl ?_
    cases e
    exact gv_retI rfl rfl
def lw_stamp (l0 : Option Nat) (l1 : Int64) (l3 : Option Nat) (h : gx_H) : Option (Int32 × gx_H) :=
  (gv_is h l0 0).bind fun i1 =>
  (cG_stamp l0 l1 h).bind fun r4 =>
  match r4.1 with
  | .returned (some (.int v2)) => (
    (gv_wJ r4.2 l3 (0 : Int32) (Int32.toInt64 v2)).bind fun h6 =>
    some ((0 : Int32), h6))
  | .threw x5 => (r4.2[x5]?).bind fun w7 => (
    if w7.1 = 9 then (
      some ((1 : Int32), r4.2)) else
    none)
  | _ => none
theorem lw_stamp_ok {xs : Option (List Int32)} {l0 : Option Nat} {l1 : Int64} {l3 : Option Nat} {h : gx_H} {r : (Int32 × gx_H)} (e : lw_stamp l0 l1 l3 h = some r) : gv_V xs 4 35 0 [(0, gv_u l0), (1, .long l1), (3, gv_u l3)] [] h (.returned (some (.int r.1))) r.2 := by
  unfold lw_stamp at e
  refine gv_rldn (pc' := 1) rfl rfl rfl ?_
  refine gv_ic (pc' := 2) (x := 0) rfl rfl rfl ?_
  refine gv_rldn (pc' := 3) rfl rfl rfl ?_
  refine gv_jldn (pc' := 4) rfl rfl rfl ?_
  obtain ⟨i1, qi1, e⟩ := gv_bind e
  obtain ⟨⟨or4, h3⟩, qv2, e⟩ := gv_bind e
  cases or4 with
  | threw x5 =>
    obtain ⟨w7, qw7, e⟩ := gv_bind e
    by_cases c8 : w7.1 = 9
    · rw [if_pos c8] at e
      refine gv_vC (jc := 36) (n := 1) (rest := [.int (0 : Int32), gv_u l3]) (pc' := 12) rfl rfl rfl rfl rfl rfl rfl rfl rfl (gv_zR (gv_zJ gv_z0)) rfl (gv_aR (gv_aJ gv_a0)) (Nat.le_of_ble_eq_true rfl) qi1 (cG_stamp_ok qv2) (gv_catT qw7 c8 rfl) ?_
      refine gv_rst (pc' := 14) rfl rfl (gv_Cr rfl) rfl ?_
      refine gv_ic (pc' := 15) (x := 1) rfl rfl rfl ?_
      cases e
      exact gv_retI rfl rfl
    rw [if_neg c8] at e
    cases e
  | returned zr4 =>
  cases zr4 with
  | none => cases e
  | some zz =>
  cases zz with
  | long _ => cases e
  | float _ => cases e
  | double _ => cases e
  | ref _ => cases e
  | null => cases e
  | retAddr _ => cases e
  | int v2 =>
    dsimp only at e
    refine gv_vS (jc := 36) (n := 1) (rest := [.int (0 : Int32), gv_u l3]) (stk := [.int v2, .int (0 : Int32), gv_u l3]) (pc' := 7) rfl rfl rfl rfl rfl rfl rfl rfl rfl (gv_zR (gv_zJ gv_z0)) rfl (gv_aR (gv_aJ gv_a0)) (Nat.le_of_ble_eq_true rfl) qi1 (cG_stamp_ok qv2) rfl rfl ?_
    refine gv_i2l (pc' := 8) rfl rfl ?_
    obtain ⟨h6, qh6, e⟩ := gv_bind e
    refine gv_last (pc' := 9) rfl qh6 rfl ?_
    refine gv_goto (pc' := 16) rfl rfl ?_
    refine gv_ic (pc' := 17) (x := 0) rfl rfl rfl ?_
    cases e
    exact gv_retI rfl rfl
def lw_put (l0 : Option Nat) (l1 : Int32) (l2 : Int32) (l3 : Int32) (l4 : Int32) (h : gx_H) : Option (Int32 × gx_H) :=
  (gv_is h l0 0).bind fun i1 =>
  (cG_put l0 l1 l2 l3 l4 h).bind fun r4 =>
  match r4.1 with
  | .returned none => (
    some ((0 : Int32), r4.2))
  | .threw x5 => (r4.2[x5]?).bind fun w6 => (
    if w6.1 = 8 then (
      some ((1 : Int32), r4.2)) else
    if w6.1 = 9 then (
      some ((2 : Int32), r4.2)) else
    none)
  | _ => none
theorem lw_put_ok {xs : Option (List Int32)} {l0 : Option Nat} {l1 : Int32} {l2 : Int32} {l3 : Int32} {l4 : Int32} {h : gx_H} {r : (Int32 × gx_H)} (e : lw_put l0 l1 l2 l3 l4 h = some r) : gv_V xs 5 37 0 [(0, gv_u l0), (1, .int l1), (2, .int l2), (3, .int l3), (4, .int l4)] [] h (.returned (some (.int r.1))) r.2 := by
  unfold lw_put at e
  refine gv_rldn (pc' := 1) rfl rfl rfl ?_
  refine gv_ildn (pc' := 2) rfl rfl rfl ?_
  refine gv_ildn (pc' := 3) rfl rfl rfl ?_
  refine gv_ildn (pc' := 4) rfl rfl rfl ?_
  refine gv_ild (pc' := 6) rfl rfl rfl ?_
  obtain ⟨i1, qi1, e⟩ := gv_bind e
  obtain ⟨⟨or4, h3⟩, qv2, e⟩ := gv_bind e
  cases or4 with
  | threw x5 =>
    obtain ⟨w6, qw6, e⟩ := gv_bind e
    by_cases c7 : w6.1 = 8
    · rw [if_pos c7] at e
      refine gv_vC (jc := 38) (n := 4) (rest := []) (pc' := 12) rfl rfl rfl rfl rfl rfl rfl rfl rfl (gv_zR (gv_zI (gv_zI (gv_zI (gv_zI gv_z0))))) rfl (gv_aR (gv_aI (gv_aI (gv_aI (gv_aI gv_a0))))) (Nat.le_of_ble_eq_true rfl) qi1 (cG_put_ok qv2) (gv_catT qw6 c7 rfl) ?_
      refine gv_rst (pc' := 14) rfl rfl (gv_Ci rfl) rfl ?_
      refine gv_ic (pc' := 15) (x := 1) rfl rfl rfl ?_
      cases e
      exact gv_retI rfl rfl
    rw [if_neg c7] at e
    by_cases c8 : w6.1 = 9
    · rw [if_pos c8] at e
      refine gv_vC (jc := 38) (n := 4) (rest := []) (pc' := 16) rfl rfl rfl rfl rfl rfl rfl rfl rfl (gv_zR (gv_zI (gv_zI (gv_zI (gv_zI gv_z0))))) rfl (gv_aR (gv_aI (gv_aI (gv_aI (gv_aI gv_a0))))) (Nat.le_of_ble_eq_true rfl) qi1 (cG_put_ok qv2) (gv_catT qw6 c8 rfl) ?_
      refine gv_rst (pc' := 18) rfl rfl (gv_Ci rfl) rfl ?_
      refine gv_ic (pc' := 19) (x := 2) rfl rfl rfl ?_
      cases e
      exact gv_retI rfl rfl
    rw [if_neg c8] at e
    cases e
  | returned zr4 =>
  cases zr4 with
  | some zz => cases e
  | none =>
    dsimp only at e
    refine gv_vS (jc := 38) (n := 4) (rest := []) (stk := []) (pc' := 9) rfl rfl rfl rfl rfl rfl rfl rfl rfl (gv_zR (gv_zI (gv_zI (gv_zI (gv_zI gv_z0))))) rfl (gv_aR (gv_aI (gv_aI (gv_aI (gv_aI gv_a0))))) (Nat.le_of_ble_eq_true rfl) qi1 (cG_put_ok qv2) rfl rfl ?_
    refine gv_goto (pc' := 20) rfl rfl ?_
    refine gv_ic (pc' := 21) (x := 0) rfl rfl rfl ?_
    cases e
    exact gv_retI rfl rfl
def lw_take (l0 : Option Nat) (l1 : Int32) (l2 : Int32) (l3 : Option Nat) (h : gx_H) : Option (Int32 × gx_H) :=
  (gv_is h l0 0).bind fun i1 =>
  (cG_take l0 l1 l2 h).bind fun r4 =>
  match r4.1 with
  | .returned (some (.int v2)) => (
    if v2 = 0 then (
      (gv_wJ r4.2 l3 (0 : Int32) (0 : Int64)).bind fun h7 =>
      some ((0 : Int32), h7)) else
    (gv_wJ r4.2 l3 (0 : Int32) (1 : Int64)).bind fun h8 =>
    some ((0 : Int32), h8))
  | .threw x5 => (r4.2[x5]?).bind fun w9 => (
    if w9.1 = 8 then (
      some ((1 : Int32), r4.2)) else
    none)
  | _ => none
theorem lw_take_ok {xs : Option (List Int32)} {l0 : Option Nat} {l1 : Int32} {l2 : Int32} {l3 : Option Nat} {h : gx_H} {r : (Int32 × gx_H)} (e : lw_take l0 l1 l2 l3 h = some r) : gv_V xs 3 50 0 [(0, gv_u l0), (1, .int l1), (2, .int l2), (3, gv_u l3)] [] h (.returned (some (.int r.1))) r.2 := by
  unfold lw_take at e
  refine gv_rldn (pc' := 1) rfl rfl rfl ?_
  refine gv_ic (pc' := 2) (x := 0) rfl rfl rfl ?_
  refine gv_rldn (pc' := 3) rfl rfl rfl ?_
  refine gv_ildn (pc' := 4) rfl rfl rfl ?_
  refine gv_ildn (pc' := 5) rfl rfl rfl ?_
  obtain ⟨i1, qi1, e⟩ := gv_bind e
  obtain ⟨⟨or4, h3⟩, qv2, e⟩ := gv_bind e
  cases or4 with
  | threw x5 =>
    obtain ⟨w9, qw9, e⟩ := gv_bind e
    by_cases c10 : w9.1 = 8
    · rw [if_pos c10] at e
      refine gv_vC (jc := 51) (n := 2) (rest := [.int (0 : Int32), gv_u l3]) (pc' := 20) rfl rfl rfl rfl rfl rfl rfl rfl rfl (gv_zR (gv_zI (gv_zI gv_z0))) rfl (gv_aR (gv_aI (gv_aI gv_a0))) (Nat.le_of_ble_eq_true rfl) qi1 (cG_take_ok qv2) (gv_catT qw9 c10 rfl) ?_
      refine gv_rst (pc' := 22) rfl rfl (gv_Cr rfl) rfl ?_
      refine gv_ic (pc' := 23) (x := 1) rfl rfl rfl ?_
      cases e
      exact gv_retI rfl rfl
    rw [if_neg c10] at e
    cases e
  | returned zr4 =>
  cases zr4 with
  | none => cases e
  | some zz =>
  cases zz with
  | long _ => cases e
  | float _ => cases e
  | double _ => cases e
  | ref _ => cases e
  | null => cases e
  | retAddr _ => cases e
  | int v2 =>
    dsimp only at e
    refine gv_vS (jc := 51) (n := 2) (rest := [.int (0 : Int32), gv_u l3]) (stk := [.int v2, .int (0 : Int32), gv_u l3]) (pc' := 8) rfl rfl rfl rfl rfl rfl rfl rfl rfl (gv_zR (gv_zI (gv_zI gv_z0))) rfl (gv_aR (gv_aI (gv_aI gv_a0))) (Nat.le_of_ble_eq_true rfl) qi1 (cG_take_ok qv2) rfl rfl ?_
    by_cases c6 : v2 = 0
    · rw [if_pos c6] at e
      refine gv_ifT (pc' := 15) rfl (gv_eqT c6) rfl ?_
      refine gv_lc (pc' := 16) (x := 0) rfl rfl rfl ?_
      obtain ⟨h7, qh7, e⟩ := gv_bind e
      refine gv_last (pc' := 17) rfl qh7 rfl ?_
      refine gv_goto (pc' := 24) rfl rfl ?_
      refine gv_ic (pc' := 25) (x := 0) rfl rfl rfl ?_
      cases e
      exact gv_retI rfl rfl
    rw [if_neg c6] at e
    refine gv_ifF (pc' := 11) rfl (gv_eqF c6) rfl rfl ?_
    refine gv_lc (pc' := 12) (x := 1) rfl rfl rfl ?_
    refine gv_goto (pc' := 16) rfl rfl ?_
    obtain ⟨h8, qh8, e⟩ := gv_bind e
    refine gv_last (pc' := 17) rfl qh8 rfl ?_
    refine gv_goto (pc' := 24) rfl rfl ?_
    refine gv_ic (pc' := 25) (x := 0) rfl rfl rfl ?_
    cases e
    exact gv_retI rfl rfl
def lw_entry (l0 : Option Nat) (l1 : Int32) (l2 : Int32) (l3 : Int32) (l4 : Int32) (l5 : Int32) (h : gx_H) : Option (Int32 × gx_H) :=
  (gv_is h l0 0).bind fun i1 =>
  (cG_entry l0 l1 l2 l3 l4 l5 h).bind fun r4 =>
  match r4.1 with
  | .returned none => (
    some ((0 : Int32), r4.2))
  | .threw x5 => (r4.2[x5]?).bind fun w6 => (
    if w6.1 = 8 then (
      some ((1 : Int32), r4.2)) else
    if w6.1 = 9 then (
      some ((2 : Int32), r4.2)) else
    none)
  | _ => none
theorem lw_entry_ok {xs : Option (List Int32)} {l0 : Option Nat} {l1 : Int32} {l2 : Int32} {l3 : Int32} {l4 : Int32} {l5 : Int32} {h : gx_H} {r : (Int32 × gx_H)} (e : lw_entry l0 l1 l2 l3 l4 l5 h = some r) : gv_V xs 4 54 0 [(0, gv_u l0), (1, .int l1), (2, .int l2), (3, .int l3), (4, .int l4), (5, .int l5)] [] h (.returned (some (.int r.1))) r.2 := by
  unfold lw_entry at e
  refine gv_rldn (pc' := 1) rfl rfl rfl ?_
  refine gv_ildn (pc' := 2) rfl rfl rfl ?_
  refine gv_ildn (pc' := 3) rfl rfl rfl ?_
  refine gv_ildn (pc' := 4) rfl rfl rfl ?_
  refine gv_ild (pc' := 6) rfl rfl rfl ?_
  refine gv_ild (pc' := 8) rfl rfl rfl ?_
  obtain ⟨i1, qi1, e⟩ := gv_bind e
  obtain ⟨⟨or4, h3⟩, qv2, e⟩ := gv_bind e
  cases or4 with
  | threw x5 =>
    obtain ⟨w6, qw6, e⟩ := gv_bind e
    by_cases c7 : w6.1 = 8
    · rw [if_pos c7] at e
      refine gv_vC (jc := 55) (n := 5) (rest := []) (pc' := 14) rfl rfl rfl rfl rfl rfl rfl rfl rfl (gv_zR (gv_zI (gv_zI (gv_zI (gv_zI (gv_zI gv_z0)))))) rfl (gv_aR (gv_aI (gv_aI (gv_aI (gv_aI (gv_aI gv_a0)))))) (Nat.le_of_ble_eq_true rfl) qi1 (cG_entry_ok qv2) (gv_catT qw6 c7 rfl) ?_
      refine gv_rst (pc' := 16) rfl rfl (gv_Ci rfl) rfl ?_
      refine gv_ic (pc' := 17) (x := 1) rfl rfl rfl ?_
      cases e
      exact gv_retI rfl rfl
    rw [if_neg c7] at e
    by_cases c8 : w6.1 = 9
    · rw [if_pos c8] at e
      refine gv_vC (jc := 55) (n := 5) (rest := []) (pc' := 18) rfl rfl rfl rfl rfl rfl rfl rfl rfl (gv_zR (gv_zI (gv_zI (gv_zI (gv_zI (gv_zI gv_z0)))))) rfl (gv_aR (gv_aI (gv_aI (gv_aI (gv_aI (gv_aI gv_a0)))))) (Nat.le_of_ble_eq_true rfl) qi1 (cG_entry_ok qv2) (gv_catT qw6 c8 rfl) ?_
      refine gv_rst (pc' := 20) rfl rfl (gv_Ci rfl) rfl ?_
      refine gv_ic (pc' := 21) (x := 2) rfl rfl rfl ?_
      cases e
      exact gv_retI rfl rfl
    rw [if_neg c8] at e
    cases e
  | returned zr4 =>
  cases zr4 with
  | some zz => cases e
  | none =>
    dsimp only at e
    refine gv_vS (jc := 55) (n := 5) (rest := []) (stk := []) (pc' := 11) rfl rfl rfl rfl rfl rfl rfl rfl rfl (gv_zR (gv_zI (gv_zI (gv_zI (gv_zI (gv_zI gv_z0)))))) rfl (gv_aR (gv_aI (gv_aI (gv_aI (gv_aI (gv_aI gv_a0)))))) (Nat.le_of_ble_eq_true rfl) qi1 (cG_entry_ok qv2) rfl rfl ?_
    refine gv_goto (pc' := 22) rfl rfl ?_
    refine gv_ic (pc' := 23) (x := 0) rfl rfl rfl ?_
    cases e
    exact gv_retI rfl rfl
def lw_add (l0 : Option Nat) (l1 : Int32) (l2 : Int32) (l3 : Int32) (l4 : Option Nat) (h : gx_H) : Option (Int32 × gx_H) :=
  (gv_is h l0 0).bind fun i1 =>
  (cG_add l0 l1 l2 l3 h).bind fun r4 =>
  match r4.1 with
  | .returned (some (.int v2)) => (
    if v2 = 0 then (
      (gv_wJ r4.2 l4 (0 : Int32) (0 : Int64)).bind fun h7 =>
      some ((0 : Int32), h7)) else
    (gv_wJ r4.2 l4 (0 : Int32) (1 : Int64)).bind fun h8 =>
    some ((0 : Int32), h8))
  | .threw x5 => (r4.2[x5]?).bind fun w9 => (
    if w9.1 = 8 then (
      some ((1 : Int32), r4.2)) else
    if w9.1 = 9 then (
      some ((2 : Int32), r4.2)) else
    none)
  | _ => none
theorem lw_add_ok {xs : Option (List Int32)} {l0 : Option Nat} {l1 : Int32} {l2 : Int32} {l3 : Int32} {l4 : Option Nat} {h : gx_H} {r : (Int32 × gx_H)} (e : lw_add l0 l1 l2 l3 l4 h = some r) : gv_V xs 4 57 0 [(0, gv_u l0), (1, .int l1), (2, .int l2), (3, .int l3), (4, gv_u l4)] [] h (.returned (some (.int r.1))) r.2 := by
  unfold lw_add at e
  refine gv_rld (pc' := 2) rfl rfl rfl ?_
  refine gv_ic (pc' := 3) (x := 0) rfl rfl rfl ?_
  refine gv_rldn (pc' := 4) rfl rfl rfl ?_
  refine gv_ildn (pc' := 5) rfl rfl rfl ?_
  refine gv_ildn (pc' := 6) rfl rfl rfl ?_
  refine gv_ildn (pc' := 7) rfl rfl rfl ?_
  obtain ⟨i1, qi1, e⟩ := gv_bind e
  obtain ⟨⟨or4, h3⟩, qv2, e⟩ := gv_bind e
  cases or4 with
  | threw x5 =>
    obtain ⟨w9, qw9, e⟩ := gv_bind e
    by_cases c10 : w9.1 = 8
    · rw [if_pos c10] at e
      refine gv_vC (jc := 58) (n := 3) (rest := [.int (0 : Int32), gv_u l4]) (pc' := 22) rfl rfl rfl rfl rfl rfl rfl rfl rfl (gv_zR (gv_zI (gv_zI (gv_zI gv_z0)))) rfl (gv_aR (gv_aI (gv_aI (gv_aI gv_a0)))) (Nat.le_of_ble_eq_true rfl) qi1 (cG_add_ok qv2) (gv_catT qw9 c10 rfl) ?_
      refine gv_rst (pc' := 24) rfl rfl (gv_Cr rfl) rfl ?_
      refine gv_ic (pc' := 25) (x := 1) rfl rfl rfl ?_
      cases e
      exact gv_retI rfl rfl
    rw [if_neg c10] at e
    by_cases c11 : w9.1 = 9
    · rw [if_pos c11] at e
      refine gv_vC (jc := 58) (n := 3) (rest := [.int (0 : Int32), gv_u l4]) (pc' := 26) rfl rfl rfl rfl rfl rfl rfl rfl rfl (gv_zR (gv_zI (gv_zI (gv_zI gv_z0)))) rfl (gv_aR (gv_aI (gv_aI (gv_aI gv_a0)))) (Nat.le_of_ble_eq_true rfl) qi1 (cG_add_ok qv2) (gv_catT qw9 c11 rfl) ?_
      refine gv_rst (pc' := 28) rfl rfl (gv_Cr rfl) rfl ?_
      refine gv_ic (pc' := 29) (x := 2) rfl rfl rfl ?_
      cases e
      exact gv_retI rfl rfl
    rw [if_neg c11] at e
    cases e
  | returned zr4 =>
  cases zr4 with
  | none => cases e
  | some zz =>
  cases zz with
  | long _ => cases e
  | float _ => cases e
  | double _ => cases e
  | ref _ => cases e
  | null => cases e
  | retAddr _ => cases e
  | int v2 =>
    dsimp only at e
    refine gv_vS (jc := 58) (n := 3) (rest := [.int (0 : Int32), gv_u l4]) (stk := [.int v2, .int (0 : Int32), gv_u l4]) (pc' := 10) rfl rfl rfl rfl rfl rfl rfl rfl rfl (gv_zR (gv_zI (gv_zI (gv_zI gv_z0)))) rfl (gv_aR (gv_aI (gv_aI (gv_aI gv_a0)))) (Nat.le_of_ble_eq_true rfl) qi1 (cG_add_ok qv2) rfl rfl ?_
    by_cases c6 : v2 = 0
    · rw [if_pos c6] at e
      refine gv_ifT (pc' := 17) rfl (gv_eqT c6) rfl ?_
      refine gv_lc (pc' := 18) (x := 0) rfl rfl rfl ?_
      obtain ⟨h7, qh7, e⟩ := gv_bind e
      refine gv_last (pc' := 19) rfl qh7 rfl ?_
      refine gv_goto (pc' := 30) rfl rfl ?_
      refine gv_ic (pc' := 31) (x := 0) rfl rfl rfl ?_
      cases e
      exact gv_retI rfl rfl
    rw [if_neg c6] at e
    refine gv_ifF (pc' := 13) rfl (gv_eqF c6) rfl rfl ?_
    refine gv_lc (pc' := 14) (x := 1) rfl rfl rfl ?_
    refine gv_goto (pc' := 18) rfl rfl ?_
    obtain ⟨h8, qh8, e⟩ := gv_bind e
    refine gv_last (pc' := 19) rfl qh8 rfl ?_
    refine gv_goto (pc' := 30) rfl rfl ?_
    refine gv_ic (pc' := 31) (x := 0) rfl rfl rfl ?_
    cases e
    exact gv_retI rfl rfl
def lw_get (l0 : Option Nat) (l1 : Int32) (l2 : Int32) (l3 : Int32) (l4 : Option Nat) (h : gx_H) : Option (Int32 × gx_H) :=
  (gv_is h l0 0).bind fun i1 =>
  (cG_get l0 l1 l2 l3 h).bind fun r4 =>
  match r4.1 with
  | .returned (some (.long v2)) => (
    (gv_wJ r4.2 l4 (0 : Int32) v2).bind fun h6 =>
    some ((0 : Int32), h6))
  | .threw x5 => (r4.2[x5]?).bind fun w7 => (
    if w7.1 = 10 then (
      some ((1 : Int32), r4.2)) else
    none)
  | _ => none
theorem lw_get_ok {xs : Option (List Int32)} {l0 : Option Nat} {l1 : Int32} {l2 : Int32} {l3 : Int32} {l4 : Option Nat} {h : gx_H} {r : (Int32 × gx_H)} (e : lw_get l0 l1 l2 l3 l4 h = some r) : gv_V xs 4 61 0 [(0, gv_u l0), (1, .int l1), (2, .int l2), (3, .int l3), (4, gv_u l4)] [] h (.returned (some (.int r.1))) r.2 := by
  unfold lw_get at e
  refine gv_rld (pc' := 2) rfl rfl rfl ?_
  refine gv_ic (pc' := 3) (x := 0) rfl rfl rfl ?_
  refine gv_rldn (pc' := 4) rfl rfl rfl ?_
  refine gv_ildn (pc' := 5) rfl rfl rfl ?_
  refine gv_ildn (pc' := 6) rfl rfl rfl ?_
  refine gv_ildn (pc' := 7) rfl rfl rfl ?_
  obtain ⟨i1, qi1, e⟩ := gv_bind e
  obtain ⟨⟨or4, h3⟩, qv2, e⟩ := gv_bind e
  cases or4 with
  | threw x5 =>
    obtain ⟨w7, qw7, e⟩ := gv_bind e
    by_cases c8 : w7.1 = 10
    · rw [if_pos c8] at e
      refine gv_vC (jc := 62) (n := 3) (rest := [.int (0 : Int32), gv_u l4]) (pc' := 14) rfl rfl rfl rfl rfl rfl rfl rfl rfl (gv_zR (gv_zI (gv_zI (gv_zI gv_z0)))) rfl (gv_aR (gv_aI (gv_aI (gv_aI gv_a0)))) (Nat.le_of_ble_eq_true rfl) qi1 (cG_get_ok qv2) (gv_catT qw7 c8 rfl) ?_
      refine gv_rst (pc' := 16) rfl rfl (gv_Cr rfl) rfl ?_
      refine gv_ic (pc' := 17) (x := 1) rfl rfl rfl ?_
      cases e
      exact gv_retI rfl rfl
    rw [if_neg c8] at e
    cases e
  | returned zr4 =>
  cases zr4 with
  | none => cases e
  | some zz =>
  cases zz with
  | int _ => cases e
  | float _ => cases e
  | double _ => cases e
  | ref _ => cases e
  | null => cases e
  | retAddr _ => cases e
  | long v2 =>
    dsimp only at e
    refine gv_vS (jc := 62) (n := 3) (rest := [.int (0 : Int32), gv_u l4]) (stk := [.long v2, .int (0 : Int32), gv_u l4]) (pc' := 10) rfl rfl rfl rfl rfl rfl rfl rfl rfl (gv_zR (gv_zI (gv_zI (gv_zI gv_z0)))) rfl (gv_aR (gv_aI (gv_aI (gv_aI gv_a0)))) (Nat.le_of_ble_eq_true rfl) qi1 (cG_get_ok qv2) rfl rfl ?_
    obtain ⟨h6, qh6, e⟩ := gv_bind e
    refine gv_last (pc' := 11) rfl qh6 rfl ?_
    refine gv_goto (pc' := 18) rfl rfl ?_
    refine gv_ic (pc' := 19) (x := 0) rfl rfl rfl ?_
    cases e
    exact gv_retI rfl rfl
def lw_pass (l0 : Option Nat) (l1 : Int32) (l2 : Option Nat) (h : gx_H) : Option (Int32 × gx_H) :=
  (gv_is h l0 0).bind fun i1 =>
  (cG_pass l0 l1 h).bind fun r4 =>
  match r4.1 with
  | .returned (some (.int v2)) => (
    (gv_wJ r4.2 l2 (0 : Int32) (Int32.toInt64 v2)).bind fun h6 =>
    some ((0 : Int32), h6))
  | .threw x5 => (r4.2[x5]?).bind fun w7 => (
    if w7.1 = 8 then (
      some ((1 : Int32), r4.2)) else
    if w7.1 = 9 then (
      some ((2 : Int32), r4.2)) else
    none)
  | _ => none
theorem lw_pass_ok {xs : Option (List Int32)} {l0 : Option Nat} {l1 : Int32} {l2 : Option Nat} {h : gx_H} {r : (Int32 × gx_H)} (e : lw_pass l0 l1 l2 h = some r) : gv_V xs 2 68 0 [(0, gv_u l0), (1, .int l1), (2, gv_u l2)] [] h (.returned (some (.int r.1))) r.2 := by
  unfold lw_pass at e
  refine gv_rldn (pc' := 1) rfl rfl rfl ?_
  refine gv_ic (pc' := 2) (x := 0) rfl rfl rfl ?_
  refine gv_rldn (pc' := 3) rfl rfl rfl ?_
  refine gv_ildn (pc' := 4) rfl rfl rfl ?_
  obtain ⟨i1, qi1, e⟩ := gv_bind e
  obtain ⟨⟨or4, h3⟩, qv2, e⟩ := gv_bind e
  cases or4 with
  | threw x5 =>
    obtain ⟨w7, qw7, e⟩ := gv_bind e
    by_cases c8 : w7.1 = 8
    · rw [if_pos c8] at e
      refine gv_vC (jc := 69) (n := 1) (rest := [.int (0 : Int32), gv_u l2]) (pc' := 12) rfl rfl rfl rfl rfl rfl rfl rfl rfl (gv_zR (gv_zI gv_z0)) rfl (gv_aR (gv_aI gv_a0)) (Nat.le_of_ble_eq_true rfl) qi1 (cG_pass_ok qv2) (gv_catT qw7 c8 rfl) ?_
      refine gv_rstn (pc' := 13) rfl rfl (gv_Cr rfl) rfl ?_
      refine gv_ic (pc' := 14) (x := 1) rfl rfl rfl ?_
      cases e
      exact gv_retI rfl rfl
    rw [if_neg c8] at e
    by_cases c9 : w7.1 = 9
    · rw [if_pos c9] at e
      refine gv_vC (jc := 69) (n := 1) (rest := [.int (0 : Int32), gv_u l2]) (pc' := 15) rfl rfl rfl rfl rfl rfl rfl rfl rfl (gv_zR (gv_zI gv_z0)) rfl (gv_aR (gv_aI gv_a0)) (Nat.le_of_ble_eq_true rfl) qi1 (cG_pass_ok qv2) (gv_catT qw7 c9 rfl) ?_
      refine gv_rstn (pc' := 16) rfl rfl (gv_Cr rfl) rfl ?_
      refine gv_ic (pc' := 17) (x := 2) rfl rfl rfl ?_
      cases e
      exact gv_retI rfl rfl
    rw [if_neg c9] at e
    cases e
  | returned zr4 =>
  cases zr4 with
  | none => cases e
  | some zz =>
  cases zz with
  | long _ => cases e
  | float _ => cases e
  | double _ => cases e
  | ref _ => cases e
  | null => cases e
  | retAddr _ => cases e
  | int v2 =>
    dsimp only at e
    refine gv_vS (jc := 69) (n := 1) (rest := [.int (0 : Int32), gv_u l2]) (stk := [.int v2, .int (0 : Int32), gv_u l2]) (pc' := 7) rfl rfl rfl rfl rfl rfl rfl rfl rfl (gv_zR (gv_zI gv_z0)) rfl (gv_aR (gv_aI gv_a0)) (Nat.le_of_ble_eq_true rfl) qi1 (cG_pass_ok qv2) rfl rfl ?_
    refine gv_i2l (pc' := 8) rfl rfl ?_
    obtain ⟨h6, qh6, e⟩ := gv_bind e
    refine gv_last (pc' := 9) rfl qh6 rfl ?_
    refine gv_goto (pc' := 18) rfl rfl ?_
    refine gv_ic (pc' := 19) (x := 0) rfl rfl rfl ?_
    cases e
    exact gv_retI rfl rfl
def lw_write (l0 : Option Nat) (l1 : Int32) (l2 : Int32) (l3 : Option Nat) (h : gx_H) : Option (Int32 × gx_H) :=
  (gv_is h l0 0).bind fun i1 =>
  (cG_write l0 l1 l2 h).bind fun r4 =>
  match r4.1 with
  | .returned (some (.int v2)) => (
    (gv_wJ r4.2 l3 (0 : Int32) (Int32.toInt64 v2)).bind fun h6 =>
    some ((0 : Int32), h6))
  | .threw x5 => (r4.2[x5]?).bind fun w7 => (
    if w7.1 = 8 then (
      some ((1 : Int32), r4.2)) else
    if w7.1 = 11 then (
      some ((2 : Int32), r4.2)) else
    none)
  | _ => none
theorem lw_write_ok {xs : Option (List Int32)} {l0 : Option Nat} {l1 : Int32} {l2 : Int32} {l3 : Option Nat} {h : gx_H} {r : (Int32 × gx_H)} (e : lw_write l0 l1 l2 l3 h = some r) : gv_V xs 115 71 0 [(0, gv_u l0), (1, .int l1), (2, .int l2), (3, gv_u l3)] [] h (.returned (some (.int r.1))) r.2 := by
  unfold lw_write at e
  refine gv_rldn (pc' := 1) rfl rfl rfl ?_
  refine gv_ic (pc' := 2) (x := 0) rfl rfl rfl ?_
  refine gv_rldn (pc' := 3) rfl rfl rfl ?_
  refine gv_ildn (pc' := 4) rfl rfl rfl ?_
  refine gv_ildn (pc' := 5) rfl rfl rfl ?_
  obtain ⟨i1, qi1, e⟩ := gv_bind e
  obtain ⟨⟨or4, h3⟩, qv2, e⟩ := gv_bind e
  cases or4 with
  | threw x5 =>
    obtain ⟨w7, qw7, e⟩ := gv_bind e
    by_cases c8 : w7.1 = 8
    · rw [if_pos c8] at e
      refine gv_vC (jc := 72) (n := 2) (rest := [.int (0 : Int32), gv_u l3]) (pc' := 13) rfl rfl rfl rfl rfl rfl rfl rfl rfl (gv_zR (gv_zI (gv_zI gv_z0))) rfl (gv_aR (gv_aI (gv_aI gv_a0))) (Nat.le_of_ble_eq_true rfl) qi1 (cG_write_ok qv2) (gv_catT qw7 c8 rfl) ?_
      refine gv_rst (pc' := 15) rfl rfl (gv_Cr rfl) rfl ?_
      refine gv_ic (pc' := 16) (x := 1) rfl rfl rfl ?_
      cases e
      exact gv_retI rfl rfl
    rw [if_neg c8] at e
    by_cases c9 : w7.1 = 11
    · rw [if_pos c9] at e
      refine gv_vC (jc := 72) (n := 2) (rest := [.int (0 : Int32), gv_u l3]) (pc' := 17) rfl rfl rfl rfl rfl rfl rfl rfl rfl (gv_zR (gv_zI (gv_zI gv_z0))) rfl (gv_aR (gv_aI (gv_aI gv_a0))) (Nat.le_of_ble_eq_true rfl) qi1 (cG_write_ok qv2) (gv_catT qw7 c9 rfl) ?_
      refine gv_rst (pc' := 19) rfl rfl (gv_Cr rfl) rfl ?_
      refine gv_ic (pc' := 20) (x := 2) rfl rfl rfl ?_
      cases e
      exact gv_retI rfl rfl
    rw [if_neg c9] at e
    cases e
  | returned zr4 =>
  cases zr4 with
  | none => cases e
  | some zz =>
  cases zz with
  | long _ => cases e
  | float _ => cases e
  | double _ => cases e
  | ref _ => cases e
  | null => cases e
  | retAddr _ => cases e
  | int v2 =>
    dsimp only at e
    refine gv_vS (jc := 72) (n := 2) (rest := [.int (0 : Int32), gv_u l3]) (stk := [.int v2, .int (0 : Int32), gv_u l3]) (pc' := 8) rfl rfl rfl rfl rfl rfl rfl rfl rfl (gv_zR (gv_zI (gv_zI gv_z0))) rfl (gv_aR (gv_aI (gv_aI gv_a0))) (Nat.le_of_ble_eq_true rfl) qi1 (cG_write_ok qv2) rfl rfl ?_
    refine gv_i2l (pc' := 9) rfl rfl ?_
    obtain ⟨h6, qh6, e⟩ := gv_bind e
    refine gv_last (pc' := 10) rfl qh6 rfl ?_
    refine gv_goto (pc' := 21) rfl rfl ?_
    refine gv_ic (pc' := 22) (x := 0) rfl rfl rfl ?_
    cases e
    exact gv_retI rfl rfl
def lw_read (l0 : Option Nat) (l1 : Option Nat) (h : gx_H) : Option (Int32 × gx_H) :=
  (gv_is h l0 0).bind fun i1 =>
  (cG_read l0 h).bind fun r4 =>
  match r4.1 with
  | .returned (some (.int v2)) => (
    (gv_wJ r4.2 l1 (0 : Int32) (Int32.toInt64 v2)).bind fun h6 =>
    some ((0 : Int32), h6))
  | .threw x5 => (r4.2[x5]?).bind fun w7 => (
    if w7.1 = 8 then (
      some ((1 : Int32), r4.2)) else
    none)
  | _ => none
theorem lw_read_ok {xs : Option (List Int32)} {l0 : Option Nat} {l1 : Option Nat} {h : gx_H} {r : (Int32 × gx_H)} (e : lw_read l0 l1 h = some r) : gv_V xs 75 97 0 [(0, gv_u l0), (1, gv_u l1)] [] h (.returned (some (.int r.1))) r.2 := by
  unfold lw_read at e
  refine gv_rldn (pc' := 1) rfl rfl rfl ?_
  refine gv_ic (pc' := 2) (x := 0) rfl rfl rfl ?_
  refine gv_rldn (pc' := 3) rfl rfl rfl ?_
  obtain ⟨i1, qi1, e⟩ := gv_bind e
  obtain ⟨⟨or4, h3⟩, qv2, e⟩ := gv_bind e
  cases or4 with
  | threw x5 =>
    obtain ⟨w7, qw7, e⟩ := gv_bind e
    by_cases c8 : w7.1 = 8
    · rw [if_pos c8] at e
      refine gv_vC (jc := 98) (n := 0) (rest := [.int (0 : Int32), gv_u l1]) (pc' := 11) rfl rfl rfl rfl rfl rfl rfl rfl rfl (gv_zR gv_z0) rfl (gv_aR gv_a0) (Nat.le_of_ble_eq_true rfl) qi1 (cG_read_ok qv2) (gv_catT qw7 c8 rfl) ?_
      refine gv_rstn (pc' := 12) rfl rfl (gv_Cr rfl) rfl ?_
      refine gv_ic (pc' := 13) (x := 1) rfl rfl rfl ?_
      cases e
      exact gv_retI rfl rfl
    rw [if_neg c8] at e
    cases e
  | returned zr4 =>
  cases zr4 with
  | none => cases e
  | some zz =>
  cases zz with
  | long _ => cases e
  | float _ => cases e
  | double _ => cases e
  | ref _ => cases e
  | null => cases e
  | retAddr _ => cases e
  | int v2 =>
    dsimp only at e
    refine gv_vS (jc := 98) (n := 0) (rest := [.int (0 : Int32), gv_u l1]) (stk := [.int v2, .int (0 : Int32), gv_u l1]) (pc' := 6) rfl rfl rfl rfl rfl rfl rfl rfl rfl (gv_zR gv_z0) rfl (gv_aR gv_a0) (Nat.le_of_ble_eq_true rfl) qi1 (cG_read_ok qv2) rfl rfl ?_
    refine gv_i2l (pc' := 7) rfl rfl ?_
    obtain ⟨h6, qh6, e⟩ := gv_bind e
    refine gv_last (pc' := 8) rfl qh6 rfl ?_
    refine gv_goto (pc' := 14) rfl rfl ?_
    refine gv_ic (pc' := 15) (x := 0) rfl rfl rfl ?_
    cases e
    exact gv_retI rfl rfl
end
section
/-! by program: the law, from its loop on -/
def lw_law_1005 (xs : List Int32) (rec23 : Option Nat → Option Nat → Option Nat → Int32 → gx_H → Option (Int32 × gx_H)) (l1 : Option Nat) (l2 : Option Nat) (l3 : Option Nat) (l4 : Int32) (h : gx_H) : Option (Int32 × gx_H) :=
  rec23 l1 l2 l3 (l4 + 6) h
theorem lw_law_1005_ok {xs : List Int32} {rec23 : Option Nat → Option Nat → Option Nat → Int32 → gx_H → Option (Int32 × gx_H)} (hrec23 : ∀ (l1 : Option Nat) (l2 : Option Nat) (l3 : Option Nat) (l4 : Int32) (h : gx_H) (r : (Int32 × gx_H)), rec23 l1 l2 l3 l4 h = some r → gv_V (some xs) 116 195 23 [(0, .float 0), (1, gv_u l1), (2, gv_u l2), (3, gv_u l3), (4, .int l4)] [] h (.returned (some (.int r.1))) r.2) {l1 : Option Nat} {l2 : Option Nat} {l3 : Option Nat} {l4 : Int32} {h : gx_H} {r : (Int32 × gx_H)} (e : lw_law_1005 xs rec23 l1 l2 l3 l4 h = some r) : gv_V (some xs) 116 195 1005 [(0, .float 0), (1, gv_u l1), (2, gv_u l2), (3, gv_u l3), (4, .int l4)] [] h (.returned (some (.int r.1))) r.2 := by
  unfold lw_law_1005 at e
  refine gv_inc (pc' := 1008) (y := 6) rfl rfl rfl rfl (gv_Cr rfl) rfl ?_
  refine gv_goto (pc' := 23) rfl rfl ?_
  exact gv_weak (hrec23 _ _ _ _ _ _ e) (gv_S1 rfl (gv_S1 rfl (gv_S1 rfl (gv_S1 rfl (gv_S1 rfl gv_S0)))))
def lw_law_23 (xs : List Int32) : Nat → Option Nat → Option Nat → Option Nat → Int32 → gx_H → Option (Int32 × gx_H)
  | 0, _, _, _, _, _ => none
  | n + 1, l1, l2, l3, l4, h =>
    if (xs.length.toInt32 - (6 : Int32)) < l4 then (
      some ((1 : Int32), h)) else
    if l4 < 0 then none else
    (xs[Int32.toNatClampNeg l4]?).bind fun v2 =>
    if (v2 &&& (31 : Int32)) = (0 : Int32) then (
      if (l4 + (1 : Int32)) < 0 then none else
      (xs[Int32.toNatClampNeg (l4 + (1 : Int32))]?).bind fun v5 =>
      (lw_make l1 v5 l3 h).bind fun r9 =>
      if (l4 + (1 : Int32)) < 0 then none else
      (xs[Int32.toNatClampNeg (l4 + (1 : Int32))]?).bind fun v10 =>
      (gv_is r9.2 l2 7).bind fun i12 =>
      (mM_make l2 v10 r9.2).bind fun r15 =>
      lw_law_1005 xs (lw_law_23 xs n) l1 l2 l3 l4 r15.2) else
    if (v2 &&& (31 : Int32)) = (1 : Int32) then (
      if (l4 + (1 : Int32)) < 0 then none else
      (xs[Int32.toNatClampNeg (l4 + (1 : Int32))]?).bind fun v17 =>
      if (l4 + (2 : Int32)) < 0 then none else
      (xs[Int32.toNatClampNeg (l4 + (2 : Int32))]?).bind fun v19 =>
      if (l4 + (3 : Int32)) < 0 then none else
      (xs[Int32.toNatClampNeg (l4 + (3 : Int32))]?).bind fun v21 =>
      (lw_buffer l1 (((Int32.toInt64 v17) <<< (Int32.toInt64 (32 : Int32) &&& 63)) ||| ((Int32.toInt64 v19) &&& (4294967295 : Int64))) v21 l3 h).bind fun r25 =>
      if (l4 + (1 : Int32)) < 0 then none else
      (xs[Int32.toNatClampNeg (l4 + (1 : Int32))]?).bind fun v26 =>
      if (l4 + (2 : Int32)) < 0 then none else
      (xs[Int32.toNatClampNeg (l4 + (2 : Int32))]?).bind fun v28 =>
      if (l4 + (3 : Int32)) < 0 then none else
      (xs[Int32.toNatClampNeg (l4 + (3 : Int32))]?).bind fun v30 =>
      (gv_is r25.2 l2 7).bind fun i32 =>
      (mM_buffer l2 (((Int32.toInt64 v26) <<< (Int32.toInt64 (32 : Int32) &&& 63)) ||| ((Int32.toInt64 v28) &&& (4294967295 : Int64))) v30 r25.2).bind fun r35 =>
      lw_law_1005 xs (lw_law_23 xs n) l1 l2 l3 l4 r35.2) else
    if (v2 &&& (31 : Int32)) = (2 : Int32) then (
      if (l4 + (1 : Int32)) < 0 then none else
      (xs[Int32.toNatClampNeg (l4 + (1 : Int32))]?).bind fun v37 =>
      if (l4 + (2 : Int32)) < 0 then none else
      (xs[Int32.toNatClampNeg (l4 + (2 : Int32))]?).bind fun v39 =>
      if (l4 + (3 : Int32)) < 0 then none else
      (xs[Int32.toNatClampNeg (l4 + (3 : Int32))]?).bind fun v41 =>
      if (l4 + (4 : Int32)) < 0 then none else
      (xs[Int32.toNatClampNeg (l4 + (4 : Int32))]?).bind fun v43 =>
      (lw_view l1 v37 v39 v41 v43 l3 h).bind fun r47 =>
      if (l4 + (1 : Int32)) < 0 then none else
      (xs[Int32.toNatClampNeg (l4 + (1 : Int32))]?).bind fun v48 =>
      if (l4 + (2 : Int32)) < 0 then none else
      (xs[Int32.toNatClampNeg (l4 + (2 : Int32))]?).bind fun v50 =>
      if (l4 + (3 : Int32)) < 0 then none else
      (xs[Int32.toNatClampNeg (l4 + (3 : Int32))]?).bind fun v52 =>
      if (l4 + (4 : Int32)) < 0 then none else
      (xs[Int32.toNatClampNeg (l4 + (4 : Int32))]?).bind fun v54 =>
      (gv_is r47.2 l2 7).bind fun i56 =>
      (mM_view l2 v48 v50 v52 v54 r47.2).bind fun r59 =>
      lw_law_1005 xs (lw_law_23 xs n) l1 l2 l3 l4 r59.2) else
    if (v2 &&& (31 : Int32)) = (3 : Int32) then (
      if (l4 + (1 : Int32)) < 0 then none else
      (xs[Int32.toNatClampNeg (l4 + (1 : Int32))]?).bind fun v61 =>
      if (l4 + (2 : Int32)) < 0 then none else
      (xs[Int32.toNatClampNeg (l4 + (2 : Int32))]?).bind fun v63 =>
      (lw_stamp l1 (((Int32.toInt64 v61) <<< (Int32.toInt64 (32 : Int32) &&& 63)) ||| ((Int32.toInt64 v63) &&& (4294967295 : Int64))) l3 h).bind fun r67 =>
      if (l4 + (1 : Int32)) < 0 then none else
      (xs[Int32.toNatClampNeg (l4 + (1 : Int32))]?).bind fun v68 =>
      if (l4 + (2 : Int32)) < 0 then none else
      (xs[Int32.toNatClampNeg (l4 + (2 : Int32))]?).bind fun v70 =>
      (gv_is r67.2 l2 7).bind fun i72 =>
      (mM_stamp l2 (((Int32.toInt64 v68) <<< (Int32.toInt64 (32 : Int32) &&& 63)) ||| ((Int32.toInt64 v70) &&& (4294967295 : Int64))) r67.2).bind fun r75 =>
      lw_law_1005 xs (lw_law_23 xs n) l1 l2 l3 l4 r75.2) else
    if (v2 &&& (31 : Int32)) = (4 : Int32) then (
      if (l4 + (1 : Int32)) < 0 then none else
      (xs[Int32.toNatClampNeg (l4 + (1 : Int32))]?).bind fun v77 =>
      if (l4 + (2 : Int32)) < 0 then none else
      (xs[Int32.toNatClampNeg (l4 + (2 : Int32))]?).bind fun v79 =>
      if (l4 + (3 : Int32)) < 0 then none else
      (xs[Int32.toNatClampNeg (l4 + (3 : Int32))]?).bind fun v81 =>
      if (l4 + (4 : Int32)) < 0 then none else
      (xs[Int32.toNatClampNeg (l4 + (4 : Int32))]?).bind fun v83 =>
      (lw_put l1 v77 v79 v81 v83 h).bind fun r87 =>
      if (l4 + (1 : Int32)) < 0 then none else
      (xs[Int32.toNatClampNeg (l4 + (1 : Int32))]?).bind fun v88 =>
      if (l4 + (2 : Int32)) < 0 then none else
      (xs[Int32.toNatClampNeg (l4 + (2 : Int32))]?).bind fun v90 =>
      if (l4 + (3 : Int32)) < 0 then none else
      (xs[Int32.toNatClampNeg (l4 + (3 : Int32))]?).bind fun v92 =>
      if (l4 + (4 : Int32)) < 0 then none else
      (xs[Int32.toNatClampNeg (l4 + (4 : Int32))]?).bind fun v94 =>
      (gv_is r87.2 l2 7).bind fun i96 =>
      (mM_put l2 v88 v90 v92 v94 r87.2).bind fun h98 =>
      lw_law_1005 xs (lw_law_23 xs n) l1 l2 l3 l4 h98) else
    if (v2 &&& (31 : Int32)) = (5 : Int32) then (
      if (l4 + (1 : Int32)) < 0 then none else
      (xs[Int32.toNatClampNeg (l4 + (1 : Int32))]?).bind fun v100 =>
      if (l4 + (2 : Int32)) < 0 then none else
      (xs[Int32.toNatClampNeg (l4 + (2 : Int32))]?).bind fun v102 =>
      (lw_take l1 v100 v102 l3 h).bind fun r106 =>
      if (l4 + (1 : Int32)) < 0 then none else
      (xs[Int32.toNatClampNeg (l4 + (1 : Int32))]?).bind fun v107 =>
      if (l4 + (2 : Int32)) < 0 then none else
      (xs[Int32.toNatClampNeg (l4 + (2 : Int32))]?).bind fun v109 =>
      (gv_is r106.2 l2 7).bind fun i111 =>
      (mM_take l2 v107 v109 r106.2).bind fun r114 =>
      lw_law_1005 xs (lw_law_23 xs n) l1 l2 l3 l4 r114.2) else
    if (v2 &&& (31 : Int32)) = (6 : Int32) then (
      if (l4 + (1 : Int32)) < 0 then none else
      (xs[Int32.toNatClampNeg (l4 + (1 : Int32))]?).bind fun v116 =>
      if (l4 + (2 : Int32)) < 0 then none else
      (xs[Int32.toNatClampNeg (l4 + (2 : Int32))]?).bind fun v118 =>
      if (l4 + (3 : Int32)) < 0 then none else
      (xs[Int32.toNatClampNeg (l4 + (3 : Int32))]?).bind fun v120 =>
      if (l4 + (4 : Int32)) < 0 then none else
      (xs[Int32.toNatClampNeg (l4 + (4 : Int32))]?).bind fun v122 =>
      if (l4 + (5 : Int32)) < 0 then none else
      (xs[Int32.toNatClampNeg (l4 + (5 : Int32))]?).bind fun v124 =>
      (lw_entry l1 v116 v118 v120 v122 v124 h).bind fun r128 =>
      if (l4 + (1 : Int32)) < 0 then none else
      (xs[Int32.toNatClampNeg (l4 + (1 : Int32))]?).bind fun v129 =>
      if (l4 + (2 : Int32)) < 0 then none else
      (xs[Int32.toNatClampNeg (l4 + (2 : Int32))]?).bind fun v131 =>
      if (l4 + (3 : Int32)) < 0 then none else
      (xs[Int32.toNatClampNeg (l4 + (3 : Int32))]?).bind fun v133 =>
      if (l4 + (4 : Int32)) < 0 then none else
      (xs[Int32.toNatClampNeg (l4 + (4 : Int32))]?).bind fun v135 =>
      if (l4 + (5 : Int32)) < 0 then none else
      (xs[Int32.toNatClampNeg (l4 + (5 : Int32))]?).bind fun v137 =>
      (gv_is r128.2 l2 7).bind fun i139 =>
      (mM_entry l2 v129 v131 v133 v135 v137 r128.2).bind fun h141 =>
      lw_law_1005 xs (lw_law_23 xs n) l1 l2 l3 l4 h141) else
    if (v2 &&& (31 : Int32)) = (7 : Int32) then (
      if (l4 + (1 : Int32)) < 0 then none else
      (xs[Int32.toNatClampNeg (l4 + (1 : Int32))]?).bind fun v143 =>
      if (l4 + (2 : Int32)) < 0 then none else
      (xs[Int32.toNatClampNeg (l4 + (2 : Int32))]?).bind fun v145 =>
      if (l4 + (3 : Int32)) < 0 then none else
      (xs[Int32.toNatClampNeg (l4 + (3 : Int32))]?).bind fun v147 =>
      (lw_add l1 v143 v145 v147 l3 h).bind fun r151 =>
      if (l4 + (1 : Int32)) < 0 then none else
      (xs[Int32.toNatClampNeg (l4 + (1 : Int32))]?).bind fun v152 =>
      if (l4 + (2 : Int32)) < 0 then none else
      (xs[Int32.toNatClampNeg (l4 + (2 : Int32))]?).bind fun v154 =>
      if (l4 + (3 : Int32)) < 0 then none else
      (xs[Int32.toNatClampNeg (l4 + (3 : Int32))]?).bind fun v156 =>
      (gv_is r151.2 l2 7).bind fun i158 =>
      (mM_add l2 v152 v154 v156 r151.2).bind fun r161 =>
      lw_law_1005 xs (lw_law_23 xs n) l1 l2 l3 l4 r161.2) else
    if (v2 &&& (31 : Int32)) = (8 : Int32) then (
      if (l4 + (1 : Int32)) < 0 then none else
      (xs[Int32.toNatClampNeg (l4 + (1 : Int32))]?).bind fun v163 =>
      (gv_is h l1 0).bind fun i165 =>
      (cG_detach l1 v163 h).bind fun r168 =>
      if (l4 + (1 : Int32)) < 0 then none else
      (xs[Int32.toNatClampNeg (l4 + (1 : Int32))]?).bind fun v169 =>
      (gv_is r168.2 l2 7).bind fun i171 =>
      (mM_detach l2 v169 r168.2).bind fun r174 =>
      lw_law_1005 xs (lw_law_23 xs n) l1 l2 l3 l4 r174.2) else
    if (v2 &&& (31 : Int32)) = (9 : Int32) then (
      (gv_is h l1 0).bind fun i176 =>
      (cG_clear l1 h).bind fun r179 =>
      (gv_is r179.2 l2 7).bind fun i180 =>
      (mM_clear l2 r179.2).bind fun r183 =>
      lw_law_1005 xs (lw_law_23 xs n) l1 l2 l3 l4 r183.2) else
    if (v2 &&& (31 : Int32)) = (10 : Int32) then (
      (gv_is h l1 0).bind fun i185 =>
      (cG_objects l1 h).bind fun v186 =>
      (gv_is h l2 7).bind fun i187 =>
      (mM_objects l2 h).bind fun r190 =>
      lw_law_1005 xs (lw_law_23 xs n) l1 l2 l3 l4 r190.2) else
    if (v2 &&& (31 : Int32)) = (11 : Int32) then (
      if (l4 + (1 : Int32)) < 0 then none else
      (xs[Int32.toNatClampNeg (l4 + (1 : Int32))]?).bind fun v192 =>
      (gv_is h l1 0).bind fun i194 =>
      (cG_type l1 v192 h).bind fun v195 =>
      if (l4 + (1 : Int32)) < 0 then none else
      (xs[Int32.toNatClampNeg (l4 + (1 : Int32))]?).bind fun v196 =>
      (gv_is h l2 7).bind fun i198 =>
      (mM_type l2 v196 h).bind fun r201 =>
      lw_law_1005 xs (lw_law_23 xs n) l1 l2 l3 l4 r201.2) else
    if (v2 &&& (31 : Int32)) = (12 : Int32) then (
      if (l4 + (1 : Int32)) < 0 then none else
      (xs[Int32.toNatClampNeg (l4 + (1 : Int32))]?).bind fun v203 =>
      (gv_is h l1 0).bind fun i205 =>
      (cG_size l1 v203 h).bind fun v206 =>
      if (l4 + (1 : Int32)) < 0 then none else
      (xs[Int32.toNatClampNeg (l4 + (1 : Int32))]?).bind fun v207 =>
      (gv_is h l2 7).bind fun i209 =>
      (mM_size l2 v207 h).bind fun r212 =>
      lw_law_1005 xs (lw_law_23 xs n) l1 l2 l3 l4 r212.2) else
    if (v2 &&& (31 : Int32)) = (13 : Int32) then (
      if (l4 + (1 : Int32)) < 0 then none else
      (xs[Int32.toNatClampNeg (l4 + (1 : Int32))]?).bind fun v214 =>
      if (l4 + (2 : Int32)) < 0 then none else
      (xs[Int32.toNatClampNeg (l4 + (2 : Int32))]?).bind fun v216 =>
      if (l4 + (3 : Int32)) < 0 then none else
      (xs[Int32.toNatClampNeg (l4 + (3 : Int32))]?).bind fun v218 =>
      (lw_get l1 v214 v216 v218 l3 h).bind fun r222 =>
      if (l4 + (1 : Int32)) < 0 then none else
      (xs[Int32.toNatClampNeg (l4 + (1 : Int32))]?).bind fun v223 =>
      if (l4 + (2 : Int32)) < 0 then none else
      (xs[Int32.toNatClampNeg (l4 + (2 : Int32))]?).bind fun v225 =>
      if (l4 + (3 : Int32)) < 0 then none else
      (xs[Int32.toNatClampNeg (l4 + (3 : Int32))]?).bind fun v227 =>
      (gv_is r222.2 l2 7).bind fun i229 =>
      (mM_get l2 v223 v225 v227 r222.2).bind fun r232 =>
      lw_law_1005 xs (lw_law_23 xs n) l1 l2 l3 l4 r232.2) else
    if (v2 &&& (31 : Int32)) = (14 : Int32) then (
      if (l4 + (1 : Int32)) < 0 then none else
      (xs[Int32.toNatClampNeg (l4 + (1 : Int32))]?).bind fun v234 =>
      (lw_pass l1 v234 l3 h).bind fun r238 =>
      if (l4 + (1 : Int32)) < 0 then none else
      (xs[Int32.toNatClampNeg (l4 + (1 : Int32))]?).bind fun v239 =>
      (gv_is r238.2 l2 7).bind fun i241 =>
      (mM_pass l2 v239 r238.2).bind fun r244 =>
      lw_law_1005 xs (lw_law_23 xs n) l1 l2 l3 l4 r244.2) else
    if (v2 &&& (31 : Int32)) = (15 : Int32) then (
      (gv_is h l1 0).bind fun i246 =>
      (cG_holders l1 h).bind fun v247 =>
      (gv_is h l2 7).bind fun i248 =>
      (mM_holders l2 h).bind fun r251 =>
      lw_law_1005 xs (lw_law_23 xs n) l1 l2 l3 l4 r251.2) else
    if (v2 &&& (31 : Int32)) = (16 : Int32) then (
      if (l4 + (1 : Int32)) < 0 then none else
      (xs[Int32.toNatClampNeg (l4 + (1 : Int32))]?).bind fun v253 =>
      if (l4 + (2 : Int32)) < 0 then none else
      (xs[Int32.toNatClampNeg (l4 + (2 : Int32))]?).bind fun v255 =>
      (lw_write l1 v253 v255 l3 h).bind fun r259 =>
      if (l4 + (1 : Int32)) < 0 then none else
      (xs[Int32.toNatClampNeg (l4 + (1 : Int32))]?).bind fun v260 =>
      if (l4 + (2 : Int32)) < 0 then none else
      (xs[Int32.toNatClampNeg (l4 + (2 : Int32))]?).bind fun v262 =>
      (gv_is r259.2 l2 7).bind fun i264 =>
      (mM_write l2 v260 v262 r259.2).bind fun r267 =>
      lw_law_1005 xs (lw_law_23 xs n) l1 l2 l3 l4 r267.2) else
    if (v2 &&& (31 : Int32)) = (17 : Int32) then (
      (lw_read l1 l3 h).bind fun r271 =>
      (gv_is r271.2 l2 7).bind fun i272 =>
      (mM_read l2 r271.2).bind fun r275 =>
      lw_law_1005 xs (lw_law_23 xs n) l1 l2 l3 l4 r275.2) else
    if (v2 &&& (31 : Int32)) = (18 : Int32) then (
      (gv_is h l1 0).bind fun i277 =>
      (cG_found l1 h).bind fun v278 =>
      (gv_is h l2 7).bind fun i279 =>
      (mM_found l2 h).bind fun r282 =>
      lw_law_1005 xs (lw_law_23 xs n) l1 l2 l3 l4 r282.2) else
    if (v2 &&& (31 : Int32)) = (19 : Int32) then (
      if (l4 + (1 : Int32)) < 0 then none else
      (xs[Int32.toNatClampNeg (l4 + (1 : Int32))]?).bind fun v284 =>
      if (l4 + (2 : Int32)) < 0 then none else
      (xs[Int32.toNatClampNeg (l4 + (2 : Int32))]?).bind fun v286 =>
      if (l4 + (3 : Int32)) < 0 then none else
      (xs[Int32.toNatClampNeg (l4 + (3 : Int32))]?).bind fun v288 =>
      (gv_is h l1 0).bind fun i290 =>
      (cG_feed l1 (((Int32.toInt64 v284) <<< (Int32.toInt64 (32 : Int32) &&& 63)) ||| ((Int32.toInt64 v286) &&& (4294967295 : Int64))) v288 h).bind fun r293 =>
      if (l4 + (1 : Int32)) < 0 then none else
      (xs[Int32.toNatClampNeg (l4 + (1 : Int32))]?).bind fun v294 =>
      if (l4 + (2 : Int32)) < 0 then none else
      (xs[Int32.toNatClampNeg (l4 + (2 : Int32))]?).bind fun v296 =>
      if (l4 + (3 : Int32)) < 0 then none else
      (xs[Int32.toNatClampNeg (l4 + (3 : Int32))]?).bind fun v298 =>
      (gv_is r293.2 l2 7).bind fun i300 =>
      (mM_feed l2 (((Int32.toInt64 v294) <<< (Int32.toInt64 (32 : Int32) &&& 63)) ||| ((Int32.toInt64 v296) &&& (4294967295 : Int64))) v298 r293.2).bind fun r303 =>
      lw_law_1005 xs (lw_law_23 xs n) l1 l2 l3 l4 r303.2) else
    if (v2 &&& (31 : Int32)) = (20 : Int32) then (
      (gv_is h l1 0).bind fun i305 =>
      (cG_wipe l1 h).bind fun r308 =>
      (gv_is r308.2 l2 7).bind fun i309 =>
      (mM_wipe l2 r308.2).bind fun r312 =>
      lw_law_1005 xs (lw_law_23 xs n) l1 l2 l3 l4 r312.2) else
    if (v2 &&& (31 : Int32)) = (21 : Int32) then (
      if (l4 + (1 : Int32)) < 0 then none else
      (xs[Int32.toNatClampNeg (l4 + (1 : Int32))]?).bind fun v314 =>
      if (l4 + (2 : Int32)) < 0 then none else
      (xs[Int32.toNatClampNeg (l4 + (2 : Int32))]?).bind fun v316 =>
      (gv_is h l1 0).bind fun i318 =>
      (cG_spoil l1 v314 v316 h).bind fun r321 =>
      if (l4 + (1 : Int32)) < 0 then none else
      (xs[Int32.toNatClampNeg (l4 + (1 : Int32))]?).bind fun v322 =>
      if (l4 + (2 : Int32)) < 0 then none else
      (xs[Int32.toNatClampNeg (l4 + (2 : Int32))]?).bind fun v324 =>
      (gv_is r321.2 l2 7).bind fun i326 =>
      (mM_spoil l2 v322 v324 r321.2).bind fun r329 =>
      lw_law_1005 xs (lw_law_23 xs n) l1 l2 l3 l4 r329.2) else
    if (v2 &&& (31 : Int32)) = (22 : Int32) then (
      if (l4 + (1 : Int32)) < 0 then none else
      (xs[Int32.toNatClampNeg (l4 + (1 : Int32))]?).bind fun v331 =>
      (gv_is h l1 0).bind fun i333 =>
      (cG_byteAt l1 v331 h).bind fun v334 =>
      if (l4 + (1 : Int32)) < 0 then none else
      (xs[Int32.toNatClampNeg (l4 + (1 : Int32))]?).bind fun v335 =>
      (gv_is h l2 7).bind fun i337 =>
      (mM_byteAt l2 v335 h).bind fun r340 =>
      if v334 = r340.1 then (
        lw_law_1005 xs (lw_law_23 xs n) l1 l2 l3 l4 r340.2) else
      some ((0 : Int32), r340.2)) else
    lw_law_1005 xs (lw_law_23 xs n) l1 l2 l3 l4 h
theorem lw_law_23_ok {xs : List Int32} : ∀ (n : Nat) (l1 : Option Nat) (l2 : Option Nat) (l3 : Option Nat) (l4 : Int32) (h : gx_H) (r : (Int32 × gx_H)), lw_law_23 xs n l1 l2 l3 l4 h = some r → gv_V (some xs) 116 195 23 [(0, .float 0), (1, gv_u l1), (2, gv_u l2), (3, gv_u l3), (4, .int l4)] [] h (.returned (some (.int r.1))) r.2 := by
  intro n
  induction n with
  | zero => intro l1 l2 l3 l4 h r e; cases e
  | succ n ih =>
    intro l1 l2 l3 l4 h r e
    rw [lw_law_23] at e
    refine gv_ild (pc' := 25) rfl rfl rfl ?_
    refine gv_xld (pc' := 26) rfl rfl rfl ?_
    refine gv_xlen (pc' := 27) rfl rfl rfl ?_
    refine gv_bp (pc' := 29) (x := 6) rfl rfl rfl ?_
    refine gv_isub (pc' := 30) rfl rfl ?_
    by_cases c1 : (xs.length.toInt32 - (6 : Int32)) < l4
    · rw [if_pos c1] at e
      refine gv_cmT (pc' := 1011) rfl (gv_gtT2 c1) rfl ?_
      refine gv_ic (pc' := 1012) (x := 1) rfl rfl rfl ?_
      cases e
      exact gv_retZ rfl rfl (by decide)
    rw [if_neg c1] at e
    refine gv_cmF (pc' := 33) rfl (gv_gtF2 c1) rfl rfl ?_
    refine gv_xld (pc' := 34) rfl rfl rfl ?_
    refine gv_ild (pc' := 36) rfl rfl rfl ?_
    by_cases c3 : l4 < 0
    · rw [if_pos c3] at e; cases e
    rw [if_neg c3] at e
    obtain ⟨v2, qv2, e⟩ := gv_bind e
    refine gv_xal (pc' := 37) rfl rfl c3 qv2 rfl ?_
    refine gv_bp (pc' := 39) (x := 31) rfl rfl rfl ?_
    refine gv_iand (pc' := 40) rfl rfl ?_
    by_cases c4 : (v2 &&& (31 : Int32)) = (0 : Int32)
    · rw [if_pos c4] at e
      refine gv_sw (pc' := 148) (off := 108) rfl (by rw [c4]; rfl) rfl ?_
      refine gv_rldn (pc' := 149) rfl rfl rfl ?_
      refine gv_xld (pc' := 150) rfl rfl rfl ?_
      refine gv_ild (pc' := 152) rfl rfl rfl ?_
      refine gv_ic (pc' := 153) (x := 1) rfl rfl rfl ?_
      refine gv_iadd (pc' := 154) rfl rfl ?_
      by_cases c6 : (l4 + (1 : Int32)) < 0
      · rw [if_pos c6] at e; cases e
      rw [if_neg c6] at e
      obtain ⟨v5, qv5, e⟩ := gv_bind e
      refine gv_xal (pc' := 155) rfl rfl c6 qv5 rfl ?_
      refine gv_rldn (pc' := 156) rfl rfl rfl ?_
      obtain ⟨⟨v7, h8⟩, qv7, e⟩ := gv_bind e
      refine gv_sS (jc := 23) (n := 3) (rest := []) (stk := [.int v7]) (pc' := 159) rfl rfl rfl rfl rfl rfl rfl rfl rfl (gv_zR (gv_zI (gv_zR gv_z0))) rfl (gv_aR (gv_aI (gv_aR gv_a0))) (Nat.le_of_ble_eq_true rfl) (lw_make_ok qv7) rfl rfl ?_
      refine gv_ist (pc' := 161) rfl rfl (gv_Ci rfl) rfl ?_
      refine gv_rldn (pc' := 162) rfl rfl rfl ?_
      refine gv_xld (pc' := 163) rfl rfl rfl ?_
      refine gv_ild (pc' := 165) rfl rfl rfl ?_
      refine gv_ic (pc' := 166) (x := 1) rfl rfl rfl ?_
      refine gv_iadd (pc' := 167) rfl rfl ?_
      by_cases c11 : (l4 + (1 : Int32)) < 0
      · rw [if_pos c11] at e; cases e
      rw [if_neg c11] at e
      obtain ⟨v10, qv10, e⟩ := gv_bind e
      refine gv_xal (pc' := 168) rfl rfl c11 qv10 rfl ?_
      obtain ⟨i12, qi12, e⟩ := gv_bind e
      obtain ⟨⟨v13, h14⟩, qv13, e⟩ := gv_bind e
      refine gv_vS (jc := 120) (n := 1) (rest := []) (stk := [.int v13]) (pc' := 171) rfl rfl rfl rfl rfl rfl rfl rfl rfl (gv_zR (gv_zI gv_z0)) rfl (gv_aR (gv_aI gv_a0)) (Nat.le_of_ble_eq_true rfl) qi12 (mM_make_ok qv13) rfl rfl ?_
      refine gv_ist (pc' := 173) rfl rfl (gv_Ci rfl) rfl ?_
      refine gv_goto (pc' := 1005) rfl rfl ?_
      exact gv_weak (lw_law_1005_ok ih e) (gv_S1 rfl (gv_S1 rfl (gv_S1 rfl (gv_S1 rfl (gv_S1 rfl gv_S0)))))
    rw [if_neg c4] at e
    by_cases c16 : (v2 &&& (31 : Int32)) = (1 : Int32)
    · rw [if_pos c16] at e
      refine gv_sw (pc' := 176) (off := 136) rfl (by rw [c16]; rfl) rfl ?_
      refine gv_rldn (pc' := 177) rfl rfl rfl ?_
      refine gv_xld (pc' := 178) rfl rfl rfl ?_
      refine gv_ild (pc' := 180) rfl rfl rfl ?_
      refine gv_ic (pc' := 181) (x := 1) rfl rfl rfl ?_
      refine gv_iadd (pc' := 182) rfl rfl ?_
      by_cases c18 : (l4 + (1 : Int32)) < 0
      · rw [if_pos c18] at e; cases e
      rw [if_neg c18] at e
      obtain ⟨v17, qv17, e⟩ := gv_bind e
      refine gv_xal (pc' := 183) rfl rfl c18 qv17 rfl ?_
      refine gv_i2l (pc' := 184) rfl rfl ?_
      refine gv_bp (pc' := 186) (x := 32) rfl rfl rfl ?_
      refine gv_lshl (pc' := 187) rfl rfl ?_
      refine gv_xld (pc' := 188) rfl rfl rfl ?_
      refine gv_ild (pc' := 190) rfl rfl rfl ?_
      refine gv_ic (pc' := 191) (x := 2) rfl rfl rfl ?_
      refine gv_iadd (pc' := 192) rfl rfl ?_
      by_cases c20 : (l4 + (2 : Int32)) < 0
      · rw [if_pos c20] at e; cases e
      rw [if_neg c20] at e
      obtain ⟨v19, qv19, e⟩ := gv_bind e
      refine gv_xal (pc' := 193) rfl rfl c20 qv19 rfl ?_
      refine gv_i2l (pc' := 194) rfl rfl ?_
      refine gv_ld (pc' := 197) (x := 4294967295) rfl rfl rfl ?_
      refine gv_land (pc' := 198) rfl rfl ?_
      refine gv_lor (pc' := 199) rfl rfl ?_
      refine gv_xld (pc' := 200) rfl rfl rfl ?_
      refine gv_ild (pc' := 202) rfl rfl rfl ?_
      refine gv_ic (pc' := 203) (x := 3) rfl rfl rfl ?_
      refine gv_iadd (pc' := 204) rfl rfl ?_
      by_cases c22 : (l4 + (3 : Int32)) < 0
      · rw [if_pos c22] at e; cases e
      rw [if_neg c22] at e
      obtain ⟨v21, qv21, e⟩ := gv_bind e
      refine gv_xal (pc' := 205) rfl rfl c22 qv21 rfl ?_
      refine gv_rldn (pc' := 206) rfl rfl rfl ?_
      obtain ⟨⟨v23, h24⟩, qv23, e⟩ := gv_bind e
      refine gv_sS (jc := 28) (n := 4) (rest := []) (stk := [.int v23]) (pc' := 209) rfl rfl rfl rfl rfl rfl rfl rfl rfl (gv_zR (gv_zJ (gv_zI (gv_zR gv_z0)))) rfl (gv_aR (gv_aJ (gv_aI (gv_aR gv_a0)))) (Nat.le_of_ble_eq_true rfl) (lw_buffer_ok qv23) rfl rfl ?_
      refine gv_ist (pc' := 211) rfl rfl (gv_Ci rfl) rfl ?_
      refine gv_rldn (pc' := 212) rfl rfl rfl ?_
      refine gv_xld (pc' := 213) rfl rfl rfl ?_
      refine gv_ild (pc' := 215) rfl rfl rfl ?_
      refine gv_ic (pc' := 216) (x := 1) rfl rfl rfl ?_
      refine gv_iadd (pc' := 217) rfl rfl ?_
      by_cases c27 : (l4 + (1 : Int32)) < 0
      · rw [if_pos c27] at e; cases e
      rw [if_neg c27] at e
      obtain ⟨v26, qv26, e⟩ := gv_bind e
      refine gv_xal (pc' := 218) rfl rfl c27 qv26 rfl ?_
      refine gv_i2l (pc' := 219) rfl rfl ?_
      refine gv_bp (pc' := 221) (x := 32) rfl rfl rfl ?_
      refine gv_lshl (pc' := 222) rfl rfl ?_
      refine gv_xld (pc' := 223) rfl rfl rfl ?_
      refine gv_ild (pc' := 225) rfl rfl rfl ?_
      refine gv_ic (pc' := 226) (x := 2) rfl rfl rfl ?_
      refine gv_iadd (pc' := 227) rfl rfl ?_
      by_cases c29 : (l4 + (2 : Int32)) < 0
      · rw [if_pos c29] at e; cases e
      rw [if_neg c29] at e
      obtain ⟨v28, qv28, e⟩ := gv_bind e
      refine gv_xal (pc' := 228) rfl rfl c29 qv28 rfl ?_
      refine gv_i2l (pc' := 229) rfl rfl ?_
      refine gv_ld (pc' := 232) (x := 4294967295) rfl rfl rfl ?_
      refine gv_land (pc' := 233) rfl rfl ?_
      refine gv_lor (pc' := 234) rfl rfl ?_
      refine gv_xld (pc' := 235) rfl rfl rfl ?_
      refine gv_ild (pc' := 237) rfl rfl rfl ?_
      refine gv_ic (pc' := 238) (x := 3) rfl rfl rfl ?_
      refine gv_iadd (pc' := 239) rfl rfl ?_
      by_cases c31 : (l4 + (3 : Int32)) < 0
      · rw [if_pos c31] at e; cases e
      rw [if_neg c31] at e
      obtain ⟨v30, qv30, e⟩ := gv_bind e
      refine gv_xal (pc' := 240) rfl rfl c31 qv30 rfl ?_
      obtain ⟨i32, qi32, e⟩ := gv_bind e
      obtain ⟨⟨v33, h34⟩, qv33, e⟩ := gv_bind e
      refine gv_vS (jc := 124) (n := 2) (rest := []) (stk := [.int v33]) (pc' := 243) rfl rfl rfl rfl rfl rfl rfl rfl rfl (gv_zR (gv_zJ (gv_zI gv_z0))) rfl (gv_aR (gv_aJ (gv_aI gv_a0))) (Nat.le_of_ble_eq_true rfl) qi32 (mM_buffer_ok qv33) rfl rfl ?_
      refine gv_ist (pc' := 245) rfl rfl (gv_Ci rfl) rfl ?_
      refine gv_goto (pc' := 1005) rfl rfl ?_
      exact gv_weak (lw_law_1005_ok ih e) (gv_S1 rfl (gv_S1 rfl (gv_S1 rfl (gv_S1 rfl (gv_S1 rfl gv_S0)))))
    rw [if_neg c16] at e
    by_cases c36 : (v2 &&& (31 : Int32)) = (2 : Int32)
    · rw [if_pos c36] at e
      refine gv_sw (pc' := 248) (off := 208) rfl (by rw [c36]; rfl) rfl ?_
      refine gv_rldn (pc' := 249) rfl rfl rfl ?_
      refine gv_xld (pc' := 250) rfl rfl rfl ?_
      refine gv_ild (pc' := 252) rfl rfl rfl ?_
      refine gv_ic (pc' := 253) (x := 1) rfl rfl rfl ?_
      refine gv_iadd (pc' := 254) rfl rfl ?_
      by_cases c38 : (l4 + (1 : Int32)) < 0
      · rw [if_pos c38] at e; cases e
      rw [if_neg c38] at e
      obtain ⟨v37, qv37, e⟩ := gv_bind e
      refine gv_xal (pc' := 255) rfl rfl c38 qv37 rfl ?_
      refine gv_xld (pc' := 256) rfl rfl rfl ?_
      refine gv_ild (pc' := 258) rfl rfl rfl ?_
      refine gv_ic (pc' := 259) (x := 2) rfl rfl rfl ?_
      refine gv_iadd (pc' := 260) rfl rfl ?_
      by_cases c40 : (l4 + (2 : Int32)) < 0
      · rw [if_pos c40] at e; cases e
      rw [if_neg c40] at e
      obtain ⟨v39, qv39, e⟩ := gv_bind e
      refine gv_xal (pc' := 261) rfl rfl c40 qv39 rfl ?_
      refine gv_xld (pc' := 262) rfl rfl rfl ?_
      refine gv_ild (pc' := 264) rfl rfl rfl ?_
      refine gv_ic (pc' := 265) (x := 3) rfl rfl rfl ?_
      refine gv_iadd (pc' := 266) rfl rfl ?_
      by_cases c42 : (l4 + (3 : Int32)) < 0
      · rw [if_pos c42] at e; cases e
      rw [if_neg c42] at e
      obtain ⟨v41, qv41, e⟩ := gv_bind e
      refine gv_xal (pc' := 267) rfl rfl c42 qv41 rfl ?_
      refine gv_xld (pc' := 268) rfl rfl rfl ?_
      refine gv_ild (pc' := 270) rfl rfl rfl ?_
      refine gv_ic (pc' := 271) (x := 4) rfl rfl rfl ?_
      refine gv_iadd (pc' := 272) rfl rfl ?_
      by_cases c44 : (l4 + (4 : Int32)) < 0
      · rw [if_pos c44] at e; cases e
      rw [if_neg c44] at e
      obtain ⟨v43, qv43, e⟩ := gv_bind e
      refine gv_xal (pc' := 273) rfl rfl c44 qv43 rfl ?_
      refine gv_rldn (pc' := 274) rfl rfl rfl ?_
      obtain ⟨⟨v45, h46⟩, qv45, e⟩ := gv_bind e
      refine gv_sS (jc := 31) (n := 6) (rest := []) (stk := [.int v45]) (pc' := 277) rfl rfl rfl rfl rfl rfl rfl rfl rfl (gv_zR (gv_zI (gv_zI (gv_zI (gv_zI (gv_zR gv_z0)))))) rfl (gv_aR (gv_aI (gv_aI (gv_aI (gv_aI (gv_aR gv_a0)))))) (Nat.le_of_ble_eq_true rfl) (lw_view_ok qv45) rfl rfl ?_
      refine gv_ist (pc' := 279) rfl rfl (gv_Ci rfl) rfl ?_
      refine gv_rldn (pc' := 280) rfl rfl rfl ?_
      refine gv_xld (pc' := 281) rfl rfl rfl ?_
      refine gv_ild (pc' := 283) rfl rfl rfl ?_
      refine gv_ic (pc' := 284) (x := 1) rfl rfl rfl ?_
      refine gv_iadd (pc' := 285) rfl rfl ?_
      by_cases c49 : (l4 + (1 : Int32)) < 0
      · rw [if_pos c49] at e; cases e
      rw [if_neg c49] at e
      obtain ⟨v48, qv48, e⟩ := gv_bind e
      refine gv_xal (pc' := 286) rfl rfl c49 qv48 rfl ?_
      refine gv_xld (pc' := 287) rfl rfl rfl ?_
      refine gv_ild (pc' := 289) rfl rfl rfl ?_
      refine gv_ic (pc' := 290) (x := 2) rfl rfl rfl ?_
      refine gv_iadd (pc' := 291) rfl rfl ?_
      by_cases c51 : (l4 + (2 : Int32)) < 0
      · rw [if_pos c51] at e; cases e
      rw [if_neg c51] at e
      obtain ⟨v50, qv50, e⟩ := gv_bind e
      refine gv_xal (pc' := 292) rfl rfl c51 qv50 rfl ?_
      refine gv_xld (pc' := 293) rfl rfl rfl ?_
      refine gv_ild (pc' := 295) rfl rfl rfl ?_
      refine gv_ic (pc' := 296) (x := 3) rfl rfl rfl ?_
      refine gv_iadd (pc' := 297) rfl rfl ?_
      by_cases c53 : (l4 + (3 : Int32)) < 0
      · rw [if_pos c53] at e; cases e
      rw [if_neg c53] at e
      obtain ⟨v52, qv52, e⟩ := gv_bind e
      refine gv_xal (pc' := 298) rfl rfl c53 qv52 rfl ?_
      refine gv_xld (pc' := 299) rfl rfl rfl ?_
      refine gv_ild (pc' := 301) rfl rfl rfl ?_
      refine gv_ic (pc' := 302) (x := 4) rfl rfl rfl ?_
      refine gv_iadd (pc' := 303) rfl rfl ?_
      by_cases c55 : (l4 + (4 : Int32)) < 0
      · rw [if_pos c55] at e; cases e
      rw [if_neg c55] at e
      obtain ⟨v54, qv54, e⟩ := gv_bind e
      refine gv_xal (pc' := 304) rfl rfl c55 qv54 rfl ?_
      obtain ⟨i56, qi56, e⟩ := gv_bind e
      obtain ⟨⟨v57, h58⟩, qv57, e⟩ := gv_bind e
      refine gv_vS (jc := 125) (n := 4) (rest := []) (stk := [.int v57]) (pc' := 307) rfl rfl rfl rfl rfl rfl rfl rfl rfl (gv_zR (gv_zI (gv_zI (gv_zI (gv_zI gv_z0))))) rfl (gv_aR (gv_aI (gv_aI (gv_aI (gv_aI gv_a0))))) (Nat.le_of_ble_eq_true rfl) qi56 (mM_view_ok qv57) rfl rfl ?_
      refine gv_ist (pc' := 309) rfl rfl (gv_Ci rfl) rfl ?_
      refine gv_goto (pc' := 1005) rfl rfl ?_
      exact gv_weak (lw_law_1005_ok ih e) (gv_S1 rfl (gv_S1 rfl (gv_S1 rfl (gv_S1 rfl (gv_S1 rfl gv_S0)))))
    rw [if_neg c36] at e
    by_cases c60 : (v2 &&& (31 : Int32)) = (3 : Int32)
    · rw [if_pos c60] at e
      refine gv_sw (pc' := 312) (off := 272) rfl (by rw [c60]; rfl) rfl ?_
      refine gv_rldn (pc' := 313) rfl rfl rfl ?_
      refine gv_xld (pc' := 314) rfl rfl rfl ?_
      refine gv_ild (pc' := 316) rfl rfl rfl ?_
      refine gv_ic (pc' := 317) (x := 1) rfl rfl rfl ?_
      refine gv_iadd (pc' := 318) rfl rfl ?_
      by_cases c62 : (l4 + (1 : Int32)) < 0
      · rw [if_pos c62] at e; cases e
      rw [if_neg c62] at e
      obtain ⟨v61, qv61, e⟩ := gv_bind e
      refine gv_xal (pc' := 319) rfl rfl c62 qv61 rfl ?_
      refine gv_i2l (pc' := 320) rfl rfl ?_
      refine gv_bp (pc' := 322) (x := 32) rfl rfl rfl ?_
      refine gv_lshl (pc' := 323) rfl rfl ?_
      refine gv_xld (pc' := 324) rfl rfl rfl ?_
      refine gv_ild (pc' := 326) rfl rfl rfl ?_
      refine gv_ic (pc' := 327) (x := 2) rfl rfl rfl ?_
      refine gv_iadd (pc' := 328) rfl rfl ?_
      by_cases c64 : (l4 + (2 : Int32)) < 0
      · rw [if_pos c64] at e; cases e
      rw [if_neg c64] at e
      obtain ⟨v63, qv63, e⟩ := gv_bind e
      refine gv_xal (pc' := 329) rfl rfl c64 qv63 rfl ?_
      refine gv_i2l (pc' := 330) rfl rfl ?_
      refine gv_ld (pc' := 333) (x := 4294967295) rfl rfl rfl ?_
      refine gv_land (pc' := 334) rfl rfl ?_
      refine gv_lor (pc' := 335) rfl rfl ?_
      refine gv_rldn (pc' := 336) rfl rfl rfl ?_
      obtain ⟨⟨v65, h66⟩, qv65, e⟩ := gv_bind e
      refine gv_sS (jc := 35) (n := 3) (rest := []) (stk := [.int v65]) (pc' := 339) rfl rfl rfl rfl rfl rfl rfl rfl rfl (gv_zR (gv_zJ (gv_zR gv_z0))) rfl (gv_aR (gv_aJ (gv_aR gv_a0))) (Nat.le_of_ble_eq_true rfl) (lw_stamp_ok qv65) rfl rfl ?_
      refine gv_ist (pc' := 341) rfl rfl (gv_Ci rfl) rfl ?_
      refine gv_rldn (pc' := 342) rfl rfl rfl ?_
      refine gv_xld (pc' := 343) rfl rfl rfl ?_
      refine gv_ild (pc' := 345) rfl rfl rfl ?_
      refine gv_ic (pc' := 346) (x := 1) rfl rfl rfl ?_
      refine gv_iadd (pc' := 347) rfl rfl ?_
      by_cases c69 : (l4 + (1 : Int32)) < 0
      · rw [if_pos c69] at e; cases e
      rw [if_neg c69] at e
      obtain ⟨v68, qv68, e⟩ := gv_bind e
      refine gv_xal (pc' := 348) rfl rfl c69 qv68 rfl ?_
      refine gv_i2l (pc' := 349) rfl rfl ?_
      refine gv_bp (pc' := 351) (x := 32) rfl rfl rfl ?_
      refine gv_lshl (pc' := 352) rfl rfl ?_
      refine gv_xld (pc' := 353) rfl rfl rfl ?_
      refine gv_ild (pc' := 355) rfl rfl rfl ?_
      refine gv_ic (pc' := 356) (x := 2) rfl rfl rfl ?_
      refine gv_iadd (pc' := 357) rfl rfl ?_
      by_cases c71 : (l4 + (2 : Int32)) < 0
      · rw [if_pos c71] at e; cases e
      rw [if_neg c71] at e
      obtain ⟨v70, qv70, e⟩ := gv_bind e
      refine gv_xal (pc' := 358) rfl rfl c71 qv70 rfl ?_
      refine gv_i2l (pc' := 359) rfl rfl ?_
      refine gv_ld (pc' := 362) (x := 4294967295) rfl rfl rfl ?_
      refine gv_land (pc' := 363) rfl rfl ?_
      refine gv_lor (pc' := 364) rfl rfl ?_
      obtain ⟨i72, qi72, e⟩ := gv_bind e
      obtain ⟨⟨v73, h74⟩, qv73, e⟩ := gv_bind e
      refine gv_vS (jc := 131) (n := 1) (rest := []) (stk := [.int v73]) (pc' := 367) rfl rfl rfl rfl rfl rfl rfl rfl rfl (gv_zR (gv_zJ gv_z0)) rfl (gv_aR (gv_aJ gv_a0)) (Nat.le_of_ble_eq_true rfl) qi72 (mM_stamp_ok qv73) rfl rfl ?_
      refine gv_ist (pc' := 369) rfl rfl (gv_Ci rfl) rfl ?_
      refine gv_goto (pc' := 1005) rfl rfl ?_
      exact gv_weak (lw_law_1005_ok ih e) (gv_S1 rfl (gv_S1 rfl (gv_S1 rfl (gv_S1 rfl (gv_S1 rfl gv_S0)))))
    rw [if_neg c60] at e
    by_cases c76 : (v2 &&& (31 : Int32)) = (4 : Int32)
    · rw [if_pos c76] at e
      refine gv_sw (pc' := 372) (off := 332) rfl (by rw [c76]; rfl) rfl ?_
      refine gv_rldn (pc' := 373) rfl rfl rfl ?_
      refine gv_xld (pc' := 374) rfl rfl rfl ?_
      refine gv_ild (pc' := 376) rfl rfl rfl ?_
      refine gv_ic (pc' := 377) (x := 1) rfl rfl rfl ?_
      refine gv_iadd (pc' := 378) rfl rfl ?_
      by_cases c78 : (l4 + (1 : Int32)) < 0
      · rw [if_pos c78] at e; cases e
      rw [if_neg c78] at e
      obtain ⟨v77, qv77, e⟩ := gv_bind e
      refine gv_xal (pc' := 379) rfl rfl c78 qv77 rfl ?_
      refine gv_xld (pc' := 380) rfl rfl rfl ?_
      refine gv_ild (pc' := 382) rfl rfl rfl ?_
      refine gv_ic (pc' := 383) (x := 2) rfl rfl rfl ?_
      refine gv_iadd (pc' := 384) rfl rfl ?_
      by_cases c80 : (l4 + (2 : Int32)) < 0
      · rw [if_pos c80] at e; cases e
      rw [if_neg c80] at e
      obtain ⟨v79, qv79, e⟩ := gv_bind e
      refine gv_xal (pc' := 385) rfl rfl c80 qv79 rfl ?_
      refine gv_xld (pc' := 386) rfl rfl rfl ?_
      refine gv_ild (pc' := 388) rfl rfl rfl ?_
      refine gv_ic (pc' := 389) (x := 3) rfl rfl rfl ?_
      refine gv_iadd (pc' := 390) rfl rfl ?_
      by_cases c82 : (l4 + (3 : Int32)) < 0
      · rw [if_pos c82] at e; cases e
      rw [if_neg c82] at e
      obtain ⟨v81, qv81, e⟩ := gv_bind e
      refine gv_xal (pc' := 391) rfl rfl c82 qv81 rfl ?_
      refine gv_xld (pc' := 392) rfl rfl rfl ?_
      refine gv_ild (pc' := 394) rfl rfl rfl ?_
      refine gv_ic (pc' := 395) (x := 4) rfl rfl rfl ?_
      refine gv_iadd (pc' := 396) rfl rfl ?_
      by_cases c84 : (l4 + (4 : Int32)) < 0
      · rw [if_pos c84] at e; cases e
      rw [if_neg c84] at e
      obtain ⟨v83, qv83, e⟩ := gv_bind e
      refine gv_xal (pc' := 397) rfl rfl c84 qv83 rfl ?_
      obtain ⟨⟨v85, h86⟩, qv85, e⟩ := gv_bind e
      refine gv_sS (jc := 37) (n := 5) (rest := []) (stk := [.int v85]) (pc' := 400) rfl rfl rfl rfl rfl rfl rfl rfl rfl (gv_zR (gv_zI (gv_zI (gv_zI (gv_zI gv_z0))))) rfl (gv_aR (gv_aI (gv_aI (gv_aI (gv_aI gv_a0))))) (Nat.le_of_ble_eq_true rfl) (lw_put_ok qv85) rfl rfl ?_
      refine gv_ist (pc' := 402) rfl rfl (gv_Ci rfl) rfl ?_
      refine gv_rldn (pc' := 403) rfl rfl rfl ?_
      refine gv_xld (pc' := 404) rfl rfl rfl ?_
      refine gv_ild (pc' := 406) rfl rfl rfl ?_
      refine gv_ic (pc' := 407) (x := 1) rfl rfl rfl ?_
      refine gv_iadd (pc' := 408) rfl rfl ?_
      by_cases c89 : (l4 + (1 : Int32)) < 0
      · rw [if_pos c89] at e; cases e
      rw [if_neg c89] at e
      obtain ⟨v88, qv88, e⟩ := gv_bind e
      refine gv_xal (pc' := 409) rfl rfl c89 qv88 rfl ?_
      refine gv_xld (pc' := 410) rfl rfl rfl ?_
      refine gv_ild (pc' := 412) rfl rfl rfl ?_
      refine gv_ic (pc' := 413) (x := 2) rfl rfl rfl ?_
      refine gv_iadd (pc' := 414) rfl rfl ?_
      by_cases c91 : (l4 + (2 : Int32)) < 0
      · rw [if_pos c91] at e; cases e
      rw [if_neg c91] at e
      obtain ⟨v90, qv90, e⟩ := gv_bind e
      refine gv_xal (pc' := 415) rfl rfl c91 qv90 rfl ?_
      refine gv_xld (pc' := 416) rfl rfl rfl ?_
      refine gv_ild (pc' := 418) rfl rfl rfl ?_
      refine gv_ic (pc' := 419) (x := 3) rfl rfl rfl ?_
      refine gv_iadd (pc' := 420) rfl rfl ?_
      by_cases c93 : (l4 + (3 : Int32)) < 0
      · rw [if_pos c93] at e; cases e
      rw [if_neg c93] at e
      obtain ⟨v92, qv92, e⟩ := gv_bind e
      refine gv_xal (pc' := 421) rfl rfl c93 qv92 rfl ?_
      refine gv_xld (pc' := 422) rfl rfl rfl ?_
      refine gv_ild (pc' := 424) rfl rfl rfl ?_
      refine gv_ic (pc' := 425) (x := 4) rfl rfl rfl ?_
      refine gv_iadd (pc' := 426) rfl rfl ?_
      by_cases c95 : (l4 + (4 : Int32)) < 0
      · rw [if_pos c95] at e; cases e
      rw [if_neg c95] at e
      obtain ⟨v94, qv94, e⟩ := gv_bind e
      refine gv_xal (pc' := 427) rfl rfl c95 qv94 rfl ?_
      obtain ⟨i96, qi96, e⟩ := gv_bind e
      obtain ⟨h98, qv97, e⟩ := gv_bind e
      refine gv_vS (jc := 132) (n := 4) (rest := []) (stk := []) (pc' := 430) rfl rfl rfl rfl rfl rfl rfl rfl rfl (gv_zR (gv_zI (gv_zI (gv_zI (gv_zI gv_z0))))) rfl (gv_aR (gv_aI (gv_aI (gv_aI (gv_aI gv_a0))))) (Nat.le_of_ble_eq_true rfl) qi96 (mM_put_ok qv97) rfl rfl ?_
      refine gv_goto (pc' := 1005) rfl rfl ?_
      exact gv_weak (lw_law_1005_ok ih e) (gv_S1 rfl (gv_S1 rfl (gv_S1 rfl (gv_S1 rfl (gv_S1 rfl gv_S0)))))
    rw [if_neg c76] at e
    by_cases c99 : (v2 &&& (31 : Int32)) = (5 : Int32)
    · rw [if_pos c99] at e
      refine gv_sw (pc' := 433) (off := 393) rfl (by rw [c99]; rfl) rfl ?_
      refine gv_rldn (pc' := 434) rfl rfl rfl ?_
      refine gv_xld (pc' := 435) rfl rfl rfl ?_
      refine gv_ild (pc' := 437) rfl rfl rfl ?_
      refine gv_ic (pc' := 438) (x := 1) rfl rfl rfl ?_
      refine gv_iadd (pc' := 439) rfl rfl ?_
      by_cases c101 : (l4 + (1 : Int32)) < 0
      · rw [if_pos c101] at e; cases e
      rw [if_neg c101] at e
      obtain ⟨v100, qv100, e⟩ := gv_bind e
      refine gv_xal (pc' := 440) rfl rfl c101 qv100 rfl ?_
      refine gv_xld (pc' := 441) rfl rfl rfl ?_
      refine gv_ild (pc' := 443) rfl rfl rfl ?_
      refine gv_ic (pc' := 444) (x := 2) rfl rfl rfl ?_
      refine gv_iadd (pc' := 445) rfl rfl ?_
      by_cases c103 : (l4 + (2 : Int32)) < 0
      · rw [if_pos c103] at e; cases e
      rw [if_neg c103] at e
      obtain ⟨v102, qv102, e⟩ := gv_bind e
      refine gv_xal (pc' := 446) rfl rfl c103 qv102 rfl ?_
      refine gv_rldn (pc' := 447) rfl rfl rfl ?_
      obtain ⟨⟨v104, h105⟩, qv104, e⟩ := gv_bind e
      refine gv_sS (jc := 50) (n := 4) (rest := []) (stk := [.int v104]) (pc' := 450) rfl rfl rfl rfl rfl rfl rfl rfl rfl (gv_zR (gv_zI (gv_zI (gv_zR gv_z0)))) rfl (gv_aR (gv_aI (gv_aI (gv_aR gv_a0)))) (Nat.le_of_ble_eq_true rfl) (lw_take_ok qv104) rfl rfl ?_
      refine gv_ist (pc' := 452) rfl rfl (gv_Ci rfl) rfl ?_
      refine gv_rldn (pc' := 453) rfl rfl rfl ?_
      refine gv_xld (pc' := 454) rfl rfl rfl ?_
      refine gv_ild (pc' := 456) rfl rfl rfl ?_
      refine gv_ic (pc' := 457) (x := 1) rfl rfl rfl ?_
      refine gv_iadd (pc' := 458) rfl rfl ?_
      by_cases c108 : (l4 + (1 : Int32)) < 0
      · rw [if_pos c108] at e; cases e
      rw [if_neg c108] at e
      obtain ⟨v107, qv107, e⟩ := gv_bind e
      refine gv_xal (pc' := 459) rfl rfl c108 qv107 rfl ?_
      refine gv_xld (pc' := 460) rfl rfl rfl ?_
      refine gv_ild (pc' := 462) rfl rfl rfl ?_
      refine gv_ic (pc' := 463) (x := 2) rfl rfl rfl ?_
      refine gv_iadd (pc' := 464) rfl rfl ?_
      by_cases c110 : (l4 + (2 : Int32)) < 0
      · rw [if_pos c110] at e; cases e
      rw [if_neg c110] at e
      obtain ⟨v109, qv109, e⟩ := gv_bind e
      refine gv_xal (pc' := 465) rfl rfl c110 qv109 rfl ?_
      obtain ⟨i111, qi111, e⟩ := gv_bind e
      obtain ⟨⟨v112, h113⟩, qv112, e⟩ := gv_bind e
      refine gv_vS (jc := 140) (n := 2) (rest := []) (stk := [.int v112]) (pc' := 468) rfl rfl rfl rfl rfl rfl rfl rfl rfl (gv_zR (gv_zI (gv_zI gv_z0))) rfl (gv_aR (gv_aI (gv_aI gv_a0))) (Nat.le_of_ble_eq_true rfl) qi111 (mM_take_ok qv112) rfl rfl ?_
      refine gv_ist (pc' := 470) rfl rfl (gv_Ci rfl) rfl ?_
      refine gv_goto (pc' := 1005) rfl rfl ?_
      exact gv_weak (lw_law_1005_ok ih e) (gv_S1 rfl (gv_S1 rfl (gv_S1 rfl (gv_S1 rfl (gv_S1 rfl gv_S0)))))
    rw [if_neg c99] at e
    by_cases c115 : (v2 &&& (31 : Int32)) = (6 : Int32)
    · rw [if_pos c115] at e
      refine gv_sw (pc' := 473) (off := 433) rfl (by rw [c115]; rfl) rfl ?_
      refine gv_rldn (pc' := 474) rfl rfl rfl ?_
      refine gv_xld (pc' := 475) rfl rfl rfl ?_
      refine gv_ild (pc' := 477) rfl rfl rfl ?_
      refine gv_ic (pc' := 478) (x := 1) rfl rfl rfl ?_
      refine gv_iadd (pc' := 479) rfl rfl ?_
      by_cases c117 : (l4 + (1 : Int32)) < 0
      · rw [if_pos c117] at e; cases e
      rw [if_neg c117] at e
      obtain ⟨v116, qv116, e⟩ := gv_bind e
      refine gv_xal (pc' := 480) rfl rfl c117 qv116 rfl ?_
      refine gv_xld (pc' := 481) rfl rfl rfl ?_
      refine gv_ild (pc' := 483) rfl rfl rfl ?_
      refine gv_ic (pc' := 484) (x := 2) rfl rfl rfl ?_
      refine gv_iadd (pc' := 485) rfl rfl ?_
      by_cases c119 : (l4 + (2 : Int32)) < 0
      · rw [if_pos c119] at e; cases e
      rw [if_neg c119] at e
      obtain ⟨v118, qv118, e⟩ := gv_bind e
      refine gv_xal (pc' := 486) rfl rfl c119 qv118 rfl ?_
      refine gv_xld (pc' := 487) rfl rfl rfl ?_
      refine gv_ild (pc' := 489) rfl rfl rfl ?_
      refine gv_ic (pc' := 490) (x := 3) rfl rfl rfl ?_
      refine gv_iadd (pc' := 491) rfl rfl ?_
      by_cases c121 : (l4 + (3 : Int32)) < 0
      · rw [if_pos c121] at e; cases e
      rw [if_neg c121] at e
      obtain ⟨v120, qv120, e⟩ := gv_bind e
      refine gv_xal (pc' := 492) rfl rfl c121 qv120 rfl ?_
      refine gv_xld (pc' := 493) rfl rfl rfl ?_
      refine gv_ild (pc' := 495) rfl rfl rfl ?_
      refine gv_ic (pc' := 496) (x := 4) rfl rfl rfl ?_
      refine gv_iadd (pc' := 497) rfl rfl ?_
      by_cases c123 : (l4 + (4 : Int32)) < 0
      · rw [if_pos c123] at e; cases e
      rw [if_neg c123] at e
      obtain ⟨v122, qv122, e⟩ := gv_bind e
      refine gv_xal (pc' := 498) rfl rfl c123 qv122 rfl ?_
      refine gv_xld (pc' := 499) rfl rfl rfl ?_
      refine gv_ild (pc' := 501) rfl rfl rfl ?_
      refine gv_ic (pc' := 502) (x := 5) rfl rfl rfl ?_
      refine gv_iadd (pc' := 503) rfl rfl ?_
      by_cases c125 : (l4 + (5 : Int32)) < 0
      · rw [if_pos c125] at e; cases e
      rw [if_neg c125] at e
      obtain ⟨v124, qv124, e⟩ := gv_bind e
      refine gv_xal (pc' := 504) rfl rfl c125 qv124 rfl ?_
      obtain ⟨⟨v126, h127⟩, qv126, e⟩ := gv_bind e
      refine gv_sS (jc := 54) (n := 6) (rest := []) (stk := [.int v126]) (pc' := 507) rfl rfl rfl rfl rfl rfl rfl rfl rfl (gv_zR (gv_zI (gv_zI (gv_zI (gv_zI (gv_zI gv_z0)))))) rfl (gv_aR (gv_aI (gv_aI (gv_aI (gv_aI (gv_aI gv_a0)))))) (Nat.le_of_ble_eq_true rfl) (lw_entry_ok qv126) rfl rfl ?_
      refine gv_ist (pc' := 509) rfl rfl (gv_Ci rfl) rfl ?_
      refine gv_rldn (pc' := 510) rfl rfl rfl ?_
      refine gv_xld (pc' := 511) rfl rfl rfl ?_
      refine gv_ild (pc' := 513) rfl rfl rfl ?_
      refine gv_ic (pc' := 514) (x := 1) rfl rfl rfl ?_
      refine gv_iadd (pc' := 515) rfl rfl ?_
      by_cases c130 : (l4 + (1 : Int32)) < 0
      · rw [if_pos c130] at e; cases e
      rw [if_neg c130] at e
      obtain ⟨v129, qv129, e⟩ := gv_bind e
      refine gv_xal (pc' := 516) rfl rfl c130 qv129 rfl ?_
      refine gv_xld (pc' := 517) rfl rfl rfl ?_
      refine gv_ild (pc' := 519) rfl rfl rfl ?_
      refine gv_ic (pc' := 520) (x := 2) rfl rfl rfl ?_
      refine gv_iadd (pc' := 521) rfl rfl ?_
      by_cases c132 : (l4 + (2 : Int32)) < 0
      · rw [if_pos c132] at e; cases e
      rw [if_neg c132] at e
      obtain ⟨v131, qv131, e⟩ := gv_bind e
      refine gv_xal (pc' := 522) rfl rfl c132 qv131 rfl ?_
      refine gv_xld (pc' := 523) rfl rfl rfl ?_
      refine gv_ild (pc' := 525) rfl rfl rfl ?_
      refine gv_ic (pc' := 526) (x := 3) rfl rfl rfl ?_
      refine gv_iadd (pc' := 527) rfl rfl ?_
      by_cases c134 : (l4 + (3 : Int32)) < 0
      · rw [if_pos c134] at e; cases e
      rw [if_neg c134] at e
      obtain ⟨v133, qv133, e⟩ := gv_bind e
      refine gv_xal (pc' := 528) rfl rfl c134 qv133 rfl ?_
      refine gv_xld (pc' := 529) rfl rfl rfl ?_
      refine gv_ild (pc' := 531) rfl rfl rfl ?_
      refine gv_ic (pc' := 532) (x := 4) rfl rfl rfl ?_
      refine gv_iadd (pc' := 533) rfl rfl ?_
      by_cases c136 : (l4 + (4 : Int32)) < 0
      · rw [if_pos c136] at e; cases e
      rw [if_neg c136] at e
      obtain ⟨v135, qv135, e⟩ := gv_bind e
      refine gv_xal (pc' := 534) rfl rfl c136 qv135 rfl ?_
      refine gv_xld (pc' := 535) rfl rfl rfl ?_
      refine gv_ild (pc' := 537) rfl rfl rfl ?_
      refine gv_ic (pc' := 538) (x := 5) rfl rfl rfl ?_
      refine gv_iadd (pc' := 539) rfl rfl ?_
      by_cases c138 : (l4 + (5 : Int32)) < 0
      · rw [if_pos c138] at e; cases e
      rw [if_neg c138] at e
      obtain ⟨v137, qv137, e⟩ := gv_bind e
      refine gv_xal (pc' := 540) rfl rfl c138 qv137 rfl ?_
      obtain ⟨i139, qi139, e⟩ := gv_bind e
      obtain ⟨h141, qv140, e⟩ := gv_bind e
      refine gv_vS (jc := 142) (n := 5) (rest := []) (stk := []) (pc' := 543) rfl rfl rfl rfl rfl rfl rfl rfl rfl (gv_zR (gv_zI (gv_zI (gv_zI (gv_zI (gv_zI gv_z0)))))) rfl (gv_aR (gv_aI (gv_aI (gv_aI (gv_aI (gv_aI gv_a0)))))) (Nat.le_of_ble_eq_true rfl) qi139 (mM_entry_ok qv140) rfl rfl ?_
      refine gv_goto (pc' := 1005) rfl rfl ?_
      exact gv_weak (lw_law_1005_ok ih e) (gv_S1 rfl (gv_S1 rfl (gv_S1 rfl (gv_S1 rfl (gv_S1 rfl gv_S0)))))
    rw [if_neg c115] at e
    by_cases c142 : (v2 &&& (31 : Int32)) = (7 : Int32)
    · rw [if_pos c142] at e
      refine gv_sw (pc' := 546) (off := 506) rfl (by rw [c142]; rfl) rfl ?_
      refine gv_rldn (pc' := 547) rfl rfl rfl ?_
      refine gv_xld (pc' := 548) rfl rfl rfl ?_
      refine gv_ild (pc' := 550) rfl rfl rfl ?_
      refine gv_ic (pc' := 551) (x := 1) rfl rfl rfl ?_
      refine gv_iadd (pc' := 552) rfl rfl ?_
      by_cases c144 : (l4 + (1 : Int32)) < 0
      · rw [if_pos c144] at e; cases e
      rw [if_neg c144] at e
      obtain ⟨v143, qv143, e⟩ := gv_bind e
      refine gv_xal (pc' := 553) rfl rfl c144 qv143 rfl ?_
      refine gv_xld (pc' := 554) rfl rfl rfl ?_
      refine gv_ild (pc' := 556) rfl rfl rfl ?_
      refine gv_ic (pc' := 557) (x := 2) rfl rfl rfl ?_
      refine gv_iadd (pc' := 558) rfl rfl ?_
      by_cases c146 : (l4 + (2 : Int32)) < 0
      · rw [if_pos c146] at e; cases e
      rw [if_neg c146] at e
      obtain ⟨v145, qv145, e⟩ := gv_bind e
      refine gv_xal (pc' := 559) rfl rfl c146 qv145 rfl ?_
      refine gv_xld (pc' := 560) rfl rfl rfl ?_
      refine gv_ild (pc' := 562) rfl rfl rfl ?_
      refine gv_ic (pc' := 563) (x := 3) rfl rfl rfl ?_
      refine gv_iadd (pc' := 564) rfl rfl ?_
      by_cases c148 : (l4 + (3 : Int32)) < 0
      · rw [if_pos c148] at e; cases e
      rw [if_neg c148] at e
      obtain ⟨v147, qv147, e⟩ := gv_bind e
      refine gv_xal (pc' := 565) rfl rfl c148 qv147 rfl ?_
      refine gv_rldn (pc' := 566) rfl rfl rfl ?_
      obtain ⟨⟨v149, h150⟩, qv149, e⟩ := gv_bind e
      refine gv_sS (jc := 57) (n := 5) (rest := []) (stk := [.int v149]) (pc' := 569) rfl rfl rfl rfl rfl rfl rfl rfl rfl (gv_zR (gv_zI (gv_zI (gv_zI (gv_zR gv_z0))))) rfl (gv_aR (gv_aI (gv_aI (gv_aI (gv_aR gv_a0))))) (Nat.le_of_ble_eq_true rfl) (lw_add_ok qv149) rfl rfl ?_
      refine gv_ist (pc' := 571) rfl rfl (gv_Ci rfl) rfl ?_
      refine gv_rldn (pc' := 572) rfl rfl rfl ?_
      refine gv_xld (pc' := 573) rfl rfl rfl ?_
      refine gv_ild (pc' := 575) rfl rfl rfl ?_
      refine gv_ic (pc' := 576) (x := 1) rfl rfl rfl ?_
      refine gv_iadd (pc' := 577) rfl rfl ?_
      by_cases c153 : (l4 + (1 : Int32)) < 0
      · rw [if_pos c153] at e; cases e
      rw [if_neg c153] at e
      obtain ⟨v152, qv152, e⟩ := gv_bind e
      refine gv_xal (pc' := 578) rfl rfl c153 qv152 rfl ?_
      refine gv_xld (pc' := 579) rfl rfl rfl ?_
      refine gv_ild (pc' := 581) rfl rfl rfl ?_
      refine gv_ic (pc' := 582) (x := 2) rfl rfl rfl ?_
      refine gv_iadd (pc' := 583) rfl rfl ?_
      by_cases c155 : (l4 + (2 : Int32)) < 0
      · rw [if_pos c155] at e; cases e
      rw [if_neg c155] at e
      obtain ⟨v154, qv154, e⟩ := gv_bind e
      refine gv_xal (pc' := 584) rfl rfl c155 qv154 rfl ?_
      refine gv_xld (pc' := 585) rfl rfl rfl ?_
      refine gv_ild (pc' := 587) rfl rfl rfl ?_
      refine gv_ic (pc' := 588) (x := 3) rfl rfl rfl ?_
      refine gv_iadd (pc' := 589) rfl rfl ?_
      by_cases c157 : (l4 + (3 : Int32)) < 0
      · rw [if_pos c157] at e; cases e
      rw [if_neg c157] at e
      obtain ⟨v156, qv156, e⟩ := gv_bind e
      refine gv_xal (pc' := 590) rfl rfl c157 qv156 rfl ?_
      obtain ⟨i158, qi158, e⟩ := gv_bind e
      obtain ⟨⟨v159, h160⟩, qv159, e⟩ := gv_bind e
      refine gv_vS (jc := 144) (n := 3) (rest := []) (stk := [.int v159]) (pc' := 593) rfl rfl rfl rfl rfl rfl rfl rfl rfl (gv_zR (gv_zI (gv_zI (gv_zI gv_z0)))) rfl (gv_aR (gv_aI (gv_aI (gv_aI gv_a0)))) (Nat.le_of_ble_eq_true rfl) qi158 (mM_add_ok qv159) rfl rfl ?_
      refine gv_ist (pc' := 595) rfl rfl (gv_Ci rfl) rfl ?_
      refine gv_goto (pc' := 1005) rfl rfl ?_
      exact gv_weak (lw_law_1005_ok ih e) (gv_S1 rfl (gv_S1 rfl (gv_S1 rfl (gv_S1 rfl (gv_S1 rfl gv_S0)))))
    rw [if_neg c142] at e
    by_cases c162 : (v2 &&& (31 : Int32)) = (8 : Int32)
    · rw [if_pos c162] at e
      refine gv_sw (pc' := 598) (off := 558) rfl (by rw [c162]; rfl) rfl ?_
      refine gv_rldn (pc' := 599) rfl rfl rfl ?_
      refine gv_xld (pc' := 600) rfl rfl rfl ?_
      refine gv_ild (pc' := 602) rfl rfl rfl ?_
      refine gv_ic (pc' := 603) (x := 1) rfl rfl rfl ?_
      refine gv_iadd (pc' := 604) rfl rfl ?_
      by_cases c164 : (l4 + (1 : Int32)) < 0
      · rw [if_pos c164] at e; cases e
      rw [if_neg c164] at e
      obtain ⟨v163, qv163, e⟩ := gv_bind e
      refine gv_xal (pc' := 605) rfl rfl c164 qv163 rfl ?_
      obtain ⟨i165, qi165, e⟩ := gv_bind e
      obtain ⟨⟨v166, h167⟩, qv166, e⟩ := gv_bind e
      refine gv_vS (jc := 7) (n := 1) (rest := []) (stk := [.int v166]) (pc' := 608) rfl rfl rfl rfl rfl rfl rfl rfl rfl (gv_zR (gv_zI gv_z0)) rfl (gv_aR (gv_aI gv_a0)) (Nat.le_of_ble_eq_true rfl) qi165 (cG_detach_ok qv166) rfl rfl ?_
      refine gv_pop (pc' := 609) rfl rfl rfl ?_
      refine gv_rldn (pc' := 610) rfl rfl rfl ?_
      refine gv_xld (pc' := 611) rfl rfl rfl ?_
      refine gv_ild (pc' := 613) rfl rfl rfl ?_
      refine gv_ic (pc' := 614) (x := 1) rfl rfl rfl ?_
      refine gv_iadd (pc' := 615) rfl rfl ?_
      by_cases c170 : (l4 + (1 : Int32)) < 0
      · rw [if_pos c170] at e; cases e
      rw [if_neg c170] at e
      obtain ⟨v169, qv169, e⟩ := gv_bind e
      refine gv_xal (pc' := 616) rfl rfl c170 qv169 rfl ?_
      obtain ⟨i171, qi171, e⟩ := gv_bind e
      obtain ⟨⟨v172, h173⟩, qv172, e⟩ := gv_bind e
      refine gv_vS (jc := 146) (n := 1) (rest := []) (stk := [.int v172]) (pc' := 619) rfl rfl rfl rfl rfl rfl rfl rfl rfl (gv_zR (gv_zI gv_z0)) rfl (gv_aR (gv_aI gv_a0)) (Nat.le_of_ble_eq_true rfl) qi171 (mM_detach_ok qv172) rfl rfl ?_
      refine gv_pop (pc' := 620) rfl rfl rfl ?_
      refine gv_goto (pc' := 1005) rfl rfl ?_
      exact gv_weak (lw_law_1005_ok ih e) (gv_S1 rfl (gv_S1 rfl (gv_S1 rfl (gv_S1 rfl (gv_S1 rfl gv_S0)))))
    rw [if_neg c162] at e
    by_cases c175 : (v2 &&& (31 : Int32)) = (9 : Int32)
    · rw [if_pos c175] at e
      refine gv_sw (pc' := 623) (off := 583) rfl (by rw [c175]; rfl) rfl ?_
      refine gv_rldn (pc' := 624) rfl rfl rfl ?_
      obtain ⟨i176, qi176, e⟩ := gv_bind e
      obtain ⟨⟨v177, h178⟩, qv177, e⟩ := gv_bind e
      refine gv_vS (jc := 11) (n := 0) (rest := []) (stk := [.int v177]) (pc' := 627) rfl rfl rfl rfl rfl rfl rfl rfl rfl (gv_zR gv_z0) rfl (gv_aR gv_a0) (Nat.le_of_ble_eq_true rfl) qi176 (cG_clear_ok qv177) rfl rfl ?_
      refine gv_pop (pc' := 628) rfl rfl rfl ?_
      refine gv_rldn (pc' := 629) rfl rfl rfl ?_
      obtain ⟨i180, qi180, e⟩ := gv_bind e
      obtain ⟨⟨v181, h182⟩, qv181, e⟩ := gv_bind e
      refine gv_vS (jc := 148) (n := 0) (rest := []) (stk := [.int v181]) (pc' := 632) rfl rfl rfl rfl rfl rfl rfl rfl rfl (gv_zR gv_z0) rfl (gv_aR gv_a0) (Nat.le_of_ble_eq_true rfl) qi180 (mM_clear_ok qv181) rfl rfl ?_
      refine gv_pop (pc' := 633) rfl rfl rfl ?_
      refine gv_goto (pc' := 1005) rfl rfl ?_
      exact gv_weak (lw_law_1005_ok ih e) (gv_S1 rfl (gv_S1 rfl (gv_S1 rfl (gv_S1 rfl (gv_S1 rfl gv_S0)))))
    rw [if_neg c175] at e
    by_cases c184 : (v2 &&& (31 : Int32)) = (10 : Int32)
    · rw [if_pos c184] at e
      refine gv_sw (pc' := 636) (off := 596) rfl (by rw [c184]; rfl) rfl ?_
      refine gv_rldn (pc' := 637) rfl rfl rfl ?_
      obtain ⟨i185, qi185, e⟩ := gv_bind e
      obtain ⟨v186, qv186, e⟩ := gv_bind e
      refine gv_vS (jc := 12) (n := 0) (rest := []) (stk := [.int v186]) (pc' := 640) rfl rfl rfl rfl rfl rfl rfl rfl rfl (gv_zR gv_z0) rfl (gv_aR gv_a0) (Nat.le_of_ble_eq_true rfl) qi185 (cG_objects_ok qv186) rfl rfl ?_
      refine gv_pop (pc' := 641) rfl rfl rfl ?_
      refine gv_rldn (pc' := 642) rfl rfl rfl ?_
      obtain ⟨i187, qi187, e⟩ := gv_bind e
      obtain ⟨⟨v188, h189⟩, qv188, e⟩ := gv_bind e
      refine gv_vS (jc := 149) (n := 0) (rest := []) (stk := [.int v188]) (pc' := 645) rfl rfl rfl rfl rfl rfl rfl rfl rfl (gv_zR gv_z0) rfl (gv_aR gv_a0) (Nat.le_of_ble_eq_true rfl) qi187 (mM_objects_ok qv188) rfl rfl ?_
      refine gv_pop (pc' := 646) rfl rfl rfl ?_
      refine gv_goto (pc' := 1005) rfl rfl ?_
      exact gv_weak (lw_law_1005_ok ih e) (gv_S1 rfl (gv_S1 rfl (gv_S1 rfl (gv_S1 rfl (gv_S1 rfl gv_S0)))))
    rw [if_neg c184] at e
    by_cases c191 : (v2 &&& (31 : Int32)) = (11 : Int32)
    · rw [if_pos c191] at e
      refine gv_sw (pc' := 649) (off := 609) rfl (by rw [c191]; rfl) rfl ?_
      refine gv_rldn (pc' := 650) rfl rfl rfl ?_
      refine gv_xld (pc' := 651) rfl rfl rfl ?_
      refine gv_ild (pc' := 653) rfl rfl rfl ?_
      refine gv_ic (pc' := 654) (x := 1) rfl rfl rfl ?_
      refine gv_iadd (pc' := 655) rfl rfl ?_
      by_cases c193 : (l4 + (1 : Int32)) < 0
      · rw [if_pos c193] at e; cases e
      rw [if_neg c193] at e
      obtain ⟨v192, qv192, e⟩ := gv_bind e
      refine gv_xal (pc' := 656) rfl rfl c193 qv192 rfl ?_
      obtain ⟨i194, qi194, e⟩ := gv_bind e
      obtain ⟨v195, qv195, e⟩ := gv_bind e
      refine gv_vS (jc := 13) (n := 1) (rest := []) (stk := [.int v195]) (pc' := 659) rfl rfl rfl rfl rfl rfl rfl rfl rfl (gv_zR (gv_zI gv_z0)) rfl (gv_aR (gv_aI gv_a0)) (Nat.le_of_ble_eq_true rfl) qi194 (cG_type_ok qv195) rfl rfl ?_
      refine gv_pop (pc' := 660) rfl rfl rfl ?_
      refine gv_rldn (pc' := 661) rfl rfl rfl ?_
      refine gv_xld (pc' := 662) rfl rfl rfl ?_
      refine gv_ild (pc' := 664) rfl rfl rfl ?_
      refine gv_ic (pc' := 665) (x := 1) rfl rfl rfl ?_
      refine gv_iadd (pc' := 666) rfl rfl ?_
      by_cases c197 : (l4 + (1 : Int32)) < 0
      · rw [if_pos c197] at e; cases e
      rw [if_neg c197] at e
      obtain ⟨v196, qv196, e⟩ := gv_bind e
      refine gv_xal (pc' := 667) rfl rfl c197 qv196 rfl ?_
      obtain ⟨i198, qi198, e⟩ := gv_bind e
      obtain ⟨⟨v199, h200⟩, qv199, e⟩ := gv_bind e
      refine gv_vS (jc := 150) (n := 1) (rest := []) (stk := [.int v199]) (pc' := 670) rfl rfl rfl rfl rfl rfl rfl rfl rfl (gv_zR (gv_zI gv_z0)) rfl (gv_aR (gv_aI gv_a0)) (Nat.le_of_ble_eq_true rfl) qi198 (mM_type_ok qv199) rfl rfl ?_
      refine gv_pop (pc' := 671) rfl rfl rfl ?_
      refine gv_goto (pc' := 1005) rfl rfl ?_
      exact gv_weak (lw_law_1005_ok ih e) (gv_S1 rfl (gv_S1 rfl (gv_S1 rfl (gv_S1 rfl (gv_S1 rfl gv_S0)))))
    rw [if_neg c191] at e
    by_cases c202 : (v2 &&& (31 : Int32)) = (12 : Int32)
    · rw [if_pos c202] at e
      refine gv_sw (pc' := 674) (off := 634) rfl (by rw [c202]; rfl) rfl ?_
      refine gv_rldn (pc' := 675) rfl rfl rfl ?_
      refine gv_xld (pc' := 676) rfl rfl rfl ?_
      refine gv_ild (pc' := 678) rfl rfl rfl ?_
      refine gv_ic (pc' := 679) (x := 1) rfl rfl rfl ?_
      refine gv_iadd (pc' := 680) rfl rfl ?_
      by_cases c204 : (l4 + (1 : Int32)) < 0
      · rw [if_pos c204] at e; cases e
      rw [if_neg c204] at e
      obtain ⟨v203, qv203, e⟩ := gv_bind e
      refine gv_xal (pc' := 681) rfl rfl c204 qv203 rfl ?_
      obtain ⟨i205, qi205, e⟩ := gv_bind e
      obtain ⟨v206, qv206, e⟩ := gv_bind e
      refine gv_vS (jc := 14) (n := 1) (rest := []) (stk := [.int v206]) (pc' := 684) rfl rfl rfl rfl rfl rfl rfl rfl rfl (gv_zR (gv_zI gv_z0)) rfl (gv_aR (gv_aI gv_a0)) (Nat.le_of_ble_eq_true rfl) qi205 (cG_size_ok qv206) rfl rfl ?_
      refine gv_pop (pc' := 685) rfl rfl rfl ?_
      refine gv_rldn (pc' := 686) rfl rfl rfl ?_
      refine gv_xld (pc' := 687) rfl rfl rfl ?_
      refine gv_ild (pc' := 689) rfl rfl rfl ?_
      refine gv_ic (pc' := 690) (x := 1) rfl rfl rfl ?_
      refine gv_iadd (pc' := 691) rfl rfl ?_
      by_cases c208 : (l4 + (1 : Int32)) < 0
      · rw [if_pos c208] at e; cases e
      rw [if_neg c208] at e
      obtain ⟨v207, qv207, e⟩ := gv_bind e
      refine gv_xal (pc' := 692) rfl rfl c208 qv207 rfl ?_
      obtain ⟨i209, qi209, e⟩ := gv_bind e
      obtain ⟨⟨v210, h211⟩, qv210, e⟩ := gv_bind e
      refine gv_vS (jc := 151) (n := 1) (rest := []) (stk := [.int v210]) (pc' := 695) rfl rfl rfl rfl rfl rfl rfl rfl rfl (gv_zR (gv_zI gv_z0)) rfl (gv_aR (gv_aI gv_a0)) (Nat.le_of_ble_eq_true rfl) qi209 (mM_size_ok qv210) rfl rfl ?_
      refine gv_pop (pc' := 696) rfl rfl rfl ?_
      refine gv_goto (pc' := 1005) rfl rfl ?_
      exact gv_weak (lw_law_1005_ok ih e) (gv_S1 rfl (gv_S1 rfl (gv_S1 rfl (gv_S1 rfl (gv_S1 rfl gv_S0)))))
    rw [if_neg c202] at e
    by_cases c213 : (v2 &&& (31 : Int32)) = (13 : Int32)
    · rw [if_pos c213] at e
      refine gv_sw (pc' := 699) (off := 659) rfl (by rw [c213]; rfl) rfl ?_
      refine gv_rldn (pc' := 700) rfl rfl rfl ?_
      refine gv_xld (pc' := 701) rfl rfl rfl ?_
      refine gv_ild (pc' := 703) rfl rfl rfl ?_
      refine gv_ic (pc' := 704) (x := 1) rfl rfl rfl ?_
      refine gv_iadd (pc' := 705) rfl rfl ?_
      by_cases c215 : (l4 + (1 : Int32)) < 0
      · rw [if_pos c215] at e; cases e
      rw [if_neg c215] at e
      obtain ⟨v214, qv214, e⟩ := gv_bind e
      refine gv_xal (pc' := 706) rfl rfl c215 qv214 rfl ?_
      refine gv_xld (pc' := 707) rfl rfl rfl ?_
      refine gv_ild (pc' := 709) rfl rfl rfl ?_
      refine gv_ic (pc' := 710) (x := 2) rfl rfl rfl ?_
      refine gv_iadd (pc' := 711) rfl rfl ?_
      by_cases c217 : (l4 + (2 : Int32)) < 0
      · rw [if_pos c217] at e; cases e
      rw [if_neg c217] at e
      obtain ⟨v216, qv216, e⟩ := gv_bind e
      refine gv_xal (pc' := 712) rfl rfl c217 qv216 rfl ?_
      refine gv_xld (pc' := 713) rfl rfl rfl ?_
      refine gv_ild (pc' := 715) rfl rfl rfl ?_
      refine gv_ic (pc' := 716) (x := 3) rfl rfl rfl ?_
      refine gv_iadd (pc' := 717) rfl rfl ?_
      by_cases c219 : (l4 + (3 : Int32)) < 0
      · rw [if_pos c219] at e; cases e
      rw [if_neg c219] at e
      obtain ⟨v218, qv218, e⟩ := gv_bind e
      refine gv_xal (pc' := 718) rfl rfl c219 qv218 rfl ?_
      refine gv_rldn (pc' := 719) rfl rfl rfl ?_
      obtain ⟨⟨v220, h221⟩, qv220, e⟩ := gv_bind e
      refine gv_sS (jc := 61) (n := 5) (rest := []) (stk := [.int v220]) (pc' := 722) rfl rfl rfl rfl rfl rfl rfl rfl rfl (gv_zR (gv_zI (gv_zI (gv_zI (gv_zR gv_z0))))) rfl (gv_aR (gv_aI (gv_aI (gv_aI (gv_aR gv_a0))))) (Nat.le_of_ble_eq_true rfl) (lw_get_ok qv220) rfl rfl ?_
      refine gv_ist (pc' := 724) rfl rfl (gv_Ci rfl) rfl ?_
      refine gv_rldn (pc' := 725) rfl rfl rfl ?_
      refine gv_xld (pc' := 726) rfl rfl rfl ?_
      refine gv_ild (pc' := 728) rfl rfl rfl ?_
      refine gv_ic (pc' := 729) (x := 1) rfl rfl rfl ?_
      refine gv_iadd (pc' := 730) rfl rfl ?_
      by_cases c224 : (l4 + (1 : Int32)) < 0
      · rw [if_pos c224] at e; cases e
      rw [if_neg c224] at e
      obtain ⟨v223, qv223, e⟩ := gv_bind e
      refine gv_xal (pc' := 731) rfl rfl c224 qv223 rfl ?_
      refine gv_xld (pc' := 732) rfl rfl rfl ?_
      refine gv_ild (pc' := 734) rfl rfl rfl ?_
      refine gv_ic (pc' := 735) (x := 2) rfl rfl rfl ?_
      refine gv_iadd (pc' := 736) rfl rfl ?_
      by_cases c226 : (l4 + (2 : Int32)) < 0
      · rw [if_pos c226] at e; cases e
      rw [if_neg c226] at e
      obtain ⟨v225, qv225, e⟩ := gv_bind e
      refine gv_xal (pc' := 737) rfl rfl c226 qv225 rfl ?_
      refine gv_xld (pc' := 738) rfl rfl rfl ?_
      refine gv_ild (pc' := 740) rfl rfl rfl ?_
      refine gv_ic (pc' := 741) (x := 3) rfl rfl rfl ?_
      refine gv_iadd (pc' := 742) rfl rfl ?_
      by_cases c228 : (l4 + (3 : Int32)) < 0
      · rw [if_pos c228] at e; cases e
      rw [if_neg c228] at e
      obtain ⟨v227, qv227, e⟩ := gv_bind e
      refine gv_xal (pc' := 743) rfl rfl c228 qv227 rfl ?_
      obtain ⟨i229, qi229, e⟩ := gv_bind e
      obtain ⟨⟨v230, h231⟩, qv230, e⟩ := gv_bind e
      refine gv_vS (jc := 152) (n := 3) (rest := []) (stk := [.long v230]) (pc' := 746) rfl rfl rfl rfl rfl rfl rfl rfl rfl (gv_zR (gv_zI (gv_zI (gv_zI gv_z0)))) rfl (gv_aR (gv_aI (gv_aI (gv_aI gv_a0)))) (Nat.le_of_ble_eq_true rfl) qi229 (mM_get_ok qv230) rfl rfl ?_
      refine gv_jst (pc' := 748) rfl rfl (gv_Ci rfl) rfl rfl ?_
      refine gv_goto (pc' := 1005) rfl rfl ?_
      exact gv_weak (lw_law_1005_ok ih e) (gv_S1 rfl (gv_S1 rfl (gv_S1 rfl (gv_S1 rfl (gv_S1 rfl gv_S0)))))
    rw [if_neg c213] at e
    by_cases c233 : (v2 &&& (31 : Int32)) = (14 : Int32)
    · rw [if_pos c233] at e
      refine gv_sw (pc' := 751) (off := 711) rfl (by rw [c233]; rfl) rfl ?_
      refine gv_rldn (pc' := 752) rfl rfl rfl ?_
      refine gv_xld (pc' := 753) rfl rfl rfl ?_
      refine gv_ild (pc' := 755) rfl rfl rfl ?_
      refine gv_ic (pc' := 756) (x := 1) rfl rfl rfl ?_
      refine gv_iadd (pc' := 757) rfl rfl ?_
      by_cases c235 : (l4 + (1 : Int32)) < 0
      · rw [if_pos c235] at e; cases e
      rw [if_neg c235] at e
      obtain ⟨v234, qv234, e⟩ := gv_bind e
      refine gv_xal (pc' := 758) rfl rfl c235 qv234 rfl ?_
      refine gv_rldn (pc' := 759) rfl rfl rfl ?_
      obtain ⟨⟨v236, h237⟩, qv236, e⟩ := gv_bind e
      refine gv_sS (jc := 68) (n := 3) (rest := []) (stk := [.int v236]) (pc' := 762) rfl rfl rfl rfl rfl rfl rfl rfl rfl (gv_zR (gv_zI (gv_zR gv_z0))) rfl (gv_aR (gv_aI (gv_aR gv_a0))) (Nat.le_of_ble_eq_true rfl) (lw_pass_ok qv236) rfl rfl ?_
      refine gv_ist (pc' := 764) rfl rfl (gv_Ci rfl) rfl ?_
      refine gv_rldn (pc' := 765) rfl rfl rfl ?_
      refine gv_xld (pc' := 766) rfl rfl rfl ?_
      refine gv_ild (pc' := 768) rfl rfl rfl ?_
      refine gv_ic (pc' := 769) (x := 1) rfl rfl rfl ?_
      refine gv_iadd (pc' := 770) rfl rfl ?_
      by_cases c240 : (l4 + (1 : Int32)) < 0
      · rw [if_pos c240] at e; cases e
      rw [if_neg c240] at e
      obtain ⟨v239, qv239, e⟩ := gv_bind e
      refine gv_xal (pc' := 771) rfl rfl c240 qv239 rfl ?_
      obtain ⟨i241, qi241, e⟩ := gv_bind e
      obtain ⟨⟨v242, h243⟩, qv242, e⟩ := gv_bind e
      refine gv_vS (jc := 153) (n := 1) (rest := []) (stk := [.int v242]) (pc' := 774) rfl rfl rfl rfl rfl rfl rfl rfl rfl (gv_zR (gv_zI gv_z0)) rfl (gv_aR (gv_aI gv_a0)) (Nat.le_of_ble_eq_true rfl) qi241 (mM_pass_ok qv242) rfl rfl ?_
      refine gv_ist (pc' := 776) rfl rfl (gv_Ci rfl) rfl ?_
      refine gv_goto (pc' := 1005) rfl rfl ?_
      exact gv_weak (lw_law_1005_ok ih e) (gv_S1 rfl (gv_S1 rfl (gv_S1 rfl (gv_S1 rfl (gv_S1 rfl gv_S0)))))
    rw [if_neg c233] at e
    by_cases c245 : (v2 &&& (31 : Int32)) = (15 : Int32)
    · rw [if_pos c245] at e
      refine gv_sw (pc' := 779) (off := 739) rfl (by rw [c245]; rfl) rfl ?_
      refine gv_rldn (pc' := 780) rfl rfl rfl ?_
      obtain ⟨i246, qi246, e⟩ := gv_bind e
      obtain ⟨v247, qv247, e⟩ := gv_bind e
      refine gv_vS (jc := 15) (n := 0) (rest := []) (stk := [.int v247]) (pc' := 783) rfl rfl rfl rfl rfl rfl rfl rfl rfl (gv_zR gv_z0) rfl (gv_aR gv_a0) (Nat.le_of_ble_eq_true rfl) qi246 (cG_holders_ok qv247) rfl rfl ?_
      refine gv_pop (pc' := 784) rfl rfl rfl ?_
      refine gv_rldn (pc' := 785) rfl rfl rfl ?_
      obtain ⟨i248, qi248, e⟩ := gv_bind e
      obtain ⟨⟨v249, h250⟩, qv249, e⟩ := gv_bind e
      refine gv_vS (jc := 154) (n := 0) (rest := []) (stk := [.int v249]) (pc' := 788) rfl rfl rfl rfl rfl rfl rfl rfl rfl (gv_zR gv_z0) rfl (gv_aR gv_a0) (Nat.le_of_ble_eq_true rfl) qi248 (mM_holders_ok qv249) rfl rfl ?_
      refine gv_pop (pc' := 789) rfl rfl rfl ?_
      refine gv_goto (pc' := 1005) rfl rfl ?_
      exact gv_weak (lw_law_1005_ok ih e) (gv_S1 rfl (gv_S1 rfl (gv_S1 rfl (gv_S1 rfl (gv_S1 rfl gv_S0)))))
    rw [if_neg c245] at e
    by_cases c252 : (v2 &&& (31 : Int32)) = (16 : Int32)
    · rw [if_pos c252] at e
      refine gv_sw (pc' := 792) (off := 752) rfl (by rw [c252]; rfl) rfl ?_
      refine gv_rldn (pc' := 793) rfl rfl rfl ?_
      refine gv_xld (pc' := 794) rfl rfl rfl ?_
      refine gv_ild (pc' := 796) rfl rfl rfl ?_
      refine gv_ic (pc' := 797) (x := 1) rfl rfl rfl ?_
      refine gv_iadd (pc' := 798) rfl rfl ?_
      by_cases c254 : (l4 + (1 : Int32)) < 0
      · rw [if_pos c254] at e; cases e
      rw [if_neg c254] at e
      obtain ⟨v253, qv253, e⟩ := gv_bind e
      refine gv_xal (pc' := 799) rfl rfl c254 qv253 rfl ?_
      refine gv_xld (pc' := 800) rfl rfl rfl ?_
      refine gv_ild (pc' := 802) rfl rfl rfl ?_
      refine gv_ic (pc' := 803) (x := 2) rfl rfl rfl ?_
      refine gv_iadd (pc' := 804) rfl rfl ?_
      by_cases c256 : (l4 + (2 : Int32)) < 0
      · rw [if_pos c256] at e; cases e
      rw [if_neg c256] at e
      obtain ⟨v255, qv255, e⟩ := gv_bind e
      refine gv_xal (pc' := 805) rfl rfl c256 qv255 rfl ?_
      refine gv_rldn (pc' := 806) rfl rfl rfl ?_
      obtain ⟨⟨v257, h258⟩, qv257, e⟩ := gv_bind e
      refine gv_sS (jc := 71) (n := 4) (rest := []) (stk := [.int v257]) (pc' := 809) rfl rfl rfl rfl rfl rfl rfl rfl rfl (gv_zR (gv_zI (gv_zI (gv_zR gv_z0)))) rfl (gv_aR (gv_aI (gv_aI (gv_aR gv_a0)))) (Nat.le_of_ble_eq_true rfl) (lw_write_ok qv257) rfl rfl ?_
      refine gv_ist (pc' := 811) rfl rfl (gv_Ci rfl) rfl ?_
      refine gv_rldn (pc' := 812) rfl rfl rfl ?_
      refine gv_xld (pc' := 813) rfl rfl rfl ?_
      refine gv_ild (pc' := 815) rfl rfl rfl ?_
      refine gv_ic (pc' := 816) (x := 1) rfl rfl rfl ?_
      refine gv_iadd (pc' := 817) rfl rfl ?_
      by_cases c261 : (l4 + (1 : Int32)) < 0
      · rw [if_pos c261] at e; cases e
      rw [if_neg c261] at e
      obtain ⟨v260, qv260, e⟩ := gv_bind e
      refine gv_xal (pc' := 818) rfl rfl c261 qv260 rfl ?_
      refine gv_xld (pc' := 819) rfl rfl rfl ?_
      refine gv_ild (pc' := 821) rfl rfl rfl ?_
      refine gv_ic (pc' := 822) (x := 2) rfl rfl rfl ?_
      refine gv_iadd (pc' := 823) rfl rfl ?_
      by_cases c263 : (l4 + (2 : Int32)) < 0
      · rw [if_pos c263] at e; cases e
      rw [if_neg c263] at e
      obtain ⟨v262, qv262, e⟩ := gv_bind e
      refine gv_xal (pc' := 824) rfl rfl c263 qv262 rfl ?_
      obtain ⟨i264, qi264, e⟩ := gv_bind e
      obtain ⟨⟨v265, h266⟩, qv265, e⟩ := gv_bind e
      refine gv_vS (jc := 155) (n := 2) (rest := []) (stk := [.int v265]) (pc' := 827) rfl rfl rfl rfl rfl rfl rfl rfl rfl (gv_zR (gv_zI (gv_zI gv_z0))) rfl (gv_aR (gv_aI (gv_aI gv_a0))) (Nat.le_of_ble_eq_true rfl) qi264 (mM_write_ok qv265) rfl rfl ?_
      refine gv_ist (pc' := 829) rfl rfl (gv_Ci rfl) rfl ?_
      refine gv_goto (pc' := 1005) rfl rfl ?_
      exact gv_weak (lw_law_1005_ok ih e) (gv_S1 rfl (gv_S1 rfl (gv_S1 rfl (gv_S1 rfl (gv_S1 rfl gv_S0)))))
    rw [if_neg c252] at e
    by_cases c268 : (v2 &&& (31 : Int32)) = (17 : Int32)
    · rw [if_pos c268] at e
      refine gv_sw (pc' := 832) (off := 792) rfl (by rw [c268]; rfl) rfl ?_
      refine gv_rldn (pc' := 833) rfl rfl rfl ?_
      refine gv_rldn (pc' := 834) rfl rfl rfl ?_
      obtain ⟨⟨v269, h270⟩, qv269, e⟩ := gv_bind e
      refine gv_sS (jc := 97) (n := 2) (rest := []) (stk := [.int v269]) (pc' := 837) rfl rfl rfl rfl rfl rfl rfl rfl rfl (gv_zR (gv_zR gv_z0)) rfl (gv_aR (gv_aR gv_a0)) (Nat.le_of_ble_eq_true rfl) (lw_read_ok qv269) rfl rfl ?_
      refine gv_ist (pc' := 839) rfl rfl (gv_Ci rfl) rfl ?_
      refine gv_rldn (pc' := 840) rfl rfl rfl ?_
      obtain ⟨i272, qi272, e⟩ := gv_bind e
      obtain ⟨⟨v273, h274⟩, qv273, e⟩ := gv_bind e
      refine gv_vS (jc := 170) (n := 0) (rest := []) (stk := [.int v273]) (pc' := 843) rfl rfl rfl rfl rfl rfl rfl rfl rfl (gv_zR gv_z0) rfl (gv_aR gv_a0) (Nat.le_of_ble_eq_true rfl) qi272 (mM_read_ok qv273) rfl rfl ?_
      refine gv_ist (pc' := 845) rfl rfl (gv_Ci rfl) rfl ?_
      refine gv_goto (pc' := 1005) rfl rfl ?_
      exact gv_weak (lw_law_1005_ok ih e) (gv_S1 rfl (gv_S1 rfl (gv_S1 rfl (gv_S1 rfl (gv_S1 rfl gv_S0)))))
    rw [if_neg c268] at e
    by_cases c276 : (v2 &&& (31 : Int32)) = (18 : Int32)
    · rw [if_pos c276] at e
      refine gv_sw (pc' := 848) (off := 808) rfl (by rw [c276]; rfl) rfl ?_
      refine gv_rldn (pc' := 849) rfl rfl rfl ?_
      obtain ⟨i277, qi277, e⟩ := gv_bind e
      obtain ⟨v278, qv278, e⟩ := gv_bind e
      refine gv_vS (jc := 16) (n := 0) (rest := []) (stk := [.int v278]) (pc' := 852) rfl rfl rfl rfl rfl rfl rfl rfl rfl (gv_zR gv_z0) rfl (gv_aR gv_a0) (Nat.le_of_ble_eq_true rfl) qi277 (cG_found_ok qv278) rfl rfl ?_
      refine gv_pop (pc' := 853) rfl rfl rfl ?_
      refine gv_rldn (pc' := 854) rfl rfl rfl ?_
      obtain ⟨i279, qi279, e⟩ := gv_bind e
      obtain ⟨⟨v280, h281⟩, qv280, e⟩ := gv_bind e
      refine gv_vS (jc := 189) (n := 0) (rest := []) (stk := [.int v280]) (pc' := 857) rfl rfl rfl rfl rfl rfl rfl rfl rfl (gv_zR gv_z0) rfl (gv_aR gv_a0) (Nat.le_of_ble_eq_true rfl) qi279 (mM_found_ok qv280) rfl rfl ?_
      refine gv_pop (pc' := 858) rfl rfl rfl ?_
      refine gv_goto (pc' := 1005) rfl rfl ?_
      exact gv_weak (lw_law_1005_ok ih e) (gv_S1 rfl (gv_S1 rfl (gv_S1 rfl (gv_S1 rfl (gv_S1 rfl gv_S0)))))
    rw [if_neg c276] at e
    by_cases c283 : (v2 &&& (31 : Int32)) = (19 : Int32)
    · rw [if_pos c283] at e
      refine gv_sw (pc' := 861) (off := 821) rfl (by rw [c283]; rfl) rfl ?_
      refine gv_rldn (pc' := 862) rfl rfl rfl ?_
      refine gv_xld (pc' := 863) rfl rfl rfl ?_
      refine gv_ild (pc' := 865) rfl rfl rfl ?_
      refine gv_ic (pc' := 866) (x := 1) rfl rfl rfl ?_
      refine gv_iadd (pc' := 867) rfl rfl ?_
      by_cases c285 : (l4 + (1 : Int32)) < 0
      · rw [if_pos c285] at e; cases e
      rw [if_neg c285] at e
      obtain ⟨v284, qv284, e⟩ := gv_bind e
      refine gv_xal (pc' := 868) rfl rfl c285 qv284 rfl ?_
      refine gv_i2l (pc' := 869) rfl rfl ?_
      refine gv_bp (pc' := 871) (x := 32) rfl rfl rfl ?_
      refine gv_lshl (pc' := 872) rfl rfl ?_
      refine gv_xld (pc' := 873) rfl rfl rfl ?_
      refine gv_ild (pc' := 875) rfl rfl rfl ?_
      refine gv_ic (pc' := 876) (x := 2) rfl rfl rfl ?_
      refine gv_iadd (pc' := 877) rfl rfl ?_
      by_cases c287 : (l4 + (2 : Int32)) < 0
      · rw [if_pos c287] at e; cases e
      rw [if_neg c287] at e
      obtain ⟨v286, qv286, e⟩ := gv_bind e
      refine gv_xal (pc' := 878) rfl rfl c287 qv286 rfl ?_
      refine gv_i2l (pc' := 879) rfl rfl ?_
      refine gv_ld (pc' := 882) (x := 4294967295) rfl rfl rfl ?_
      refine gv_land (pc' := 883) rfl rfl ?_
      refine gv_lor (pc' := 884) rfl rfl ?_
      refine gv_xld (pc' := 885) rfl rfl rfl ?_
      refine gv_ild (pc' := 887) rfl rfl rfl ?_
      refine gv_ic (pc' := 888) (x := 3) rfl rfl rfl ?_
      refine gv_iadd (pc' := 889) rfl rfl ?_
      by_cases c289 : (l4 + (3 : Int32)) < 0
      · rw [if_pos c289] at e; cases e
      rw [if_neg c289] at e
      obtain ⟨v288, qv288, e⟩ := gv_bind e
      refine gv_xal (pc' := 890) rfl rfl c289 qv288 rfl ?_
      obtain ⟨i290, qi290, e⟩ := gv_bind e
      obtain ⟨⟨v291, h292⟩, qv291, e⟩ := gv_bind e
      refine gv_vS (jc := 17) (n := 2) (rest := []) (stk := [.int v291]) (pc' := 893) rfl rfl rfl rfl rfl rfl rfl rfl rfl (gv_zR (gv_zJ (gv_zI gv_z0))) rfl (gv_aR (gv_aJ (gv_aI gv_a0))) (Nat.le_of_ble_eq_true rfl) qi290 (cG_feed_ok qv291) rfl rfl ?_
      refine gv_pop (pc' := 894) rfl rfl rfl ?_
      refine gv_rldn (pc' := 895) rfl rfl rfl ?_
      refine gv_xld (pc' := 896) rfl rfl rfl ?_
      refine gv_ild (pc' := 898) rfl rfl rfl ?_
      refine gv_ic (pc' := 899) (x := 1) rfl rfl rfl ?_
      refine gv_iadd (pc' := 900) rfl rfl ?_
      by_cases c295 : (l4 + (1 : Int32)) < 0
      · rw [if_pos c295] at e; cases e
      rw [if_neg c295] at e
      obtain ⟨v294, qv294, e⟩ := gv_bind e
      refine gv_xal (pc' := 901) rfl rfl c295 qv294 rfl ?_
      refine gv_i2l (pc' := 902) rfl rfl ?_
      refine gv_bp (pc' := 904) (x := 32) rfl rfl rfl ?_
      refine gv_lshl (pc' := 905) rfl rfl ?_
      refine gv_xld (pc' := 906) rfl rfl rfl ?_
      refine gv_ild (pc' := 908) rfl rfl rfl ?_
      refine gv_ic (pc' := 909) (x := 2) rfl rfl rfl ?_
      refine gv_iadd (pc' := 910) rfl rfl ?_
      by_cases c297 : (l4 + (2 : Int32)) < 0
      · rw [if_pos c297] at e; cases e
      rw [if_neg c297] at e
      obtain ⟨v296, qv296, e⟩ := gv_bind e
      refine gv_xal (pc' := 911) rfl rfl c297 qv296 rfl ?_
      refine gv_i2l (pc' := 912) rfl rfl ?_
      refine gv_ld (pc' := 915) (x := 4294967295) rfl rfl rfl ?_
      refine gv_land (pc' := 916) rfl rfl ?_
      refine gv_lor (pc' := 917) rfl rfl ?_
      refine gv_xld (pc' := 918) rfl rfl rfl ?_
      refine gv_ild (pc' := 920) rfl rfl rfl ?_
      refine gv_ic (pc' := 921) (x := 3) rfl rfl rfl ?_
      refine gv_iadd (pc' := 922) rfl rfl ?_
      by_cases c299 : (l4 + (3 : Int32)) < 0
      · rw [if_pos c299] at e; cases e
      rw [if_neg c299] at e
      obtain ⟨v298, qv298, e⟩ := gv_bind e
      refine gv_xal (pc' := 923) rfl rfl c299 qv298 rfl ?_
      obtain ⟨i300, qi300, e⟩ := gv_bind e
      obtain ⟨⟨v301, h302⟩, qv301, e⟩ := gv_bind e
      refine gv_vS (jc := 190) (n := 2) (rest := []) (stk := [.int v301]) (pc' := 926) rfl rfl rfl rfl rfl rfl rfl rfl rfl (gv_zR (gv_zJ (gv_zI gv_z0))) rfl (gv_aR (gv_aJ (gv_aI gv_a0))) (Nat.le_of_ble_eq_true rfl) qi300 (mM_feed_ok qv301) rfl rfl ?_
      refine gv_pop (pc' := 927) rfl rfl rfl ?_
      refine gv_goto (pc' := 1005) rfl rfl ?_
      exact gv_weak (lw_law_1005_ok ih e) (gv_S1 rfl (gv_S1 rfl (gv_S1 rfl (gv_S1 rfl (gv_S1 rfl gv_S0)))))
    rw [if_neg c283] at e
    by_cases c304 : (v2 &&& (31 : Int32)) = (20 : Int32)
    · rw [if_pos c304] at e
      refine gv_sw (pc' := 930) (off := 890) rfl (by rw [c304]; rfl) rfl ?_
      refine gv_rldn (pc' := 931) rfl rfl rfl ?_
      obtain ⟨i305, qi305, e⟩ := gv_bind e
      obtain ⟨⟨v306, h307⟩, qv306, e⟩ := gv_bind e
      refine gv_vS (jc := 20) (n := 0) (rest := []) (stk := [.int v306]) (pc' := 934) rfl rfl rfl rfl rfl rfl rfl rfl rfl (gv_zR gv_z0) rfl (gv_aR gv_a0) (Nat.le_of_ble_eq_true rfl) qi305 (cG_wipe_ok qv306) rfl rfl ?_
      refine gv_pop (pc' := 935) rfl rfl rfl ?_
      refine gv_rldn (pc' := 936) rfl rfl rfl ?_
      obtain ⟨i309, qi309, e⟩ := gv_bind e
      obtain ⟨⟨v310, h311⟩, qv310, e⟩ := gv_bind e
      refine gv_vS (jc := 191) (n := 0) (rest := []) (stk := [.int v310]) (pc' := 939) rfl rfl rfl rfl rfl rfl rfl rfl rfl (gv_zR gv_z0) rfl (gv_aR gv_a0) (Nat.le_of_ble_eq_true rfl) qi309 (mM_wipe_ok qv310) rfl rfl ?_
      refine gv_pop (pc' := 940) rfl rfl rfl ?_
      refine gv_goto (pc' := 1005) rfl rfl ?_
      exact gv_weak (lw_law_1005_ok ih e) (gv_S1 rfl (gv_S1 rfl (gv_S1 rfl (gv_S1 rfl (gv_S1 rfl gv_S0)))))
    rw [if_neg c304] at e
    by_cases c313 : (v2 &&& (31 : Int32)) = (21 : Int32)
    · rw [if_pos c313] at e
      refine gv_sw (pc' := 943) (off := 903) rfl (by rw [c313]; rfl) rfl ?_
      refine gv_rldn (pc' := 944) rfl rfl rfl ?_
      refine gv_xld (pc' := 945) rfl rfl rfl ?_
      refine gv_ild (pc' := 947) rfl rfl rfl ?_
      refine gv_ic (pc' := 948) (x := 1) rfl rfl rfl ?_
      refine gv_iadd (pc' := 949) rfl rfl ?_
      by_cases c315 : (l4 + (1 : Int32)) < 0
      · rw [if_pos c315] at e; cases e
      rw [if_neg c315] at e
      obtain ⟨v314, qv314, e⟩ := gv_bind e
      refine gv_xal (pc' := 950) rfl rfl c315 qv314 rfl ?_
      refine gv_xld (pc' := 951) rfl rfl rfl ?_
      refine gv_ild (pc' := 953) rfl rfl rfl ?_
      refine gv_ic (pc' := 954) (x := 2) rfl rfl rfl ?_
      refine gv_iadd (pc' := 955) rfl rfl ?_
      by_cases c317 : (l4 + (2 : Int32)) < 0
      · rw [if_pos c317] at e; cases e
      rw [if_neg c317] at e
      obtain ⟨v316, qv316, e⟩ := gv_bind e
      refine gv_xal (pc' := 956) rfl rfl c317 qv316 rfl ?_
      obtain ⟨i318, qi318, e⟩ := gv_bind e
      obtain ⟨⟨v319, h320⟩, qv319, e⟩ := gv_bind e
      refine gv_vS (jc := 21) (n := 2) (rest := []) (stk := [.int v319]) (pc' := 959) rfl rfl rfl rfl rfl rfl rfl rfl rfl (gv_zR (gv_zI (gv_zI gv_z0))) rfl (gv_aR (gv_aI (gv_aI gv_a0))) (Nat.le_of_ble_eq_true rfl) qi318 (cG_spoil_ok qv319) rfl rfl ?_
      refine gv_pop (pc' := 960) rfl rfl rfl ?_
      refine gv_rldn (pc' := 961) rfl rfl rfl ?_
      refine gv_xld (pc' := 962) rfl rfl rfl ?_
      refine gv_ild (pc' := 964) rfl rfl rfl ?_
      refine gv_ic (pc' := 965) (x := 1) rfl rfl rfl ?_
      refine gv_iadd (pc' := 966) rfl rfl ?_
      by_cases c323 : (l4 + (1 : Int32)) < 0
      · rw [if_pos c323] at e; cases e
      rw [if_neg c323] at e
      obtain ⟨v322, qv322, e⟩ := gv_bind e
      refine gv_xal (pc' := 967) rfl rfl c323 qv322 rfl ?_
      refine gv_xld (pc' := 968) rfl rfl rfl ?_
      refine gv_ild (pc' := 970) rfl rfl rfl ?_
      refine gv_ic (pc' := 971) (x := 2) rfl rfl rfl ?_
      refine gv_iadd (pc' := 972) rfl rfl ?_
      by_cases c325 : (l4 + (2 : Int32)) < 0
      · rw [if_pos c325] at e; cases e
      rw [if_neg c325] at e
      obtain ⟨v324, qv324, e⟩ := gv_bind e
      refine gv_xal (pc' := 973) rfl rfl c325 qv324 rfl ?_
      obtain ⟨i326, qi326, e⟩ := gv_bind e
      obtain ⟨⟨v327, h328⟩, qv327, e⟩ := gv_bind e
      refine gv_vS (jc := 192) (n := 2) (rest := []) (stk := [.int v327]) (pc' := 976) rfl rfl rfl rfl rfl rfl rfl rfl rfl (gv_zR (gv_zI (gv_zI gv_z0))) rfl (gv_aR (gv_aI (gv_aI gv_a0))) (Nat.le_of_ble_eq_true rfl) qi326 (mM_spoil_ok qv327) rfl rfl ?_
      refine gv_pop (pc' := 977) rfl rfl rfl ?_
      refine gv_goto (pc' := 1005) rfl rfl ?_
      exact gv_weak (lw_law_1005_ok ih e) (gv_S1 rfl (gv_S1 rfl (gv_S1 rfl (gv_S1 rfl (gv_S1 rfl gv_S0)))))
    rw [if_neg c313] at e
    by_cases c330 : (v2 &&& (31 : Int32)) = (22 : Int32)
    · rw [if_pos c330] at e
      refine gv_sw (pc' := 980) (off := 940) rfl (by rw [c330]; rfl) rfl ?_
      refine gv_rldn (pc' := 981) rfl rfl rfl ?_
      refine gv_xld (pc' := 982) rfl rfl rfl ?_
      refine gv_ild (pc' := 984) rfl rfl rfl ?_
      refine gv_ic (pc' := 985) (x := 1) rfl rfl rfl ?_
      refine gv_iadd (pc' := 986) rfl rfl ?_
      by_cases c332 : (l4 + (1 : Int32)) < 0
      · rw [if_pos c332] at e; cases e
      rw [if_neg c332] at e
      obtain ⟨v331, qv331, e⟩ := gv_bind e
      refine gv_xal (pc' := 987) rfl rfl c332 qv331 rfl ?_
      obtain ⟨i333, qi333, e⟩ := gv_bind e
      obtain ⟨v334, qv334, e⟩ := gv_bind e
      refine gv_vS (jc := 22) (n := 1) (rest := []) (stk := [.int v334]) (pc' := 990) rfl rfl rfl rfl rfl rfl rfl rfl rfl (gv_zR (gv_zI gv_z0)) rfl (gv_aR (gv_aI gv_a0)) (Nat.le_of_ble_eq_true rfl) qi333 (cG_byteAt_ok qv334) rfl rfl ?_
      refine gv_rldn (pc' := 991) rfl rfl rfl ?_
      refine gv_xld (pc' := 992) rfl rfl rfl ?_
      refine gv_ild (pc' := 994) rfl rfl rfl ?_
      refine gv_ic (pc' := 995) (x := 1) rfl rfl rfl ?_
      refine gv_iadd (pc' := 996) rfl rfl ?_
      by_cases c336 : (l4 + (1 : Int32)) < 0
      · rw [if_pos c336] at e; cases e
      rw [if_neg c336] at e
      obtain ⟨v335, qv335, e⟩ := gv_bind e
      refine gv_xal (pc' := 997) rfl rfl c336 qv335 rfl ?_
      obtain ⟨i337, qi337, e⟩ := gv_bind e
      obtain ⟨⟨v338, h339⟩, qv338, e⟩ := gv_bind e
      refine gv_vS (jc := 193) (n := 1) (rest := [.int v334]) (stk := [.int v338, .int v334]) (pc' := 1000) rfl rfl rfl rfl rfl rfl rfl rfl rfl (gv_zR (gv_zI gv_z0)) rfl (gv_aR (gv_aI gv_a0)) (Nat.le_of_ble_eq_true rfl) qi337 (mM_byteAt_ok qv338) rfl rfl ?_
      by_cases c341 : v334 = v338
      · rw [if_pos c341] at e
        refine gv_cmT (pc' := 1005) rfl (gv_eqT2 c341) rfl ?_
        exact gv_weak (lw_law_1005_ok ih e) (gv_S1 rfl (gv_S1 rfl (gv_S1 rfl (gv_S1 rfl (gv_S1 rfl gv_S0)))))
      rw [if_neg c341] at e
      refine gv_cmF (pc' := 1003) rfl (gv_eqF2 c341) rfl rfl ?_
      refine gv_ic (pc' := 1004) (x := 0) rfl rfl rfl ?_
      cases e
      exact gv_retZ rfl rfl (by decide)
    rw [if_neg c330] at e
    refine gv_sw (pc' := 1005) (off := 965) rfl (gv_tabd (gv_N1 c4 (gv_N1 c16 (gv_N1 c36 (gv_N1 c60 (gv_N1 c76 (gv_N1 c99 (gv_N1 c115 (gv_N1 c142 (gv_N1 c162 (gv_N1 c175 (gv_N1 c184 (gv_N1 c191 (gv_N1 c202 (gv_N1 c213 (gv_N1 c233 (gv_N1 c245 (gv_N1 c252 (gv_N1 c268 (gv_N1 c276 (gv_N1 c283 (gv_N1 c304 (gv_N1 c313 (gv_N1 c330 gv_N0))))))))))))))))))))))) (by decide)) rfl ?_
    exact gv_weak (lw_law_1005_ok ih e) (gv_S1 rfl (gv_S1 rfl (gv_S1 rfl (gv_S1 rfl (gv_S1 rfl gv_S0)))))
end
section
/-! the heap that the constructors make: its shape stands, its numbers are the functions I (ints) and J (longs), by cell and place; z is what was thrown since -/
def gm_lay (a : Nat) : Nat × List (Nat × Nat) :=
  if a < 3 then (match a with
    | 0 => (0, [(0, 1), (0, 163), (0, 165), (0, 169), (0, 187), (1, 0)])
    | 1 => (1, [(0, 2), (1, 0)])
    | _ => (103, (List.range 32).map fun i => (0, 3 + 5 * i)))
  else if a < 163 then (if (a - 3) % 5 = 0 then (2, [(0, a + 1), (0, a + 2), (0, a + 3), (0, a + 4), (1, 0), (1, 0), (1, 0), (1, 0), (1, 0), (1, 0), (2, 0)]) else (100, List.replicate 8 (1, 0)))
  else if a < 188 then (match a - 163 with
    | 0 => (3, [(0, 164), (1, 0)])
    | 1 => (100, List.replicate 300 (1, 0))
    | 2 => (4, [(0, 166), (1, 0), (0, 167), (0, 168), (1, 0)])
    | 3 => (100, List.replicate 4 (1, 0))
    | 4 => (101, List.replicate 4 (2, 0))
    | 5 => (100, List.replicate 4 (1, 0))
    | 6 => (5, [(0, 170), (0, 172), (1, 0), (0, 173), (1, 0)])
    | 7 => (3, [(0, 171), (1, 0)])
    | 8 => (100, List.replicate 300 (1, 0))
    | 9 => (100, List.replicate 32 (1, 0))
    | 10 => (104, (List.range 13).map fun i => (0, 174 + i))
    | 24 => (6, List.replicate 7 (1, 0))
    | _ => (100, List.replicate 6 (1, 0)))
  else (match a - 188 with
    | 0 => (7, [(1, 0), (1, 0), (0, 189), (0, 190), (0, 191), (0, 192), (0, 193), (0, 194), (0, 195), (0, 196), (1, 0), (0, 197), (1, 0), (0, 198), (0, 199), (1, 0), (0, 200), (1, 0), (1, 0), (0, 201), (0, 202), (0, 203), (0, 204), (0, 205), (0, 206), (0, 207), (1, 0), (1, 0), (0, 208), (1, 0), (0, 209), (1, 0), (1, 0), (1, 0), (0, 210), (1, 0), (1, 0)])
    | 1 => (100, List.replicate 32 (1, 0))
    | 2 => (100, List.replicate 32 (1, 0))
    | 3 => (102, List.replicate 32 (1, 0))
    | 4 => (101, List.replicate 32 (2, 0))
    | 5 => (100, List.replicate 256 (1, 0))
    | 6 => (100, List.replicate 256 (1, 0))
    | 7 => (100, List.replicate 256 (1, 0))
    | 8 => (100, List.replicate 256 (1, 0))
    | 9 => (100, List.replicate 4 (1, 0))
    | 10 => (100, List.replicate 4 (1, 0))
    | 11 => (100, List.replicate 32 (1, 0))
    | 12 => (100, List.replicate 300 (1, 0))
    | 13 => (100, List.replicate 14 (1, 0))
    | 14 => (100, List.replicate 14 (1, 0))
    | 15 => (100, List.replicate 14 (1, 0))
    | 16 => (100, List.replicate 84 (1, 0))
    | 17 => (100, List.replicate 14 (1, 0))
    | 18 => (100, List.replicate 14 (1, 0))
    | 19 => (100, List.replicate 14 (1, 0))
    | 20 => (100, List.replicate 300 (1, 0))
    | 21 => (100, List.replicate 32 (1, 0))
    | 22 => (100, List.replicate 32 (1, 0))
    | _ => (101, List.replicate 1 (2, 0)))
def gm_v (I : Nat → Nat → Int32) (J : Nat → Nat → Int64) (a i : Nat) (s : Nat × Nat) : Value := match s.1 with
  | 0 => .ref s.2
  | 1 => .int (I a i)
  | _ => .long (J a i)
def gm_cell (I : Nat → Nat → Int32) (J : Nat → Nat → Int64) (a : Nat) : gx_C := ((gm_lay a).1, (gm_lay a).2.mapIdx (gm_v I J a))
def gm_mk (I : Nat → Nat → Int32) (J : Nat → Nat → Int64) (z : gx_H) : gx_H := (List.range 212).map (gm_cell I J) ++ z
/-- one number written -/
def gm_up (I : Nat → Nat → Int32) (a i : Nat) (v : Int32) : Nat → Nat → Int32 := fun b k => if b = a ∧ k = i then v else I b k
def gm_uj (J : Nat → Nat → Int64) (a i : Nat) (v : Int64) : Nat → Nat → Int64 := fun b k => if b = a ∧ k = i then v else J b k
theorem gm_len {I : Nat → Nat → Int32} {J : Nat → Nat → Int64} {z : gx_H} : (gm_mk I J z).length = 212 + z.length := by simp [gm_mk]
theorem gm_at {I : Nat → Nat → Int32} {J : Nat → Nat → Int64} {z : gx_H} {a : Nat} (h : a < 212) : (gm_mk I J z)[a]? = some (gm_cell I J a) := by
  unfold gm_mk
  rw [List.getElem?_append_left (by simpa using h)]
  simp [h]
theorem gm_set {I I' : Nat → Nat → Int32} {J J' : Nat → Nat → Int64} {z : gx_H} {a : Nat} {c : gx_C} (h : a < 212) (h1 : gm_cell I' J' a = c) (h2 : ∀ b, ¬ b = a → gm_cell I' J' b = gm_cell I J b) : (gm_mk I J z).set a c = gm_mk I' J' z := by
  unfold gm_mk
  rw [List.set_append_left _ _ (by simpa using h)]
  congr 1
  apply List.ext_getElem?
  intro k
  rw [List.getElem?_set]
  by_cases hk : a = k
  · subst hk; simp [h, h1]
  · rw [if_neg hk]
    by_cases hk2 : k < 212
    · simp [hk2, h2 k (fun q => hk q.symm)]
    · simp [hk2]
theorem gm_cell_up {I : Nat → Nat → Int32} {J : Nat → Nat → Int64} {a i r : Nat} {v : Int32} (h : (gm_lay a).2[i]? = some (1, r)) : gm_cell (gm_up I a i v) J a = ((gm_lay a).1, (gm_cell I J a).2.set i (.int v)) := by
  unfold gm_cell
  congr 1
  apply List.ext_getElem?
  intro k
  rw [List.getElem?_set, List.getElem?_mapIdx, List.getElem?_mapIdx]
  by_cases hk : i = k
  · subst hk
    rw [h, if_pos rfl]
    have hl : i < (gm_lay a).2.length := by
      rcases Nat.lt_or_ge i (gm_lay a).2.length with q | q
      · exact q
      · rw [List.getElem?_eq_none q] at h; cases h
    simp [hl, gm_v, gm_up]
  · rw [if_neg hk]
    cases (gm_lay a).2[k]? with
    | none => rfl
    | some s =>
      simp only [Option.map_some]
      congr 1
      unfold gm_v gm_up
      split <;> first | rfl | (simp [show ¬ k = i from fun q => hk q.symm])
theorem gm_cell_uj {I : Nat → Nat → Int32} {J : Nat → Nat → Int64} {a i r : Nat} {v : Int64} (h : (gm_lay a).2[i]? = some (2, r)) : gm_cell I (gm_uj J a i v) a = ((gm_lay a).1, (gm_cell I J a).2.set i (.long v)) := by
  unfold gm_cell
  congr 1
  apply List.ext_getElem?
  intro k
  rw [List.getElem?_set, List.getElem?_mapIdx, List.getElem?_mapIdx]
  by_cases hk : i = k
  · subst hk
    rw [h, if_pos rfl]
    have hl : i < (gm_lay a).2.length := by
      rcases Nat.lt_or_ge i (gm_lay a).2.length with q | q
      · exact q
      · rw [List.getElem?_eq_none q] at h; cases h
    simp [hl, gm_v, gm_uj]
  · rw [if_neg hk]
    cases (gm_lay a).2[k]? with
    | none => rfl
    | some s =>
      simp only [Option.map_some]
      congr 1
      unfold gm_v gm_uj
      split <;> first | rfl | (simp [show ¬ k = i from fun q => hk q.symm])
theorem gm_cell_up2 {I : Nat → Nat → Int32} {J : Nat → Nat → Int64} {a i b : Nat} {v : Int32} (h : ¬ b = a) : gm_cell (gm_up I a i v) J b = gm_cell I J b := by
  unfold gm_cell
  congr 2
  funext k s
  unfold gm_v gm_up
  simp [h]
theorem gm_cell_uj2 {I : Nat → Nat → Int32} {J : Nat → Nat → Int64} {a i b : Nat} {v : Int64} (h : ¬ b = a) : gm_cell I (gm_uj J a i v) b = gm_cell I J b := by
  unfold gm_cell
  congr 2
  funext k s
  unfold gm_v gm_uj
  simp [h]
section GM
variable {I : Nat → Nat → Int32} {J : Nat → Nat → Int64} {z : gx_H}
theorem gm_ob {a c : Nat} (h : a < 212) (hc : (gm_lay a).1 = c) : gx_ob (gm_mk I J z) a c = some (gm_cell I J a).2 := by
  unfold gx_ob
  rw [gm_at h]
  show (if (gm_lay a).1 = c then _ else _) = _
  rw [if_pos hc]
theorem gm_is {a c : Nat} (h : Nat.blt a 212 = true) (hc : (gm_lay a).1 = c) : gv_is (gm_mk I J z) (some a) c = some a := by
  show (gx_ob _ a c).map _ = _
  rw [gm_ob (gv_lt h) hc]; rfl
theorem gm_get {a i r k : Nat} (hs : (gm_lay a).2[i]? = some (k, r)) : (gm_cell I J a).2[i]? = some (gm_v I J a i (k, r)) := by
  show ((gm_lay a).2.mapIdx _)[i]? = _
  rw [List.getElem?_mapIdx, hs]; rfl
theorem gm_gI {a c i r : Nat} (h : Nat.blt a 212 = true) (hc : (gm_lay a).1 = c) (hs : (gm_lay a).2[i]? = some (1, r)) : gv_gI (gm_mk I J z) (some a) c i = some (I a i) := by
  show (((gx_ob _ a c).bind _)).bind _ = _
  rw [gm_ob (gv_lt h) hc]
  show ((gm_cell I J a).2[i]?).bind _ = _
  rw [gm_get hs]; rfl
theorem gm_gJ {a c i r : Nat} (h : Nat.blt a 212 = true) (hc : (gm_lay a).1 = c) (hs : (gm_lay a).2[i]? = some (2, r)) : gv_gJ (gm_mk I J z) (some a) c i = some (J a i) := by
  show (((gx_ob _ a c).bind _)).bind _ = _
  rw [gm_ob (gv_lt h) hc]
  show ((gm_cell I J a).2[i]?).bind _ = _
  rw [gm_get hs]; rfl
theorem gm_gR {a c i r : Nat} (h : Nat.blt a 212 = true) (hc : (gm_lay a).1 = c) (hs : (gm_lay a).2[i]? = some (0, r)) : gv_gR (gm_mk I J z) (some a) c i = some (some r) := by
  show (((gx_ob _ a c).bind _)).bind _ = _
  rw [gm_ob (gv_lt h) hc]
  show ((gm_cell I J a).2[i]?).bind _ = _
  rw [gm_get hs]; rfl
theorem gm_lt {a i r k : Nat} (hs : (gm_lay a).2[i]? = some (k, r)) : i < (gm_cell I J a).2.length := by
  have hl : i < (gm_lay a).2.length := by
    rcases Nat.lt_or_ge i (gm_lay a).2.length with q | q
    · exact q
    · rw [List.getElem?_eq_none q] at hs; cases hs
  simpa [gm_cell] using hl
theorem gm_pI {a c i r : Nat} {v : Int32} (h : Nat.blt a 212 = true) (hc : (gm_lay a).1 = c) (hs : (gm_lay a).2[i]? = some (1, r)) : gv_pV (gm_mk I J z) (some a) c i (.int v) = some (gm_mk (gm_up I a i v) J z) := by
  show (gx_ob _ a c).bind _ = _
  rw [gm_ob (gv_lt h) hc]
  show (if i < (gm_cell I J a).2.length then _ else _) = _
  rw [if_pos (gm_lt hs), gm_set (gv_lt h) (by rw [gm_cell_up hs, hc]) (fun b hb => gm_cell_up2 hb)]
theorem gm_pJ {a c i r : Nat} {v : Int64} (h : Nat.blt a 212 = true) (hc : (gm_lay a).1 = c) (hs : (gm_lay a).2[i]? = some (2, r)) : gv_pV (gm_mk I J z) (some a) c i (.long v) = some (gm_mk I (gm_uj J a i v) z) := by
  show (gx_ob _ a c).bind _ = _
  rw [gm_ob (gv_lt h) hc]
  show (if i < (gm_cell I J a).2.length then _ else _) = _
  rw [if_pos (gm_lt hs), gm_set (gv_lt h) (by rw [gm_cell_uj hs, hc]) (fun b hb => gm_cell_uj2 hb)]
theorem gm_rd {a t r k : Nat} {i : Int32} (h : a < 212) (hc : (gm_lay a).1 = t) (h0 : ¬ i < 0) (hs : (gm_lay a).2[i.toNatClampNeg]? = some (k, r)) : gx_rd (gm_mk I J z) a t i = some (gm_v I J a i.toNatClampNeg (k, r)) := by
  unfold gx_rd
  rw [gm_at h]
  show (if (gm_cell I J a).1 = t ∧ _ then _ else _) = _
  rw [if_pos ⟨hc, h0⟩, gm_get hs]
theorem gm_lI {a r : Nat} {i : Int32} (h : Nat.blt a 212 = true) (hc : (gm_lay a).1 = 100) (h0 : ¬ i < 0) (hs : (gm_lay a).2[i.toNatClampNeg]? = some (1, r)) : gv_lI (gm_mk I J z) (some a) i = some (I a i.toNatClampNeg) := by
  show (gx_rd _ _ _ _).bind _ = _
  rw [gm_rd (gv_lt h) hc h0 hs]; rfl
theorem gm_lZ {a r : Nat} {i : Int32} (h : Nat.blt a 212 = true) (hc : (gm_lay a).1 = 102) (h0 : ¬ i < 0) (hs : (gm_lay a).2[i.toNatClampNeg]? = some (1, r)) : gv_lZ (gm_mk I J z) (some a) i = some (I a i.toNatClampNeg) := by
  show (gx_rd _ _ _ _).bind _ = _
  rw [gm_rd (gv_lt h) hc h0 hs]; rfl
theorem gm_lJ {a r : Nat} {i : Int32} (h : Nat.blt a 212 = true) (hc : (gm_lay a).1 = 101) (h0 : ¬ i < 0) (hs : (gm_lay a).2[i.toNatClampNeg]? = some (2, r)) : gv_lJ (gm_mk I J z) (some a) i = some (J a i.toNatClampNeg) := by
  show (gx_rd _ _ _ _).bind _ = _
  rw [gm_rd (gv_lt h) hc h0 hs]; rfl
theorem gm_lT {a r : Nat} {i : Int32} (h : Nat.blt a 212 = true) (hc : (gm_lay a).1 = 103) (h0 : ¬ i < 0) (hs : (gm_lay a).2[i.toNatClampNeg]? = some (0, r)) : gv_lT (gm_mk I J z) (some a) i = some (some r) := by
  show (gx_rd _ _ _ _).bind _ = _
  rw [gm_rd (gv_lt h) hc h0 hs]; rfl
theorem gm_lA {a r : Nat} {i : Int32} (h : Nat.blt a 212 = true) (hc : (gm_lay a).1 = 104) (h0 : ¬ i < 0) (hs : (gm_lay a).2[i.toNatClampNeg]? = some (0, r)) : gv_lA (gm_mk I J z) (some a) i = some (some r) := by
  show (gx_rd _ _ _ _).bind _ = _
  rw [gm_rd (gv_lt h) hc h0 hs]; rfl
theorem gm_wr {a t : Nat} {i : Int32} {v : Value} {I' : Nat → Nat → Int32} {J' : Nat → Nat → Int64} (h : a < 212) (hc : (gm_lay a).1 = t) (h0 : ¬ i < 0) (hl : i.toNatClampNeg < (gm_cell I J a).2.length) (h1 : gm_cell I' J' a = (t, (gm_cell I J a).2.set i.toNatClampNeg v)) (h2 : ∀ b, ¬ b = a → gm_cell I' J' b = gm_cell I J b) : gx_wr (gm_mk I J z) a t i v = some (gm_mk I' J' z) := by
  unfold gx_wr
  rw [gm_at h]
  show (if (gm_cell I J a).1 = t ∧ _ then _ else _) = _
  rw [if_pos ⟨hc, h0, hl⟩, gm_set h h1 h2]
theorem gm_wI {a r : Nat} {i v : Int32} (h : Nat.blt a 212 = true) (hc : (gm_lay a).1 = 100) (h0 : ¬ i < 0) (hs : (gm_lay a).2[i.toNatClampNeg]? = some (1, r)) : gv_wI (gm_mk I J z) (some a) i v = some (gm_mk (gm_up I a i.toNatClampNeg v) J z) :=
  gm_wr (gv_lt h) hc h0 (gm_lt hs) (by rw [gm_cell_up hs, hc]) (fun b hb => gm_cell_up2 hb)
theorem gm_wZ {a r : Nat} {i v : Int32} (h : Nat.blt a 212 = true) (hc : (gm_lay a).1 = 102) (h0 : ¬ i < 0) (hs : (gm_lay a).2[i.toNatClampNeg]? = some (1, r)) : gv_wZ (gm_mk I J z) (some a) i v = some (gm_mk (gm_up I a i.toNatClampNeg (v &&& 1)) J z) :=
  gm_wr (gv_lt h) hc h0 (gm_lt hs) (by rw [gm_cell_up hs, hc]) (fun b hb => gm_cell_up2 hb)
theorem gm_wJ {a r : Nat} {i : Int32} {v : Int64} (h : Nat.blt a 212 = true) (hc : (gm_lay a).1 = 101) (h0 : ¬ i < 0) (hs : (gm_lay a).2[i.toNatClampNeg]? = some (2, r)) : gv_wJ (gm_mk I J z) (some a) i v = some (gm_mk I (gm_uj J a i.toNatClampNeg v) z) :=
  gm_wr (gv_lt h) hc h0 (gm_lt hs) (by rw [gm_cell_uj hs, hc]) (fun b hb => gm_cell_uj2 hb)
theorem gm_rep {n i : Nat} {s : Nat × Nat} (h : i < n) : (List.replicate n s)[i]? = some s := by simp [h]
theorem gm_thr (e : gx_C) : gm_mk I J z ++ [e] = gm_mk I J (z ++ [e]) := by simp [gm_mk]
theorem gm_exc {e : Nat} : (gm_mk I J (z ++ [(e, [])]))[212 + z.length]? = some (e, []) := by
  rw [← gm_thr, List.getElem?_append_right (by rw [gm_len]; exact Nat.le_refl _), gm_len]; simp
theorem go_0 : gv_is (gm_mk I J z) (some 0) 0 = some 0 := gm_is rfl rfl
theorem gr_0_0 : gv_gR (gm_mk I J z) (some 0) 0 0 = some (some 1) := gm_gR rfl rfl rfl
theorem gr_0_1 : gv_gR (gm_mk I J z) (some 0) 0 1 = some (some 163) := gm_gR rfl rfl rfl
theorem gr_0_2 : gv_gR (gm_mk I J z) (some 0) 0 2 = some (some 165) := gm_gR rfl rfl rfl
theorem gr_0_3 : gv_gR (gm_mk I J z) (some 0) 0 3 = some (some 169) := gm_gR rfl rfl rfl
theorem gr_0_4 : gv_gR (gm_mk I J z) (some 0) 0 4 = some (some 187) := gm_gR rfl rfl rfl
theorem gi_0_5 : gv_gI (gm_mk I J z) (some 0) 0 5 = some (I 0 5) := gm_gI rfl rfl rfl
theorem gp_0_5 {v : Int32} : gv_pV (gm_mk I J z) (some 0) 0 5 (.int v) = some (gm_mk (gm_up I 0 5 v) J z) := gm_pI rfl rfl rfl
theorem go_1 : gv_is (gm_mk I J z) (some 1) 1 = some 1 := gm_is rfl rfl
theorem gr_1_0 : gv_gR (gm_mk I J z) (some 1) 1 0 = some (some 2) := gm_gR rfl rfl rfl
theorem gi_1_1 : gv_gI (gm_mk I J z) (some 1) 1 1 = some (I 1 1) := gm_gI rfl rfl rfl
theorem gp_1_1 {v : Int32} : gv_pV (gm_mk I J z) (some 1) 1 1 (.int v) = some (gm_mk (gm_up I 1 1 v) J z) := gm_pI rfl rfl rfl
theorem go_163 : gv_is (gm_mk I J z) (some 163) 3 = some 163 := gm_is rfl rfl
theorem gr_163_0 : gv_gR (gm_mk I J z) (some 163) 3 0 = some (some 164) := gm_gR rfl rfl rfl
theorem gi_163_1 : gv_gI (gm_mk I J z) (some 163) 3 1 = some (I 163 1) := gm_gI rfl rfl rfl
theorem gp_163_1 {v : Int32} : gv_pV (gm_mk I J z) (some 163) 3 1 (.int v) = some (gm_mk (gm_up I 163 1 v) J z) := gm_pI rfl rfl rfl
theorem go_165 : gv_is (gm_mk I J z) (some 165) 4 = some 165 := gm_is rfl rfl
theorem gr_165_0 : gv_gR (gm_mk I J z) (some 165) 4 0 = some (some 166) := gm_gR rfl rfl rfl
theorem gi_165_1 : gv_gI (gm_mk I J z) (some 165) 4 1 = some (I 165 1) := gm_gI rfl rfl rfl
theorem gp_165_1 {v : Int32} : gv_pV (gm_mk I J z) (some 165) 4 1 (.int v) = some (gm_mk (gm_up I 165 1 v) J z) := gm_pI rfl rfl rfl
theorem gr_165_2 : gv_gR (gm_mk I J z) (some 165) 4 2 = some (some 167) := gm_gR rfl rfl rfl
theorem gr_165_3 : gv_gR (gm_mk I J z) (some 165) 4 3 = some (some 168) := gm_gR rfl rfl rfl
theorem gi_165_4 : gv_gI (gm_mk I J z) (some 165) 4 4 = some (I 165 4) := gm_gI rfl rfl rfl
theorem gp_165_4 {v : Int32} : gv_pV (gm_mk I J z) (some 165) 4 4 (.int v) = some (gm_mk (gm_up I 165 4 v) J z) := gm_pI rfl rfl rfl
theorem go_169 : gv_is (gm_mk I J z) (some 169) 5 = some 169 := gm_is rfl rfl
theorem gr_169_0 : gv_gR (gm_mk I J z) (some 169) 5 0 = some (some 170) := gm_gR rfl rfl rfl
theorem gr_169_1 : gv_gR (gm_mk I J z) (some 169) 5 1 = some (some 172) := gm_gR rfl rfl rfl
theorem gi_169_2 : gv_gI (gm_mk I J z) (some 169) 5 2 = some (I 169 2) := gm_gI rfl rfl rfl
theorem gp_169_2 {v : Int32} : gv_pV (gm_mk I J z) (some 169) 5 2 (.int v) = some (gm_mk (gm_up I 169 2 v) J z) := gm_pI rfl rfl rfl
theorem gr_169_3 : gv_gR (gm_mk I J z) (some 169) 5 3 = some (some 173) := gm_gR rfl rfl rfl
theorem gi_169_4 : gv_gI (gm_mk I J z) (some 169) 5 4 = some (I 169 4) := gm_gI rfl rfl rfl
theorem gp_169_4 {v : Int32} : gv_pV (gm_mk I J z) (some 169) 5 4 (.int v) = some (gm_mk (gm_up I 169 4 v) J z) := gm_pI rfl rfl rfl
theorem go_170 : gv_is (gm_mk I J z) (some 170) 3 = some 170 := gm_is rfl rfl
theorem gr_170_0 : gv_gR (gm_mk I J z) (some 170) 3 0 = some (some 171) := gm_gR rfl rfl rfl
theorem gi_170_1 : gv_gI (gm_mk I J z) (some 170) 3 1 = some (I 170 1) := gm_gI rfl rfl rfl
theorem gp_170_1 {v : Int32} : gv_pV (gm_mk I J z) (some 170) 3 1 (.int v) = some (gm_mk (gm_up I 170 1 v) J z) := gm_pI rfl rfl rfl
theorem go_187 : gv_is (gm_mk I J z) (some 187) 6 = some 187 := gm_is rfl rfl
theorem gi_187_0 : gv_gI (gm_mk I J z) (some 187) 6 0 = some (I 187 0) := gm_gI rfl rfl rfl
theorem gp_187_0 {v : Int32} : gv_pV (gm_mk I J z) (some 187) 6 0 (.int v) = some (gm_mk (gm_up I 187 0 v) J z) := gm_pI rfl rfl rfl
theorem gi_187_1 : gv_gI (gm_mk I J z) (some 187) 6 1 = some (I 187 1) := gm_gI rfl rfl rfl
theorem gp_187_1 {v : Int32} : gv_pV (gm_mk I J z) (some 187) 6 1 (.int v) = some (gm_mk (gm_up I 187 1 v) J z) := gm_pI rfl rfl rfl
theorem gi_187_2 : gv_gI (gm_mk I J z) (some 187) 6 2 = some (I 187 2) := gm_gI rfl rfl rfl
theorem gp_187_2 {v : Int32} : gv_pV (gm_mk I J z) (some 187) 6 2 (.int v) = some (gm_mk (gm_up I 187 2 v) J z) := gm_pI rfl rfl rfl
theorem gi_187_3 : gv_gI (gm_mk I J z) (some 187) 6 3 = some (I 187 3) := gm_gI rfl rfl rfl
theorem gp_187_3 {v : Int32} : gv_pV (gm_mk I J z) (some 187) 6 3 (.int v) = some (gm_mk (gm_up I 187 3 v) J z) := gm_pI rfl rfl rfl
theorem gi_187_4 : gv_gI (gm_mk I J z) (some 187) 6 4 = some (I 187 4) := gm_gI rfl rfl rfl
theorem gp_187_4 {v : Int32} : gv_pV (gm_mk I J z) (some 187) 6 4 (.int v) = some (gm_mk (gm_up I 187 4 v) J z) := gm_pI rfl rfl rfl
theorem gi_187_5 : gv_gI (gm_mk I J z) (some 187) 6 5 = some (I 187 5) := gm_gI rfl rfl rfl
theorem gp_187_5 {v : Int32} : gv_pV (gm_mk I J z) (some 187) 6 5 (.int v) = some (gm_mk (gm_up I 187 5 v) J z) := gm_pI rfl rfl rfl
theorem gi_187_6 : gv_gI (gm_mk I J z) (some 187) 6 6 = some (I 187 6) := gm_gI rfl rfl rfl
theorem gp_187_6 {v : Int32} : gv_pV (gm_mk I J z) (some 187) 6 6 (.int v) = some (gm_mk (gm_up I 187 6 v) J z) := gm_pI rfl rfl rfl
theorem go_188 : gv_is (gm_mk I J z) (some 188) 7 = some 188 := gm_is rfl rfl
theorem gi_188_0 : gv_gI (gm_mk I J z) (some 188) 7 0 = some (I 188 0) := gm_gI rfl rfl rfl
theorem gp_188_0 {v : Int32} : gv_pV (gm_mk I J z) (some 188) 7 0 (.int v) = some (gm_mk (gm_up I 188 0 v) J z) := gm_pI rfl rfl rfl
theorem gi_188_1 : gv_gI (gm_mk I J z) (some 188) 7 1 = some (I 188 1) := gm_gI rfl rfl rfl
theorem gp_188_1 {v : Int32} : gv_pV (gm_mk I J z) (some 188) 7 1 (.int v) = some (gm_mk (gm_up I 188 1 v) J z) := gm_pI rfl rfl rfl
theorem gr_188_2 : gv_gR (gm_mk I J z) (some 188) 7 2 = some (some 189) := gm_gR rfl rfl rfl
theorem gr_188_3 : gv_gR (gm_mk I J z) (some 188) 7 3 = some (some 190) := gm_gR rfl rfl rfl
theorem gr_188_4 : gv_gR (gm_mk I J z) (some 188) 7 4 = some (some 191) := gm_gR rfl rfl rfl
theorem gr_188_5 : gv_gR (gm_mk I J z) (some 188) 7 5 = some (some 192) := gm_gR rfl rfl rfl
theorem gr_188_6 : gv_gR (gm_mk I J z) (some 188) 7 6 = some (some 193) := gm_gR rfl rfl rfl
theorem gr_188_7 : gv_gR (gm_mk I J z) (some 188) 7 7 = some (some 194) := gm_gR rfl rfl rfl
theorem gr_188_8 : gv_gR (gm_mk I J z) (some 188) 7 8 = some (some 195) := gm_gR rfl rfl rfl
theorem gr_188_9 : gv_gR (gm_mk I J z) (some 188) 7 9 = some (some 196) := gm_gR rfl rfl rfl
theorem gi_188_10 : gv_gI (gm_mk I J z) (some 188) 7 10 = some (I 188 10) := gm_gI rfl rfl rfl
theorem gp_188_10 {v : Int32} : gv_pV (gm_mk I J z) (some 188) 7 10 (.int v) = some (gm_mk (gm_up I 188 10 v) J z) := gm_pI rfl rfl rfl
theorem gr_188_11 : gv_gR (gm_mk I J z) (some 188) 7 11 = some (some 197) := gm_gR rfl rfl rfl
theorem gi_188_12 : gv_gI (gm_mk I J z) (some 188) 7 12 = some (I 188 12) := gm_gI rfl rfl rfl
theorem gp_188_12 {v : Int32} : gv_pV (gm_mk I J z) (some 188) 7 12 (.int v) = some (gm_mk (gm_up I 188 12 v) J z) := gm_pI rfl rfl rfl
theorem gr_188_13 : gv_gR (gm_mk I J z) (some 188) 7 13 = some (some 198) := gm_gR rfl rfl rfl
theorem gr_188_14 : gv_gR (gm_mk I J z) (some 188) 7 14 = some (some 199) := gm_gR rfl rfl rfl
theorem gi_188_15 : gv_gI (gm_mk I J z) (some 188) 7 15 = some (I 188 15) := gm_gI rfl rfl rfl
theorem gp_188_15 {v : Int32} : gv_pV (gm_mk I J z) (some 188) 7 15 (.int v) = some (gm_mk (gm_up I 188 15 v) J z) := gm_pI rfl rfl rfl
theorem gr_188_16 : gv_gR (gm_mk I J z) (some 188) 7 16 = some (some 200) := gm_gR rfl rfl rfl
theorem gi_188_17 : gv_gI (gm_mk I J z) (some 188) 7 17 = some (I 188 17) := gm_gI rfl rfl rfl
theorem gp_188_17 {v : Int32} : gv_pV (gm_mk I J z) (some 188) 7 17 (.int v) = some (gm_mk (gm_up I 188 17 v) J z) := gm_pI rfl rfl rfl
theorem gi_188_18 : gv_gI (gm_mk I J z) (some 188) 7 18 = some (I 188 18) := gm_gI rfl rfl rfl
theorem gp_188_18 {v : Int32} : gv_pV (gm_mk I J z) (some 188) 7 18 (.int v) = some (gm_mk (gm_up I 188 18 v) J z) := gm_pI rfl rfl rfl
theorem gr_188_19 : gv_gR (gm_mk I J z) (some 188) 7 19 = some (some 201) := gm_gR rfl rfl rfl
theorem gr_188_20 : gv_gR (gm_mk I J z) (some 188) 7 20 = some (some 202) := gm_gR rfl rfl rfl
theorem gr_188_21 : gv_gR (gm_mk I J z) (some 188) 7 21 = some (some 203) := gm_gR rfl rfl rfl
theorem gr_188_22 : gv_gR (gm_mk I J z) (some 188) 7 22 = some (some 204) := gm_gR rfl rfl rfl
theorem gr_188_23 : gv_gR (gm_mk I J z) (some 188) 7 23 = some (some 205) := gm_gR rfl rfl rfl
theorem gr_188_24 : gv_gR (gm_mk I J z) (some 188) 7 24 = some (some 206) := gm_gR rfl rfl rfl
theorem gr_188_25 : gv_gR (gm_mk I J z) (some 188) 7 25 = some (some 207) := gm_gR rfl rfl rfl
theorem gi_188_26 : gv_gI (gm_mk I J z) (some 188) 7 26 = some (I 188 26) := gm_gI rfl rfl rfl
theorem gp_188_26 {v : Int32} : gv_pV (gm_mk I J z) (some 188) 7 26 (.int v) = some (gm_mk (gm_up I 188 26 v) J z) := gm_pI rfl rfl rfl
theorem gi_188_27 : gv_gI (gm_mk I J z) (some 188) 7 27 = some (I 188 27) := gm_gI rfl rfl rfl
theorem gp_188_27 {v : Int32} : gv_pV (gm_mk I J z) (some 188) 7 27 (.int v) = some (gm_mk (gm_up I 188 27 v) J z) := gm_pI rfl rfl rfl
theorem gr_188_28 : gv_gR (gm_mk I J z) (some 188) 7 28 = some (some 208) := gm_gR rfl rfl rfl
theorem gi_188_29 : gv_gI (gm_mk I J z) (some 188) 7 29 = some (I 188 29) := gm_gI rfl rfl rfl
theorem gp_188_29 {v : Int32} : gv_pV (gm_mk I J z) (some 188) 7 29 (.int v) = some (gm_mk (gm_up I 188 29 v) J z) := gm_pI rfl rfl rfl
theorem gr_188_30 : gv_gR (gm_mk I J z) (some 188) 7 30 = some (some 209) := gm_gR rfl rfl rfl
theorem gi_188_31 : gv_gI (gm_mk I J z) (some 188) 7 31 = some (I 188 31) := gm_gI rfl rfl rfl
theorem gp_188_31 {v : Int32} : gv_pV (gm_mk I J z) (some 188) 7 31 (.int v) = some (gm_mk (gm_up I 188 31 v) J z) := gm_pI rfl rfl rfl
theorem gi_188_32 : gv_gI (gm_mk I J z) (some 188) 7 32 = some (I 188 32) := gm_gI rfl rfl rfl
theorem gp_188_32 {v : Int32} : gv_pV (gm_mk I J z) (some 188) 7 32 (.int v) = some (gm_mk (gm_up I 188 32 v) J z) := gm_pI rfl rfl rfl
theorem gi_188_33 : gv_gI (gm_mk I J z) (some 188) 7 33 = some (I 188 33) := gm_gI rfl rfl rfl
theorem gp_188_33 {v : Int32} : gv_pV (gm_mk I J z) (some 188) 7 33 (.int v) = some (gm_mk (gm_up I 188 33 v) J z) := gm_pI rfl rfl rfl
theorem gr_188_34 : gv_gR (gm_mk I J z) (some 188) 7 34 = some (some 210) := gm_gR rfl rfl rfl
theorem gi_188_35 : gv_gI (gm_mk I J z) (some 188) 7 35 = some (I 188 35) := gm_gI rfl rfl rfl
theorem gp_188_35 {v : Int32} : gv_pV (gm_mk I J z) (some 188) 7 35 (.int v) = some (gm_mk (gm_up I 188 35 v) J z) := gm_pI rfl rfl rfl
theorem gi_188_36 : gv_gI (gm_mk I J z) (some 188) 7 36 = some (I 188 36) := gm_gI rfl rfl rfl
theorem gp_188_36 {v : Int32} : gv_pV (gm_mk I J z) (some 188) 7 36 (.int v) = some (gm_mk (gm_up I 188 36 v) J z) := gm_pI rfl rfl rfl
theorem ga_164 {i : Int32} (h0 : ¬ i < 0) (h1 : i.toNatClampNeg < 300) : gv_lI (gm_mk I J z) (some 164) i = some (I 164 i.toNatClampNeg) := gm_lI rfl rfl h0 (gm_rep h1)
theorem gb_164 {i : Int32} {v : Int32} (h0 : ¬ i < 0) (h1 : i.toNatClampNeg < 300) : gv_wI (gm_mk I J z) (some 164) i v = some (gm_mk (gm_up I 164 i.toNatClampNeg v) J z) := gm_wI rfl rfl h0 (gm_rep h1)
theorem ga_166 {i : Int32} (h0 : ¬ i < 0) (h1 : i.toNatClampNeg < 4) : gv_lI (gm_mk I J z) (some 166) i = some (I 166 i.toNatClampNeg) := gm_lI rfl rfl h0 (gm_rep h1)
theorem gb_166 {i : Int32} {v : Int32} (h0 : ¬ i < 0) (h1 : i.toNatClampNeg < 4) : gv_wI (gm_mk I J z) (some 166) i v = some (gm_mk (gm_up I 166 i.toNatClampNeg v) J z) := gm_wI rfl rfl h0 (gm_rep h1)
theorem ga_167 {i : Int32} (h0 : ¬ i < 0) (h1 : i.toNatClampNeg < 4) : gv_lJ (gm_mk I J z) (some 167) i = some (J 167 i.toNatClampNeg) := gm_lJ rfl rfl h0 (gm_rep h1)
theorem gb_167 {i : Int32} {v : Int64} (h0 : ¬ i < 0) (h1 : i.toNatClampNeg < 4) : gv_wJ (gm_mk I J z) (some 167) i v = some (gm_mk I (gm_uj J 167 i.toNatClampNeg v) z) := gm_wJ rfl rfl h0 (gm_rep h1)
theorem ga_168 {i : Int32} (h0 : ¬ i < 0) (h1 : i.toNatClampNeg < 4) : gv_lI (gm_mk I J z) (some 168) i = some (I 168 i.toNatClampNeg) := gm_lI rfl rfl h0 (gm_rep h1)
theorem gb_168 {i : Int32} {v : Int32} (h0 : ¬ i < 0) (h1 : i.toNatClampNeg < 4) : gv_wI (gm_mk I J z) (some 168) i v = some (gm_mk (gm_up I 168 i.toNatClampNeg v) J z) := gm_wI rfl rfl h0 (gm_rep h1)
theorem ga_171 {i : Int32} (h0 : ¬ i < 0) (h1 : i.toNatClampNeg < 300) : gv_lI (gm_mk I J z) (some 171) i = some (I 171 i.toNatClampNeg) := gm_lI rfl rfl h0 (gm_rep h1)
theorem gb_171 {i : Int32} {v : Int32} (h0 : ¬ i < 0) (h1 : i.toNatClampNeg < 300) : gv_wI (gm_mk I J z) (some 171) i v = some (gm_mk (gm_up I 171 i.toNatClampNeg v) J z) := gm_wI rfl rfl h0 (gm_rep h1)
theorem ga_172 {i : Int32} (h0 : ¬ i < 0) (h1 : i.toNatClampNeg < 32) : gv_lI (gm_mk I J z) (some 172) i = some (I 172 i.toNatClampNeg) := gm_lI rfl rfl h0 (gm_rep h1)
theorem gb_172 {i : Int32} {v : Int32} (h0 : ¬ i < 0) (h1 : i.toNatClampNeg < 32) : gv_wI (gm_mk I J z) (some 172) i v = some (gm_mk (gm_up I 172 i.toNatClampNeg v) J z) := gm_wI rfl rfl h0 (gm_rep h1)
theorem ga_189 {i : Int32} (h0 : ¬ i < 0) (h1 : i.toNatClampNeg < 32) : gv_lI (gm_mk I J z) (some 189) i = some (I 189 i.toNatClampNeg) := gm_lI rfl rfl h0 (gm_rep h1)
theorem gb_189 {i : Int32} {v : Int32} (h0 : ¬ i < 0) (h1 : i.toNatClampNeg < 32) : gv_wI (gm_mk I J z) (some 189) i v = some (gm_mk (gm_up I 189 i.toNatClampNeg v) J z) := gm_wI rfl rfl h0 (gm_rep h1)
theorem ga_190 {i : Int32} (h0 : ¬ i < 0) (h1 : i.toNatClampNeg < 32) : gv_lI (gm_mk I J z) (some 190) i = some (I 190 i.toNatClampNeg) := gm_lI rfl rfl h0 (gm_rep h1)
theorem gb_190 {i : Int32} {v : Int32} (h0 : ¬ i < 0) (h1 : i.toNatClampNeg < 32) : gv_wI (gm_mk I J z) (some 190) i v = some (gm_mk (gm_up I 190 i.toNatClampNeg v) J z) := gm_wI rfl rfl h0 (gm_rep h1)
theorem ga_191 {i : Int32} (h0 : ¬ i < 0) (h1 : i.toNatClampNeg < 32) : gv_lZ (gm_mk I J z) (some 191) i = some (I 191 i.toNatClampNeg) := gm_lZ rfl rfl h0 (gm_rep h1)
theorem gb_191 {i : Int32} {v : Int32} (h0 : ¬ i < 0) (h1 : i.toNatClampNeg < 32) : gv_wZ (gm_mk I J z) (some 191) i v = some (gm_mk (gm_up I 191 i.toNatClampNeg (v &&& 1)) J z) := gm_wZ rfl rfl h0 (gm_rep h1)
theorem ga_192 {i : Int32} (h0 : ¬ i < 0) (h1 : i.toNatClampNeg < 32) : gv_lJ (gm_mk I J z) (some 192) i = some (J 192 i.toNatClampNeg) := gm_lJ rfl rfl h0 (gm_rep h1)
theorem gb_192 {i : Int32} {v : Int64} (h0 : ¬ i < 0) (h1 : i.toNatClampNeg < 32) : gv_wJ (gm_mk I J z) (some 192) i v = some (gm_mk I (gm_uj J 192 i.toNatClampNeg v) z) := gm_wJ rfl rfl h0 (gm_rep h1)
theorem ga_193 {i : Int32} (h0 : ¬ i < 0) (h1 : i.toNatClampNeg < 256) : gv_lI (gm_mk I J z) (some 193) i = some (I 193 i.toNatClampNeg) := gm_lI rfl rfl h0 (gm_rep h1)
theorem gb_193 {i : Int32} {v : Int32} (h0 : ¬ i < 0) (h1 : i.toNatClampNeg < 256) : gv_wI (gm_mk I J z) (some 193) i v = some (gm_mk (gm_up I 193 i.toNatClampNeg v) J z) := gm_wI rfl rfl h0 (gm_rep h1)
theorem ga_194 {i : Int32} (h0 : ¬ i < 0) (h1 : i.toNatClampNeg < 256) : gv_lI (gm_mk I J z) (some 194) i = some (I 194 i.toNatClampNeg) := gm_lI rfl rfl h0 (gm_rep h1)
theorem gb_194 {i : Int32} {v : Int32} (h0 : ¬ i < 0) (h1 : i.toNatClampNeg < 256) : gv_wI (gm_mk I J z) (some 194) i v = some (gm_mk (gm_up I 194 i.toNatClampNeg v) J z) := gm_wI rfl rfl h0 (gm_rep h1)
theorem ga_195 {i : Int32} (h0 : ¬ i < 0) (h1 : i.toNatClampNeg < 256) : gv_lI (gm_mk I J z) (some 195) i = some (I 195 i.toNatClampNeg) := gm_lI rfl rfl h0 (gm_rep h1)
theorem gb_195 {i : Int32} {v : Int32} (h0 : ¬ i < 0) (h1 : i.toNatClampNeg < 256) : gv_wI (gm_mk I J z) (some 195) i v = some (gm_mk (gm_up I 195 i.toNatClampNeg v) J z) := gm_wI rfl rfl h0 (gm_rep h1)
theorem ga_196 {i : Int32} (h0 : ¬ i < 0) (h1 : i.toNatClampNeg < 256) : gv_lI (gm_mk I J z) (some 196) i = some (I 196 i.toNatClampNeg) := gm_lI rfl rfl h0 (gm_rep h1)
theorem gb_196 {i : Int32} {v : Int32} (h0 : ¬ i < 0) (h1 : i.toNatClampNeg < 256) : gv_wI (gm_mk I J z) (some 196) i v = some (gm_mk (gm_up I 196 i.toNatClampNeg v) J z) := gm_wI rfl rfl h0 (gm_rep h1)
theorem ga_197 {i : Int32} (h0 : ¬ i < 0) (h1 : i.toNatClampNeg < 4) : gv_lI (gm_mk I J z) (some 197) i = some (I 197 i.toNatClampNeg) := gm_lI rfl rfl h0 (gm_rep h1)
theorem gb_197 {i : Int32} {v : Int32} (h0 : ¬ i < 0) (h1 : i.toNatClampNeg < 4) : gv_wI (gm_mk I J z) (some 197) i v = some (gm_mk (gm_up I 197 i.toNatClampNeg v) J z) := gm_wI rfl rfl h0 (gm_rep h1)
theorem ga_198 {i : Int32} (h0 : ¬ i < 0) (h1 : i.toNatClampNeg < 4) : gv_lI (gm_mk I J z) (some 198) i = some (I 198 i.toNatClampNeg) := gm_lI rfl rfl h0 (gm_rep h1)
theorem gb_198 {i : Int32} {v : Int32} (h0 : ¬ i < 0) (h1 : i.toNatClampNeg < 4) : gv_wI (gm_mk I J z) (some 198) i v = some (gm_mk (gm_up I 198 i.toNatClampNeg v) J z) := gm_wI rfl rfl h0 (gm_rep h1)
theorem ga_199 {i : Int32} (h0 : ¬ i < 0) (h1 : i.toNatClampNeg < 32) : gv_lI (gm_mk I J z) (some 199) i = some (I 199 i.toNatClampNeg) := gm_lI rfl rfl h0 (gm_rep h1)
theorem gb_199 {i : Int32} {v : Int32} (h0 : ¬ i < 0) (h1 : i.toNatClampNeg < 32) : gv_wI (gm_mk I J z) (some 199) i v = some (gm_mk (gm_up I 199 i.toNatClampNeg v) J z) := gm_wI rfl rfl h0 (gm_rep h1)
theorem ga_200 {i : Int32} (h0 : ¬ i < 0) (h1 : i.toNatClampNeg < 300) : gv_lI (gm_mk I J z) (some 200) i = some (I 200 i.toNatClampNeg) := gm_lI rfl rfl h0 (gm_rep h1)
theorem gb_200 {i : Int32} {v : Int32} (h0 : ¬ i < 0) (h1 : i.toNatClampNeg < 300) : gv_wI (gm_mk I J z) (some 200) i v = some (gm_mk (gm_up I 200 i.toNatClampNeg v) J z) := gm_wI rfl rfl h0 (gm_rep h1)
theorem ga_201 {i : Int32} (h0 : ¬ i < 0) (h1 : i.toNatClampNeg < 14) : gv_lI (gm_mk I J z) (some 201) i = some (I 201 i.toNatClampNeg) := gm_lI rfl rfl h0 (gm_rep h1)
theorem gb_201 {i : Int32} {v : Int32} (h0 : ¬ i < 0) (h1 : i.toNatClampNeg < 14) : gv_wI (gm_mk I J z) (some 201) i v = some (gm_mk (gm_up I 201 i.toNatClampNeg v) J z) := gm_wI rfl rfl h0 (gm_rep h1)
theorem ga_202 {i : Int32} (h0 : ¬ i < 0) (h1 : i.toNatClampNeg < 14) : gv_lI (gm_mk I J z) (some 202) i = some (I 202 i.toNatClampNeg) := gm_lI rfl rfl h0 (gm_rep h1)
theorem gb_202 {i : Int32} {v : Int32} (h0 : ¬ i < 0) (h1 : i.toNatClampNeg < 14) : gv_wI (gm_mk I J z) (some 202) i v = some (gm_mk (gm_up I 202 i.toNatClampNeg v) J z) := gm_wI rfl rfl h0 (gm_rep h1)
theorem ga_203 {i : Int32} (h0 : ¬ i < 0) (h1 : i.toNatClampNeg < 14) : gv_lI (gm_mk I J z) (some 203) i = some (I 203 i.toNatClampNeg) := gm_lI rfl rfl h0 (gm_rep h1)
theorem gb_203 {i : Int32} {v : Int32} (h0 : ¬ i < 0) (h1 : i.toNatClampNeg < 14) : gv_wI (gm_mk I J z) (some 203) i v = some (gm_mk (gm_up I 203 i.toNatClampNeg v) J z) := gm_wI rfl rfl h0 (gm_rep h1)
theorem ga_204 {i : Int32} (h0 : ¬ i < 0) (h1 : i.toNatClampNeg < 84) : gv_lI (gm_mk I J z) (some 204) i = some (I 204 i.toNatClampNeg) := gm_lI rfl rfl h0 (gm_rep h1)
theorem gb_204 {i : Int32} {v : Int32} (h0 : ¬ i < 0) (h1 : i.toNatClampNeg < 84) : gv_wI (gm_mk I J z) (some 204) i v = some (gm_mk (gm_up I 204 i.toNatClampNeg v) J z) := gm_wI rfl rfl h0 (gm_rep h1)
theorem ga_205 {i : Int32} (h0 : ¬ i < 0) (h1 : i.toNatClampNeg < 14) : gv_lI (gm_mk I J z) (some 205) i = some (I 205 i.toNatClampNeg) := gm_lI rfl rfl h0 (gm_rep h1)
theorem gb_205 {i : Int32} {v : Int32} (h0 : ¬ i < 0) (h1 : i.toNatClampNeg < 14) : gv_wI (gm_mk I J z) (some 205) i v = some (gm_mk (gm_up I 205 i.toNatClampNeg v) J z) := gm_wI rfl rfl h0 (gm_rep h1)
theorem ga_206 {i : Int32} (h0 : ¬ i < 0) (h1 : i.toNatClampNeg < 14) : gv_lI (gm_mk I J z) (some 206) i = some (I 206 i.toNatClampNeg) := gm_lI rfl rfl h0 (gm_rep h1)
theorem gb_206 {i : Int32} {v : Int32} (h0 : ¬ i < 0) (h1 : i.toNatClampNeg < 14) : gv_wI (gm_mk I J z) (some 206) i v = some (gm_mk (gm_up I 206 i.toNatClampNeg v) J z) := gm_wI rfl rfl h0 (gm_rep h1)
theorem ga_207 {i : Int32} (h0 : ¬ i < 0) (h1 : i.toNatClampNeg < 14) : gv_lI (gm_mk I J z) (some 207) i = some (I 207 i.toNatClampNeg) := gm_lI rfl rfl h0 (gm_rep h1)
theorem gb_207 {i : Int32} {v : Int32} (h0 : ¬ i < 0) (h1 : i.toNatClampNeg < 14) : gv_wI (gm_mk I J z) (some 207) i v = some (gm_mk (gm_up I 207 i.toNatClampNeg v) J z) := gm_wI rfl rfl h0 (gm_rep h1)
theorem ga_208 {i : Int32} (h0 : ¬ i < 0) (h1 : i.toNatClampNeg < 300) : gv_lI (gm_mk I J z) (some 208) i = some (I 208 i.toNatClampNeg) := gm_lI rfl rfl h0 (gm_rep h1)
theorem gb_208 {i : Int32} {v : Int32} (h0 : ¬ i < 0) (h1 : i.toNatClampNeg < 300) : gv_wI (gm_mk I J z) (some 208) i v = some (gm_mk (gm_up I 208 i.toNatClampNeg v) J z) := gm_wI rfl rfl h0 (gm_rep h1)
theorem ga_209 {i : Int32} (h0 : ¬ i < 0) (h1 : i.toNatClampNeg < 32) : gv_lI (gm_mk I J z) (some 209) i = some (I 209 i.toNatClampNeg) := gm_lI rfl rfl h0 (gm_rep h1)
theorem gb_209 {i : Int32} {v : Int32} (h0 : ¬ i < 0) (h1 : i.toNatClampNeg < 32) : gv_wI (gm_mk I J z) (some 209) i v = some (gm_mk (gm_up I 209 i.toNatClampNeg v) J z) := gm_wI rfl rfl h0 (gm_rep h1)
theorem ga_210 {i : Int32} (h0 : ¬ i < 0) (h1 : i.toNatClampNeg < 32) : gv_lI (gm_mk I J z) (some 210) i = some (I 210 i.toNatClampNeg) := gm_lI rfl rfl h0 (gm_rep h1)
theorem gb_210 {i : Int32} {v : Int32} (h0 : ¬ i < 0) (h1 : i.toNatClampNeg < 32) : gv_wI (gm_mk I J z) (some 210) i v = some (gm_mk (gm_up I 210 i.toNatClampNeg v) J z) := gm_wI rfl rfl h0 (gm_rep h1)
theorem ga_211 {i : Int32} (h0 : ¬ i < 0) (h1 : i.toNatClampNeg < 1) : gv_lJ (gm_mk I J z) (some 211) i = some (J 211 i.toNatClampNeg) := gm_lJ rfl rfl h0 (gm_rep h1)
theorem gb_211 {i : Int32} {v : Int64} (h0 : ¬ i < 0) (h1 : i.toNatClampNeg < 1) : gv_wJ (gm_mk I J z) (some 211) i v = some (gm_mk I (gm_uj J 211 i.toNatClampNeg v) z) := gm_wJ rfl rfl h0 (gm_rep h1)
theorem gm_layT {k : Nat} (h : k < 32) : gm_lay (3 + 5 * k) = (2, [(0, 3 + 5 * k + 1), (0, 3 + 5 * k + 2), (0, 3 + 5 * k + 3), (0, 3 + 5 * k + 4), (1, 0), (1, 0), (1, 0), (1, 0), (1, 0), (1, 0), (2, 0)]) := by
  unfold gm_lay
  rw [if_neg (by omega), if_pos (by omega), if_pos (by omega)]
theorem gm_layA {k m : Nat} (h : k < 32) (hm : 0 < m) (hm2 : m < 5) : gm_lay (3 + 5 * k + m) = (100, List.replicate 8 (1, 0)) := by
  unfold gm_lay
  rw [if_neg (by omega), if_pos (by omega), if_neg (by omega)]
theorem gm_blt {a b : Nat} (h : a < b) : Nat.blt a b = true := Nat.ble_eq_true_of_le h
theorem go_T {k : Nat} (h : k < 32) : gv_is (gm_mk I J z) (some (3 + 5 * k)) 2 = some (3 + 5 * k) := gm_is (gm_blt (by omega)) (by rw [gm_layT h])
theorem gT {i : Int32} (h0 : ¬ i < 0) (h1 : i.toNatClampNeg < 32) : gv_lT (gm_mk I J z) (some 2) i = some (some (3 + 5 * i.toNatClampNeg)) := gm_lT rfl rfl h0 (by show ((List.range 32).map fun i => ((0, 3 + 5 * i) : Nat × Nat))[i.toNatClampNeg]? = _; simp [h1])
theorem grT_0 {k : Nat} (h : k < 32) : gv_gR (gm_mk I J z) (some (3 + 5 * k)) 2 0 = some (some (3 + 5 * k + 1)) := gm_gR (gm_blt (by omega)) (by rw [gm_layT h]) (by rw [gm_layT h]; rfl)
theorem grT_1 {k : Nat} (h : k < 32) : gv_gR (gm_mk I J z) (some (3 + 5 * k)) 2 1 = some (some (3 + 5 * k + 2)) := gm_gR (gm_blt (by omega)) (by rw [gm_layT h]) (by rw [gm_layT h]; rfl)
theorem grT_2 {k : Nat} (h : k < 32) : gv_gR (gm_mk I J z) (some (3 + 5 * k)) 2 2 = some (some (3 + 5 * k + 3)) := gm_gR (gm_blt (by omega)) (by rw [gm_layT h]) (by rw [gm_layT h]; rfl)
theorem grT_3 {k : Nat} (h : k < 32) : gv_gR (gm_mk I J z) (some (3 + 5 * k)) 2 3 = some (some (3 + 5 * k + 4)) := gm_gR (gm_blt (by omega)) (by rw [gm_layT h]) (by rw [gm_layT h]; rfl)
theorem giT_4 {k : Nat} (h : k < 32) : gv_gI (gm_mk I J z) (some (3 + 5 * k)) 2 4 = some (I (3 + 5 * k) 4) := gm_gI (r := 0) (gm_blt (by omega)) (by rw [gm_layT h]) (by rw [gm_layT h]; rfl)
theorem gpT_4 {k : Nat} {v : Int32} (h : k < 32) : gv_pV (gm_mk I J z) (some (3 + 5 * k)) 2 4 (.int v) = some (gm_mk (gm_up I (3 + 5 * k) 4 v) J z) := gm_pI (r := 0) (gm_blt (by omega)) (by rw [gm_layT h]) (by rw [gm_layT h]; rfl)
theorem giT_5 {k : Nat} (h : k < 32) : gv_gI (gm_mk I J z) (some (3 + 5 * k)) 2 5 = some (I (3 + 5 * k) 5) := gm_gI (r := 0) (gm_blt (by omega)) (by rw [gm_layT h]) (by rw [gm_layT h]; rfl)
theorem gpT_5 {k : Nat} {v : Int32} (h : k < 32) : gv_pV (gm_mk I J z) (some (3 + 5 * k)) 2 5 (.int v) = some (gm_mk (gm_up I (3 + 5 * k) 5 v) J z) := gm_pI (r := 0) (gm_blt (by omega)) (by rw [gm_layT h]) (by rw [gm_layT h]; rfl)
theorem giT_6 {k : Nat} (h : k < 32) : gv_gI (gm_mk I J z) (some (3 + 5 * k)) 2 6 = some (I (3 + 5 * k) 6) := gm_gI (r := 0) (gm_blt (by omega)) (by rw [gm_layT h]) (by rw [gm_layT h]; rfl)
theorem gpT_6 {k : Nat} {v : Int32} (h : k < 32) : gv_pV (gm_mk I J z) (some (3 + 5 * k)) 2 6 (.int v) = some (gm_mk (gm_up I (3 + 5 * k) 6 v) J z) := gm_pI (r := 0) (gm_blt (by omega)) (by rw [gm_layT h]) (by rw [gm_layT h]; rfl)
theorem giT_7 {k : Nat} (h : k < 32) : gv_gI (gm_mk I J z) (some (3 + 5 * k)) 2 7 = some (I (3 + 5 * k) 7) := gm_gI (r := 0) (gm_blt (by omega)) (by rw [gm_layT h]) (by rw [gm_layT h]; rfl)
theorem gpT_7 {k : Nat} {v : Int32} (h : k < 32) : gv_pV (gm_mk I J z) (some (3 + 5 * k)) 2 7 (.int v) = some (gm_mk (gm_up I (3 + 5 * k) 7 v) J z) := gm_pI (r := 0) (gm_blt (by omega)) (by rw [gm_layT h]) (by rw [gm_layT h]; rfl)
theorem giT_8 {k : Nat} (h : k < 32) : gv_gI (gm_mk I J z) (some (3 + 5 * k)) 2 8 = some (I (3 + 5 * k) 8) := gm_gI (r := 0) (gm_blt (by omega)) (by rw [gm_layT h]) (by rw [gm_layT h]; rfl)
theorem gpT_8 {k : Nat} {v : Int32} (h : k < 32) : gv_pV (gm_mk I J z) (some (3 + 5 * k)) 2 8 (.int v) = some (gm_mk (gm_up I (3 + 5 * k) 8 v) J z) := gm_pI (r := 0) (gm_blt (by omega)) (by rw [gm_layT h]) (by rw [gm_layT h]; rfl)
theorem giT_9 {k : Nat} (h : k < 32) : gv_gI (gm_mk I J z) (some (3 + 5 * k)) 2 9 = some (I (3 + 5 * k) 9) := gm_gI (r := 0) (gm_blt (by omega)) (by rw [gm_layT h]) (by rw [gm_layT h]; rfl)
theorem gpT_9 {k : Nat} {v : Int32} (h : k < 32) : gv_pV (gm_mk I J z) (some (3 + 5 * k)) 2 9 (.int v) = some (gm_mk (gm_up I (3 + 5 * k) 9 v) J z) := gm_pI (r := 0) (gm_blt (by omega)) (by rw [gm_layT h]) (by rw [gm_layT h]; rfl)
theorem gjT_10 {k : Nat} (h : k < 32) : gv_gJ (gm_mk I J z) (some (3 + 5 * k)) 2 10 = some (J (3 + 5 * k) 10) := gm_gJ (r := 0) (gm_blt (by omega)) (by rw [gm_layT h]) (by rw [gm_layT h]; rfl)
theorem gqT_10 {k : Nat} {v : Int64} (h : k < 32) : gv_pV (gm_mk I J z) (some (3 + 5 * k)) 2 10 (.long v) = some (gm_mk I (gm_uj J (3 + 5 * k) 10 v) z) := gm_pJ (r := 0) (gm_blt (by omega)) (by rw [gm_layT h]) (by rw [gm_layT h]; rfl)
theorem gaT {k m : Nat} {i : Int32} (h : k < 32) (hm : 0 < m) (hm2 : m < 5) (h0 : ¬ i < 0) (h1 : i.toNatClampNeg < 8) : gv_lI (gm_mk I J z) (some (3 + 5 * k + m)) i = some (I (3 + 5 * k + m) i.toNatClampNeg) := gm_lI (gm_blt (by omega)) (by rw [gm_layA h hm hm2]) h0 (by rw [gm_layA h hm hm2]; exact gm_rep h1)
theorem gbT {k m : Nat} {i v : Int32} (h : k < 32) (hm : 0 < m) (hm2 : m < 5) (h0 : ¬ i < 0) (h1 : i.toNatClampNeg < 8) : gv_wI (gm_mk I J z) (some (3 + 5 * k + m)) i v = some (gm_mk (gm_up I (3 + 5 * k + m) i.toNatClampNeg v) J z) := gm_wI (gm_blt (by omega)) (by rw [gm_layA h hm hm2]) h0 (by rw [gm_layA h hm hm2]; exact gm_rep h1)
end GM
end
