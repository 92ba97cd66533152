/-! by program: the law, from its loop on -/
def lw_law_1320 (xs : List Int32) (rec23 : Option Nat → Option Nat → Option Nat → Int32 → gx_H → Option (Int32 × gx_H)) (l1 : Option Nat) (l2 : Option Nat) (l3 : Option Nat) (l4 : Int32) (h : gx_H) : Option (Int32 × gx_H) :=
  rec23 l1 l2 l3 (l4 + 6) h
theorem lw_law_1320_ok {xs : List Int32} {rec23 : Option Nat → Option Nat → Option Nat → Int32 → gx_H → Option (Int32 × gx_H)} (hrec23 : ∀ (l1 : Option Nat) (l2 : Option Nat) (l3 : Option Nat) (l4 : Int32) (h : gx_H) (r : (Int32 × gx_H)), rec23 l1 l2 l3 l4 h = some r → gv_V (some xs) 116 195 23 [(0, .float 0), (1, gv_u l1), (2, gv_u l2), (3, gv_u l3), (4, .int l4)] [] h (.returned (some (.int r.1))) r.2) {l1 : Option Nat} {l2 : Option Nat} {l3 : Option Nat} {l4 : Int32} {h : gx_H} {r : (Int32 × gx_H)} (e : lw_law_1320 xs rec23 l1 l2 l3 l4 h = some r) : gv_V (some xs) 116 195 1320 [(0, .float 0), (1, gv_u l1), (2, gv_u l2), (3, gv_u l3), (4, .int l4)] [] h (.returned (some (.int r.1))) r.2 := by
  unfold lw_law_1320 at e
  refine gv_inc (pc' := 1323) (y := 6) rfl rfl rfl rfl (gv_Cr rfl) rfl ?_
  refine gv_goto (pc' := 23) rfl rfl ?_
  exact gv_weak (hrec23 _ _ _ _ _ _ e) (gv_S1 rfl (gv_S1 rfl (gv_S1 rfl (gv_S1 rfl (gv_S1 rfl gv_S0)))))
def lw_law_201 (xs : List Int32) (rec23 : Option Nat → Option Nat → Option Nat → Int32 → gx_H → Option (Int32 × gx_H)) (l1 : Option Nat) (l2 : Option Nat) (l3 : Option Nat) (l4 : Int32) (h : gx_H) : Option (Int32 × gx_H) :=
  lw_law_1320 xs rec23 l1 l2 l3 l4 h
theorem lw_law_201_ok {xs : List Int32} {rec23 : Option Nat → Option Nat → Option Nat → Int32 → gx_H → Option (Int32 × gx_H)} (hrec23 : ∀ (l1 : Option Nat) (l2 : Option Nat) (l3 : Option Nat) (l4 : Int32) (h : gx_H) (r : (Int32 × gx_H)), rec23 l1 l2 l3 l4 h = some r → gv_V (some xs) 116 195 23 [(0, .float 0), (1, gv_u l1), (2, gv_u l2), (3, gv_u l3), (4, .int l4)] [] h (.returned (some (.int r.1))) r.2) {l1 : Option Nat} {l2 : Option Nat} {l3 : Option Nat} {l4 : Int32} {h : gx_H} {r : (Int32 × gx_H)} (e : lw_law_201 xs rec23 l1 l2 l3 l4 h = some r) : gv_V (some xs) 116 195 201 [(0, .float 0), (1, gv_u l1), (2, gv_u l2), (3, gv_u l3), (4, .int l4)] [] h (.returned (some (.int r.1))) r.2 := by
  unfold lw_law_201 at e
  refine gv_goto (pc' := 1320) rfl rfl ?_
  exact gv_weak (lw_law_1320_ok hrec23 e) (gv_S1 rfl (gv_S1 rfl (gv_S1 rfl (gv_S1 rfl (gv_S1 rfl gv_S0)))))
def lw_law_301 (xs : List Int32) (rec23 : Option Nat → Option Nat → Option Nat → Int32 → gx_H → Option (Int32 × gx_H)) (l1 : Option Nat) (l2 : Option Nat) (l3 : Option Nat) (l4 : Int32) (h : gx_H) : Option (Int32 × gx_H) :=
  lw_law_1320 xs rec23 l1 l2 l3 l4 h
theorem lw_law_301_ok {xs : List Int32} {rec23 : Option Nat → Option Nat → Option Nat → Int32 → gx_H → Option (Int32 × gx_H)} (hrec23 : ∀ (l1 : Option Nat) (l2 : Option Nat) (l3 : Option Nat) (l4 : Int32) (h : gx_H) (r : (Int32 × gx_H)), rec23 l1 l2 l3 l4 h = some r → gv_V (some xs) 116 195 23 [(0, .float 0), (1, gv_u l1), (2, gv_u l2), (3, gv_u l3), (4, .int l4)] [] h (.returned (some (.int r.1))) r.2) {l1 : Option Nat} {l2 : Option Nat} {l3 : Option Nat} {l4 : Int32} {h : gx_H} {r : (Int32 × gx_H)} (e : lw_law_301 xs rec23 l1 l2 l3 l4 h = some r) : gv_V (some xs) 116 195 301 [(0, .float 0), (1, gv_u l1), (2, gv_u l2), (3, gv_u l3), (4, .int l4)] [] h (.returned (some (.int r.1))) r.2 := by
  unfold lw_law_301 at e
  refine gv_goto (pc' := 1320) rfl rfl ?_
  exact gv_weak (lw_law_1320_ok hrec23 e) (gv_S1 rfl (gv_S1 rfl (gv_S1 rfl (gv_S1 rfl (gv_S1 rfl gv_S0)))))
def lw_law_393 (xs : List Int32) (rec23 : Option Nat → Option Nat → Option Nat → Int32 → gx_H → Option (Int32 × gx_H)) (l1 : Option Nat) (l2 : Option Nat) (l3 : Option Nat) (l4 : Int32) (h : gx_H) : Option (Int32 × gx_H) :=
  lw_law_1320 xs rec23 l1 l2 l3 l4 h
theorem lw_law_393_ok {xs : List Int32} {rec23 : Option Nat → Option Nat → Option Nat → Int32 → gx_H → Option (Int32 × gx_H)} (hrec23 : ∀ (l1 : Option Nat) (l2 : Option Nat) (l3 : Option Nat) (l4 : Int32) (h : gx_H) (r : (Int32 × gx_H)), rec23 l1 l2 l3 l4 h = some r → gv_V (some xs) 116 195 23 [(0, .float 0), (1, gv_u l1), (2, gv_u l2), (3, gv_u l3), (4, .int l4)] [] h (.returned (some (.int r.1))) r.2) {l1 : Option Nat} {l2 : Option Nat} {l3 : Option Nat} {l4 : Int32} {h : gx_H} {r : (Int32 × gx_H)} (e : lw_law_393 xs rec23 l1 l2 l3 l4 h = some r) : gv_V (some xs) 116 195 393 [(0, .float 0), (1, gv_u l1), (2, gv_u l2), (3, gv_u l3), (4, .int l4)] [] h (.returned (some (.int r.1))) r.2 := by
  unfold lw_law_393 at e
  refine gv_goto (pc' := 1320) rfl rfl ?_
  exact gv_weak (lw_law_1320_ok hrec23 e) (gv_S1 rfl (gv_S1 rfl (gv_S1 rfl (gv_S1 rfl (gv_S1 rfl gv_S0)))))
def lw_law_481 (xs : List Int32) (rec23 : Option Nat → Option Nat → Option Nat → Int32 → gx_H → Option (Int32 × gx_H)) (l1 : Option Nat) (l2 : Option Nat) (l3 : Option Nat) (l4 : Int32) (h : gx_H) : Option (Int32 × gx_H) :=
  lw_law_1320 xs rec23 l1 l2 l3 l4 h
theorem lw_law_481_ok {xs : List Int32} {rec23 : Option Nat → Option Nat → Option Nat → Int32 → gx_H → Option (Int32 × gx_H)} (hrec23 : ∀ (l1 : Option Nat) (l2 : Option Nat) (l3 : Option Nat) (l4 : Int32) (h : gx_H) (r : (Int32 × gx_H)), rec23 l1 l2 l3 l4 h = some r → gv_V (some xs) 116 195 23 [(0, .float 0), (1, gv_u l1), (2, gv_u l2), (3, gv_u l3), (4, .int l4)] [] h (.returned (some (.int r.1))) r.2) {l1 : Option Nat} {l2 : Option Nat} {l3 : Option Nat} {l4 : Int32} {h : gx_H} {r : (Int32 × gx_H)} (e : lw_law_481 xs rec23 l1 l2 l3 l4 h = some r) : gv_V (some xs) 116 195 481 [(0, .float 0), (1, gv_u l1), (2, gv_u l2), (3, gv_u l3), (4, .int l4)] [] h (.returned (some (.int r.1))) r.2 := by
  unfold lw_law_481 at e
  refine gv_goto (pc' := 1320) rfl rfl ?_
  exact gv_weak (lw_law_1320_ok hrec23 e) (gv_S1 rfl (gv_S1 rfl (gv_S1 rfl (gv_S1 rfl (gv_S1 rfl gv_S0)))))
def lw_law_628 (xs : List Int32) (rec23 : Option Nat → Option Nat → Option Nat → Int32 → gx_H → Option (Int32 × gx_H)) (l1 : Option Nat) (l2 : Option Nat) (l3 : Option Nat) (l4 : Int32) (h : gx_H) : Option (Int32 × gx_H) :=
  lw_law_1320 xs rec23 l1 l2 l3 l4 h
theorem lw_law_628_ok {xs : List Int32} {rec23 : Option Nat → Option Nat → Option Nat → Int32 → gx_H → Option (Int32 × gx_H)} (hrec23 : ∀ (l1 : Option Nat) (l2 : Option Nat) (l3 : Option Nat) (l4 : Int32) (h : gx_H) (r : (Int32 × gx_H)), rec23 l1 l2 l3 l4 h = some r → gv_V (some xs) 116 195 23 [(0, .float 0), (1, gv_u l1), (2, gv_u l2), (3, gv_u l3), (4, .int l4)] [] h (.returned (some (.int r.1))) r.2) {l1 : Option Nat} {l2 : Option Nat} {l3 : Option Nat} {l4 : Int32} {h : gx_H} {r : (Int32 × gx_H)} (e : lw_law_628 xs rec23 l1 l2 l3 l4 h = some r) : gv_V (some xs) 116 195 628 [(0, .float 0), (1, gv_u l1), (2, gv_u l2), (3, gv_u l3), (4, .int l4)] [] h (.returned (some (.int r.1))) r.2 := by
  unfold lw_law_628 at e
  refine gv_goto (pc' := 1320) rfl rfl ?_
  exact gv_weak (lw_law_1320_ok hrec23 e) (gv_S1 rfl (gv_S1 rfl (gv_S1 rfl (gv_S1 rfl (gv_S1 rfl gv_S0)))))
def lw_law_622 (xs : List Int32) (rec23 : Option Nat → Option Nat → Option Nat → Int32 → gx_H → Option (Int32 × gx_H)) (l1 : Option Nat) (l2 : Option Nat) (l3 : Option Nat) (l4 : Int32) (s0 : Int64) (s1 : Int64) (h : gx_H) : Option (Int32 × gx_H) :=
  if s0 = s1 then (
    lw_law_628 xs rec23 l1 l2 l3 l4 h) else
  some ((0 : Int32), h)
theorem lw_law_622_ok {xs : List Int32} {rec23 : Option Nat → Option Nat → Option Nat → Int32 → gx_H → Option (Int32 × gx_H)} (hrec23 : ∀ (l1 : Option Nat) (l2 : Option Nat) (l3 : Option Nat) (l4 : Int32) (h : gx_H) (r : (Int32 × gx_H)), rec23 l1 l2 l3 l4 h = some r → gv_V (some xs) 116 195 23 [(0, .float 0), (1, gv_u l1), (2, gv_u l2), (3, gv_u l3), (4, .int l4)] [] h (.returned (some (.int r.1))) r.2) {l1 : Option Nat} {l2 : Option Nat} {l3 : Option Nat} {l4 : Int32} {s0 : Int64} {s1 : Int64} {h : gx_H} {r : (Int32 × gx_H)} (e : lw_law_622 xs rec23 l1 l2 l3 l4 s0 s1 h = some r) : gv_V (some xs) 116 195 622 [(0, .float 0), (1, gv_u l1), (2, gv_u l2), (3, gv_u l3), (4, .int l4)] [.long s1, .long s0] h (.returned (some (.int r.1))) r.2 := by
  unfold lw_law_622 at e
  refine gv_lcmp (pc' := 623) rfl rfl ?_
  by_cases c1 : s0 = s1
  · rw [if_pos c1] at e
    refine gv_ifT (pc' := 628) rfl (gv_eqTL c1) rfl ?_
    exact gv_weak (lw_law_628_ok hrec23 e) (gv_S1 rfl (gv_S1 rfl (gv_S1 rfl (gv_S1 rfl (gv_S1 rfl gv_S0)))))
  rw [if_neg c1] at e
  refine gv_ifF (pc' := 626) rfl (gv_eqFL c1) rfl rfl ?_
  refine gv_ic (pc' := 627) (x := 0) rfl rfl rfl ?_
  cases e
  exact gv_retZ rfl rfl (by decide)
def lw_law_799 (xs : List Int32) (rec23 : Option Nat → Option Nat → Option Nat → Int32 → gx_H → Option (Int32 × gx_H)) (l1 : Option Nat) (l2 : Option Nat) (l3 : Option Nat) (l4 : Int32) (h : gx_H) : Option (Int32 × gx_H) :=
  lw_law_1320 xs rec23 l1 l2 l3 l4 h
theorem lw_law_799_ok {xs : List Int32} {rec23 : Option Nat → Option Nat → Option Nat → Int32 → gx_H → Option (Int32 × gx_H)} (hrec23 : ∀ (l1 : Option Nat) (l2 : Option Nat) (l3 : Option Nat) (l4 : Int32) (h : gx_H) (r : (Int32 × gx_H)), rec23 l1 l2 l3 l4 h = some r → gv_V (some xs) 116 195 23 [(0, .float 0), (1, gv_u l1), (2, gv_u l2), (3, gv_u l3), (4, .int l4)] [] h (.returned (some (.int r.1))) r.2) {l1 : Option Nat} {l2 : Option Nat} {l3 : Option Nat} {l4 : Int32} {h : gx_H} {r : (Int32 × gx_H)} (e : lw_law_799 xs rec23 l1 l2 l3 l4 h = some r) : gv_V (some xs) 116 195 799 [(0, .float 0), (1, gv_u l1), (2, gv_u l2), (3, gv_u l3), (4, .int l4)] [] h (.returned (some (.int r.1))) r.2 := by
  unfold lw_law_799 at e
  refine gv_goto (pc' := 1320) rfl rfl ?_
  exact gv_weak (lw_law_1320_ok hrec23 e) (gv_S1 rfl (gv_S1 rfl (gv_S1 rfl (gv_S1 rfl (gv_S1 rfl gv_S0)))))
def lw_law_793 (xs : List Int32) (rec23 : Option Nat → Option Nat → Option Nat → Int32 → gx_H → Option (Int32 × gx_H)) (l1 : Option Nat) (l2 : Option Nat) (l3 : Option Nat) (l4 : Int32) (s0 : Int64) (s1 : Int64) (h : gx_H) : Option (Int32 × gx_H) :=
  if s0 = s1 then (
    lw_law_799 xs rec23 l1 l2 l3 l4 h) else
  some ((0 : Int32), h)
theorem lw_law_793_ok {xs : List Int32} {rec23 : Option Nat → Option Nat → Option Nat → Int32 → gx_H → Option (Int32 × gx_H)} (hrec23 : ∀ (l1 : Option Nat) (l2 : Option Nat) (l3 : Option Nat) (l4 : Int32) (h : gx_H) (r : (Int32 × gx_H)), rec23 l1 l2 l3 l4 h = some r → gv_V (some xs) 116 195 23 [(0, .float 0), (1, gv_u l1), (2, gv_u l2), (3, gv_u l3), (4, .int l4)] [] h (.returned (some (.int r.1))) r.2) {l1 : Option Nat} {l2 : Option Nat} {l3 : Option Nat} {l4 : Int32} {s0 : Int64} {s1 : Int64} {h : gx_H} {r : (Int32 × gx_H)} (e : lw_law_793 xs rec23 l1 l2 l3 l4 s0 s1 h = some r) : gv_V (some xs) 116 195 793 [(0, .float 0), (1, gv_u l1), (2, gv_u l2), (3, gv_u l3), (4, .int l4)] [.long s1, .long s0] h (.returned (some (.int r.1))) r.2 := by
  unfold lw_law_793 at e
  refine gv_lcmp (pc' := 794) rfl rfl ?_
  by_cases c1 : s0 = s1
  · rw [if_pos c1] at e
    refine gv_ifT (pc' := 799) rfl (gv_eqTL c1) rfl ?_
    exact gv_weak (lw_law_799_ok hrec23 e) (gv_S1 rfl (gv_S1 rfl (gv_S1 rfl (gv_S1 rfl (gv_S1 rfl gv_S0)))))
  rw [if_neg c1] at e
  refine gv_ifF (pc' := 797) rfl (gv_eqFL c1) rfl rfl ?_
  refine gv_ic (pc' := 798) (x := 0) rfl rfl rfl ?_
  cases e
  exact gv_retZ rfl rfl (by decide)
def lw_law_979 (xs : List Int32) (rec23 : Option Nat → Option Nat → Option Nat → Int32 → gx_H → Option (Int32 × gx_H)) (l1 : Option Nat) (l2 : Option Nat) (l3 : Option Nat) (l4 : Int32) (h : gx_H) : Option (Int32 × gx_H) :=
  lw_law_1320 xs rec23 l1 l2 l3 l4 h
theorem lw_law_979_ok {xs : List Int32} {rec23 : Option Nat → Option Nat → Option Nat → Int32 → gx_H → Option (Int32 × gx_H)} (hrec23 : ∀ (l1 : Option Nat) (l2 : Option Nat) (l3 : Option Nat) (l4 : Int32) (h : gx_H) (r : (Int32 × gx_H)), rec23 l1 l2 l3 l4 h = some r → gv_V (some xs) 116 195 23 [(0, .float 0), (1, gv_u l1), (2, gv_u l2), (3, gv_u l3), (4, .int l4)] [] h (.returned (some (.int r.1))) r.2) {l1 : Option Nat} {l2 : Option Nat} {l3 : Option Nat} {l4 : Int32} {h : gx_H} {r : (Int32 × gx_H)} (e : lw_law_979 xs rec23 l1 l2 l3 l4 h = some r) : gv_V (some xs) 116 195 979 [(0, .float 0), (1, gv_u l1), (2, gv_u l2), (3, gv_u l3), (4, .int l4)] [] h (.returned (some (.int r.1))) r.2 := by
  unfold lw_law_979 at e
  refine gv_goto (pc' := 1320) rfl rfl ?_
  exact gv_weak (lw_law_1320_ok hrec23 e) (gv_S1 rfl (gv_S1 rfl (gv_S1 rfl (gv_S1 rfl (gv_S1 rfl gv_S0)))))
def lw_law_1035 (xs : List Int32) (rec23 : Option Nat → Option Nat → Option Nat → Int32 → gx_H → Option (Int32 × gx_H)) (l1 : Option Nat) (l2 : Option Nat) (l3 : Option Nat) (l4 : Int32) (h : gx_H) : Option (Int32 × gx_H) :=
  lw_law_1320 xs rec23 l1 l2 l3 l4 h
theorem lw_law_1035_ok {xs : List Int32} {rec23 : Option Nat → Option Nat → Option Nat → Int32 → gx_H → Option (Int32 × gx_H)} (hrec23 : ∀ (l1 : Option Nat) (l2 : Option Nat) (l3 : Option Nat) (l4 : Int32) (h : gx_H) (r : (Int32 × gx_H)), rec23 l1 l2 l3 l4 h = some r → gv_V (some xs) 116 195 23 [(0, .float 0), (1, gv_u l1), (2, gv_u l2), (3, gv_u l3), (4, .int l4)] [] h (.returned (some (.int r.1))) r.2) {l1 : Option Nat} {l2 : Option Nat} {l3 : Option Nat} {l4 : Int32} {h : gx_H} {r : (Int32 × gx_H)} (e : lw_law_1035 xs rec23 l1 l2 l3 l4 h = some r) : gv_V (some xs) 116 195 1035 [(0, .float 0), (1, gv_u l1), (2, gv_u l2), (3, gv_u l3), (4, .int l4)] [] h (.returned (some (.int r.1))) r.2 := by
  unfold lw_law_1035 at e
  refine gv_goto (pc' := 1320) rfl rfl ?_
  exact gv_weak (lw_law_1320_ok hrec23 e) (gv_S1 rfl (gv_S1 rfl (gv_S1 rfl (gv_S1 rfl (gv_S1 rfl gv_S0)))))
def lw_law_1116 (xs : List Int32) (rec23 : Option Nat → Option Nat → Option Nat → Int32 → gx_H → Option (Int32 × gx_H)) (l1 : Option Nat) (l2 : Option Nat) (l3 : Option Nat) (l4 : Int32) (h : gx_H) : Option (Int32 × gx_H) :=
  lw_law_1320 xs rec23 l1 l2 l3 l4 h
theorem lw_law_1116_ok {xs : List Int32} {rec23 : Option Nat → Option Nat → Option Nat → Int32 → gx_H → Option (Int32 × gx_H)} (hrec23 : ∀ (l1 : Option Nat) (l2 : Option Nat) (l3 : Option Nat) (l4 : Int32) (h : gx_H) (r : (Int32 × gx_H)), rec23 l1 l2 l3 l4 h = some r → gv_V (some xs) 116 195 23 [(0, .float 0), (1, gv_u l1), (2, gv_u l2), (3, gv_u l3), (4, .int l4)] [] h (.returned (some (.int r.1))) r.2) {l1 : Option Nat} {l2 : Option Nat} {l3 : Option Nat} {l4 : Int32} {h : gx_H} {r : (Int32 × gx_H)} (e : lw_law_1116 xs rec23 l1 l2 l3 l4 h = some r) : gv_V (some xs) 116 195 1116 [(0, .float 0), (1, gv_u l1), (2, gv_u l2), (3, gv_u l3), (4, .int l4)] [] h (.returned (some (.int r.1))) r.2 := by
  unfold lw_law_1116 at e
  refine gv_goto (pc' := 1320) rfl rfl ?_
  exact gv_weak (lw_law_1320_ok hrec23 e) (gv_S1 rfl (gv_S1 rfl (gv_S1 rfl (gv_S1 rfl (gv_S1 rfl gv_S0)))))
def lw_law_1160 (xs : List Int32) (rec23 : Option Nat → Option Nat → Option Nat → Int32 → gx_H → Option (Int32 × gx_H)) (l1 : Option Nat) (l2 : Option Nat) (l3 : Option Nat) (l4 : Int32) (h : gx_H) : Option (Int32 × gx_H) :=
  lw_law_1320 xs rec23 l1 l2 l3 l4 h
theorem lw_law_1160_ok {xs : List Int32} {rec23 : Option Nat → Option Nat → Option Nat → Int32 → gx_H → Option (Int32 × gx_H)} (hrec23 : ∀ (l1 : Option Nat) (l2 : Option Nat) (l3 : Option Nat) (l4 : Int32) (h : gx_H) (r : (Int32 × gx_H)), rec23 l1 l2 l3 l4 h = some r → gv_V (some xs) 116 195 23 [(0, .float 0), (1, gv_u l1), (2, gv_u l2), (3, gv_u l3), (4, .int l4)] [] h (.returned (some (.int r.1))) r.2) {l1 : Option Nat} {l2 : Option Nat} {l3 : Option Nat} {l4 : Int32} {h : gx_H} {r : (Int32 × gx_H)} (e : lw_law_1160 xs rec23 l1 l2 l3 l4 h = some r) : gv_V (some xs) 116 195 1160 [(0, .float 0), (1, gv_u l1), (2, gv_u l2), (3, gv_u l3), (4, .int l4)] [] h (.returned (some (.int r.1))) r.2 := by
  unfold lw_law_1160 at e
  refine gv_goto (pc' := 1320) rfl rfl ?_
  exact gv_weak (lw_law_1320_ok hrec23 e) (gv_S1 rfl (gv_S1 rfl (gv_S1 rfl (gv_S1 rfl (gv_S1 rfl gv_S0)))))
def lw_law_23 (xs : List Int32) : Nat → Option Nat → Option Nat → Option Nat → Int32 → gx_H → Option (Int32 × gx_H)
  | 0, _, _, _, _, _ => none
  | n + 1, l1, l2, l3, l4, h =>
    if (xs.length.toInt32 - (6 : Int32)) < l4 then (
      some ((1 : Int32), h)) else
    if l4 < 0 then none else
    (xs[Int32.toNatClampNeg l4]?).bind fun v2 =>
    if (v2 &&& (31 : Int32)) = (0 : Int32) then (
      if (l4 + (1 : Int32)) < 0 then none else
      (xs[Int32.toNatClampNeg (l4 + (1 : Int32))]?).bind fun v5 =>
      (lw_make l1 v5 l3 h).bind fun r9 =>
      if (l4 + (1 : Int32)) < 0 then none else
      (xs[Int32.toNatClampNeg (l4 + (1 : Int32))]?).bind fun v10 =>
      (gv_is r9.2 l2 7).bind fun i12 =>
      (mM_make l2 v10 r9.2).bind fun r15 =>
      (gv_is r15.2 l2 7).bind fun i16 =>
      (mM_thrown l2 r15.2).bind fun v17 =>
      if v17 = r9.1 then (
        if r9.1 = 0 then (
          (gv_lJ r15.2 l3 (0 : Int32)).bind fun v20 =>
          if v20 = (Int32.toInt64 r15.1) then (
            lw_law_201 xs (lw_law_23 xs n) l1 l2 l3 l4 r15.2) else
          some ((0 : Int32), r15.2)) else
        lw_law_201 xs (lw_law_23 xs n) l1 l2 l3 l4 r15.2) else
      some ((0 : Int32), r15.2)) else
    if (v2 &&& (31 : Int32)) = (1 : Int32) then (
      if (l4 + (1 : Int32)) < 0 then none else
      (xs[Int32.toNatClampNeg (l4 + (1 : Int32))]?).bind fun v23 =>
      if (l4 + (2 : Int32)) < 0 then none else
      (xs[Int32.toNatClampNeg (l4 + (2 : Int32))]?).bind fun v25 =>
      if (l4 + (3 : Int32)) < 0 then none else
      (xs[Int32.toNatClampNeg (l4 + (3 : Int32))]?).bind fun v27 =>
      (lw_buffer l1 (((Int32.toInt64 v23) <<< (Int32.toInt64 (32 : Int32) &&& 63)) ||| ((Int32.toInt64 v25) &&& (4294967295 : Int64))) v27 l3 h).bind fun r31 =>
      if (l4 + (1 : Int32)) < 0 then none else
      (xs[Int32.toNatClampNeg (l4 + (1 : Int32))]?).bind fun v32 =>
      if (l4 + (2 : Int32)) < 0 then none else
      (xs[Int32.toNatClampNeg (l4 + (2 : Int32))]?).bind fun v34 =>
      if (l4 + (3 : Int32)) < 0 then none else
      (xs[Int32.toNatClampNeg (l4 + (3 : Int32))]?).bind fun v36 =>
      (gv_is r31.2 l2 7).bind fun i38 =>
      (mM_buffer l2 (((Int32.toInt64 v32) <<< (Int32.toInt64 (32 : Int32) &&& 63)) ||| ((Int32.toInt64 v34) &&& (4294967295 : Int64))) v36 r31.2).bind fun r41 =>
      (gv_is r41.2 l2 7).bind fun i42 =>
      (mM_thrown l2 r41.2).bind fun v43 =>
      if v43 = r31.1 then (
        if r31.1 = 0 then (
          (gv_lJ r41.2 l3 (0 : Int32)).bind fun v46 =>
          if v46 = (Int32.toInt64 r41.1) then (
            lw_law_301 xs (lw_law_23 xs n) l1 l2 l3 l4 r41.2) else
          some ((0 : Int32), r41.2)) else
        lw_law_301 xs (lw_law_23 xs n) l1 l2 l3 l4 r41.2) else
      some ((0 : Int32), r41.2)) else
    if (v2 &&& (31 : Int32)) = (2 : Int32) then (
      if (l4 + (1 : Int32)) < 0 then none else
      (xs[Int32.toNatClampNeg (l4 + (1 : Int32))]?).bind fun v49 =>
      if (l4 + (2 : Int32)) < 0 then none else
      (xs[Int32.toNatClampNeg (l4 + (2 : Int32))]?).bind fun v51 =>
      if (l4 + (3 : Int32)) < 0 then none else
      (xs[Int32.toNatClampNeg (l4 + (3 : Int32))]?).bind fun v53 =>
      if (l4 + (4 : Int32)) < 0 then none else
      (xs[Int32.toNatClampNeg (l4 + (4 : Int32))]?).bind fun v55 =>
      (lw_view l1 v49 v51 v53 v55 l3 h).bind fun r59 =>
      if (l4 + (1 : Int32)) < 0 then none else
      (xs[Int32.toNatClampNeg (l4 + (1 : Int32))]?).bind fun v60 =>
      if (l4 + (2 : Int32)) < 0 then none else
      (xs[Int32.toNatClampNeg (l4 + (2 : Int32))]?).bind fun v62 =>
      if (l4 + (3 : Int32)) < 0 then none else
      (xs[Int32.toNatClampNeg (l4 + (3 : Int32))]?).bind fun v64 =>
      if (l4 + (4 : Int32)) < 0 then none else
      (xs[Int32.toNatClampNeg (l4 + (4 : Int32))]?).bind fun v66 =>
      (gv_is r59.2 l2 7).bind fun i68 =>
      (mM_view l2 v60 v62 v64 v66 r59.2).bind fun r71 =>
      (gv_is r71.2 l2 7).bind fun i72 =>
      (mM_thrown l2 r71.2).bind fun v73 =>
      if v73 = r59.1 then (
        if r59.1 = 0 then (
          (gv_lJ r71.2 l3 (0 : Int32)).bind fun v76 =>
          if v76 = (Int32.toInt64 r71.1) then (
            lw_law_393 xs (lw_law_23 xs n) l1 l2 l3 l4 r71.2) else
          some ((0 : Int32), r71.2)) else
        lw_law_393 xs (lw_law_23 xs n) l1 l2 l3 l4 r71.2) else
      some ((0 : Int32), r71.2)) else
    if (v2 &&& (31 : Int32)) = (3 : Int32) then (
      if (l4 + (1 : Int32)) < 0 then none else
      (xs[Int32.toNatClampNeg (l4 + (1 : Int32))]?).bind fun v79 =>
      if (l4 + (2 : Int32)) < 0 then none else
      (xs[Int32.toNatClampNeg (l4 + (2 : Int32))]?).bind fun v81 =>
      (lw_stamp l1 (((Int32.toInt64 v79) <<< (Int32.toInt64 (32 : Int32) &&& 63)) ||| ((Int32.toInt64 v81) &&& (4294967295 : Int64))) l3 h).bind fun r85 =>
      if (l4 + (1 : Int32)) < 0 then none else
      (xs[Int32.toNatClampNeg (l4 + (1 : Int32))]?).bind fun v86 =>
      if (l4 + (2 : Int32)) < 0 then none else
      (xs[Int32.toNatClampNeg (l4 + (2 : Int32))]?).bind fun v88 =>
      (gv_is r85.2 l2 7).bind fun i90 =>
      (mM_stamp l2 (((Int32.toInt64 v86) <<< (Int32.toInt64 (32 : Int32) &&& 63)) ||| ((Int32.toInt64 v88) &&& (4294967295 : Int64))) r85.2).bind fun r93 =>
      (gv_is r93.2 l2 7).bind fun i94 =>
      (mM_thrown l2 r93.2).bind fun v95 =>
      if v95 = r85.1 then (
        if r85.1 = 0 then (
          (gv_lJ r93.2 l3 (0 : Int32)).bind fun v98 =>
          if v98 = (Int32.toInt64 r93.1) then (
            lw_law_481 xs (lw_law_23 xs n) l1 l2 l3 l4 r93.2) else
          some ((0 : Int32), r93.2)) else
        lw_law_481 xs (lw_law_23 xs n) l1 l2 l3 l4 r93.2) else
      some ((0 : Int32), r93.2)) else
    if (v2 &&& (31 : Int32)) = (4 : Int32) then (
      if (l4 + (1 : Int32)) < 0 then none else
      (xs[Int32.toNatClampNeg (l4 + (1 : Int32))]?).bind fun v101 =>
      if (l4 + (2 : Int32)) < 0 then none else
      (xs[Int32.toNatClampNeg (l4 + (2 : Int32))]?).bind fun v103 =>
      if (l4 + (3 : Int32)) < 0 then none else
      (xs[Int32.toNatClampNeg (l4 + (3 : Int32))]?).bind fun v105 =>
      if (l4 + (4 : Int32)) < 0 then none else
      (xs[Int32.toNatClampNeg (l4 + (4 : Int32))]?).bind fun v107 =>
      (lw_put l1 v101 v103 v105 v107 h).bind fun r111 =>
      if (l4 + (1 : Int32)) < 0 then none else
      (xs[Int32.toNatClampNeg (l4 + (1 : Int32))]?).bind fun v112 =>
      if (l4 + (2 : Int32)) < 0 then none else
      (xs[Int32.toNatClampNeg (l4 + (2 : Int32))]?).bind fun v114 =>
      if (l4 + (3 : Int32)) < 0 then none else
      (xs[Int32.toNatClampNeg (l4 + (3 : Int32))]?).bind fun v116 =>
      if (l4 + (4 : Int32)) < 0 then none else
      (xs[Int32.toNatClampNeg (l4 + (4 : Int32))]?).bind fun v118 =>
      (gv_is r111.2 l2 7).bind fun i120 =>
      (mM_put l2 v112 v114 v116 v118 r111.2).bind fun h122 =>
      (gv_is h122 l2 7).bind fun i123 =>
      (mM_thrown l2 h122).bind fun v124 =>
      if v124 = r111.1 then (
        lw_law_1320 xs (lw_law_23 xs n) l1 l2 l3 l4 h122) else
      some ((0 : Int32), h122)) else
    if (v2 &&& (31 : Int32)) = (5 : Int32) then (
      if (l4 + (1 : Int32)) < 0 then none else
      (xs[Int32.toNatClampNeg (l4 + (1 : Int32))]?).bind fun v127 =>
      if (l4 + (2 : Int32)) < 0 then none else
      (xs[Int32.toNatClampNeg (l4 + (2 : Int32))]?).bind fun v129 =>
      (lw_take l1 v127 v129 l3 h).bind fun r133 =>
      if (l4 + (1 : Int32)) < 0 then none else
      (xs[Int32.toNatClampNeg (l4 + (1 : Int32))]?).bind fun v134 =>
      if (l4 + (2 : Int32)) < 0 then none else
      (xs[Int32.toNatClampNeg (l4 + (2 : Int32))]?).bind fun v136 =>
      (gv_is r133.2 l2 7).bind fun i138 =>
      (mM_take l2 v134 v136 r133.2).bind fun r141 =>
      (gv_is r141.2 l2 7).bind fun i142 =>
      (mM_thrown l2 r141.2).bind fun v143 =>
      if v143 = r133.1 then (
        if r133.1 = 0 then (
          (gv_lJ r141.2 l3 (0 : Int32)).bind fun v146 =>
          if r141.1 = 0 then (
            lw_law_622 xs (lw_law_23 xs n) l1 l2 l3 l4 v146 (0 : Int64) r141.2) else
          lw_law_622 xs (lw_law_23 xs n) l1 l2 l3 l4 v146 (1 : Int64) r141.2) else
        lw_law_628 xs (lw_law_23 xs n) l1 l2 l3 l4 r141.2) else
      some ((0 : Int32), r141.2)) else
    if (v2 &&& (31 : Int32)) = (6 : Int32) then (
      if (l4 + (1 : Int32)) < 0 then none else
      (xs[Int32.toNatClampNeg (l4 + (1 : Int32))]?).bind fun v149 =>
      if (l4 + (2 : Int32)) < 0 then none else
      (xs[Int32.toNatClampNeg (l4 + (2 : Int32))]?).bind fun v151 =>
      if (l4 + (3 : Int32)) < 0 then none else
      (xs[Int32.toNatClampNeg (l4 + (3 : Int32))]?).bind fun v153 =>
      if (l4 + (4 : Int32)) < 0 then none else
      (xs[Int32.toNatClampNeg (l4 + (4 : Int32))]?).bind fun v155 =>
      if (l4 + (5 : Int32)) < 0 then none else
      (xs[Int32.toNatClampNeg (l4 + (5 : Int32))]?).bind fun v157 =>
      (lw_entry l1 v149 v151 v153 v155 v157 h).bind fun r161 =>
      if (l4 + (1 : Int32)) < 0 then none else
      (xs[Int32.toNatClampNeg (l4 + (1 : Int32))]?).bind fun v162 =>
      if (l4 + (2 : Int32)) < 0 then none else
      (xs[Int32.toNatClampNeg (l4 + (2 : Int32))]?).bind fun v164 =>
      if (l4 + (3 : Int32)) < 0 then none else
      (xs[Int32.toNatClampNeg (l4 + (3 : Int32))]?).bind fun v166 =>
      if (l4 + (4 : Int32)) < 0 then none else
      (xs[Int32.toNatClampNeg (l4 + (4 : Int32))]?).bind fun v168 =>
      if (l4 + (5 : Int32)) < 0 then none else
      (xs[Int32.toNatClampNeg (l4 + (5 : Int32))]?).bind fun v170 =>
      (gv_is r161.2 l2 7).bind fun i172 =>
      (mM_entry l2 v162 v164 v166 v168 v170 r161.2).bind fun h174 =>
      (gv_is h174 l2 7).bind fun i175 =>
      (mM_thrown l2 h174).bind fun v176 =>
      if v176 = r161.1 then (
        lw_law_1320 xs (lw_law_23 xs n) l1 l2 l3 l4 h174) else
      some ((0 : Int32), h174)) else
    if (v2 &&& (31 : Int32)) = (7 : Int32) then (
      if (l4 + (1 : Int32)) < 0 then none else
      (xs[Int32.toNatClampNeg (l4 + (1 : Int32))]?).bind fun v179 =>
      if (l4 + (2 : Int32)) < 0 then none else
      (xs[Int32.toNatClampNeg (l4 + (2 : Int32))]?).bind fun v181 =>
      if (l4 + (3 : Int32)) < 0 then none else
      (xs[Int32.toNatClampNeg (l4 + (3 : Int32))]?).bind fun v183 =>
      (lw_add l1 v179 v181 v183 l3 h).bind fun r187 =>
      if (l4 + (1 : Int32)) < 0 then none else
      (xs[Int32.toNatClampNeg (l4 + (1 : Int32))]?).bind fun v188 =>
      if (l4 + (2 : Int32)) < 0 then none else
      (xs[Int32.toNatClampNeg (l4 + (2 : Int32))]?).bind fun v190 =>
      if (l4 + (3 : Int32)) < 0 then none else
      (xs[Int32.toNatClampNeg (l4 + (3 : Int32))]?).bind fun v192 =>
      (gv_is r187.2 l2 7).bind fun i194 =>
      (mM_add l2 v188 v190 v192 r187.2).bind fun r197 =>
      (gv_is r197.2 l2 7).bind fun i198 =>
      (mM_thrown l2 r197.2).bind fun v199 =>
      if v199 = r187.1 then (
        if r187.1 = 0 then (
          (gv_lJ r197.2 l3 (0 : Int32)).bind fun v202 =>
          if r197.1 = 0 then (
            lw_law_793 xs (lw_law_23 xs n) l1 l2 l3 l4 v202 (0 : Int64) r197.2) else
          lw_law_793 xs (lw_law_23 xs n) l1 l2 l3 l4 v202 (1 : Int64) r197.2) else
        lw_law_799 xs (lw_law_23 xs n) l1 l2 l3 l4 r197.2) else
      some ((0 : Int32), r197.2)) else
    if (v2 &&& (31 : Int32)) = (8 : Int32) then (
      if (l4 + (1 : Int32)) < 0 then none else
      (xs[Int32.toNatClampNeg (l4 + (1 : Int32))]?).bind fun v205 =>
      (gv_is h l1 0).bind fun i207 =>
      (cG_detach l1 v205 h).bind fun r210 =>
      if (l4 + (1 : Int32)) < 0 then none else
      (xs[Int32.toNatClampNeg (l4 + (1 : Int32))]?).bind fun v211 =>
      (gv_is r210.2 l2 7).bind fun i213 =>
      (mM_detach l2 v211 r210.2).bind fun r216 =>
      if r210.1 = r216.1 then (
        lw_law_1320 xs (lw_law_23 xs n) l1 l2 l3 l4 r216.2) else
      some ((0 : Int32), r216.2)) else
    if (v2 &&& (31 : Int32)) = (9 : Int32) then (
      (gv_is h l1 0).bind fun i219 =>
      (cG_clear l1 h).bind fun r222 =>
      (gv_is r222.2 l2 7).bind fun i223 =>
      (mM_clear l2 r222.2).bind fun r226 =>
      if r222.1 = r226.1 then (
        lw_law_1320 xs (lw_law_23 xs n) l1 l2 l3 l4 r226.2) else
      some ((0 : Int32), r226.2)) else
    if (v2 &&& (31 : Int32)) = (10 : Int32) then (
      (gv_is h l1 0).bind fun i229 =>
      (cG_objects l1 h).bind fun v230 =>
      (gv_is h l2 7).bind fun i231 =>
      (mM_objects l2 h).bind fun r234 =>
      if v230 = r234.1 then (
        lw_law_1320 xs (lw_law_23 xs n) l1 l2 l3 l4 r234.2) else
      some ((0 : Int32), r234.2)) else
    if (v2 &&& (31 : Int32)) = (11 : Int32) then (
      if (l4 + (1 : Int32)) < 0 then none else
      (xs[Int32.toNatClampNeg (l4 + (1 : Int32))]?).bind fun v237 =>
      (gv_is h l1 0).bind fun i239 =>
      (cG_type l1 v237 h).bind fun v240 =>
      if (l4 + (1 : Int32)) < 0 then none else
      (xs[Int32.toNatClampNeg (l4 + (1 : Int32))]?).bind fun v241 =>
      (gv_is h l2 7).bind fun i243 =>
      (mM_type l2 v241 h).bind fun r246 =>
      if v240 = r246.1 then (
        lw_law_1320 xs (lw_law_23 xs n) l1 l2 l3 l4 r246.2) else
      some ((0 : Int32), r246.2)) else
    if (v2 &&& (31 : Int32)) = (12 : Int32) then (
      if (l4 + (1 : Int32)) < 0 then none else
      (xs[Int32.toNatClampNeg (l4 + (1 : Int32))]?).bind fun v249 =>
      (gv_is h l1 0).bind fun i251 =>
      (cG_size l1 v249 h).bind fun v252 =>
      if (l4 + (1 : Int32)) < 0 then none else
      (xs[Int32.toNatClampNeg (l4 + (1 : Int32))]?).bind fun v253 =>
      (gv_is h l2 7).bind fun i255 =>
      (mM_size l2 v253 h).bind fun r258 =>
      if v252 = r258.1 then (
        lw_law_1320 xs (lw_law_23 xs n) l1 l2 l3 l4 r258.2) else
      some ((0 : Int32), r258.2)) else
    if (v2 &&& (31 : Int32)) = (13 : Int32) then (
      if (l4 + (1 : Int32)) < 0 then none else
      (xs[Int32.toNatClampNeg (l4 + (1 : Int32))]?).bind fun v261 =>
      if (l4 + (2 : Int32)) < 0 then none else
      (xs[Int32.toNatClampNeg (l4 + (2 : Int32))]?).bind fun v263 =>
      if (l4 + (3 : Int32)) < 0 then none else
      (xs[Int32.toNatClampNeg (l4 + (3 : Int32))]?).bind fun v265 =>
      (lw_get l1 v261 v263 v265 l3 h).bind fun r269 =>
      if (l4 + (1 : Int32)) < 0 then none else
      (xs[Int32.toNatClampNeg (l4 + (1 : Int32))]?).bind fun v270 =>
      if (l4 + (2 : Int32)) < 0 then none else
      (xs[Int32.toNatClampNeg (l4 + (2 : Int32))]?).bind fun v272 =>
      if (l4 + (3 : Int32)) < 0 then none else
      (xs[Int32.toNatClampNeg (l4 + (3 : Int32))]?).bind fun v274 =>
      (gv_is r269.2 l2 7).bind fun i276 =>
      (mM_get l2 v270 v272 v274 r269.2).bind fun r279 =>
      (gv_is r279.2 l2 7).bind fun i280 =>
      (mM_thrown l2 r279.2).bind fun v281 =>
      if v281 = r269.1 then (
        if r269.1 = 0 then (
          (gv_lJ r279.2 l3 (0 : Int32)).bind fun v284 =>
          if v284 = r279.1 then (
            lw_law_979 xs (lw_law_23 xs n) l1 l2 l3 l4 r279.2) else
          some ((0 : Int32), r279.2)) else
        lw_law_979 xs (lw_law_23 xs n) l1 l2 l3 l4 r279.2) else
      some ((0 : Int32), r279.2)) else
    if (v2 &&& (31 : Int32)) = (14 : Int32) then (
      if (l4 + (1 : Int32)) < 0 then none else
      (xs[Int32.toNatClampNeg (l4 + (1 : Int32))]?).bind fun v287 =>
      (lw_pass l1 v287 l3 h).bind fun r291 =>
      if (l4 + (1 : Int32)) < 0 then none else
      (xs[Int32.toNatClampNeg (l4 + (1 : Int32))]?).bind fun v292 =>
      (gv_is r291.2 l2 7).bind fun i294 =>
      (mM_pass l2 v292 r291.2).bind fun r297 =>
      (gv_is r297.2 l2 7).bind fun i298 =>
      (mM_thrown l2 r297.2).bind fun v299 =>
      if v299 = r291.1 then (
        if r291.1 = 0 then (
          (gv_lJ r297.2 l3 (0 : Int32)).bind fun v302 =>
          if v302 = (Int32.toInt64 r297.1) then (
            lw_law_1035 xs (lw_law_23 xs n) l1 l2 l3 l4 r297.2) else
          some ((0 : Int32), r297.2)) else
        lw_law_1035 xs (lw_law_23 xs n) l1 l2 l3 l4 r297.2) else
      some ((0 : Int32), r297.2)) else
    if (v2 &&& (31 : Int32)) = (15 : Int32) then (
      (gv_is h l1 0).bind fun i305 =>
      (cG_holders l1 h).bind fun v306 =>
      (gv_is h l2 7).bind fun i307 =>
      (mM_holders l2 h).bind fun r310 =>
      if v306 = r310.1 then (
        lw_law_1320 xs (lw_law_23 xs n) l1 l2 l3 l4 r310.2) else
      some ((0 : Int32), r310.2)) else
    if (v2 &&& (31 : Int32)) = (16 : Int32) then (
      if (l4 + (1 : Int32)) < 0 then none else
      (xs[Int32.toNatClampNeg (l4 + (1 : Int32))]?).bind fun v313 =>
      if (l4 + (2 : Int32)) < 0 then none else
      (xs[Int32.toNatClampNeg (l4 + (2 : Int32))]?).bind fun v315 =>
      (lw_write l1 v313 v315 l3 h).bind fun r319 =>
      if (l4 + (1 : Int32)) < 0 then none else
      (xs[Int32.toNatClampNeg (l4 + (1 : Int32))]?).bind fun v320 =>
      if (l4 + (2 : Int32)) < 0 then none else
      (xs[Int32.toNatClampNeg (l4 + (2 : Int32))]?).bind fun v322 =>
      (gv_is r319.2 l2 7).bind fun i324 =>
      (mM_write l2 v320 v322 r319.2).bind fun r327 =>
      (gv_is r327.2 l2 7).bind fun i328 =>
      (mM_thrown l2 r327.2).bind fun v329 =>
      if v329 = r319.1 then (
        if r319.1 = 0 then (
          (gv_lJ r327.2 l3 (0 : Int32)).bind fun v332 =>
          if v332 = (Int32.toInt64 r327.1) then (
            lw_law_1116 xs (lw_law_23 xs n) l1 l2 l3 l4 r327.2) else
          some ((0 : Int32), r327.2)) else
        lw_law_1116 xs (lw_law_23 xs n) l1 l2 l3 l4 r327.2) else
      some ((0 : Int32), r327.2)) else
    if (v2 &&& (31 : Int32)) = (17 : Int32) then (
      (lw_read l1 l3 h).bind fun r337 =>
      (gv_is r337.2 l2 7).bind fun i338 =>
      (mM_read l2 r337.2).bind fun r341 =>
      (gv_is r341.2 l2 7).bind fun i342 =>
      (mM_thrown l2 r341.2).bind fun v343 =>
      if v343 = r337.1 then (
        if r337.1 = 0 then (
          (gv_lJ r341.2 l3 (0 : Int32)).bind fun v346 =>
          if v346 = (Int32.toInt64 r341.1) then (
            lw_law_1160 xs (lw_law_23 xs n) l1 l2 l3 l4 r341.2) else
          some ((0 : Int32), r341.2)) else
        lw_law_1160 xs (lw_law_23 xs n) l1 l2 l3 l4 r341.2) else
      some ((0 : Int32), r341.2)) else
    if (v2 &&& (31 : Int32)) = (18 : Int32) then (
      (gv_is h l1 0).bind fun i349 =>
      (cG_found l1 h).bind fun v350 =>
      (gv_is h l2 7).bind fun i351 =>
      (mM_found l2 h).bind fun r354 =>
      if v350 = r354.1 then (
        lw_law_1320 xs (lw_law_23 xs n) l1 l2 l3 l4 r354.2) else
      some ((0 : Int32), r354.2)) else
    if (v2 &&& (31 : Int32)) = (19 : Int32) then (
      if (l4 + (1 : Int32)) < 0 then none else
      (xs[Int32.toNatClampNeg (l4 + (1 : Int32))]?).bind fun v357 =>
      if (l4 + (2 : Int32)) < 0 then none else
      (xs[Int32.toNatClampNeg (l4 + (2 : Int32))]?).bind fun v359 =>
      if (l4 + (3 : Int32)) < 0 then none else
      (xs[Int32.toNatClampNeg (l4 + (3 : Int32))]?).bind fun v361 =>
      (gv_is h l1 0).bind fun i363 =>
      (cG_feed l1 (((Int32.toInt64 v357) <<< (Int32.toInt64 (32 : Int32) &&& 63)) ||| ((Int32.toInt64 v359) &&& (4294967295 : Int64))) v361 h).bind fun r366 =>
      if (l4 + (1 : Int32)) < 0 then none else
      (xs[Int32.toNatClampNeg (l4 + (1 : Int32))]?).bind fun v367 =>
      if (l4 + (2 : Int32)) < 0 then none else
      (xs[Int32.toNatClampNeg (l4 + (2 : Int32))]?).bind fun v369 =>
      if (l4 + (3 : Int32)) < 0 then none else
      (xs[Int32.toNatClampNeg (l4 + (3 : Int32))]?).bind fun v371 =>
      (gv_is r366.2 l2 7).bind fun i373 =>
      (mM_feed l2 (((Int32.toInt64 v367) <<< (Int32.toInt64 (32 : Int32) &&& 63)) ||| ((Int32.toInt64 v369) &&& (4294967295 : Int64))) v371 r366.2).bind fun r376 =>
      if r366.1 = r376.1 then (
        lw_law_1320 xs (lw_law_23 xs n) l1 l2 l3 l4 r376.2) else
      some ((0 : Int32), r376.2)) else
    if (v2 &&& (31 : Int32)) = (20 : Int32) then (
      (gv_is h l1 0).bind fun i379 =>
      (cG_wipe l1 h).bind fun r382 =>
      (gv_is r382.2 l2 7).bind fun i383 =>
      (mM_wipe l2 r382.2).bind fun r386 =>
      if r382.1 = r386.1 then (
        lw_law_1320 xs (lw_law_23 xs n) l1 l2 l3 l4 r386.2) else
      some ((0 : Int32), r386.2)) else
    if (v2 &&& (31 : Int32)) = (21 : Int32) then (
      if (l4 + (1 : Int32)) < 0 then none else
      (xs[Int32.toNatClampNeg (l4 + (1 : Int32))]?).bind fun v389 =>
      if (l4 + (2 : Int32)) < 0 then none else
      (xs[Int32.toNatClampNeg (l4 + (2 : Int32))]?).bind fun v391 =>
      (gv_is h l1 0).bind fun i393 =>
      (cG_spoil l1 v389 v391 h).bind fun r396 =>
      if (l4 + (1 : Int32)) < 0 then none else
      (xs[Int32.toNatClampNeg (l4 + (1 : Int32))]?).bind fun v397 =>
      if (l4 + (2 : Int32)) < 0 then none else
      (xs[Int32.toNatClampNeg (l4 + (2 : Int32))]?).bind fun v399 =>
      (gv_is r396.2 l2 7).bind fun i401 =>
      (mM_spoil l2 v397 v399 r396.2).bind fun r404 =>
      if r396.1 = r404.1 then (
        lw_law_1320 xs (lw_law_23 xs n) l1 l2 l3 l4 r404.2) else
      some ((0 : Int32), r404.2)) else
    if (v2 &&& (31 : Int32)) = (22 : Int32) then (
      if (l4 + (1 : Int32)) < 0 then none else
      (xs[Int32.toNatClampNeg (l4 + (1 : Int32))]?).bind fun v407 =>
      (gv_is h l1 0).bind fun i409 =>
      (cG_byteAt l1 v407 h).bind fun v410 =>
      if (l4 + (1 : Int32)) < 0 then none else
      (xs[Int32.toNatClampNeg (l4 + (1 : Int32))]?).bind fun v411 =>
      (gv_is h l2 7).bind fun i413 =>
      (mM_byteAt l2 v411 h).bind fun r416 =>
      if v410 = r416.1 then (
        lw_law_1320 xs (lw_law_23 xs n) l1 l2 l3 l4 r416.2) else
      some ((0 : Int32), r416.2)) else
    lw_law_1320 xs (lw_law_23 xs n) l1 l2 l3 l4 h
theorem lw_law_23_ok {xs : List Int32} : ∀ (n : Nat) (l1 : Option Nat) (l2 : Option Nat) (l3 : Option Nat) (l4 : Int32) (h : gx_H) (r : (Int32 × gx_H)), lw_law_23 xs n l1 l2 l3 l4 h = some r → gv_V (some xs) 116 195 23 [(0, .float 0), (1, gv_u l1), (2, gv_u l2), (3, gv_u l3), (4, .int l4)] [] h (.returned (some (.int r.1))) r.2 := by
  intro n
  induction n with
  | zero => intro l1 l2 l3 l4 h r e; cases e
  | succ n ih =>
    intro l1 l2 l3 l4 h r e
    rw [lw_law_23] at e
    refine gv_ild (pc' := 25) rfl rfl rfl ?_
    refine gv_xld (pc' := 26) rfl rfl rfl ?_
    refine gv_xlen (pc' := 27) rfl rfl rfl ?_
    refine gv_bp (pc' := 29) (x := 6) rfl rfl rfl ?_
    refine gv_isub (pc' := 30) rfl rfl ?_
    by_cases c1 : (xs.length.toInt32 - (6 : Int32)) < l4
    · rw [if_pos c1] at e
      refine gv_cmT (pc' := 1326) rfl (gv_gtT2 c1) rfl ?_
      refine gv_ic (pc' := 1327) (x := 1) rfl rfl rfl ?_
      cases e
      exact gv_retZ rfl rfl (by decide)
    rw [if_neg c1] at e
    refine gv_cmF (pc' := 33) rfl (gv_gtF2 c1) rfl rfl ?_
    refine gv_xld (pc' := 34) rfl rfl rfl ?_
    refine gv_ild (pc' := 36) rfl rfl rfl ?_
    by_cases c3 : l4 < 0
    · rw [if_pos c3] at e; cases e
    rw [if_neg c3] at e
    obtain ⟨v2, qv2, e⟩ := gv_bind e
    refine gv_xal (pc' := 37) rfl rfl c3 qv2 rfl ?_
    refine gv_bp (pc' := 39) (x := 31) rfl rfl rfl ?_
    refine gv_iand (pc' := 40) rfl rfl ?_
    by_cases c4 : (v2 &&& (31 : Int32)) = (0 : Int32)
    · rw [if_pos c4] at e
      refine gv_sw (pc' := 148) (off := 108) rfl (by rw [c4]; rfl) rfl ?_
      refine gv_rldn (pc' := 149) rfl rfl rfl ?_
      refine gv_xld (pc' := 150) rfl rfl rfl ?_
      refine gv_ild (pc' := 152) rfl rfl rfl ?_
      refine gv_ic (pc' := 153) (x := 1) rfl rfl rfl ?_
      refine gv_iadd (pc' := 154) rfl rfl ?_
      by_cases c6 : (l4 + (1 : Int32)) < 0
      · rw [if_pos c6] at e; cases e
      rw [if_neg c6] at e
      obtain ⟨v5, qv5, e⟩ := gv_bind e
      refine gv_xal (pc' := 155) rfl rfl c6 qv5 rfl ?_
      refine gv_rldn (pc' := 156) rfl rfl rfl ?_
      obtain ⟨⟨v7, h8⟩, qv7, e⟩ := gv_bind e
      refine gv_sS (jc := 23) (n := 3) (rest := []) (stk := [.int v7]) (pc' := 159) rfl rfl rfl rfl rfl rfl rfl rfl rfl (gv_zR (gv_zI (gv_zR gv_z0))) rfl (gv_aR (gv_aI (gv_aR gv_a0))) (Nat.le_of_ble_eq_true rfl) (lw_make_ok qv7) rfl rfl ?_
      refine gv_ist (pc' := 161) rfl rfl (gv_Ci rfl) rfl ?_
      refine gv_rldn (pc' := 162) rfl rfl rfl ?_
      refine gv_xld (pc' := 163) rfl rfl rfl ?_
      refine gv_ild (pc' := 165) rfl rfl rfl ?_
      refine gv_ic (pc' := 166) (x := 1) rfl rfl rfl ?_
      refine gv_iadd (pc' := 167) rfl rfl ?_
      by_cases c11 : (l4 + (1 : Int32)) < 0
      · rw [if_pos c11] at e; cases e
      rw [if_neg c11] at e
      obtain ⟨v10, qv10, e⟩ := gv_bind e
      refine gv_xal (pc' := 168) rfl rfl c11 qv10 rfl ?_
      obtain ⟨i12, qi12, e⟩ := gv_bind e
      obtain ⟨⟨v13, h14⟩, qv13, e⟩ := gv_bind e
      refine gv_vS (jc := 121) (n := 1) (rest := []) (stk := [.int v13]) (pc' := 171) rfl rfl rfl rfl rfl rfl rfl rfl rfl (gv_zR (gv_zI gv_z0)) rfl (gv_aR (gv_aI gv_a0)) (Nat.le_of_ble_eq_true rfl) qi12 (mM_make_ok qv13) rfl rfl ?_
      refine gv_ist (pc' := 173) rfl rfl (gv_Ci rfl) rfl ?_
      refine gv_rldn (pc' := 174) rfl rfl rfl ?_
      obtain ⟨i16, qi16, e⟩ := gv_bind e
      obtain ⟨v17, qv17, e⟩ := gv_bind e
      refine gv_vS (jc := 120) (n := 0) (rest := []) (stk := [.int v17]) (pc' := 177) rfl rfl rfl rfl rfl rfl rfl rfl rfl (gv_zR gv_z0) rfl (gv_aR gv_a0) (Nat.le_of_ble_eq_true rfl) qi16 (mM_thrown_ok qv17) rfl rfl ?_
      refine gv_ild (pc' := 179) rfl rfl rfl ?_
      by_cases c18 : v17 = v7
      · rw [if_pos c18] at e
        refine gv_cmT (pc' := 184) rfl (gv_eqT2 c18) rfl ?_
        refine gv_ild (pc' := 186) rfl rfl rfl ?_
        by_cases c19 : v7 = 0
        · rw [if_pos c19] at e
          refine gv_ifF (pc' := 189) rfl (gv_neF c19) rfl rfl ?_
          refine gv_rldn (pc' := 190) rfl rfl rfl ?_
          refine gv_ic (pc' := 191) (x := 0) rfl rfl rfl ?_
          obtain ⟨v20, qv20, e⟩ := gv_bind e
          refine gv_lald (pc' := 192) rfl qv20 rfl ?_
          refine gv_ild (pc' := 194) rfl rfl rfl ?_
          refine gv_i2l (pc' := 195) rfl rfl ?_
          refine gv_lcmp (pc' := 196) rfl rfl ?_
          by_cases c21 : v20 = (Int32.toInt64 v13)
          · rw [if_pos c21] at e
            refine gv_ifT (pc' := 201) rfl (gv_eqTL c21) rfl ?_
            exact gv_weak (lw_law_201_ok ih e) (gv_S1 rfl (gv_S1 rfl (gv_S1 rfl (gv_S1 rfl (gv_S1 rfl gv_S0)))))
          rw [if_neg c21] at e
          refine gv_ifF (pc' := 199) rfl (gv_eqFL c21) rfl rfl ?_
          refine gv_ic (pc' := 200) (x := 0) rfl rfl rfl ?_
          cases e
          exact gv_retZ rfl rfl (by decide)
        rw [if_neg c19] at e
        refine gv_ifT (pc' := 201) rfl (gv_neT c19) rfl ?_
        exact gv_weak (lw_law_201_ok ih e) (gv_S1 rfl (gv_S1 rfl (gv_S1 rfl (gv_S1 rfl (gv_S1 rfl gv_S0)))))
      rw [if_neg c18] at e
      refine gv_cmF (pc' := 182) rfl (gv_eqF2 c18) rfl rfl ?_
      refine gv_ic (pc' := 183) (x := 0) rfl rfl rfl ?_
      cases e
      exact gv_retZ rfl rfl (by decide)
    rw [if_neg c4] at e
    by_cases c22 : (v2 &&& (31 : Int32)) = (1 : Int32)
    · rw [if_pos c22] at e
      refine gv_sw (pc' := 204) (off := 164) rfl (by rw [c22]; rfl) rfl ?_
      refine gv_rldn (pc' := 205) rfl rfl rfl ?_
      refine gv_xld (pc' := 206) rfl rfl rfl ?_
      refine gv_ild (pc' := 208) rfl rfl rfl ?_
      refine gv_ic (pc' := 209) (x := 1) rfl rfl rfl ?_
      refine gv_iadd (pc' := 210) rfl rfl ?_
      by_cases c24 : (l4 + (1 : Int32)) < 0
      · rw [if_pos c24] at e; cases e
      rw [if_neg c24] at e
      obtain ⟨v23, qv23, e⟩ := gv_bind e
      refine gv_xal (pc' := 211) rfl rfl c24 qv23 rfl ?_
      refine gv_i2l (pc' := 212) rfl rfl ?_
      refine gv_bp (pc' := 214) (x := 32) rfl rfl rfl ?_
      refine gv_lshl (pc' := 215) rfl rfl ?_
      refine gv_xld (pc' := 216) rfl rfl rfl ?_
      refine gv_ild (pc' := 218) rfl rfl rfl ?_
      refine gv_ic (pc' := 219) (x := 2) rfl rfl rfl ?_
      refine gv_iadd (pc' := 220) rfl rfl ?_
      by_cases c26 : (l4 + (2 : Int32)) < 0
      · rw [if_pos c26] at e; cases e
      rw [if_neg c26] at e
      obtain ⟨v25, qv25, e⟩ := gv_bind e
      refine gv_xal (pc' := 221) rfl rfl c26 qv25 rfl ?_
      refine gv_i2l (pc' := 222) rfl rfl ?_
      refine gv_ld (pc' := 225) (x := 4294967295) rfl rfl rfl ?_
      refine gv_land (pc' := 226) rfl rfl ?_
      refine gv_lor (pc' := 227) rfl rfl ?_
      refine gv_xld (pc' := 228) rfl rfl rfl ?_
      refine gv_ild (pc' := 230) rfl rfl rfl ?_
      refine gv_ic (pc' := 231) (x := 3) rfl rfl rfl ?_
      refine gv_iadd (pc' := 232) rfl rfl ?_
      by_cases c28 : (l4 + (3 : Int32)) < 0
      · rw [if_pos c28] at e; cases e
      rw [if_neg c28] at e
      obtain ⟨v27, qv27, e⟩ := gv_bind e
      refine gv_xal (pc' := 233) rfl rfl c28 qv27 rfl ?_
      refine gv_rldn (pc' := 234) rfl rfl rfl ?_
      obtain ⟨⟨v29, h30⟩, qv29, e⟩ := gv_bind e
      refine gv_sS (jc := 28) (n := 4) (rest := []) (stk := [.int v29]) (pc' := 237) rfl rfl rfl rfl rfl rfl rfl rfl rfl (gv_zR (gv_zJ (gv_zI (gv_zR gv_z0)))) rfl (gv_aR (gv_aJ (gv_aI (gv_aR gv_a0)))) (Nat.le_of_ble_eq_true rfl) (lw_buffer_ok qv29) rfl rfl ?_
      refine gv_ist (pc' := 239) rfl rfl (gv_Ci rfl) rfl ?_
      refine gv_rldn (pc' := 240) rfl rfl rfl ?_
      refine gv_xld (pc' := 241) rfl rfl rfl ?_
      refine gv_ild (pc' := 243) rfl rfl rfl ?_
      refine gv_ic (pc' := 244) (x := 1) rfl rfl rfl ?_
      refine gv_iadd (pc' := 245) rfl rfl ?_
      by_cases c33 : (l4 + (1 : Int32)) < 0
      · rw [if_pos c33] at e; cases e
      rw [if_neg c33] at e
      obtain ⟨v32, qv32, e⟩ := gv_bind e
      refine gv_xal (pc' := 246) rfl rfl c33 qv32 rfl ?_
      refine gv_i2l (pc' := 247) rfl rfl ?_
      refine gv_bp (pc' := 249) (x := 32) rfl rfl rfl ?_
      refine gv_lshl (pc' := 250) rfl rfl ?_
      refine gv_xld (pc' := 251) rfl rfl rfl ?_
      refine gv_ild (pc' := 253) rfl rfl rfl ?_
      refine gv_ic (pc' := 254) (x := 2) rfl rfl rfl ?_
      refine gv_iadd (pc' := 255) rfl rfl ?_
      by_cases c35 : (l4 + (2 : Int32)) < 0
      · rw [if_pos c35] at e; cases e
      rw [if_neg c35] at e
      obtain ⟨v34, qv34, e⟩ := gv_bind e
      refine gv_xal (pc' := 256) rfl rfl c35 qv34 rfl ?_
      refine gv_i2l (pc' := 257) rfl rfl ?_
      refine gv_ld (pc' := 260) (x := 4294967295) rfl rfl rfl ?_
      refine gv_land (pc' := 261) rfl rfl ?_
      refine gv_lor (pc' := 262) rfl rfl ?_
      refine gv_xld (pc' := 263) rfl rfl rfl ?_
      refine gv_ild (pc' := 265) rfl rfl rfl ?_
      refine gv_ic (pc' := 266) (x := 3) rfl rfl rfl ?_
      refine gv_iadd (pc' := 267) rfl rfl ?_
      by_cases c37 : (l4 + (3 : Int32)) < 0
      · rw [if_pos c37] at e; cases e
      rw [if_neg c37] at e
      obtain ⟨v36, qv36, e⟩ := gv_bind e
      refine gv_xal (pc' := 268) rfl rfl c37 qv36 rfl ?_
      obtain ⟨i38, qi38, e⟩ := gv_bind e
      obtain ⟨⟨v39, h40⟩, qv39, e⟩ := gv_bind e
      refine gv_vS (jc := 125) (n := 2) (rest := []) (stk := [.int v39]) (pc' := 271) rfl rfl rfl rfl rfl rfl rfl rfl rfl (gv_zR (gv_zJ (gv_zI gv_z0))) rfl (gv_aR (gv_aJ (gv_aI gv_a0))) (Nat.le_of_ble_eq_true rfl) qi38 (mM_buffer_ok qv39) rfl rfl ?_
      refine gv_ist (pc' := 273) rfl rfl (gv_Ci rfl) rfl ?_
      refine gv_rldn (pc' := 274) rfl rfl rfl ?_
      obtain ⟨i42, qi42, e⟩ := gv_bind e
      obtain ⟨v43, qv43, e⟩ := gv_bind e
      refine gv_vS (jc := 120) (n := 0) (rest := []) (stk := [.int v43]) (pc' := 277) rfl rfl rfl rfl rfl rfl rfl rfl rfl (gv_zR gv_z0) rfl (gv_aR gv_a0) (Nat.le_of_ble_eq_true rfl) qi42 (mM_thrown_ok qv43) rfl rfl ?_
      refine gv_ild (pc' := 279) rfl rfl rfl ?_
      by_cases c44 : v43 = v29
      · rw [if_pos c44] at e
        refine gv_cmT (pc' := 284) rfl (gv_eqT2 c44) rfl ?_
        refine gv_ild (pc' := 286) rfl rfl rfl ?_
        by_cases c45 : v29 = 0
        · rw [if_pos c45] at e
          refine gv_ifF (pc' := 289) rfl (gv_neF c45) rfl rfl ?_
          refine gv_rldn (pc' := 290) rfl rfl rfl ?_
          refine gv_ic (pc' := 291) (x := 0) rfl rfl rfl ?_
          obtain ⟨v46, qv46, e⟩ := gv_bind e
          refine gv_lald (pc' := 292) rfl qv46 rfl ?_
          refine gv_ild (pc' := 294) rfl rfl rfl ?_
          refine gv_i2l (pc' := 295) rfl rfl ?_
          refine gv_lcmp (pc' := 296) rfl rfl ?_
          by_cases c47 : v46 = (Int32.toInt64 v39)
          · rw [if_pos c47] at e
            refine gv_ifT (pc' := 301) rfl (gv_eqTL c47) rfl ?_
            exact gv_weak (lw_law_301_ok ih e) (gv_S1 rfl (gv_S1 rfl (gv_S1 rfl (gv_S1 rfl (gv_S1 rfl gv_S0)))))
          rw [if_neg c47] at e
          refine gv_ifF (pc' := 299) rfl (gv_eqFL c47) rfl rfl ?_
          refine gv_ic (pc' := 300) (x := 0) rfl rfl rfl ?_
          cases e
          exact gv_retZ rfl rfl (by decide)
        rw [if_neg c45] at e
        refine gv_ifT (pc' := 301) rfl (gv_neT c45) rfl ?_
        exact gv_weak (lw_law_301_ok ih e) (gv_S1 rfl (gv_S1 rfl (gv_S1 rfl (gv_S1 rfl (gv_S1 rfl gv_S0)))))
      rw [if_neg c44] at e
      refine gv_cmF (pc' := 282) rfl (gv_eqF2 c44) rfl rfl ?_
      refine gv_ic (pc' := 283) (x := 0) rfl rfl rfl ?_
      cases e
      exact gv_retZ rfl rfl (by decide)
    rw [if_neg c22] at e
    by_cases c48 : (v2 &&& (31 : Int32)) = (2 : Int32)
    · rw [if_pos c48] at e
      refine gv_sw (pc' := 304) (off := 264) rfl (by rw [c48]; rfl) rfl ?_
      refine gv_rldn (pc' := 305) rfl rfl rfl ?_
      refine gv_xld (pc' := 306) rfl rfl rfl ?_
      refine gv_ild (pc' := 308) rfl rfl rfl ?_
      refine gv_ic (pc' := 309) (x := 1) rfl rfl rfl ?_
      refine gv_iadd (pc' := 310) rfl rfl ?_
      by_cases c50 : (l4 + (1 : Int32)) < 0
      · rw [if_pos c50] at e; cases e
      rw [if_neg c50] at e
      obtain ⟨v49, qv49, e⟩ := gv_bind e
      refine gv_xal (pc' := 311) rfl rfl c50 qv49 rfl ?_
      refine gv_xld (pc' := 312) rfl rfl rfl ?_
      refine gv_ild (pc' := 314) rfl rfl rfl ?_
      refine gv_ic (pc' := 315) (x := 2) rfl rfl rfl ?_
      refine gv_iadd (pc' := 316) rfl rfl ?_
      by_cases c52 : (l4 + (2 : Int32)) < 0
      · rw [if_pos c52] at e; cases e
      rw [if_neg c52] at e
      obtain ⟨v51, qv51, e⟩ := gv_bind e
      refine gv_xal (pc' := 317) rfl rfl c52 qv51 rfl ?_
      refine gv_xld (pc' := 318) rfl rfl rfl ?_
      refine gv_ild (pc' := 320) rfl rfl rfl ?_
      refine gv_ic (pc' := 321) (x := 3) rfl rfl rfl ?_
      refine gv_iadd (pc' := 322) rfl rfl ?_
      by_cases c54 : (l4 + (3 : Int32)) < 0
      · rw [if_pos c54] at e; cases e
      rw [if_neg c54] at e
      obtain ⟨v53, qv53, e⟩ := gv_bind e
      refine gv_xal (pc' := 323) rfl rfl c54 qv53 rfl ?_
      refine gv_xld (pc' := 324) rfl rfl rfl ?_
      refine gv_ild (pc' := 326) rfl rfl rfl ?_
      refine gv_ic (pc' := 327) (x := 4) rfl rfl rfl ?_
      refine gv_iadd (pc' := 328) rfl rfl ?_
      by_cases c56 : (l4 + (4 : Int32)) < 0
      · rw [if_pos c56] at e; cases e
      rw [if_neg c56] at e
      obtain ⟨v55, qv55, e⟩ := gv_bind e
      refine gv_xal (pc' := 329) rfl rfl c56 qv55 rfl ?_
      refine gv_rldn (pc' := 330) rfl rfl rfl ?_
      obtain ⟨⟨v57, h58⟩, qv57, e⟩ := gv_bind e
      refine gv_sS (jc := 31) (n := 6) (rest := []) (stk := [.int v57]) (pc' := 333) rfl rfl rfl rfl rfl rfl rfl rfl rfl (gv_zR (gv_zI (gv_zI (gv_zI (gv_zI (gv_zR gv_z0)))))) rfl (gv_aR (gv_aI (gv_aI (gv_aI (gv_aI (gv_aR gv_a0)))))) (Nat.le_of_ble_eq_true rfl) (lw_view_ok qv57) rfl rfl ?_
      refine gv_ist (pc' := 335) rfl rfl (gv_Ci rfl) rfl ?_
      refine gv_rldn (pc' := 336) rfl rfl rfl ?_
      refine gv_xld (pc' := 337) rfl rfl rfl ?_
      refine gv_ild (pc' := 339) rfl rfl rfl ?_
      refine gv_ic (pc' := 340) (x := 1) rfl rfl rfl ?_
      refine gv_iadd (pc' := 341) rfl rfl ?_
      by_cases c61 : (l4 + (1 : Int32)) < 0
      · rw [if_pos c61] at e; cases e
      rw [if_neg c61] at e
      obtain ⟨v60, qv60, e⟩ := gv_bind e
      refine gv_xal (pc' := 342) rfl rfl c61 qv60 rfl ?_
      refine gv_xld (pc' := 343) rfl rfl rfl ?_
      refine gv_ild (pc' := 345) rfl rfl rfl ?_
      refine gv_ic (pc' := 346) (x := 2) rfl rfl rfl ?_
      refine gv_iadd (pc' := 347) rfl rfl ?_
      by_cases c63 : (l4 + (2 : Int32)) < 0
      · rw [if_pos c63] at e; cases e
      rw [if_neg c63] at e
      obtain ⟨v62, qv62, e⟩ := gv_bind e
      refine gv_xal (pc' := 348) rfl rfl c63 qv62 rfl ?_
      refine gv_xld (pc' := 349) rfl rfl rfl ?_
      refine gv_ild (pc' := 351) rfl rfl rfl ?_
      refine gv_ic (pc' := 352) (x := 3) rfl rfl rfl ?_
      refine gv_iadd (pc' := 353) rfl rfl ?_
      by_cases c65 : (l4 + (3 : Int32)) < 0
      · rw [if_pos c65] at e; cases e
      rw [if_neg c65] at e
      obtain ⟨v64, qv64, e⟩ := gv_bind e
      refine gv_xal (pc' := 354) rfl rfl c65 qv64 rfl ?_
      refine gv_xld (pc' := 355) rfl rfl rfl ?_
      refine gv_ild (pc' := 357) rfl rfl rfl ?_
      refine gv_ic (pc' := 358) (x := 4) rfl rfl rfl ?_
      refine gv_iadd (pc' := 359) rfl rfl ?_
      by_cases c67 : (l4 + (4 : Int32)) < 0
      · rw [if_pos c67] at e; cases e
      rw [if_neg c67] at e
      obtain ⟨v66, qv66, e⟩ := gv_bind e
      refine gv_xal (pc' := 360) rfl rfl c67 qv66 rfl ?_
      obtain ⟨i68, qi68, e⟩ := gv_bind e
      obtain ⟨⟨v69, h70⟩, qv69, e⟩ := gv_bind e
      refine gv_vS (jc := 126) (n := 4) (rest := []) (stk := [.int v69]) (pc' := 363) rfl rfl rfl rfl rfl rfl rfl rfl rfl (gv_zR (gv_zI (gv_zI (gv_zI (gv_zI gv_z0))))) rfl (gv_aR (gv_aI (gv_aI (gv_aI (gv_aI gv_a0))))) (Nat.le_of_ble_eq_true rfl) qi68 (mM_view_ok qv69) rfl rfl ?_
      refine gv_ist (pc' := 365) rfl rfl (gv_Ci rfl) rfl ?_
      refine gv_rldn (pc' := 366) rfl rfl rfl ?_
      obtain ⟨i72, qi72, e⟩ := gv_bind e
      obtain ⟨v73, qv73, e⟩ := gv_bind e
      refine gv_vS (jc := 120) (n := 0) (rest := []) (stk := [.int v73]) (pc' := 369) rfl rfl rfl rfl rfl rfl rfl rfl rfl (gv_zR gv_z0) rfl (gv_aR gv_a0) (Nat.le_of_ble_eq_true rfl) qi72 (mM_thrown_ok qv73) rfl rfl ?_
      refine gv_ild (pc' := 371) rfl rfl rfl ?_
      by_cases c74 : v73 = v57
      · rw [if_pos c74] at e
        refine gv_cmT (pc' := 376) rfl (gv_eqT2 c74) rfl ?_
        refine gv_ild (pc' := 378) rfl rfl rfl ?_
        by_cases c75 : v57 = 0
        · rw [if_pos c75] at e
          refine gv_ifF (pc' := 381) rfl (gv_neF c75) rfl rfl ?_
          refine gv_rldn (pc' := 382) rfl rfl rfl ?_
          refine gv_ic (pc' := 383) (x := 0) rfl rfl rfl ?_
          obtain ⟨v76, qv76, e⟩ := gv_bind e
          refine gv_lald (pc' := 384) rfl qv76 rfl ?_
          refine gv_ild (pc' := 386) rfl rfl rfl ?_
          refine gv_i2l (pc' := 387) rfl rfl ?_
          refine gv_lcmp (pc' := 388) rfl rfl ?_
          by_cases c77 : v76 = (Int32.toInt64 v69)
          · rw [if_pos c77] at e
            refine gv_ifT (pc' := 393) rfl (gv_eqTL c77) rfl ?_
            exact gv_weak (lw_law_393_ok ih e) (gv_S1 rfl (gv_S1 rfl (gv_S1 rfl (gv_S1 rfl (gv_S1 rfl gv_S0)))))
          rw [if_neg c77] at e
          refine gv_ifF (pc' := 391) rfl (gv_eqFL c77) rfl rfl ?_
          refine gv_ic (pc' := 392) (x := 0) rfl rfl rfl ?_
          cases e
          exact gv_retZ rfl rfl (by decide)
        rw [if_neg c75] at e
        refine gv_ifT (pc' := 393) rfl (gv_neT c75) rfl ?_
        exact gv_weak (lw_law_393_ok ih e) (gv_S1 rfl (gv_S1 rfl (gv_S1 rfl (gv_S1 rfl (gv_S1 rfl gv_S0)))))
      rw [if_neg c74] at e
      refine gv_cmF (pc' := 374) rfl (gv_eqF2 c74) rfl rfl ?_
      refine gv_ic (pc' := 375) (x := 0) rfl rfl rfl ?_
      cases e
      exact gv_retZ rfl rfl (by decide)
    rw [if_neg c48] at e
    by_cases c78 : (v2 &&& (31 : Int32)) = (3 : Int32)
    · rw [if_pos c78] at e
      refine gv_sw (pc' := 396) (off := 356) rfl (by rw [c78]; rfl) rfl ?_
      refine gv_rldn (pc' := 397) rfl rfl rfl ?_
      refine gv_xld (pc' := 398) rfl rfl rfl ?_
      refine gv_ild (pc' := 400) rfl rfl rfl ?_
      refine gv_ic (pc' := 401) (x := 1) rfl rfl rfl ?_
      refine gv_iadd (pc' := 402) rfl rfl ?_
      by_cases c80 : (l4 + (1 : Int32)) < 0
      · rw [if_pos c80] at e; cases e
      rw [if_neg c80] at e
      obtain ⟨v79, qv79, e⟩ := gv_bind e
      refine gv_xal (pc' := 403) rfl rfl c80 qv79 rfl ?_
      refine gv_i2l (pc' := 404) rfl rfl ?_
      refine gv_bp (pc' := 406) (x := 32) rfl rfl rfl ?_
      refine gv_lshl (pc' := 407) rfl rfl ?_
      refine gv_xld (pc' := 408) rfl rfl rfl ?_
      refine gv_ild (pc' := 410) rfl rfl rfl ?_
      refine gv_ic (pc' := 411) (x := 2) rfl rfl rfl ?_
      refine gv_iadd (pc' := 412) rfl rfl ?_
      by_cases c82 : (l4 + (2 : Int32)) < 0
      · rw [if_pos c82] at e; cases e
      rw [if_neg c82] at e
      obtain ⟨v81, qv81, e⟩ := gv_bind e
      refine gv_xal (pc' := 413) rfl rfl c82 qv81 rfl ?_
      refine gv_i2l (pc' := 414) rfl rfl ?_
      refine gv_ld (pc' := 417) (x := 4294967295) rfl rfl rfl ?_
      refine gv_land (pc' := 418) rfl rfl ?_
      refine gv_lor (pc' := 419) rfl rfl ?_
      refine gv_rldn (pc' := 420) rfl rfl rfl ?_
      obtain ⟨⟨v83, h84⟩, qv83, e⟩ := gv_bind e
      refine gv_sS (jc := 35) (n := 3) (rest := []) (stk := [.int v83]) (pc' := 423) rfl rfl rfl rfl rfl rfl rfl rfl rfl (gv_zR (gv_zJ (gv_zR gv_z0))) rfl (gv_aR (gv_aJ (gv_aR gv_a0))) (Nat.le_of_ble_eq_true rfl) (lw_stamp_ok qv83) rfl rfl ?_
      refine gv_ist (pc' := 425) rfl rfl (gv_Ci rfl) rfl ?_
      refine gv_rldn (pc' := 426) rfl rfl rfl ?_
      refine gv_xld (pc' := 427) rfl rfl rfl ?_
      refine gv_ild (pc' := 429) rfl rfl rfl ?_
      refine gv_ic (pc' := 430) (x := 1) rfl rfl rfl ?_
      refine gv_iadd (pc' := 431) rfl rfl ?_
      by_cases c87 : (l4 + (1 : Int32)) < 0
      · rw [if_pos c87] at e; cases e
      rw [if_neg c87] at e
      obtain ⟨v86, qv86, e⟩ := gv_bind e
      refine gv_xal (pc' := 432) rfl rfl c87 qv86 rfl ?_
      refine gv_i2l (pc' := 433) rfl rfl ?_
      refine gv_bp (pc' := 435) (x := 32) rfl rfl rfl ?_
      refine gv_lshl (pc' := 436) rfl rfl ?_
      refine gv_xld (pc' := 437) rfl rfl rfl ?_
      refine gv_ild (pc' := 439) rfl rfl rfl ?_
      refine gv_ic (pc' := 440) (x := 2) rfl rfl rfl ?_
      refine gv_iadd (pc' := 441) rfl rfl ?_
      by_cases c89 : (l4 + (2 : Int32)) < 0
      · rw [if_pos c89] at e; cases e
      rw [if_neg c89] at e
      obtain ⟨v88, qv88, e⟩ := gv_bind e
      refine gv_xal (pc' := 442) rfl rfl c89 qv88 rfl ?_
      refine gv_i2l (pc' := 443) rfl rfl ?_
      refine gv_ld (pc' := 446) (x := 4294967295) rfl rfl rfl ?_
      refine gv_land (pc' := 447) rfl rfl ?_
      refine gv_lor (pc' := 448) rfl rfl ?_
      obtain ⟨i90, qi90, e⟩ := gv_bind e
      obtain ⟨⟨v91, h92⟩, qv91, e⟩ := gv_bind e
      refine gv_vS (jc := 132) (n := 1) (rest := []) (stk := [.int v91]) (pc' := 451) rfl rfl rfl rfl rfl rfl rfl rfl rfl (gv_zR (gv_zJ gv_z0)) rfl (gv_aR (gv_aJ gv_a0)) (Nat.le_of_ble_eq_true rfl) qi90 (mM_stamp_ok qv91) rfl rfl ?_
      refine gv_ist (pc' := 453) rfl rfl (gv_Ci rfl) rfl ?_
      refine gv_rldn (pc' := 454) rfl rfl rfl ?_
      obtain ⟨i94, qi94, e⟩ := gv_bind e
      obtain ⟨v95, qv95, e⟩ := gv_bind e
      refine gv_vS (jc := 120) (n := 0) (rest := []) (stk := [.int v95]) (pc' := 457) rfl rfl rfl rfl rfl rfl rfl rfl rfl (gv_zR gv_z0) rfl (gv_aR gv_a0) (Nat.le_of_ble_eq_true rfl) qi94 (mM_thrown_ok qv95) rfl rfl ?_
      refine gv_ild (pc' := 459) rfl rfl rfl ?_
      by_cases c96 : v95 = v83
      · rw [if_pos c96] at e
        refine gv_cmT (pc' := 464) rfl (gv_eqT2 c96) rfl ?_
        refine gv_ild (pc' := 466) rfl rfl rfl ?_
        by_cases c97 : v83 = 0
        · rw [if_pos c97] at e
          refine gv_ifF (pc' := 469) rfl (gv_neF c97) rfl rfl ?_
          refine gv_rldn (pc' := 470) rfl rfl rfl ?_
          refine gv_ic (pc' := 471) (x := 0) rfl rfl rfl ?_
          obtain ⟨v98, qv98, e⟩ := gv_bind e
          refine gv_lald (pc' := 472) rfl qv98 rfl ?_
          refine gv_ild (pc' := 474) rfl rfl rfl ?_
          refine gv_i2l (pc' := 475) rfl rfl ?_
          refine gv_lcmp (pc' := 476) rfl rfl ?_
          by_cases c99 : v98 = (Int32.toInt64 v91)
          · rw [if_pos c99] at e
            refine gv_ifT (pc' := 481) rfl (gv_eqTL c99) rfl ?_
            exact gv_weak (lw_law_481_ok ih e) (gv_S1 rfl (gv_S1 rfl (gv_S1 rfl (gv_S1 rfl (gv_S1 rfl gv_S0)))))
          rw [if_neg c99] at e
          refine gv_ifF (pc' := 479) rfl (gv_eqFL c99) rfl rfl ?_
          refine gv_ic (pc' := 480) (x := 0) rfl rfl rfl ?_
          cases e
          exact gv_retZ rfl rfl (by decide)
        rw [if_neg c97] at e
        refine gv_ifT (pc' := 481) rfl (gv_neT c97) rfl ?_
        exact gv_weak (lw_law_481_ok ih e) (gv_S1 rfl (gv_S1 rfl (gv_S1 rfl (gv_S1 rfl (gv_S1 rfl gv_S0)))))
      rw [if_neg c96] at e
      refine gv_cmF (pc' := 462) rfl (gv_eqF2 c96) rfl rfl ?_
      refine gv_ic (pc' := 463) (x := 0) rfl rfl rfl ?_
      cases e
      exact gv_retZ rfl rfl (by decide)
    rw [if_neg c78] at e
    by_cases c100 : (v2 &&& (31 : Int32)) = (4 : Int32)
    · rw [if_pos c100] at e
      refine gv_sw (pc' := 484) (off := 444) rfl (by rw [c100]; rfl) rfl ?_
      refine gv_rldn (pc' := 485) rfl rfl rfl ?_
      refine gv_xld (pc' := 486) rfl rfl rfl ?_
      refine gv_ild (pc' := 488) rfl rfl rfl ?_
      refine gv_ic (pc' := 489) (x := 1) rfl rfl rfl ?_
      refine gv_iadd (pc' := 490) rfl rfl ?_
      by_cases c102 : (l4 + (1 : Int32)) < 0
      · rw [if_pos c102] at e; cases e
      rw [if_neg c102] at e
      obtain ⟨v101, qv101, e⟩ := gv_bind e
      refine gv_xal (pc' := 491) rfl rfl c102 qv101 rfl ?_
      refine gv_xld (pc' := 492) rfl rfl rfl ?_
      refine gv_ild (pc' := 494) rfl rfl rfl ?_
      refine gv_ic (pc' := 495) (x := 2) rfl rfl rfl ?_
      refine gv_iadd (pc' := 496) rfl rfl ?_
      by_cases c104 : (l4 + (2 : Int32)) < 0
      · rw [if_pos c104] at e; cases e
      rw [if_neg c104] at e
      obtain ⟨v103, qv103, e⟩ := gv_bind e
      refine gv_xal (pc' := 497) rfl rfl c104 qv103 rfl ?_
      refine gv_xld (pc' := 498) rfl rfl rfl ?_
      refine gv_ild (pc' := 500) rfl rfl rfl ?_
      refine gv_ic (pc' := 501) (x := 3) rfl rfl rfl ?_
      refine gv_iadd (pc' := 502) rfl rfl ?_
      by_cases c106 : (l4 + (3 : Int32)) < 0
      · rw [if_pos c106] at e; cases e
      rw [if_neg c106] at e
      obtain ⟨v105, qv105, e⟩ := gv_bind e
      refine gv_xal (pc' := 503) rfl rfl c106 qv105 rfl ?_
      refine gv_xld (pc' := 504) rfl rfl rfl ?_
      refine gv_ild (pc' := 506) rfl rfl rfl ?_
      refine gv_ic (pc' := 507) (x := 4) rfl rfl rfl ?_
      refine gv_iadd (pc' := 508) rfl rfl ?_
      by_cases c108 : (l4 + (4 : Int32)) < 0
      · rw [if_pos c108] at e; cases e
      rw [if_neg c108] at e
      obtain ⟨v107, qv107, e⟩ := gv_bind e
      refine gv_xal (pc' := 509) rfl rfl c108 qv107 rfl ?_
      obtain ⟨⟨v109, h110⟩, qv109, e⟩ := gv_bind e
      refine gv_sS (jc := 37) (n := 5) (rest := []) (stk := [.int v109]) (pc' := 512) rfl rfl rfl rfl rfl rfl rfl rfl rfl (gv_zR (gv_zI (gv_zI (gv_zI (gv_zI gv_z0))))) rfl (gv_aR (gv_aI (gv_aI (gv_aI (gv_aI gv_a0))))) (Nat.le_of_ble_eq_true rfl) (lw_put_ok qv109) rfl rfl ?_
      refine gv_ist (pc' := 514) rfl rfl (gv_Ci rfl) rfl ?_
      refine gv_rldn (pc' := 515) rfl rfl rfl ?_
      refine gv_xld (pc' := 516) rfl rfl rfl ?_
      refine gv_ild (pc' := 518) rfl rfl rfl ?_
      refine gv_ic (pc' := 519) (x := 1) rfl rfl rfl ?_
      refine gv_iadd (pc' := 520) rfl rfl ?_
      by_cases c113 : (l4 + (1 : Int32)) < 0
      · rw [if_pos c113] at e; cases e
      rw [if_neg c113] at e
      obtain ⟨v112, qv112, e⟩ := gv_bind e
      refine gv_xal (pc' := 521) rfl rfl c113 qv112 rfl ?_
      refine gv_xld (pc' := 522) rfl rfl rfl ?_
      refine gv_ild (pc' := 524) rfl rfl rfl ?_
      refine gv_ic (pc' := 525) (x := 2) rfl rfl rfl ?_
      refine gv_iadd (pc' := 526) rfl rfl ?_
      by_cases c115 : (l4 + (2 : Int32)) < 0
      · rw [if_pos c115] at e; cases e
      rw [if_neg c115] at e
      obtain ⟨v114, qv114, e⟩ := gv_bind e
      refine gv_xal (pc' := 527) rfl rfl c115 qv114 rfl ?_
      refine gv_xld (pc' := 528) rfl rfl rfl ?_
      refine gv_ild (pc' := 530) rfl rfl rfl ?_
      refine gv_ic (pc' := 531) (x := 3) rfl rfl rfl ?_
      refine gv_iadd (pc' := 532) rfl rfl ?_
      by_cases c117 : (l4 + (3 : Int32)) < 0
      · rw [if_pos c117] at e; cases e
      rw [if_neg c117] at e
      obtain ⟨v116, qv116, e⟩ := gv_bind e
      refine gv_xal (pc' := 533) rfl rfl c117 qv116 rfl ?_
      refine gv_xld (pc' := 534) rfl rfl rfl ?_
      refine gv_ild (pc' := 536) rfl rfl rfl ?_
      refine gv_ic (pc' := 537) (x := 4) rfl rfl rfl ?_
      refine gv_iadd (pc' := 538) rfl rfl ?_
      by_cases c119 : (l4 + (4 : Int32)) < 0
      · rw [if_pos c119] at e; cases e
      rw [if_neg c119] at e
      obtain ⟨v118, qv118, e⟩ := gv_bind e
      refine gv_xal (pc' := 539) rfl rfl c119 qv118 rfl ?_
      obtain ⟨i120, qi120, e⟩ := gv_bind e
      obtain ⟨h122, qv121, e⟩ := gv_bind e
      refine gv_vS (jc := 133) (n := 4) (rest := []) (stk := []) (pc' := 542) rfl rfl rfl rfl rfl rfl rfl rfl rfl (gv_zR (gv_zI (gv_zI (gv_zI (gv_zI gv_z0))))) rfl (gv_aR (gv_aI (gv_aI (gv_aI (gv_aI gv_a0))))) (Nat.le_of_ble_eq_true rfl) qi120 (mM_put_ok qv121) rfl rfl ?_
      refine gv_rldn (pc' := 543) rfl rfl rfl ?_
      obtain ⟨i123, qi123, e⟩ := gv_bind e
      obtain ⟨v124, qv124, e⟩ := gv_bind e
      refine gv_vS (jc := 120) (n := 0) (rest := []) (stk := [.int v124]) (pc' := 546) rfl rfl rfl rfl rfl rfl rfl rfl rfl (gv_zR gv_z0) rfl (gv_aR gv_a0) (Nat.le_of_ble_eq_true rfl) qi123 (mM_thrown_ok qv124) rfl rfl ?_
      refine gv_ild (pc' := 548) rfl rfl rfl ?_
      by_cases c125 : v124 = v109
      · rw [if_pos c125] at e
        refine gv_cmT (pc' := 553) rfl (gv_eqT2 c125) rfl ?_
        refine gv_goto (pc' := 1320) rfl rfl ?_
        exact gv_weak (lw_law_1320_ok ih e) (gv_S1 rfl (gv_S1 rfl (gv_S1 rfl (gv_S1 rfl (gv_S1 rfl gv_S0)))))
      rw [if_neg c125] at e
      refine gv_cmF (pc' := 551) rfl (gv_eqF2 c125) rfl rfl ?_
      refine gv_ic (pc' := 552) (x := 0) rfl rfl rfl ?_
      cases e
      exact gv_retZ rfl rfl (by decide)
    rw [if_neg c100] at e
    by_cases c126 : (v2 &&& (31 : Int32)) = (5 : Int32)
    · rw [if_pos c126] at e
      refine gv_sw (pc' := 556) (off := 516) rfl (by rw [c126]; rfl) rfl ?_
      refine gv_rldn (pc' := 557) rfl rfl rfl ?_
      refine gv_xld (pc' := 558) rfl rfl rfl ?_
      refine gv_ild (pc' := 560) rfl rfl rfl ?_
      refine gv_ic (pc' := 561) (x := 1) rfl rfl rfl ?_
      refine gv_iadd (pc' := 562) rfl rfl ?_
      by_cases c128 : (l4 + (1 : Int32)) < 0
      · rw [if_pos c128] at e; cases e
      rw [if_neg c128] at e
      obtain ⟨v127, qv127, e⟩ := gv_bind e
      refine gv_xal (pc' := 563) rfl rfl c128 qv127 rfl ?_
      refine gv_xld (pc' := 564) rfl rfl rfl ?_
      refine gv_ild (pc' := 566) rfl rfl rfl ?_
      refine gv_ic (pc' := 567) (x := 2) rfl rfl rfl ?_
      refine gv_iadd (pc' := 568) rfl rfl ?_
      by_cases c130 : (l4 + (2 : Int32)) < 0
      · rw [if_pos c130] at e; cases e
      rw [if_neg c130] at e
      obtain ⟨v129, qv129, e⟩ := gv_bind e
      refine gv_xal (pc' := 569) rfl rfl c130 qv129 rfl ?_
      refine gv_rldn (pc' := 570) rfl rfl rfl ?_
      obtain ⟨⟨v131, h132⟩, qv131, e⟩ := gv_bind e
      refine gv_sS (jc := 50) (n := 4) (rest := []) (stk := [.int v131]) (pc' := 573) rfl rfl rfl rfl rfl rfl rfl rfl rfl (gv_zR (gv_zI (gv_zI (gv_zR gv_z0)))) rfl (gv_aR (gv_aI (gv_aI (gv_aR gv_a0)))) (Nat.le_of_ble_eq_true rfl) (lw_take_ok qv131) rfl rfl ?_
      refine gv_ist (pc' := 575) rfl rfl (gv_Ci rfl) rfl ?_
      refine gv_rldn (pc' := 576) rfl rfl rfl ?_
      refine gv_xld (pc' := 577) rfl rfl rfl ?_
      refine gv_ild (pc' := 579) rfl rfl rfl ?_
      refine gv_ic (pc' := 580) (x := 1) rfl rfl rfl ?_
      refine gv_iadd (pc' := 581) rfl rfl ?_
      by_cases c135 : (l4 + (1 : Int32)) < 0
      · rw [if_pos c135] at e; cases e
      rw [if_neg c135] at e
      obtain ⟨v134, qv134, e⟩ := gv_bind e
      refine gv_xal (pc' := 582) rfl rfl c135 qv134 rfl ?_
      refine gv_xld (pc' := 583) rfl rfl rfl ?_
      refine gv_ild (pc' := 585) rfl rfl rfl ?_
      refine gv_ic (pc' := 586) (x := 2) rfl rfl rfl ?_
      refine gv_iadd (pc' := 587) rfl rfl ?_
      by_cases c137 : (l4 + (2 : Int32)) < 0
      · rw [if_pos c137] at e; cases e
      rw [if_neg c137] at e
      obtain ⟨v136, qv136, e⟩ := gv_bind e
      refine gv_xal (pc' := 588) rfl rfl c137 qv136 rfl ?_
      obtain ⟨i138, qi138, e⟩ := gv_bind e
      obtain ⟨⟨v139, h140⟩, qv139, e⟩ := gv_bind e
      refine gv_vS (jc := 141) (n := 2) (rest := []) (stk := [.int v139]) (pc' := 591) rfl rfl rfl rfl rfl rfl rfl rfl rfl (gv_zR (gv_zI (gv_zI gv_z0))) rfl (gv_aR (gv_aI (gv_aI gv_a0))) (Nat.le_of_ble_eq_true rfl) qi138 (mM_take_ok qv139) rfl rfl ?_
      refine gv_ist (pc' := 593) rfl rfl (gv_Ci rfl) rfl ?_
      refine gv_rldn (pc' := 594) rfl rfl rfl ?_
      obtain ⟨i142, qi142, e⟩ := gv_bind e
      obtain ⟨v143, qv143, e⟩ := gv_bind e
      refine gv_vS (jc := 120) (n := 0) (rest := []) (stk := [.int v143]) (pc' := 597) rfl rfl rfl rfl rfl rfl rfl rfl rfl (gv_zR gv_z0) rfl (gv_aR gv_a0) (Nat.le_of_ble_eq_true rfl) qi142 (mM_thrown_ok qv143) rfl rfl ?_
      refine gv_ild (pc' := 599) rfl rfl rfl ?_
      by_cases c144 : v143 = v131
      · rw [if_pos c144] at e
        refine gv_cmT (pc' := 604) rfl (gv_eqT2 c144) rfl ?_
        refine gv_ild (pc' := 606) rfl rfl rfl ?_
        by_cases c145 : v131 = 0
        · rw [if_pos c145] at e
          refine gv_ifF (pc' := 609) rfl (gv_neF c145) rfl rfl ?_
          refine gv_rldn (pc' := 610) rfl rfl rfl ?_
          refine gv_ic (pc' := 611) (x := 0) rfl rfl rfl ?_
          obtain ⟨v146, qv146, e⟩ := gv_bind e
          refine gv_lald (pc' := 612) rfl qv146 rfl ?_
          refine gv_ild (pc' := 614) rfl rfl rfl ?_
          by_cases c147 : v139 = 0
          · rw [if_pos c147] at e
            refine gv_ifT (pc' := 621) rfl (gv_eqT c147) rfl ?_
            refine gv_lc (pc' := 622) (x := 0) rfl rfl rfl ?_
            exact gv_weak (lw_law_622_ok ih e) (gv_S1 rfl (gv_S1 rfl (gv_S1 rfl (gv_S1 rfl (gv_S1 rfl gv_S0)))))
          rw [if_neg c147] at e
          refine gv_ifF (pc' := 617) rfl (gv_eqF c147) rfl rfl ?_
          refine gv_lc (pc' := 618) (x := 1) rfl rfl rfl ?_
          refine gv_goto (pc' := 622) rfl rfl ?_
          exact gv_weak (lw_law_622_ok ih e) (gv_S1 rfl (gv_S1 rfl (gv_S1 rfl (gv_S1 rfl (gv_S1 rfl gv_S0)))))
        rw [if_neg c145] at e
        refine gv_ifT (pc' := 628) rfl (gv_neT c145) rfl ?_
        exact gv_weak (lw_law_628_ok ih e) (gv_S1 rfl (gv_S1 rfl (gv_S1 rfl (gv_S1 rfl (gv_S1 rfl gv_S0)))))
      rw [if_neg c144] at e
      refine gv_cmF (pc' := 602) rfl (gv_eqF2 c144) rfl rfl ?_
      refine gv_ic (pc' := 603) (x := 0) rfl rfl rfl ?_
      cases e
      exact gv_retZ rfl rfl (by decide)
    rw [if_neg c126] at e
    by_cases c148 : (v2 &&& (31 : Int32)) = (6 : Int32)
    · rw [if_pos c148] at e
      refine gv_sw (pc' := 631) (off := 591) rfl (by rw [c148]; rfl) rfl ?_
      refine gv_rldn (pc' := 632) rfl rfl rfl ?_
      refine gv_xld (pc' := 633) rfl rfl rfl ?_
      refine gv_ild (pc' := 635) rfl rfl rfl ?_
      refine gv_ic (pc' := 636) (x := 1) rfl rfl rfl ?_
      refine gv_iadd (pc' := 637) rfl rfl ?_
      by_cases c150 : (l4 + (1 : Int32)) < 0
      · rw [if_pos c150] at e; cases e
      rw [if_neg c150] at e
      obtain ⟨v149, qv149, e⟩ := gv_bind e
      refine gv_xal (pc' := 638) rfl rfl c150 qv149 rfl ?_
      refine gv_xld (pc' := 639) rfl rfl rfl ?_
      refine gv_ild (pc' := 641) rfl rfl rfl ?_
      refine gv_ic (pc' := 642) (x := 2) rfl rfl rfl ?_
      refine gv_iadd (pc' := 643) rfl rfl ?_
      by_cases c152 : (l4 + (2 : Int32)) < 0
      · rw [if_pos c152] at e; cases e
      rw [if_neg c152] at e
      obtain ⟨v151, qv151, e⟩ := gv_bind e
      refine gv_xal (pc' := 644) rfl rfl c152 qv151 rfl ?_
      refine gv_xld (pc' := 645) rfl rfl rfl ?_
      refine gv_ild (pc' := 647) rfl rfl rfl ?_
      refine gv_ic (pc' := 648) (x := 3) rfl rfl rfl ?_
      refine gv_iadd (pc' := 649) rfl rfl ?_
      by_cases c154 : (l4 + (3 : Int32)) < 0
      · rw [if_pos c154] at e; cases e
      rw [if_neg c154] at e
      obtain ⟨v153, qv153, e⟩ := gv_bind e
      refine gv_xal (pc' := 650) rfl rfl c154 qv153 rfl ?_
      refine gv_xld (pc' := 651) rfl rfl rfl ?_
      refine gv_ild (pc' := 653) rfl rfl rfl ?_
      refine gv_ic (pc' := 654) (x := 4) rfl rfl rfl ?_
      refine gv_iadd (pc' := 655) rfl rfl ?_
      by_cases c156 : (l4 + (4 : Int32)) < 0
      · rw [if_pos c156] at e; cases e
      rw [if_neg c156] at e
      obtain ⟨v155, qv155, e⟩ := gv_bind e
      refine gv_xal (pc' := 656) rfl rfl c156 qv155 rfl ?_
      refine gv_xld (pc' := 657) rfl rfl rfl ?_
      refine gv_ild (pc' := 659) rfl rfl rfl ?_
      refine gv_ic (pc' := 660) (x := 5) rfl rfl rfl ?_
      refine gv_iadd (pc' := 661) rfl rfl ?_
      by_cases c158 : (l4 + (5 : Int32)) < 0
      · rw [if_pos c158] at e; cases e
      rw [if_neg c158] at e
      obtain ⟨v157, qv157, e⟩ := gv_bind e
      refine gv_xal (pc' := 662) rfl rfl c158 qv157 rfl ?_
      obtain ⟨⟨v159, h160⟩, qv159, e⟩ := gv_bind e
      refine gv_sS (jc := 54) (n := 6) (rest := []) (stk := [.int v159]) (pc' := 665) rfl rfl rfl rfl rfl rfl rfl rfl rfl (gv_zR (gv_zI (gv_zI (gv_zI (gv_zI (gv_zI gv_z0)))))) rfl (gv_aR (gv_aI (gv_aI (gv_aI (gv_aI (gv_aI gv_a0)))))) (Nat.le_of_ble_eq_true rfl) (lw_entry_ok qv159) rfl rfl ?_
      refine gv_ist (pc' := 667) rfl rfl (gv_Ci rfl) rfl ?_
      refine gv_rldn (pc' := 668) rfl rfl rfl ?_
      refine gv_xld (pc' := 669) rfl rfl rfl ?_
      refine gv_ild (pc' := 671) rfl rfl rfl ?_
      refine gv_ic (pc' := 672) (x := 1) rfl rfl rfl ?_
      refine gv_iadd (pc' := 673) rfl rfl ?_
      by_cases c163 : (l4 + (1 : Int32)) < 0
      · rw [if_pos c163] at e; cases e
      rw [if_neg c163] at e
      obtain ⟨v162, qv162, e⟩ := gv_bind e
      refine gv_xal (pc' := 674) rfl rfl c163 qv162 rfl ?_
      refine gv_xld (pc' := 675) rfl rfl rfl ?_
      refine gv_ild (pc' := 677) rfl rfl rfl ?_
      refine gv_ic (pc' := 678) (x := 2) rfl rfl rfl ?_
      refine gv_iadd (pc' := 679) rfl rfl ?_
      by_cases c165 : (l4 + (2 : Int32)) < 0
      · rw [if_pos c165] at e; cases e
      rw [if_neg c165] at e
      obtain ⟨v164, qv164, e⟩ := gv_bind e
      refine gv_xal (pc' := 680) rfl rfl c165 qv164 rfl ?_
      refine gv_xld (pc' := 681) rfl rfl rfl ?_
      refine gv_ild (pc' := 683) rfl rfl rfl ?_
      refine gv_ic (pc' := 684) (x := 3) rfl rfl rfl ?_
      refine gv_iadd (pc' := 685) rfl rfl ?_
      by_cases c167 : (l4 + (3 : Int32)) < 0
      · rw [if_pos c167] at e; cases e
      rw [if_neg c167] at e
      obtain ⟨v166, qv166, e⟩ := gv_bind e
      refine gv_xal (pc' := 686) rfl rfl c167 qv166 rfl ?_
      refine gv_xld (pc' := 687) rfl rfl rfl ?_
      refine gv_ild (pc' := 689) rfl rfl rfl ?_
      refine gv_ic (pc' := 690) (x := 4) rfl rfl rfl ?_
      refine gv_iadd (pc' := 691) rfl rfl ?_
      by_cases c169 : (l4 + (4 : Int32)) < 0
      · rw [if_pos c169] at e; cases e
      rw [if_neg c169] at e
      obtain ⟨v168, qv168, e⟩ := gv_bind e
      refine gv_xal (pc' := 692) rfl rfl c169 qv168 rfl ?_
      refine gv_xld (pc' := 693) rfl rfl rfl ?_
      refine gv_ild (pc' := 695) rfl rfl rfl ?_
      refine gv_ic (pc' := 696) (x := 5) rfl rfl rfl ?_
      refine gv_iadd (pc' := 697) rfl rfl ?_
      by_cases c171 : (l4 + (5 : Int32)) < 0
      · rw [if_pos c171] at e; cases e
      rw [if_neg c171] at e
      obtain ⟨v170, qv170, e⟩ := gv_bind e
      refine gv_xal (pc' := 698) rfl rfl c171 qv170 rfl ?_
      obtain ⟨i172, qi172, e⟩ := gv_bind e
      obtain ⟨h174, qv173, e⟩ := gv_bind e
      refine gv_vS (jc := 143) (n := 5) (rest := []) (stk := []) (pc' := 701) rfl rfl rfl rfl rfl rfl rfl rfl rfl (gv_zR (gv_zI (gv_zI (gv_zI (gv_zI (gv_zI gv_z0)))))) rfl (gv_aR (gv_aI (gv_aI (gv_aI (gv_aI (gv_aI gv_a0)))))) (Nat.le_of_ble_eq_true rfl) qi172 (mM_entry_ok qv173) rfl rfl ?_
      refine gv_rldn (pc' := 702) rfl rfl rfl ?_
      obtain ⟨i175, qi175, e⟩ := gv_bind e
      obtain ⟨v176, qv176, e⟩ := gv_bind e
      refine gv_vS (jc := 120) (n := 0) (rest := []) (stk := [.int v176]) (pc' := 705) rfl rfl rfl rfl rfl rfl rfl rfl rfl (gv_zR gv_z0) rfl (gv_aR gv_a0) (Nat.le_of_ble_eq_true rfl) qi175 (mM_thrown_ok qv176) rfl rfl ?_
      refine gv_ild (pc' := 707) rfl rfl rfl ?_
      by_cases c177 : v176 = v159
      · rw [if_pos c177] at e
        refine gv_cmT (pc' := 712) rfl (gv_eqT2 c177) rfl ?_
        refine gv_goto (pc' := 1320) rfl rfl ?_
        exact gv_weak (lw_law_1320_ok ih e) (gv_S1 rfl (gv_S1 rfl (gv_S1 rfl (gv_S1 rfl (gv_S1 rfl gv_S0)))))
      rw [if_neg c177] at e
      refine gv_cmF (pc' := 710) rfl (gv_eqF2 c177) rfl rfl ?_
      refine gv_ic (pc' := 711) (x := 0) rfl rfl rfl ?_
      cases e
      exact gv_retZ rfl rfl (by decide)
    rw [if_neg c148] at e
    by_cases c178 : (v2 &&& (31 : Int32)) = (7 : Int32)
    · rw [if_pos c178] at e
      refine gv_sw (pc' := 715) (off := 675) rfl (by rw [c178]; rfl) rfl ?_
      refine gv_rldn (pc' := 716) rfl rfl rfl ?_
      refine gv_xld (pc' := 717) rfl rfl rfl ?_
      refine gv_ild (pc' := 719) rfl rfl rfl ?_
      refine gv_ic (pc' := 720) (x := 1) rfl rfl rfl ?_
      refine gv_iadd (pc' := 721) rfl rfl ?_
      by_cases c180 : (l4 + (1 : Int32)) < 0
      · rw [if_pos c180] at e; cases e
      rw [if_neg c180] at e
      obtain ⟨v179, qv179, e⟩ := gv_bind e
      refine gv_xal (pc' := 722) rfl rfl c180 qv179 rfl ?_
      refine gv_xld (pc' := 723) rfl rfl rfl ?_
      refine gv_ild (pc' := 725) rfl rfl rfl ?_
      refine gv_ic (pc' := 726) (x := 2) rfl rfl rfl ?_
      refine gv_iadd (pc' := 727) rfl rfl ?_
      by_cases c182 : (l4 + (2 : Int32)) < 0
      · rw [if_pos c182] at e; cases e
      rw [if_neg c182] at e
      obtain ⟨v181, qv181, e⟩ := gv_bind e
      refine gv_xal (pc' := 728) rfl rfl c182 qv181 rfl ?_
      refine gv_xld (pc' := 729) rfl rfl rfl ?_
      refine gv_ild (pc' := 731) rfl rfl rfl ?_
      refine gv_ic (pc' := 732) (x := 3) rfl rfl rfl ?_
      refine gv_iadd (pc' := 733) rfl rfl ?_
      by_cases c184 : (l4 + (3 : Int32)) < 0
      · rw [if_pos c184] at e; cases e
      rw [if_neg c184] at e
      obtain ⟨v183, qv183, e⟩ := gv_bind e
      refine gv_xal (pc' := 734) rfl rfl c184 qv183 rfl ?_
      refine gv_rldn (pc' := 735) rfl rfl rfl ?_
      obtain ⟨⟨v185, h186⟩, qv185, e⟩ := gv_bind e
      refine gv_sS (jc := 57) (n := 5) (rest := []) (stk := [.int v185]) (pc' := 738) rfl rfl rfl rfl rfl rfl rfl rfl rfl (gv_zR (gv_zI (gv_zI (gv_zI (gv_zR gv_z0))))) rfl (gv_aR (gv_aI (gv_aI (gv_aI (gv_aR gv_a0))))) (Nat.le_of_ble_eq_true rfl) (lw_add_ok qv185) rfl rfl ?_
      refine gv_ist (pc' := 740) rfl rfl (gv_Ci rfl) rfl ?_
      refine gv_rldn (pc' := 741) rfl rfl rfl ?_
      refine gv_xld (pc' := 742) rfl rfl rfl ?_
      refine gv_ild (pc' := 744) rfl rfl rfl ?_
      refine gv_ic (pc' := 745) (x := 1) rfl rfl rfl ?_
      refine gv_iadd (pc' := 746) rfl rfl ?_
      by_cases c189 : (l4 + (1 : Int32)) < 0
      · rw [if_pos c189] at e; cases e
      rw [if_neg c189] at e
      obtain ⟨v188, qv188, e⟩ := gv_bind e
      refine gv_xal (pc' := 747) rfl rfl c189 qv188 rfl ?_
      refine gv_xld (pc' := 748) rfl rfl rfl ?_
      refine gv_ild (pc' := 750) rfl rfl rfl ?_
      refine gv_ic (pc' := 751) (x := 2) rfl rfl rfl ?_
      refine gv_iadd (pc' := 752) rfl rfl ?_
      by_cases c191 : (l4 + (2 : Int32)) < 0
      · rw [if_pos c191] at e; cases e
      rw [if_neg c191] at e
      obtain ⟨v190, qv190, e⟩ := gv_bind e
      refine gv_xal (pc' := 753) rfl rfl c191 qv190 rfl ?_
      refine gv_xld (pc' := 754) rfl rfl rfl ?_
      refine gv_ild (pc' := 756) rfl rfl rfl ?_
      refine gv_ic (pc' := 757) (x := 3) rfl rfl rfl ?_
      refine gv_iadd (pc' := 758) rfl rfl ?_
      by_cases c193 : (l4 + (3 : Int32)) < 0
      · rw [if_pos c193] at e; cases e
      rw [if_neg c193] at e
      obtain ⟨v192, qv192, e⟩ := gv_bind e
      refine gv_xal (pc' := 759) rfl rfl c193 qv192 rfl ?_
      obtain ⟨i194, qi194, e⟩ := gv_bind e
      obtain ⟨⟨v195, h196⟩, qv195, e⟩ := gv_bind e
      refine gv_vS (jc := 145) (n := 3) (rest := []) (stk := [.int v195]) (pc' := 762) rfl rfl rfl rfl rfl rfl rfl rfl rfl (gv_zR (gv_zI (gv_zI (gv_zI gv_z0)))) rfl (gv_aR (gv_aI (gv_aI (gv_aI gv_a0)))) (Nat.le_of_ble_eq_true rfl) qi194 (mM_add_ok qv195) rfl rfl ?_
      refine gv_ist (pc' := 764) rfl rfl (gv_Ci rfl) rfl ?_
      refine gv_rldn (pc' := 765) rfl rfl rfl ?_
      obtain ⟨i198, qi198, e⟩ := gv_bind e
      obtain ⟨v199, qv199, e⟩ := gv_bind e
      refine gv_vS (jc := 120) (n := 0) (rest := []) (stk := [.int v199]) (pc' := 768) rfl rfl rfl rfl rfl rfl rfl rfl rfl (gv_zR gv_z0) rfl (gv_aR gv_a0) (Nat.le_of_ble_eq_true rfl) qi198 (mM_thrown_ok qv199) rfl rfl ?_
      refine gv_ild (pc' := 770) rfl rfl rfl ?_
      by_cases c200 : v199 = v185
      · rw [if_pos c200] at e
        refine gv_cmT (pc' := 775) rfl (gv_eqT2 c200) rfl ?_
        refine gv_ild (pc' := 777) rfl rfl rfl ?_
        by_cases c201 : v185 = 0
        · rw [if_pos c201] at e
          refine gv_ifF (pc' := 780) rfl (gv_neF c201) rfl rfl ?_
          refine gv_rldn (pc' := 781) rfl rfl rfl ?_
          refine gv_ic (pc' := 782) (x := 0) rfl rfl rfl ?_
          obtain ⟨v202, qv202, e⟩ := gv_bind e
          refine gv_lald (pc' := 783) rfl qv202 rfl ?_
          refine gv_ild (pc' := 785) rfl rfl rfl ?_
          by_cases c203 : v195 = 0
          · rw [if_pos c203] at e
            refine gv_ifT (pc' := 792) rfl (gv_eqT c203) rfl ?_
            refine gv_lc (pc' := 793) (x := 0) rfl rfl rfl ?_
            exact gv_weak (lw_law_793_ok ih e) (gv_S1 rfl (gv_S1 rfl (gv_S1 rfl (gv_S1 rfl (gv_S1 rfl gv_S0)))))
          rw [if_neg c203] at e
          refine gv_ifF (pc' := 788) rfl (gv_eqF c203) rfl rfl ?_
          refine gv_lc (pc' := 789) (x := 1) rfl rfl rfl ?_
          refine gv_goto (pc' := 793) rfl rfl ?_
          exact gv_weak (lw_law_793_ok ih e) (gv_S1 rfl (gv_S1 rfl (gv_S1 rfl (gv_S1 rfl (gv_S1 rfl gv_S0)))))
        rw [if_neg c201] at e
        refine gv_ifT (pc' := 799) rfl (gv_neT c201) rfl ?_
        exact gv_weak (lw_law_799_ok ih e) (gv_S1 rfl (gv_S1 rfl (gv_S1 rfl (gv_S1 rfl (gv_S1 rfl gv_S0)))))
      rw [if_neg c200] at e
      refine gv_cmF (pc' := 773) rfl (gv_eqF2 c200) rfl rfl ?_
      refine gv_ic (pc' := 774) (x := 0) rfl rfl rfl ?_
      cases e
      exact gv_retZ rfl rfl (by decide)
    rw [if_neg c178] at e
    by_cases c204 : (v2 &&& (31 : Int32)) = (8 : Int32)
    · rw [if_pos c204] at e
      refine gv_sw (pc' := 802) (off := 762) rfl (by rw [c204]; rfl) rfl ?_
      refine gv_rldn (pc' := 803) rfl rfl rfl ?_
      refine gv_xld (pc' := 804) rfl rfl rfl ?_
      refine gv_ild (pc' := 806) rfl rfl rfl ?_
      refine gv_ic (pc' := 807) (x := 1) rfl rfl rfl ?_
      refine gv_iadd (pc' := 808) rfl rfl ?_
      by_cases c206 : (l4 + (1 : Int32)) < 0
      · rw [if_pos c206] at e; cases e
      rw [if_neg c206] at e
      obtain ⟨v205, qv205, e⟩ := gv_bind e
      refine gv_xal (pc' := 809) rfl rfl c206 qv205 rfl ?_
      obtain ⟨i207, qi207, e⟩ := gv_bind e
      obtain ⟨⟨v208, h209⟩, qv208, e⟩ := gv_bind e
      refine gv_vS (jc := 7) (n := 1) (rest := []) (stk := [.int v208]) (pc' := 812) rfl rfl rfl rfl rfl rfl rfl rfl rfl (gv_zR (gv_zI gv_z0)) rfl (gv_aR (gv_aI gv_a0)) (Nat.le_of_ble_eq_true rfl) qi207 (cG_detach_ok qv208) rfl rfl ?_
      refine gv_rldn (pc' := 813) rfl rfl rfl ?_
      refine gv_xld (pc' := 814) rfl rfl rfl ?_
      refine gv_ild (pc' := 816) rfl rfl rfl ?_
      refine gv_ic (pc' := 817) (x := 1) rfl rfl rfl ?_
      refine gv_iadd (pc' := 818) rfl rfl ?_
      by_cases c212 : (l4 + (1 : Int32)) < 0
      · rw [if_pos c212] at e; cases e
      rw [if_neg c212] at e
      obtain ⟨v211, qv211, e⟩ := gv_bind e
      refine gv_xal (pc' := 819) rfl rfl c212 qv211 rfl ?_
      obtain ⟨i213, qi213, e⟩ := gv_bind e
      obtain ⟨⟨v214, h215⟩, qv214, e⟩ := gv_bind e
      refine gv_vS (jc := 147) (n := 1) (rest := [.int v208]) (stk := [.int v214, .int v208]) (pc' := 822) rfl rfl rfl rfl rfl rfl rfl rfl rfl (gv_zR (gv_zI gv_z0)) rfl (gv_aR (gv_aI gv_a0)) (Nat.le_of_ble_eq_true rfl) qi213 (mM_detach_ok qv214) rfl rfl ?_
      by_cases c217 : v208 = v214
      · rw [if_pos c217] at e
        refine gv_cmT (pc' := 1320) rfl (gv_eqT2 c217) rfl ?_
        exact gv_weak (lw_law_1320_ok ih e) (gv_S1 rfl (gv_S1 rfl (gv_S1 rfl (gv_S1 rfl (gv_S1 rfl gv_S0)))))
      rw [if_neg c217] at e
      refine gv_cmF (pc' := 825) rfl (gv_eqF2 c217) rfl rfl ?_
      refine gv_ic (pc' := 826) (x := 0) rfl rfl rfl ?_
      cases e
      exact gv_retZ rfl rfl (by decide)
    rw [if_neg c204] at e
    by_cases c218 : (v2 &&& (31 : Int32)) = (9 : Int32)
    · rw [if_pos c218] at e
      refine gv_sw (pc' := 827) (off := 787) rfl (by rw [c218]; rfl) rfl ?_
      refine gv_rldn (pc' := 828) rfl rfl rfl ?_
      obtain ⟨i219, qi219, e⟩ := gv_bind e
      obtain ⟨⟨v220, h221⟩, qv220, e⟩ := gv_bind e
      refine gv_vS (jc := 11) (n := 0) (rest := []) (stk := [.int v220]) (pc' := 831) rfl rfl rfl rfl rfl rfl rfl rfl rfl (gv_zR gv_z0) rfl (gv_aR gv_a0) (Nat.le_of_ble_eq_true rfl) qi219 (cG_clear_ok qv220) rfl rfl ?_
      refine gv_rldn (pc' := 832) rfl rfl rfl ?_
      obtain ⟨i223, qi223, e⟩ := gv_bind e
      obtain ⟨⟨v224, h225⟩, qv224, e⟩ := gv_bind e
      refine gv_vS (jc := 149) (n := 0) (rest := [.int v220]) (stk := [.int v224, .int v220]) (pc' := 835) rfl rfl rfl rfl rfl rfl rfl rfl rfl (gv_zR gv_z0) rfl (gv_aR gv_a0) (Nat.le_of_ble_eq_true rfl) qi223 (mM_clear_ok qv224) rfl rfl ?_
      by_cases c227 : v220 = v224
      · rw [if_pos c227] at e
        refine gv_cmT (pc' := 1320) rfl (gv_eqT2 c227) rfl ?_
        exact gv_weak (lw_law_1320_ok ih e) (gv_S1 rfl (gv_S1 rfl (gv_S1 rfl (gv_S1 rfl (gv_S1 rfl gv_S0)))))
      rw [if_neg c227] at e
      refine gv_cmF (pc' := 838) rfl (gv_eqF2 c227) rfl rfl ?_
      refine gv_ic (pc' := 839) (x := 0) rfl rfl rfl ?_
      cases e
      exact gv_retZ rfl rfl (by decide)
    rw [if_neg c218] at e
    by_cases c228 : (v2 &&& (31 : Int32)) = (10 : Int32)
    · rw [if_pos c228] at e
      refine gv_sw (pc' := 840) (off := 800) rfl (by rw [c228]; rfl) rfl ?_
      refine gv_rldn (pc' := 841) rfl rfl rfl ?_
      obtain ⟨i229, qi229, e⟩ := gv_bind e
      obtain ⟨v230, qv230, e⟩ := gv_bind e
      refine gv_vS (jc := 12) (n := 0) (rest := []) (stk := [.int v230]) (pc' := 844) rfl rfl rfl rfl rfl rfl rfl rfl rfl (gv_zR gv_z0) rfl (gv_aR gv_a0) (Nat.le_of_ble_eq_true rfl) qi229 (cG_objects_ok qv230) rfl rfl ?_
      refine gv_rldn (pc' := 845) rfl rfl rfl ?_
      obtain ⟨i231, qi231, e⟩ := gv_bind e
      obtain ⟨⟨v232, h233⟩, qv232, e⟩ := gv_bind e
      refine gv_vS (jc := 150) (n := 0) (rest := [.int v230]) (stk := [.int v232, .int v230]) (pc' := 848) rfl rfl rfl rfl rfl rfl rfl rfl rfl (gv_zR gv_z0) rfl (gv_aR gv_a0) (Nat.le_of_ble_eq_true rfl) qi231 (mM_objects_ok qv232) rfl rfl ?_
      by_cases c235 : v230 = v232
      · rw [if_pos c235] at e
        refine gv_cmT (pc' := 1320) rfl (gv_eqT2 c235) rfl ?_
        exact gv_weak (lw_law_1320_ok ih e) (gv_S1 rfl (gv_S1 rfl (gv_S1 rfl (gv_S1 rfl (gv_S1 rfl gv_S0)))))
      rw [if_neg c235] at e
      refine gv_cmF (pc' := 851) rfl (gv_eqF2 c235) rfl rfl ?_
      refine gv_ic (pc' := 852) (x := 0) rfl rfl rfl ?_
      cases e
      exact gv_retZ rfl rfl (by decide)
    rw [if_neg c228] at e
    by_cases c236 : (v2 &&& (31 : Int32)) = (11 : Int32)
    · rw [if_pos c236] at e
      refine gv_sw (pc' := 853) (off := 813) rfl (by rw [c236]; rfl) rfl ?_
      refine gv_rldn (pc' := 854) rfl rfl rfl ?_
      refine gv_xld (pc' := 855) rfl rfl rfl ?_
      refine gv_ild (pc' := 857) rfl rfl rfl ?_
      refine gv_ic (pc' := 858) (x := 1) rfl rfl rfl ?_
      refine gv_iadd (pc' := 859) rfl rfl ?_
      by_cases c238 : (l4 + (1 : Int32)) < 0
      · rw [if_pos c238] at e; cases e
      rw [if_neg c238] at e
      obtain ⟨v237, qv237, e⟩ := gv_bind e
      refine gv_xal (pc' := 860) rfl rfl c238 qv237 rfl ?_
      obtain ⟨i239, qi239, e⟩ := gv_bind e
      obtain ⟨v240, qv240, e⟩ := gv_bind e
      refine gv_vS (jc := 13) (n := 1) (rest := []) (stk := [.int v240]) (pc' := 863) rfl rfl rfl rfl rfl rfl rfl rfl rfl (gv_zR (gv_zI gv_z0)) rfl (gv_aR (gv_aI gv_a0)) (Nat.le_of_ble_eq_true rfl) qi239 (cG_type_ok qv240) rfl rfl ?_
      refine gv_rldn (pc' := 864) rfl rfl rfl ?_
      refine gv_xld (pc' := 865) rfl rfl rfl ?_
      refine gv_ild (pc' := 867) rfl rfl rfl ?_
      refine gv_ic (pc' := 868) (x := 1) rfl rfl rfl ?_
      refine gv_iadd (pc' := 869) rfl rfl ?_
      by_cases c242 : (l4 + (1 : Int32)) < 0
      · rw [if_pos c242] at e; cases e
      rw [if_neg c242] at e
      obtain ⟨v241, qv241, e⟩ := gv_bind e
      refine gv_xal (pc' := 870) rfl rfl c242 qv241 rfl ?_
      obtain ⟨i243, qi243, e⟩ := gv_bind e
      obtain ⟨⟨v244, h245⟩, qv244, e⟩ := gv_bind e
      refine gv_vS (jc := 151) (n := 1) (rest := [.int v240]) (stk := [.int v244, .int v240]) (pc' := 873) rfl rfl rfl rfl rfl rfl rfl rfl rfl (gv_zR (gv_zI gv_z0)) rfl (gv_aR (gv_aI gv_a0)) (Nat.le_of_ble_eq_true rfl) qi243 (mM_type_ok qv244) rfl rfl ?_
      by_cases c247 : v240 = v244
      · rw [if_pos c247] at e
        refine gv_cmT (pc' := 1320) rfl (gv_eqT2 c247) rfl ?_
        exact gv_weak (lw_law_1320_ok ih e) (gv_S1 rfl (gv_S1 rfl (gv_S1 rfl (gv_S1 rfl (gv_S1 rfl gv_S0)))))
      rw [if_neg c247] at e
      refine gv_cmF (pc' := 876) rfl (gv_eqF2 c247) rfl rfl ?_
      refine gv_ic (pc' := 877) (x := 0) rfl rfl rfl ?_
      cases e
      exact gv_retZ rfl rfl (by decide)
    rw [if_neg c236] at e
    by_cases c248 : (v2 &&& (31 : Int32)) = (12 : Int32)
    · rw [if_pos c248] at e
      refine gv_sw (pc' := 878) (off := 838) rfl (by rw [c248]; rfl) rfl ?_
      refine gv_rldn (pc' := 879) rfl rfl rfl ?_
      refine gv_xld (pc' := 880) rfl rfl rfl ?_
      refine gv_ild (pc' := 882) rfl rfl rfl ?_
      refine gv_ic (pc' := 883) (x := 1) rfl rfl rfl ?_
      refine gv_iadd (pc' := 884) rfl rfl ?_
      by_cases c250 : (l4 + (1 : Int32)) < 0
      · rw [if_pos c250] at e; cases e
      rw [if_neg c250] at e
      obtain ⟨v249, qv249, e⟩ := gv_bind e
      refine gv_xal (pc' := 885) rfl rfl c250 qv249 rfl ?_
      obtain ⟨i251, qi251, e⟩ := gv_bind e
      obtain ⟨v252, qv252, e⟩ := gv_bind e
      refine gv_vS (jc := 14) (n := 1) (rest := []) (stk := [.int v252]) (pc' := 888) rfl rfl rfl rfl rfl rfl rfl rfl rfl (gv_zR (gv_zI gv_z0)) rfl (gv_aR (gv_aI gv_a0)) (Nat.le_of_ble_eq_true rfl) qi251 (cG_size_ok qv252) rfl rfl ?_
      refine gv_rldn (pc' := 889) rfl rfl rfl ?_
      refine gv_xld (pc' := 890) rfl rfl rfl ?_
      refine gv_ild (pc' := 892) rfl rfl rfl ?_
      refine gv_ic (pc' := 893) (x := 1) rfl rfl rfl ?_
      refine gv_iadd (pc' := 894) rfl rfl ?_
      by_cases c254 : (l4 + (1 : Int32)) < 0
      · rw [if_pos c254] at e; cases e
      rw [if_neg c254] at e
      obtain ⟨v253, qv253, e⟩ := gv_bind e
      refine gv_xal (pc' := 895) rfl rfl c254 qv253 rfl ?_
      obtain ⟨i255, qi255, e⟩ := gv_bind e
      obtain ⟨⟨v256, h257⟩, qv256, e⟩ := gv_bind e
      refine gv_vS (jc := 152) (n := 1) (rest := [.int v252]) (stk := [.int v256, .int v252]) (pc' := 898) rfl rfl rfl rfl rfl rfl rfl rfl rfl (gv_zR (gv_zI gv_z0)) rfl (gv_aR (gv_aI gv_a0)) (Nat.le_of_ble_eq_true rfl) qi255 (mM_size_ok qv256) rfl rfl ?_
      by_cases c259 : v252 = v256
      · rw [if_pos c259] at e
        refine gv_cmT (pc' := 1320) rfl (gv_eqT2 c259) rfl ?_
        exact gv_weak (lw_law_1320_ok ih e) (gv_S1 rfl (gv_S1 rfl (gv_S1 rfl (gv_S1 rfl (gv_S1 rfl gv_S0)))))
      rw [if_neg c259] at e
      refine gv_cmF (pc' := 901) rfl (gv_eqF2 c259) rfl rfl ?_
      refine gv_ic (pc' := 902) (x := 0) rfl rfl rfl ?_
      cases e
      exact gv_retZ rfl rfl (by decide)
    rw [if_neg c248] at e
    by_cases c260 : (v2 &&& (31 : Int32)) = (13 : Int32)
    · rw [if_pos c260] at e
      refine gv_sw (pc' := 903) (off := 863) rfl (by rw [c260]; rfl) rfl ?_
      refine gv_rldn (pc' := 904) rfl rfl rfl ?_
      refine gv_xld (pc' := 905) rfl rfl rfl ?_
      refine gv_ild (pc' := 907) rfl rfl rfl ?_
      refine gv_ic (pc' := 908) (x := 1) rfl rfl rfl ?_
      refine gv_iadd (pc' := 909) rfl rfl ?_
      by_cases c262 : (l4 + (1 : Int32)) < 0
      · rw [if_pos c262] at e; cases e
      rw [if_neg c262] at e
      obtain ⟨v261, qv261, e⟩ := gv_bind e
      refine gv_xal (pc' := 910) rfl rfl c262 qv261 rfl ?_
      refine gv_xld (pc' := 911) rfl rfl rfl ?_
      refine gv_ild (pc' := 913) rfl rfl rfl ?_
      refine gv_ic (pc' := 914) (x := 2) rfl rfl rfl ?_
      refine gv_iadd (pc' := 915) rfl rfl ?_
      by_cases c264 : (l4 + (2 : Int32)) < 0
      · rw [if_pos c264] at e; cases e
      rw [if_neg c264] at e
      obtain ⟨v263, qv263, e⟩ := gv_bind e
      refine gv_xal (pc' := 916) rfl rfl c264 qv263 rfl ?_
      refine gv_xld (pc' := 917) rfl rfl rfl ?_
      refine gv_ild (pc' := 919) rfl rfl rfl ?_
      refine gv_ic (pc' := 920) (x := 3) rfl rfl rfl ?_
      refine gv_iadd (pc' := 921) rfl rfl ?_
      by_cases c266 : (l4 + (3 : Int32)) < 0
      · rw [if_pos c266] at e; cases e
      rw [if_neg c266] at e
      obtain ⟨v265, qv265, e⟩ := gv_bind e
      refine gv_xal (pc' := 922) rfl rfl c266 qv265 rfl ?_
      refine gv_rldn (pc' := 923) rfl rfl rfl ?_
      obtain ⟨⟨v267, h268⟩, qv267, e⟩ := gv_bind e
      refine gv_sS (jc := 61) (n := 5) (rest := []) (stk := [.int v267]) (pc' := 926) rfl rfl rfl rfl rfl rfl rfl rfl rfl (gv_zR (gv_zI (gv_zI (gv_zI (gv_zR gv_z0))))) rfl (gv_aR (gv_aI (gv_aI (gv_aI (gv_aR gv_a0))))) (Nat.le_of_ble_eq_true rfl) (lw_get_ok qv267) rfl rfl ?_
      refine gv_ist (pc' := 928) rfl rfl (gv_Ci rfl) rfl ?_
      refine gv_rldn (pc' := 929) rfl rfl rfl ?_
      refine gv_xld (pc' := 930) rfl rfl rfl ?_
      refine gv_ild (pc' := 932) rfl rfl rfl ?_
      refine gv_ic (pc' := 933) (x := 1) rfl rfl rfl ?_
      refine gv_iadd (pc' := 934) rfl rfl ?_
      by_cases c271 : (l4 + (1 : Int32)) < 0
      · rw [if_pos c271] at e; cases e
      rw [if_neg c271] at e
      obtain ⟨v270, qv270, e⟩ := gv_bind e
      refine gv_xal (pc' := 935) rfl rfl c271 qv270 rfl ?_
      refine gv_xld (pc' := 936) rfl rfl rfl ?_
      refine gv_ild (pc' := 938) rfl rfl rfl ?_
      refine gv_ic (pc' := 939) (x := 2) rfl rfl rfl ?_
      refine gv_iadd (pc' := 940) rfl rfl ?_
      by_cases c273 : (l4 + (2 : Int32)) < 0
      · rw [if_pos c273] at e; cases e
      rw [if_neg c273] at e
      obtain ⟨v272, qv272, e⟩ := gv_bind e
      refine gv_xal (pc' := 941) rfl rfl c273 qv272 rfl ?_
      refine gv_xld (pc' := 942) rfl rfl rfl ?_
      refine gv_ild (pc' := 944) rfl rfl rfl ?_
      refine gv_ic (pc' := 945) (x := 3) rfl rfl rfl ?_
      refine gv_iadd (pc' := 946) rfl rfl ?_
      by_cases c275 : (l4 + (3 : Int32)) < 0
      · rw [if_pos c275] at e; cases e
      rw [if_neg c275] at e
      obtain ⟨v274, qv274, e⟩ := gv_bind e
      refine gv_xal (pc' := 947) rfl rfl c275 qv274 rfl ?_
      obtain ⟨i276, qi276, e⟩ := gv_bind e
      obtain ⟨⟨v277, h278⟩, qv277, e⟩ := gv_bind e
      refine gv_vS (jc := 153) (n := 3) (rest := []) (stk := [.long v277]) (pc' := 950) rfl rfl rfl rfl rfl rfl rfl rfl rfl (gv_zR (gv_zI (gv_zI (gv_zI gv_z0)))) rfl (gv_aR (gv_aI (gv_aI (gv_aI gv_a0)))) (Nat.le_of_ble_eq_true rfl) qi276 (mM_get_ok qv277) rfl rfl ?_
      refine gv_jst (pc' := 952) rfl rfl (gv_Ci rfl) rfl rfl ?_
      refine gv_rldn (pc' := 953) rfl rfl rfl ?_
      obtain ⟨i280, qi280, e⟩ := gv_bind e
      obtain ⟨v281, qv281, e⟩ := gv_bind e
      refine gv_vS (jc := 120) (n := 0) (rest := []) (stk := [.int v281]) (pc' := 956) rfl rfl rfl rfl rfl rfl rfl rfl rfl (gv_zR gv_z0) rfl (gv_aR gv_a0) (Nat.le_of_ble_eq_true rfl) qi280 (mM_thrown_ok qv281) rfl rfl ?_
      refine gv_ild (pc' := 958) rfl rfl rfl ?_
      by_cases c282 : v281 = v267
      · rw [if_pos c282] at e
        refine gv_cmT (pc' := 963) rfl (gv_eqT2 c282) rfl ?_
        refine gv_ild (pc' := 965) rfl rfl rfl ?_
        by_cases c283 : v267 = 0
        · rw [if_pos c283] at e
          refine gv_ifF (pc' := 968) rfl (gv_neF c283) rfl rfl ?_
          refine gv_rldn (pc' := 969) rfl rfl rfl ?_
          refine gv_ic (pc' := 970) (x := 0) rfl rfl rfl ?_
          obtain ⟨v284, qv284, e⟩ := gv_bind e
          refine gv_lald (pc' := 971) rfl qv284 rfl ?_
          refine gv_jld (pc' := 973) rfl rfl rfl ?_
          refine gv_lcmp (pc' := 974) rfl rfl ?_
          by_cases c285 : v284 = v277
          · rw [if_pos c285] at e
            refine gv_ifT (pc' := 979) rfl (gv_eqTL c285) rfl ?_
            exact gv_weak (lw_law_979_ok ih e) (gv_S1 rfl (gv_S1 rfl (gv_S1 rfl (gv_S1 rfl (gv_S1 rfl gv_S0)))))
          rw [if_neg c285] at e
          refine gv_ifF (pc' := 977) rfl (gv_eqFL c285) rfl rfl ?_
          refine gv_ic (pc' := 978) (x := 0) rfl rfl rfl ?_
          cases e
          exact gv_retZ rfl rfl (by decide)
        rw [if_neg c283] at e
        refine gv_ifT (pc' := 979) rfl (gv_neT c283) rfl ?_
        exact gv_weak (lw_law_979_ok ih e) (gv_S1 rfl (gv_S1 rfl (gv_S1 rfl (gv_S1 rfl (gv_S1 rfl gv_S0)))))
      rw [if_neg c282] at e
      refine gv_cmF (pc' := 961) rfl (gv_eqF2 c282) rfl rfl ?_
      refine gv_ic (pc' := 962) (x := 0) rfl rfl rfl ?_
      cases e
      exact gv_retZ rfl rfl (by decide)
    rw [if_neg c260] at e
    by_cases c286 : (v2 &&& (31 : Int32)) = (14 : Int32)
    · rw [if_pos c286] at e
      refine gv_sw (pc' := 982) (off := 942) rfl (by rw [c286]; rfl) rfl ?_
      refine gv_rldn (pc' := 983) rfl rfl rfl ?_
      refine gv_xld (pc' := 984) rfl rfl rfl ?_
      refine gv_ild (pc' := 986) rfl rfl rfl ?_
      refine gv_ic (pc' := 987) (x := 1) rfl rfl rfl ?_
      refine gv_iadd (pc' := 988) rfl rfl ?_
      by_cases c288 : (l4 + (1 : Int32)) < 0
      · rw [if_pos c288] at e; cases e
      rw [if_neg c288] at e
      obtain ⟨v287, qv287, e⟩ := gv_bind e
      refine gv_xal (pc' := 989) rfl rfl c288 qv287 rfl ?_
      refine gv_rldn (pc' := 990) rfl rfl rfl ?_
      obtain ⟨⟨v289, h290⟩, qv289, e⟩ := gv_bind e
      refine gv_sS (jc := 68) (n := 3) (rest := []) (stk := [.int v289]) (pc' := 993) rfl rfl rfl rfl rfl rfl rfl rfl rfl (gv_zR (gv_zI (gv_zR gv_z0))) rfl (gv_aR (gv_aI (gv_aR gv_a0))) (Nat.le_of_ble_eq_true rfl) (lw_pass_ok qv289) rfl rfl ?_
      refine gv_ist (pc' := 995) rfl rfl (gv_Ci rfl) rfl ?_
      refine gv_rldn (pc' := 996) rfl rfl rfl ?_
      refine gv_xld (pc' := 997) rfl rfl rfl ?_
      refine gv_ild (pc' := 999) rfl rfl rfl ?_
      refine gv_ic (pc' := 1000) (x := 1) rfl rfl rfl ?_
      refine gv_iadd (pc' := 1001) rfl rfl ?_
      by_cases c293 : (l4 + (1 : Int32)) < 0
      · rw [if_pos c293] at e; cases e
      rw [if_neg c293] at e
      obtain ⟨v292, qv292, e⟩ := gv_bind e
      refine gv_xal (pc' := 1002) rfl rfl c293 qv292 rfl ?_
      obtain ⟨i294, qi294, e⟩ := gv_bind e
      obtain ⟨⟨v295, h296⟩, qv295, e⟩ := gv_bind e
      refine gv_vS (jc := 154) (n := 1) (rest := []) (stk := [.int v295]) (pc' := 1005) rfl rfl rfl rfl rfl rfl rfl rfl rfl (gv_zR (gv_zI gv_z0)) rfl (gv_aR (gv_aI gv_a0)) (Nat.le_of_ble_eq_true rfl) qi294 (mM_pass_ok qv295) rfl rfl ?_
      refine gv_ist (pc' := 1007) rfl rfl (gv_Ci rfl) rfl ?_
      refine gv_rldn (pc' := 1008) rfl rfl rfl ?_
      obtain ⟨i298, qi298, e⟩ := gv_bind e
      obtain ⟨v299, qv299, e⟩ := gv_bind e
      refine gv_vS (jc := 120) (n := 0) (rest := []) (stk := [.int v299]) (pc' := 1011) rfl rfl rfl rfl rfl rfl rfl rfl rfl (gv_zR gv_z0) rfl (gv_aR gv_a0) (Nat.le_of_ble_eq_true rfl) qi298 (mM_thrown_ok qv299) rfl rfl ?_
      refine gv_ild (pc' := 1013) rfl rfl rfl ?_
      by_cases c300 : v299 = v289
      · rw [if_pos c300] at e
        refine gv_cmT (pc' := 1018) rfl (gv_eqT2 c300) rfl ?_
        refine gv_ild (pc' := 1020) rfl rfl rfl ?_
        by_cases c301 : v289 = 0
        · rw [if_pos c301] at e
          refine gv_ifF (pc' := 1023) rfl (gv_neF c301) rfl rfl ?_
          refine gv_rldn (pc' := 1024) rfl rfl rfl ?_
          refine gv_ic (pc' := 1025) (x := 0) rfl rfl rfl ?_
          obtain ⟨v302, qv302, e⟩ := gv_bind e
          refine gv_lald (pc' := 1026) rfl qv302 rfl ?_
          refine gv_ild (pc' := 1028) rfl rfl rfl ?_
          refine gv_i2l (pc' := 1029) rfl rfl ?_
          refine gv_lcmp (pc' := 1030) rfl rfl ?_
          by_cases c303 : v302 = (Int32.toInt64 v295)
          · rw [if_pos c303] at e
            refine gv_ifT (pc' := 1035) rfl (gv_eqTL c303) rfl ?_
            exact gv_weak (lw_law_1035_ok ih e) (gv_S1 rfl (gv_S1 rfl (gv_S1 rfl (gv_S1 rfl (gv_S1 rfl gv_S0)))))
          rw [if_neg c303] at e
          refine gv_ifF (pc' := 1033) rfl (gv_eqFL c303) rfl rfl ?_
          refine gv_ic (pc' := 1034) (x := 0) rfl rfl rfl ?_
          cases e
          exact gv_retZ rfl rfl (by decide)
        rw [if_neg c301] at e
        refine gv_ifT (pc' := 1035) rfl (gv_neT c301) rfl ?_
        exact gv_weak (lw_law_1035_ok ih e) (gv_S1 rfl (gv_S1 rfl (gv_S1 rfl (gv_S1 rfl (gv_S1 rfl gv_S0)))))
      rw [if_neg c300] at e
      refine gv_cmF (pc' := 1016) rfl (gv_eqF2 c300) rfl rfl ?_
      refine gv_ic (pc' := 1017) (x := 0) rfl rfl rfl ?_
      cases e
      exact gv_retZ rfl rfl (by decide)
    rw [if_neg c286] at e
    by_cases c304 : (v2 &&& (31 : Int32)) = (15 : Int32)
    · rw [if_pos c304] at e
      refine gv_sw (pc' := 1038) (off := 998) rfl (by rw [c304]; rfl) rfl ?_
      refine gv_rldn (pc' := 1039) rfl rfl rfl ?_
      obtain ⟨i305, qi305, e⟩ := gv_bind e
      obtain ⟨v306, qv306, e⟩ := gv_bind e
      refine gv_vS (jc := 15) (n := 0) (rest := []) (stk := [.int v306]) (pc' := 1042) rfl rfl rfl rfl rfl rfl rfl rfl rfl (gv_zR gv_z0) rfl (gv_aR gv_a0) (Nat.le_of_ble_eq_true rfl) qi305 (cG_holders_ok qv306) rfl rfl ?_
      refine gv_rldn (pc' := 1043) rfl rfl rfl ?_
      obtain ⟨i307, qi307, e⟩ := gv_bind e
      obtain ⟨⟨v308, h309⟩, qv308, e⟩ := gv_bind e
      refine gv_vS (jc := 155) (n := 0) (rest := [.int v306]) (stk := [.int v308, .int v306]) (pc' := 1046) rfl rfl rfl rfl rfl rfl rfl rfl rfl (gv_zR gv_z0) rfl (gv_aR gv_a0) (Nat.le_of_ble_eq_true rfl) qi307 (mM_holders_ok qv308) rfl rfl ?_
      by_cases c311 : v306 = v308
      · rw [if_pos c311] at e
        refine gv_cmT (pc' := 1320) rfl (gv_eqT2 c311) rfl ?_
        exact gv_weak (lw_law_1320_ok ih e) (gv_S1 rfl (gv_S1 rfl (gv_S1 rfl (gv_S1 rfl (gv_S1 rfl gv_S0)))))
      rw [if_neg c311] at e
      refine gv_cmF (pc' := 1049) rfl (gv_eqF2 c311) rfl rfl ?_
      refine gv_ic (pc' := 1050) (x := 0) rfl rfl rfl ?_
      cases e
      exact gv_retZ rfl rfl (by decide)
    rw [if_neg c304] at e
    by_cases c312 : (v2 &&& (31 : Int32)) = (16 : Int32)
    · rw [if_pos c312] at e
      refine gv_sw (pc' := 1051) (off := 1011) rfl (by rw [c312]; rfl) rfl ?_
      refine gv_rldn (pc' := 1052) rfl rfl rfl ?_
      refine gv_xld (pc' := 1053) rfl rfl rfl ?_
      refine gv_ild (pc' := 1055) rfl rfl rfl ?_
      refine gv_ic (pc' := 1056) (x := 1) rfl rfl rfl ?_
      refine gv_iadd (pc' := 1057) rfl rfl ?_
      by_cases c314 : (l4 + (1 : Int32)) < 0
      · rw [if_pos c314] at e; cases e
      rw [if_neg c314] at e
      obtain ⟨v313, qv313, e⟩ := gv_bind e
      refine gv_xal (pc' := 1058) rfl rfl c314 qv313 rfl ?_
      refine gv_xld (pc' := 1059) rfl rfl rfl ?_
      refine gv_ild (pc' := 1061) rfl rfl rfl ?_
      refine gv_ic (pc' := 1062) (x := 2) rfl rfl rfl ?_
      refine gv_iadd (pc' := 1063) rfl rfl ?_
      by_cases c316 : (l4 + (2 : Int32)) < 0
      · rw [if_pos c316] at e; cases e
      rw [if_neg c316] at e
      obtain ⟨v315, qv315, e⟩ := gv_bind e
      refine gv_xal (pc' := 1064) rfl rfl c316 qv315 rfl ?_
      refine gv_rldn (pc' := 1065) rfl rfl rfl ?_
      obtain ⟨⟨v317, h318⟩, qv317, e⟩ := gv_bind e
      refine gv_sS (jc := 71) (n := 4) (rest := []) (stk := [.int v317]) (pc' := 1068) rfl rfl rfl rfl rfl rfl rfl rfl rfl (gv_zR (gv_zI (gv_zI (gv_zR gv_z0)))) rfl (gv_aR (gv_aI (gv_aI (gv_aR gv_a0)))) (Nat.le_of_ble_eq_true rfl) (lw_write_ok qv317) rfl rfl ?_
      refine gv_ist (pc' := 1070) rfl rfl (gv_Ci rfl) rfl ?_
      refine gv_rldn (pc' := 1071) rfl rfl rfl ?_
      refine gv_xld (pc' := 1072) rfl rfl rfl ?_
      refine gv_ild (pc' := 1074) rfl rfl rfl ?_
      refine gv_ic (pc' := 1075) (x := 1) rfl rfl rfl ?_
      refine gv_iadd (pc' := 1076) rfl rfl ?_
      by_cases c321 : (l4 + (1 : Int32)) < 0
      · rw [if_pos c321] at e; cases e
      rw [if_neg c321] at e
      obtain ⟨v320, qv320, e⟩ := gv_bind e
      refine gv_xal (pc' := 1077) rfl rfl c321 qv320 rfl ?_
      refine gv_xld (pc' := 1078) rfl rfl rfl ?_
      refine gv_ild (pc' := 1080) rfl rfl rfl ?_
      refine gv_ic (pc' := 1081) (x := 2) rfl rfl rfl ?_
      refine gv_iadd (pc' := 1082) rfl rfl ?_
      by_cases c323 : (l4 + (2 : Int32)) < 0
      · rw [if_pos c323] at e; cases e
      rw [if_neg c323] at e
      obtain ⟨v322, qv322, e⟩ := gv_bind e
      refine gv_xal (pc' := 1083) rfl rfl c323 qv322 rfl ?_
      obtain ⟨i324, qi324, e⟩ := gv_bind e
      obtain ⟨⟨v325, h326⟩, qv325, e⟩ := gv_bind e
      refine gv_vS (jc := 156) (n := 2) (rest := []) (stk := [.int v325]) (pc' := 1086) rfl rfl rfl rfl rfl rfl rfl rfl rfl (gv_zR (gv_zI (gv_zI gv_z0))) rfl (gv_aR (gv_aI (gv_aI gv_a0))) (Nat.le_of_ble_eq_true rfl) qi324 (mM_write_ok qv325) rfl rfl ?_
      refine gv_ist (pc' := 1088) rfl rfl (gv_Ci rfl) rfl ?_
      refine gv_rldn (pc' := 1089) rfl rfl rfl ?_
      obtain ⟨i328, qi328, e⟩ := gv_bind e
      obtain ⟨v329, qv329, e⟩ := gv_bind e
      refine gv_vS (jc := 120) (n := 0) (rest := []) (stk := [.int v329]) (pc' := 1092) rfl rfl rfl rfl rfl rfl rfl rfl rfl (gv_zR gv_z0) rfl (gv_aR gv_a0) (Nat.le_of_ble_eq_true rfl) qi328 (mM_thrown_ok qv329) rfl rfl ?_
      refine gv_ild (pc' := 1094) rfl rfl rfl ?_
      by_cases c330 : v329 = v317
      · rw [if_pos c330] at e
        refine gv_cmT (pc' := 1099) rfl (gv_eqT2 c330) rfl ?_
        refine gv_ild (pc' := 1101) rfl rfl rfl ?_
        by_cases c331 : v317 = 0
        · rw [if_pos c331] at e
          refine gv_ifF (pc' := 1104) rfl (gv_neF c331) rfl rfl ?_
          refine gv_rldn (pc' := 1105) rfl rfl rfl ?_
          refine gv_ic (pc' := 1106) (x := 0) rfl rfl rfl ?_
          obtain ⟨v332, qv332, e⟩ := gv_bind e
          refine gv_lald (pc' := 1107) rfl qv332 rfl ?_
          refine gv_ild (pc' := 1109) rfl rfl rfl ?_
          refine gv_i2l (pc' := 1110) rfl rfl ?_
          refine gv_lcmp (pc' := 1111) rfl rfl ?_
          by_cases c333 : v332 = (Int32.toInt64 v325)
          · rw [if_pos c333] at e
            refine gv_ifT (pc' := 1116) rfl (gv_eqTL c333) rfl ?_
            exact gv_weak (lw_law_1116_ok ih e) (gv_S1 rfl (gv_S1 rfl (gv_S1 rfl (gv_S1 rfl (gv_S1 rfl gv_S0)))))
          rw [if_neg c333] at e
          refine gv_ifF (pc' := 1114) rfl (gv_eqFL c333) rfl rfl ?_
          refine gv_ic (pc' := 1115) (x := 0) rfl rfl rfl ?_
          cases e
          exact gv_retZ rfl rfl (by decide)
        rw [if_neg c331] at e
        refine gv_ifT (pc' := 1116) rfl (gv_neT c331) rfl ?_
        exact gv_weak (lw_law_1116_ok ih e) (gv_S1 rfl (gv_S1 rfl (gv_S1 rfl (gv_S1 rfl (gv_S1 rfl gv_S0)))))
      rw [if_neg c330] at e
      refine gv_cmF (pc' := 1097) rfl (gv_eqF2 c330) rfl rfl ?_
      refine gv_ic (pc' := 1098) (x := 0) rfl rfl rfl ?_
      cases e
      exact gv_retZ rfl rfl (by decide)
    rw [if_neg c312] at e
    by_cases c334 : (v2 &&& (31 : Int32)) = (17 : Int32)
    · rw [if_pos c334] at e
      refine gv_sw (pc' := 1119) (off := 1079) rfl (by rw [c334]; rfl) rfl ?_
      refine gv_rldn (pc' := 1120) rfl rfl rfl ?_
      refine gv_rldn (pc' := 1121) rfl rfl rfl ?_
      obtain ⟨⟨v335, h336⟩, qv335, e⟩ := gv_bind e
      refine gv_sS (jc := 97) (n := 2) (rest := []) (stk := [.int v335]) (pc' := 1124) rfl rfl rfl rfl rfl rfl rfl rfl rfl (gv_zR (gv_zR gv_z0)) rfl (gv_aR (gv_aR gv_a0)) (Nat.le_of_ble_eq_true rfl) (lw_read_ok qv335) rfl rfl ?_
      refine gv_ist (pc' := 1126) rfl rfl (gv_Ci rfl) rfl ?_
      refine gv_rldn (pc' := 1127) rfl rfl rfl ?_
      obtain ⟨i338, qi338, e⟩ := gv_bind e
      obtain ⟨⟨v339, h340⟩, qv339, e⟩ := gv_bind e
      refine gv_vS (jc := 171) (n := 0) (rest := []) (stk := [.int v339]) (pc' := 1130) rfl rfl rfl rfl rfl rfl rfl rfl rfl (gv_zR gv_z0) rfl (gv_aR gv_a0) (Nat.le_of_ble_eq_true rfl) qi338 (mM_read_ok qv339) rfl rfl ?_
      refine gv_ist (pc' := 1132) rfl rfl (gv_Ci rfl) rfl ?_
      refine gv_rldn (pc' := 1133) rfl rfl rfl ?_
      obtain ⟨i342, qi342, e⟩ := gv_bind e
      obtain ⟨v343, qv343, e⟩ := gv_bind e
      refine gv_vS (jc := 120) (n := 0) (rest := []) (stk := [.int v343]) (pc' := 1136) rfl rfl rfl rfl rfl rfl rfl rfl rfl (gv_zR gv_z0) rfl (gv_aR gv_a0) (Nat.le_of_ble_eq_true rfl) qi342 (mM_thrown_ok qv343) rfl rfl ?_
      refine gv_ild (pc' := 1138) rfl rfl rfl ?_
      by_cases c344 : v343 = v335
      · rw [if_pos c344] at e
        refine gv_cmT (pc' := 1143) rfl (gv_eqT2 c344) rfl ?_
        refine gv_ild (pc' := 1145) rfl rfl rfl ?_
        by_cases c345 : v335 = 0
        · rw [if_pos c345] at e
          refine gv_ifF (pc' := 1148) rfl (gv_neF c345) rfl rfl ?_
          refine gv_rldn (pc' := 1149) rfl rfl rfl ?_
          refine gv_ic (pc' := 1150) (x := 0) rfl rfl rfl ?_
          obtain ⟨v346, qv346, e⟩ := gv_bind e
          refine gv_lald (pc' := 1151) rfl qv346 rfl ?_
          refine gv_ild (pc' := 1153) rfl rfl rfl ?_
          refine gv_i2l (pc' := 1154) rfl rfl ?_
          refine gv_lcmp (pc' := 1155) rfl rfl ?_
          by_cases c347 : v346 = (Int32.toInt64 v339)
          · rw [if_pos c347] at e
            refine gv_ifT (pc' := 1160) rfl (gv_eqTL c347) rfl ?_
            exact gv_weak (lw_law_1160_ok ih e) (gv_S1 rfl (gv_S1 rfl (gv_S1 rfl (gv_S1 rfl (gv_S1 rfl gv_S0)))))
          rw [if_neg c347] at e
          refine gv_ifF (pc' := 1158) rfl (gv_eqFL c347) rfl rfl ?_
          refine gv_ic (pc' := 1159) (x := 0) rfl rfl rfl ?_
          cases e
          exact gv_retZ rfl rfl (by decide)
        rw [if_neg c345] at e
        refine gv_ifT (pc' := 1160) rfl (gv_neT c345) rfl ?_
        exact gv_weak (lw_law_1160_ok ih e) (gv_S1 rfl (gv_S1 rfl (gv_S1 rfl (gv_S1 rfl (gv_S1 rfl gv_S0)))))
      rw [if_neg c344] at e
      refine gv_cmF (pc' := 1141) rfl (gv_eqF2 c344) rfl rfl ?_
      refine gv_ic (pc' := 1142) (x := 0) rfl rfl rfl ?_
      cases e
      exact gv_retZ rfl rfl (by decide)
    rw [if_neg c334] at e
    by_cases c348 : (v2 &&& (31 : Int32)) = (18 : Int32)
    · rw [if_pos c348] at e
      refine gv_sw (pc' := 1163) (off := 1123) rfl (by rw [c348]; rfl) rfl ?_
      refine gv_rldn (pc' := 1164) rfl rfl rfl ?_
      obtain ⟨i349, qi349, e⟩ := gv_bind e
      obtain ⟨v350, qv350, e⟩ := gv_bind e
      refine gv_vS (jc := 16) (n := 0) (rest := []) (stk := [.int v350]) (pc' := 1167) rfl rfl rfl rfl rfl rfl rfl rfl rfl (gv_zR gv_z0) rfl (gv_aR gv_a0) (Nat.le_of_ble_eq_true rfl) qi349 (cG_found_ok qv350) rfl rfl ?_
      refine gv_rldn (pc' := 1168) rfl rfl rfl ?_
      obtain ⟨i351, qi351, e⟩ := gv_bind e
      obtain ⟨⟨v352, h353⟩, qv352, e⟩ := gv_bind e
      refine gv_vS (jc := 190) (n := 0) (rest := [.int v350]) (stk := [.int v352, .int v350]) (pc' := 1171) rfl rfl rfl rfl rfl rfl rfl rfl rfl (gv_zR gv_z0) rfl (gv_aR gv_a0) (Nat.le_of_ble_eq_true rfl) qi351 (mM_found_ok qv352) rfl rfl ?_
      by_cases c355 : v350 = v352
      · rw [if_pos c355] at e
        refine gv_cmT (pc' := 1320) rfl (gv_eqT2 c355) rfl ?_
        exact gv_weak (lw_law_1320_ok ih e) (gv_S1 rfl (gv_S1 rfl (gv_S1 rfl (gv_S1 rfl (gv_S1 rfl gv_S0)))))
      rw [if_neg c355] at e
      refine gv_cmF (pc' := 1174) rfl (gv_eqF2 c355) rfl rfl ?_
      refine gv_ic (pc' := 1175) (x := 0) rfl rfl rfl ?_
      cases e
      exact gv_retZ rfl rfl (by decide)
    rw [if_neg c348] at e
    by_cases c356 : (v2 &&& (31 : Int32)) = (19 : Int32)
    · rw [if_pos c356] at e
      refine gv_sw (pc' := 1176) (off := 1136) rfl (by rw [c356]; rfl) rfl ?_
      refine gv_rldn (pc' := 1177) rfl rfl rfl ?_
      refine gv_xld (pc' := 1178) rfl rfl rfl ?_
      refine gv_ild (pc' := 1180) rfl rfl rfl ?_
      refine gv_ic (pc' := 1181) (x := 1) rfl rfl rfl ?_
      refine gv_iadd (pc' := 1182) rfl rfl ?_
      by_cases c358 : (l4 + (1 : Int32)) < 0
      · rw [if_pos c358] at e; cases e
      rw [if_neg c358] at e
      obtain ⟨v357, qv357, e⟩ := gv_bind e
      refine gv_xal (pc' := 1183) rfl rfl c358 qv357 rfl ?_
      refine gv_i2l (pc' := 1184) rfl rfl ?_
      refine gv_bp (pc' := 1186) (x := 32) rfl rfl rfl ?_
      refine gv_lshl (pc' := 1187) rfl rfl ?_
      refine gv_xld (pc' := 1188) rfl rfl rfl ?_
      refine gv_ild (pc' := 1190) rfl rfl rfl ?_
      refine gv_ic (pc' := 1191) (x := 2) rfl rfl rfl ?_
      refine gv_iadd (pc' := 1192) rfl rfl ?_
      by_cases c360 : (l4 + (2 : Int32)) < 0
      · rw [if_pos c360] at e; cases e
      rw [if_neg c360] at e
      obtain ⟨v359, qv359, e⟩ := gv_bind e
      refine gv_xal (pc' := 1193) rfl rfl c360 qv359 rfl ?_
      refine gv_i2l (pc' := 1194) rfl rfl ?_
      refine gv_ld (pc' := 1197) (x := 4294967295) rfl rfl rfl ?_
      refine gv_land (pc' := 1198) rfl rfl ?_
      refine gv_lor (pc' := 1199) rfl rfl ?_
      refine gv_xld (pc' := 1200) rfl rfl rfl ?_
      refine gv_ild (pc' := 1202) rfl rfl rfl ?_
      refine gv_ic (pc' := 1203) (x := 3) rfl rfl rfl ?_
      refine gv_iadd (pc' := 1204) rfl rfl ?_
      by_cases c362 : (l4 + (3 : Int32)) < 0
      · rw [if_pos c362] at e; cases e
      rw [if_neg c362] at e
      obtain ⟨v361, qv361, e⟩ := gv_bind e
      refine gv_xal (pc' := 1205) rfl rfl c362 qv361 rfl ?_
      obtain ⟨i363, qi363, e⟩ := gv_bind e
      obtain ⟨⟨v364, h365⟩, qv364, e⟩ := gv_bind e
      refine gv_vS (jc := 17) (n := 2) (rest := []) (stk := [.int v364]) (pc' := 1208) rfl rfl rfl rfl rfl rfl rfl rfl rfl (gv_zR (gv_zJ (gv_zI gv_z0))) rfl (gv_aR (gv_aJ (gv_aI gv_a0))) (Nat.le_of_ble_eq_true rfl) qi363 (cG_feed_ok qv364) rfl rfl ?_
      refine gv_rldn (pc' := 1209) rfl rfl rfl ?_
      refine gv_xld (pc' := 1210) rfl rfl rfl ?_
      refine gv_ild (pc' := 1212) rfl rfl rfl ?_
      refine gv_ic (pc' := 1213) (x := 1) rfl rfl rfl ?_
      refine gv_iadd (pc' := 1214) rfl rfl ?_
      by_cases c368 : (l4 + (1 : Int32)) < 0
      · rw [if_pos c368] at e; cases e
      rw [if_neg c368] at e
      obtain ⟨v367, qv367, e⟩ := gv_bind e
      refine gv_xal (pc' := 1215) rfl rfl c368 qv367 rfl ?_
      refine gv_i2l (pc' := 1216) rfl rfl ?_
      refine gv_bp (pc' := 1218) (x := 32) rfl rfl rfl ?_
      refine gv_lshl (pc' := 1219) rfl rfl ?_
      refine gv_xld (pc' := 1220) rfl rfl rfl ?_
      refine gv_ild (pc' := 1222) rfl rfl rfl ?_
      refine gv_ic (pc' := 1223) (x := 2) rfl rfl rfl ?_
      refine gv_iadd (pc' := 1224) rfl rfl ?_
      by_cases c370 : (l4 + (2 : Int32)) < 0
      · rw [if_pos c370] at e; cases e
      rw [if_neg c370] at e
      obtain ⟨v369, qv369, e⟩ := gv_bind e
      refine gv_xal (pc' := 1225) rfl rfl c370 qv369 rfl ?_
      refine gv_i2l (pc' := 1226) rfl rfl ?_
      refine gv_ld (pc' := 1229) (x := 4294967295) rfl rfl rfl ?_
      refine gv_land (pc' := 1230) rfl rfl ?_
      refine gv_lor (pc' := 1231) rfl rfl ?_
      refine gv_xld (pc' := 1232) rfl rfl rfl ?_
      refine gv_ild (pc' := 1234) rfl rfl rfl ?_
      refine gv_ic (pc' := 1235) (x := 3) rfl rfl rfl ?_
      refine gv_iadd (pc' := 1236) rfl rfl ?_
      by_cases c372 : (l4 + (3 : Int32)) < 0
      · rw [if_pos c372] at e; cases e
      rw [if_neg c372] at e
      obtain ⟨v371, qv371, e⟩ := gv_bind e
      refine gv_xal (pc' := 1237) rfl rfl c372 qv371 rfl ?_
      obtain ⟨i373, qi373, e⟩ := gv_bind e
      obtain ⟨⟨v374, h375⟩, qv374, e⟩ := gv_bind e
      refine gv_vS (jc := 191) (n := 2) (rest := [.int v364]) (stk := [.int v374, .int v364]) (pc' := 1240) rfl rfl rfl rfl rfl rfl rfl rfl rfl (gv_zR (gv_zJ (gv_zI gv_z0))) rfl (gv_aR (gv_aJ (gv_aI gv_a0))) (Nat.le_of_ble_eq_true rfl) qi373 (mM_feed_ok qv374) rfl rfl ?_
      by_cases c377 : v364 = v374
      · rw [if_pos c377] at e
        refine gv_cmT (pc' := 1320) rfl (gv_eqT2 c377) rfl ?_
        exact gv_weak (lw_law_1320_ok ih e) (gv_S1 rfl (gv_S1 rfl (gv_S1 rfl (gv_S1 rfl (gv_S1 rfl gv_S0)))))
      rw [if_neg c377] at e
      refine gv_cmF (pc' := 1243) rfl (gv_eqF2 c377) rfl rfl ?_
      refine gv_ic (pc' := 1244) (x := 0) rfl rfl rfl ?_
      cases e
      exact gv_retZ rfl rfl (by decide)
    rw [if_neg c356] at e
    by_cases c378 : (v2 &&& (31 : Int32)) = (20 : Int32)
    · rw [if_pos c378] at e
      refine gv_sw (pc' := 1245) (off := 1205) rfl (by rw [c378]; rfl) rfl ?_
      refine gv_rldn (pc' := 1246) rfl rfl rfl ?_
      obtain ⟨i379, qi379, e⟩ := gv_bind e
      obtain ⟨⟨v380, h381⟩, qv380, e⟩ := gv_bind e
      refine gv_vS (jc := 20) (n := 0) (rest := []) (stk := [.int v380]) (pc' := 1249) rfl rfl rfl rfl rfl rfl rfl rfl rfl (gv_zR gv_z0) rfl (gv_aR gv_a0) (Nat.le_of_ble_eq_true rfl) qi379 (cG_wipe_ok qv380) rfl rfl ?_
      refine gv_rldn (pc' := 1250) rfl rfl rfl ?_
      obtain ⟨i383, qi383, e⟩ := gv_bind e
      obtain ⟨⟨v384, h385⟩, qv384, e⟩ := gv_bind e
      refine gv_vS (jc := 192) (n := 0) (rest := [.int v380]) (stk := [.int v384, .int v380]) (pc' := 1253) rfl rfl rfl rfl rfl rfl rfl rfl rfl (gv_zR gv_z0) rfl (gv_aR gv_a0) (Nat.le_of_ble_eq_true rfl) qi383 (mM_wipe_ok qv384) rfl rfl ?_
      by_cases c387 : v380 = v384
      · rw [if_pos c387] at e
        refine gv_cmT (pc' := 1320) rfl (gv_eqT2 c387) rfl ?_
        exact gv_weak (lw_law_1320_ok ih e) (gv_S1 rfl (gv_S1 rfl (gv_S1 rfl (gv_S1 rfl (gv_S1 rfl gv_S0)))))
      rw [if_neg c387] at e
      refine gv_cmF (pc' := 1256) rfl (gv_eqF2 c387) rfl rfl ?_
      refine gv_ic (pc' := 1257) (x := 0) rfl rfl rfl ?_
      cases e
      exact gv_retZ rfl rfl (by decide)
    rw [if_neg c378] at e
    by_cases c388 : (v2 &&& (31 : Int32)) = (21 : Int32)
    · rw [if_pos c388] at e
      refine gv_sw (pc' := 1258) (off := 1218) rfl (by rw [c388]; rfl) rfl ?_
      refine gv_rldn (pc' := 1259) rfl rfl rfl ?_
      refine gv_xld (pc' := 1260) rfl rfl rfl ?_
      refine gv_ild (pc' := 1262) rfl rfl rfl ?_
      refine gv_ic (pc' := 1263) (x := 1) rfl rfl rfl ?_
      refine gv_iadd (pc' := 1264) rfl rfl ?_
      by_cases c390 : (l4 + (1 : Int32)) < 0
      · rw [if_pos c390] at e; cases e
      rw [if_neg c390] at e
      obtain ⟨v389, qv389, e⟩ := gv_bind e
      refine gv_xal (pc' := 1265) rfl rfl c390 qv389 rfl ?_
      refine gv_xld (pc' := 1266) rfl rfl rfl ?_
      refine gv_ild (pc' := 1268) rfl rfl rfl ?_
      refine gv_ic (pc' := 1269) (x := 2) rfl rfl rfl ?_
      refine gv_iadd (pc' := 1270) rfl rfl ?_
      by_cases c392 : (l4 + (2 : Int32)) < 0
      · rw [if_pos c392] at e; cases e
      rw [if_neg c392] at e
      obtain ⟨v391, qv391, e⟩ := gv_bind e
      refine gv_xal (pc' := 1271) rfl rfl c392 qv391 rfl ?_
      obtain ⟨i393, qi393, e⟩ := gv_bind e
      obtain ⟨⟨v394, h395⟩, qv394, e⟩ := gv_bind e
      refine gv_vS (jc := 21) (n := 2) (rest := []) (stk := [.int v394]) (pc' := 1274) rfl rfl rfl rfl rfl rfl rfl rfl rfl (gv_zR (gv_zI (gv_zI gv_z0))) rfl (gv_aR (gv_aI (gv_aI gv_a0))) (Nat.le_of_ble_eq_true rfl) qi393 (cG_spoil_ok qv394) rfl rfl ?_
      refine gv_rldn (pc' := 1275) rfl rfl rfl ?_
      refine gv_xld (pc' := 1276) rfl rfl rfl ?_
      refine gv_ild (pc' := 1278) rfl rfl rfl ?_
      refine gv_ic (pc' := 1279) (x := 1) rfl rfl rfl ?_
      refine gv_iadd (pc' := 1280) rfl rfl ?_
      by_cases c398 : (l4 + (1 : Int32)) < 0
      · rw [if_pos c398] at e; cases e
      rw [if_neg c398] at e
      obtain ⟨v397, qv397, e⟩ := gv_bind e
      refine gv_xal (pc' := 1281) rfl rfl c398 qv397 rfl ?_
      refine gv_xld (pc' := 1282) rfl rfl rfl ?_
      refine gv_ild (pc' := 1284) rfl rfl rfl ?_
      refine gv_ic (pc' := 1285) (x := 2) rfl rfl rfl ?_
      refine gv_iadd (pc' := 1286) rfl rfl ?_
      by_cases c400 : (l4 + (2 : Int32)) < 0
      · rw [if_pos c400] at e; cases e
      rw [if_neg c400] at e
      obtain ⟨v399, qv399, e⟩ := gv_bind e
      refine gv_xal (pc' := 1287) rfl rfl c400 qv399 rfl ?_
      obtain ⟨i401, qi401, e⟩ := gv_bind e
      obtain ⟨⟨v402, h403⟩, qv402, e⟩ := gv_bind e
      refine gv_vS (jc := 193) (n := 2) (rest := [.int v394]) (stk := [.int v402, .int v394]) (pc' := 1290) rfl rfl rfl rfl rfl rfl rfl rfl rfl (gv_zR (gv_zI (gv_zI gv_z0))) rfl (gv_aR (gv_aI (gv_aI gv_a0))) (Nat.le_of_ble_eq_true rfl) qi401 (mM_spoil_ok qv402) rfl rfl ?_
      by_cases c405 : v394 = v402
      · rw [if_pos c405] at e
        refine gv_cmT (pc' := 1320) rfl (gv_eqT2 c405) rfl ?_
        exact gv_weak (lw_law_1320_ok ih e) (gv_S1 rfl (gv_S1 rfl (gv_S1 rfl (gv_S1 rfl (gv_S1 rfl gv_S0)))))
      rw [if_neg c405] at e
      refine gv_cmF (pc' := 1293) rfl (gv_eqF2 c405) rfl rfl ?_
      refine gv_ic (pc' := 1294) (x := 0) rfl rfl rfl ?_
      cases e
      exact gv_retZ rfl rfl (by decide)
    rw [if_neg c388] at e
    by_cases c406 : (v2 &&& (31 : Int32)) = (22 : Int32)
    · rw [if_pos c406] at e
      refine gv_sw (pc' := 1295) (off := 1255) rfl (by rw [c406]; rfl) rfl ?_
      refine gv_rldn (pc' := 1296) rfl rfl rfl ?_
      refine gv_xld (pc' := 1297) rfl rfl rfl ?_
      refine gv_ild (pc' := 1299) rfl rfl rfl ?_
      refine gv_ic (pc' := 1300) (x := 1) rfl rfl rfl ?_
      refine gv_iadd (pc' := 1301) rfl rfl ?_
      by_cases c408 : (l4 + (1 : Int32)) < 0
      · rw [if_pos c408] at e; cases e
      rw [if_neg c408] at e
      obtain ⟨v407, qv407, e⟩ := gv_bind e
      refine gv_xal (pc' := 1302) rfl rfl c408 qv407 rfl ?_
      obtain ⟨i409, qi409, e⟩ := gv_bind e
      obtain ⟨v410, qv410, e⟩ := gv_bind e
      refine gv_vS (jc := 22) (n := 1) (rest := []) (stk := [.int v410]) (pc' := 1305) rfl rfl rfl rfl rfl rfl rfl rfl rfl (gv_zR (gv_zI gv_z0)) rfl (gv_aR (gv_aI gv_a0)) (Nat.le_of_ble_eq_true rfl) qi409 (cG_byteAt_ok qv410) rfl rfl ?_
      refine gv_rldn (pc' := 1306) rfl rfl rfl ?_
      refine gv_xld (pc' := 1307) rfl rfl rfl ?_
      refine gv_ild (pc' := 1309) rfl rfl rfl ?_
      refine gv_ic (pc' := 1310) (x := 1) rfl rfl rfl ?_
      refine gv_iadd (pc' := 1311) rfl rfl ?_
      by_cases c412 : (l4 + (1 : Int32)) < 0
      · rw [if_pos c412] at e; cases e
      rw [if_neg c412] at e
      obtain ⟨v411, qv411, e⟩ := gv_bind e
      refine gv_xal (pc' := 1312) rfl rfl c412 qv411 rfl ?_
      obtain ⟨i413, qi413, e⟩ := gv_bind e
      obtain ⟨⟨v414, h415⟩, qv414, e⟩ := gv_bind e
      refine gv_vS (jc := 194) (n := 1) (rest := [.int v410]) (stk := [.int v414, .int v410]) (pc' := 1315) rfl rfl rfl rfl rfl rfl rfl rfl rfl (gv_zR (gv_zI gv_z0)) rfl (gv_aR (gv_aI gv_a0)) (Nat.le_of_ble_eq_true rfl) qi413 (mM_byteAt_ok qv414) rfl rfl ?_
      by_cases c417 : v410 = v414
      · rw [if_pos c417] at e
        refine gv_cmT (pc' := 1320) rfl (gv_eqT2 c417) rfl ?_
        exact gv_weak (lw_law_1320_ok ih e) (gv_S1 rfl (gv_S1 rfl (gv_S1 rfl (gv_S1 rfl (gv_S1 rfl gv_S0)))))
      rw [if_neg c417] at e
      refine gv_cmF (pc' := 1318) rfl (gv_eqF2 c417) rfl rfl ?_
      refine gv_ic (pc' := 1319) (x := 0) rfl rfl rfl ?_
      cases e
      exact gv_retZ rfl rfl (by decide)
    rw [if_neg c406] at e
    refine gv_sw (pc' := 1320) (off := 1280) rfl (gv_tabd (gv_N1 c4 (gv_N1 c22 (gv_N1 c48 (gv_N1 c78 (gv_N1 c100 (gv_N1 c126 (gv_N1 c148 (gv_N1 c178 (gv_N1 c204 (gv_N1 c218 (gv_N1 c228 (gv_N1 c236 (gv_N1 c248 (gv_N1 c260 (gv_N1 c286 (gv_N1 c304 (gv_N1 c312 (gv_N1 c334 (gv_N1 c348 (gv_N1 c356 (gv_N1 c378 (gv_N1 c388 (gv_N1 c406 gv_N0))))))))))))))))))))))) (by decide)) rfl ?_
    exact gv_weak (lw_law_1320_ok ih e) (gv_S1 rfl (gv_S1 rfl (gv_S1 rfl (gv_S1 rfl (gv_S1 rfl gv_S0)))))
