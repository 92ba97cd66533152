/-! places, properties, entries, values of sets: the rows that come out -/
def gpl (r : Nat → Int32) (i p : Nat) (v w : Int32) : Nat → Int32 := fun j => if j = p then v else if i ≤ j ∧ j < p then w else r j
theorem gpl_base {r : Nat → Int32} {i p : Nat} {v w : Int32} (h : p ≤ i) : gpl r i p v w = gup r p v := by
  funext j; unfold gpl gup
  by_cases c : j = p
  · rw [if_pos c, if_pos c]
  · rw [if_neg c, if_neg c, if_neg (by omega)]
theorem gpl_step {r : Nat → Int32} {i p : Nat} {v w : Int32} (h : i ≤ p) : gpl (gup r i w) (i + 1) p v w = gpl r i p v w := by
  funext j; unfold gpl gup
  by_cases c : j = p
  · rw [if_pos c, if_pos c]
  · rw [if_neg c, if_neg c]
    by_cases c2 : j = i
    · subst c2; rw [if_neg (by omega), if_pos rfl, if_pos (by omega)]
    · rw [if_neg c2]
      by_cases c3 : i + 1 ≤ j ∧ j < p
      · rw [if_pos c3, if_pos (by omega)]
      · rw [if_neg c3, if_neg (by omega)]
def gsh (r : Nat → Int32) (t e : Nat) : Nat → Int32 := fun j => if t < j ∧ j ≤ e then r (j - 1) else r j
theorem gsh_base {r : Nat → Int32} {t : Nat} : gsh r t t = r := by
  funext j; unfold gsh; rw [if_neg (by omega)]
theorem gsh_step {r : Nat → Int32} {t m : Nat} : gsh (gup r (t + m + 1) (r (t + m))) t (t + m) = gsh r t (t + m + 1) := by
  funext j; unfold gsh gup
  by_cases c : j = t + m + 1
  · subst c
    rw [if_neg (by omega), if_pos rfl, if_pos (by omega), show t + m + 1 - 1 = t + m by omega]
  · by_cases c2 : t < j ∧ j ≤ t + m
    · rw [if_pos c2, if_neg (by omega), if_pos (by omega)]
    · rw [if_neg c2, if_neg c, if_neg (by omega)]
def gdl (r : Nat → Int32) (t c : Nat) : Nat → Int32 := fun j => if t ≤ j ∧ j + 1 < c then r (j + 1) else r j
theorem gdl_base {r : Nat → Int32} {t c : Nat} (h : c ≤ t + 1) : gdl r t c = r := by
  funext j; unfold gdl; rw [if_neg (by omega)]
theorem gdl_step {r : Nat → Int32} {t c : Nat} (h : t + 1 < c) : gdl (gup r t (r (t + 1))) (t + 1) c = gdl r t c := by
  funext j; unfold gdl gup
  by_cases c2 : j = t
  · subst c2
    rw [if_neg (by omega), if_pos rfl, if_pos (by omega)]
  · by_cases c3 : t + 1 ≤ j ∧ j + 1 < c
    · rw [if_pos c3, if_neg (by omega), if_pos (by omega)]
    · rw [if_neg c3, if_neg c2, if_neg (by omega)]
theorem k_max {a b : Nat} (ha : a < 2 ^ 31) (hb : b < 2 ^ 31) : jM_max (Int32.ofNat a) (Int32.ofNat b) = some (Int32.ofNat (max a b)) := by
  unfold jM_max
  by_cases c : a < b
  · rw [if_pos (n_ltl ha hb c), Nat.max_eq_right (by omega)]
  · rw [if_neg (n_nltl ha hb (by omega)), Nat.max_eq_left (by omega)]
section H
variable {u : gU} {x : gX} {o : Nat → Int64} {z : gx_H}
theorem k_setValue {k i : Nat} {a b : Int32} (hk : k < 32) (hi : i < 8) : cT_setValue (some (3 + 5 * k)) (Int32.ofNat i) a b (gH u x o z) = some (gH ((gup u.1 k (((u.1 k).1, (u.1 k).2.1, gup (u.1 k).2.2.1 i a, gup (u.1 k).2.2.2.1 i b, (u.1 k).2.2.2.2.1, (u.1 k).2.2.2.2.2) : gQ), u.2.1, u.2.2.1, u.2.2.2.1, u.2.2.2.2.1, u.2.2.2.2.2.1, u.2.2.2.2.2.2.1, u.2.2.2.2.2.2.2.1, u.2.2.2.2.2.2.2.2.1, u.2.2.2.2.2.2.2.2.2.1, u.2.2.2.2.2.2.2.2.2.2.1, u.2.2.2.2.2.2.2.2.2.2.2.1, u.2.2.2.2.2.2.2.2.2.2.2.2.1, u.2.2.2.2.2.2.2.2.2.2.2.2.2.1, u.2.2.2.2.2.2.2.2.2.2.2.2.2.2) : gU) x o z) := by
  simp only [cT_setValue, hrT_2 hk, hrT_3 hk, Option.bind_some, hbT_3 hk hi, hbT_4 hk hi, gup_eq, gup_gup]
theorem r_setSlot {k i : Nat} {a b : Int32} (hk : k < 32) (hi : i < 8) : mM_setSlot (some 188) (Int32.ofNat (8 * k + i)) a b (gH u x o z) = some (gH u ((gup x.1 k (((x.1 k).1, (x.1 k).2.1, gup (x.1 k).2.2.1 i a, gup (x.1 k).2.2.2.1 i (gcn a b), (x.1 k).2.2.2.2.1, (x.1 k).2.2.2.2.2.1, (x.1 k).2.2.2.2.2.2.1, (x.1 k).2.2.2.2.2.2.2) : gP), x.2.1, x.2.2.1, x.2.2.2.1, x.2.2.2.2.1, x.2.2.2.2.2.1, x.2.2.2.2.2.2.1, x.2.2.2.2.2.2.2.1, x.2.2.2.2.2.2.2.2.1, x.2.2.2.2.2.2.2.2.2.1, x.2.2.2.2.2.2.2.2.2.2.1, x.2.2.2.2.2.2.2.2.2.2.2.1, x.2.2.2.2.2.2.2.2.2.2.2.2.1, x.2.2.2.2.2.2.2.2.2.2.2.2.2.1, x.2.2.2.2.2.2.2.2.2.2.2.2.2.2.1, x.2.2.2.2.2.2.2.2.2.2.2.2.2.2.2) : gX) o z) := by
  simp only [mM_setSlot, hr_188_8, hr_188_9, Option.bind_some, r_no, hb_195 hk hi, hb_196 hk hi, gup_eq, gup_gup]
theorem r_copySlot {k i j : Nat} (hk : k < 32) (hi : i < 8) (hj : j < 8) : mM_copySlot (some 188) (Int32.ofNat (8 * k + i)) (Int32.ofNat (8 * k + j)) (gH u x o z) = some (gH u ((gup x.1 k (((x.1 k).1, gup (x.1 k).2.1 j ((x.1 k).2.1 i), gup (x.1 k).2.2.1 j ((x.1 k).2.2.1 i), gup (x.1 k).2.2.2.1 j ((x.1 k).2.2.2.1 i), (x.1 k).2.2.2.2.1, (x.1 k).2.2.2.2.2.1, (x.1 k).2.2.2.2.2.2.1, (x.1 k).2.2.2.2.2.2.2) : gP), x.2.1, x.2.2.1, x.2.2.2.1, x.2.2.2.2.1, x.2.2.2.2.2.1, x.2.2.2.2.2.2.1, x.2.2.2.2.2.2.2.1, x.2.2.2.2.2.2.2.2.1, x.2.2.2.2.2.2.2.2.2.1, x.2.2.2.2.2.2.2.2.2.2.1, x.2.2.2.2.2.2.2.2.2.2.2.1, x.2.2.2.2.2.2.2.2.2.2.2.2.1, x.2.2.2.2.2.2.2.2.2.2.2.2.2.1, x.2.2.2.2.2.2.2.2.2.2.2.2.2.2.1, x.2.2.2.2.2.2.2.2.2.2.2.2.2.2.2) : gX) o z) := by
  simp only [mM_copySlot, hr_188_6, hr_188_8, hr_188_9, Option.bind_some, ha_193 hk hi, ha_195 hk hi, ha_196 hk hi, hb_193 hk hj, hb_195 hk hj, hb_196 hk hj, gup_eq, gup_gup]
theorem k_spL {k p c : Nat} {a b : Int32} (hk : k < 32) (hp : p < 8) (hc : c ≤ 8) : ∀ (m i f : Nat) (u : gU), i ≤ 8 → (i + m = p ∨ (m = 0 ∧ p ≤ i)) → (u.1 k).2.2.2.2.1 5 = Int32.ofNat c → cT_setPlace_6 (f + m + 1) (some (3 + 5 * k)) (Int32.ofNat p) a b (Int32.ofNat i) (gH u x o z) = some (gH ((gup u.1 k (((u.1 k).1, (u.1 k).2.1, gpl (u.1 k).2.2.1 i p a (-1), gpl (u.1 k).2.2.2.1 i p b 0, gup (u.1 k).2.2.2.2.1 5 (Int32.ofNat (max c (p + 1))), (u.1 k).2.2.2.2.2) : gQ), u.2.1, u.2.2.1, u.2.2.2.1, u.2.2.2.2.1, u.2.2.2.2.2.1, u.2.2.2.2.2.2.1, u.2.2.2.2.2.2.2.1, u.2.2.2.2.2.2.2.2.1, u.2.2.2.2.2.2.2.2.2.1, u.2.2.2.2.2.2.2.2.2.2.1, u.2.2.2.2.2.2.2.2.2.2.2.1, u.2.2.2.2.2.2.2.2.2.2.2.2.1, u.2.2.2.2.2.2.2.2.2.2.2.2.2.1, u.2.2.2.2.2.2.2.2.2.2.2.2.2.2) : gU) x o z) := by
  intro m
  induction m with
  | zero =>
    intro i f u h8 h h5
    rw [cT_setPlace_6, if_neg (n_nltl (by omega) (by omega) (by omega)), gpl_base (by omega), gpl_base (by omega)]
    simp only [ho_T hk, Option.bind_some, k_setValue hk hp, hiT_5 hk, gup_eq, h5, n_succ, k_max (a := c) (b := p + 1) (by omega) (by omega), hpT_5 hk, gup_gup]
  | succ m ih =>
    intro i f u h8 h h5
    have i8 : i < 8 := by omega
    rw [show f + (m + 1) + 1 = (f + m + 1) + 1 by omega, cT_setPlace_6, if_pos (n_ltl (by omega) (by omega) (by omega)), ho_T hk, Option.bind_some, k_setValue hk i8, Option.bind_some, n_succ, ih (i + 1) f ((gup u.1 k (((u.1 k).1, (u.1 k).2.1, gup (u.1 k).2.2.1 i (-1), gup (u.1 k).2.2.2.1 i 0, (u.1 k).2.2.2.2.1, (u.1 k).2.2.2.2.2) : gQ), u.2.1, u.2.2.1, u.2.2.2.1, u.2.2.2.2.1, u.2.2.2.2.2.1, u.2.2.2.2.2.2.1, u.2.2.2.2.2.2.2.1, u.2.2.2.2.2.2.2.2.1, u.2.2.2.2.2.2.2.2.2.1, u.2.2.2.2.2.2.2.2.2.2.1, u.2.2.2.2.2.2.2.2.2.2.2.1, u.2.2.2.2.2.2.2.2.2.2.2.2.1, u.2.2.2.2.2.2.2.2.2.2.2.2.2.1, u.2.2.2.2.2.2.2.2.2.2.2.2.2.2) : gU) (by omega) (by omega) (by simp only [gup_eq]; exact h5)]
    simp only [gup_eq, gup_gup]
    rw [gpl_step (by omega), gpl_step (by omega)]
theorem k_setPlace {k p c : Nat} {a b : Int32} (hk : k < 32) (hp : p < 8) (hc : c ≤ 8) (h5 : (u.1 k).2.2.2.2.1 5 = Int32.ofNat c) : cT_setPlace (some (3 + 5 * k)) (Int32.ofNat p) a b (gH u x o z) = some (gH ((gup u.1 k (((u.1 k).1, (u.1 k).2.1, gpl (u.1 k).2.2.1 c p a (-1), gpl (u.1 k).2.2.2.1 c p b 0, gup (u.1 k).2.2.2.2.1 5 (Int32.ofNat (max c (p + 1))), (u.1 k).2.2.2.2.2) : gQ), u.2.1, u.2.2.1, u.2.2.2.1, u.2.2.2.2.1, u.2.2.2.2.2.1, u.2.2.2.2.2.2.1, u.2.2.2.2.2.2.2.1, u.2.2.2.2.2.2.2.2.1, u.2.2.2.2.2.2.2.2.2.1, u.2.2.2.2.2.2.2.2.2.2.1, u.2.2.2.2.2.2.2.2.2.2.2.1, u.2.2.2.2.2.2.2.2.2.2.2.2.1, u.2.2.2.2.2.2.2.2.2.2.2.2.2.1, u.2.2.2.2.2.2.2.2.2.2.2.2.2.2) : gU) x o z) := by
  have := k_spL (x := x) (o := o) (z := z) (a := a) (b := b) hk hp hc (p - c) c (1000000000000000 - (p - c) - 1) u hc (by omega) h5
  rw [show 1000000000000000 - (p - c) - 1 + (p - c) + 1 = 1000000000000000 by omega] at this
  unfold cT_setPlace
  rw [hiT_5 hk, Option.bind_some, h5, this]
theorem gcn_m1 : gcn (-1) 0 = 0 := by decide
theorem r_putL {k p : Nat} {a b : Int32} (hk : k < 32) (hp : p < 8) : ∀ (m c f : Nat) (x : gX), c ≤ 8 → (c + m = p + 1 ∨ (m = 0 ∧ p < c)) → (x.1 k).2.2.2.2.2.1 = Int32.ofNat c → mM_put_136 (f + m + 1) (some 188) (Int32.ofNat k) (Int32.ofNat p) a b (gH u x o z) = some (gH u ((gup x.1 k (((x.1 k).1, (x.1 k).2.1, gpl (x.1 k).2.2.1 c p a (-1), gpl (x.1 k).2.2.2.1 c p (gcn a b) 0, (x.1 k).2.2.2.2.1, Int32.ofNat (max c (p + 1)), (x.1 k).2.2.2.2.2.2.1, (x.1 k).2.2.2.2.2.2.2) : gP), x.2.1, x.2.2.1, x.2.2.2.1, x.2.2.2.2.1, x.2.2.2.2.2.1, x.2.2.2.2.2.2.1, x.2.2.2.2.2.2.2.1, x.2.2.2.2.2.2.2.2.1, x.2.2.2.2.2.2.2.2.2.1, x.2.2.2.2.2.2.2.2.2.2.1, x.2.2.2.2.2.2.2.2.2.2.2.1, x.2.2.2.2.2.2.2.2.2.2.2.2.1, x.2.2.2.2.2.2.2.2.2.2.2.2.2.1, x.2.2.2.2.2.2.2.2.2.2.2.2.2.2.1, x.2.2.2.2.2.2.2.2.2.2.2.2.2.2.2) : gX) o z) := by
  intro m
  induction m with
  | zero =>
    intro c f x hc h h5
    rw [mM_put_136, hr_188_3, Option.bind_some, ha_190 hk, Option.bind_some, h5, if_pos (n_ltl (by omega) (by omega) (by omega)), gpl_base (by omega), gpl_base (by omega), n_8, ho_188, Option.bind_some, r_setSlot hk hp, Option.bind_some, Nat.max_eq_left (by omega), ← h5]
  | succ m ih =>
    intro c f x hc h h5
    have c8 : c < 8 := by omega
    rw [show f + (m + 1) + 1 = (f + m + 1) + 1 by omega, mM_put_136]
    simp only [hr_188_3, Option.bind_some, ha_190 hk, h5, if_neg (n_nltl (n := p) (m := c) (by omega) (by omega) (by omega)), ho_188, n_8, r_setSlot hk c8, gup_eq, n_succ, hb_190 hk, gup_gup, gcn_m1]
    rw [ih (c + 1) f ((gup x.1 k (((x.1 k).1, (x.1 k).2.1, gup (x.1 k).2.2.1 c (-1), gup (x.1 k).2.2.2.1 c 0, (x.1 k).2.2.2.2.1, Int32.ofNat (c + 1), (x.1 k).2.2.2.2.2.2.1, (x.1 k).2.2.2.2.2.2.2) : gP), x.2.1, x.2.2.1, x.2.2.2.1, x.2.2.2.2.1, x.2.2.2.2.2.1, x.2.2.2.2.2.2.1, x.2.2.2.2.2.2.2.1, x.2.2.2.2.2.2.2.2.1, x.2.2.2.2.2.2.2.2.2.1, x.2.2.2.2.2.2.2.2.2.2.1, x.2.2.2.2.2.2.2.2.2.2.2.1, x.2.2.2.2.2.2.2.2.2.2.2.2.1, x.2.2.2.2.2.2.2.2.2.2.2.2.2.1, x.2.2.2.2.2.2.2.2.2.2.2.2.2.2.1, x.2.2.2.2.2.2.2.2.2.2.2.2.2.2.2) : gX) (by omega) (by omega) (by simp only [gup_eq])]
    simp only [gup_eq, gup_gup]
    rw [gpl_step (by omega), gpl_step (by omega), show max (c + 1) (p + 1) = max c (p + 1) by omega]
theorem r_put136 {k p c : Nat} {a b : Int32} (hk : k < 32) (hp : p < 8) (hc : c ≤ 8) (h5 : (x.1 k).2.2.2.2.2.1 = Int32.ofNat c) : mM_put_136 1000000000000000 (some 188) (Int32.ofNat k) (Int32.ofNat p) a b (gH u x o z) = some (gH u ((gup x.1 k (((x.1 k).1, (x.1 k).2.1, gpl (x.1 k).2.2.1 c p a (-1), gpl (x.1 k).2.2.2.1 c p (gcn a b) 0, (x.1 k).2.2.2.2.1, Int32.ofNat (max c (p + 1)), (x.1 k).2.2.2.2.2.2.1, (x.1 k).2.2.2.2.2.2.2) : gP), x.2.1, x.2.2.1, x.2.2.2.1, x.2.2.2.2.1, x.2.2.2.2.2.1, x.2.2.2.2.2.2.1, x.2.2.2.2.2.2.2.1, x.2.2.2.2.2.2.2.2.1, x.2.2.2.2.2.2.2.2.2.1, x.2.2.2.2.2.2.2.2.2.2.1, x.2.2.2.2.2.2.2.2.2.2.2.1, x.2.2.2.2.2.2.2.2.2.2.2.2.1, x.2.2.2.2.2.2.2.2.2.2.2.2.2.1, x.2.2.2.2.2.2.2.2.2.2.2.2.2.2.1, x.2.2.2.2.2.2.2.2.2.2.2.2.2.2.2) : gX) o z) := by
  have := r_putL (u := u) (o := o) (z := z) (a := a) (b := b) hk hp (p + 1 - c) c (1000000000000000 - (p + 1 - c) - 1) x hc (by omega) h5
  rw [show 1000000000000000 - (p + 1 - c) - 1 + (p + 1 - c) + 1 = 1000000000000000 by omega] at this
  exact this
theorem k_gapL {k t c : Nat} (hk : k < 32) : ∀ (m f : Nat) (u : gU), t + m < 8 → (u.1 k).2.2.2.2.1 5 = Int32.ofNat c → cT_openGap_5 (f + m + 1) (some (3 + 5 * k)) (Int32.ofNat t) (Int32.ofNat (t + m)) (gH u x o z) = some (gH ((gup u.1 k ((gsh (u.1 k).1 t (t + m), gsh (u.1 k).2.1 t (t + m), gsh (u.1 k).2.2.1 t (t + m), gsh (u.1 k).2.2.2.1 t (t + m), gup (u.1 k).2.2.2.2.1 5 (Int32.ofNat (c + 1)), (u.1 k).2.2.2.2.2) : gQ), u.2.1, u.2.2.1, u.2.2.2.1, u.2.2.2.2.1, u.2.2.2.2.2.1, u.2.2.2.2.2.2.1, u.2.2.2.2.2.2.2.1, u.2.2.2.2.2.2.2.2.1, u.2.2.2.2.2.2.2.2.2.1, u.2.2.2.2.2.2.2.2.2.2.1, u.2.2.2.2.2.2.2.2.2.2.2.1, u.2.2.2.2.2.2.2.2.2.2.2.2.1, u.2.2.2.2.2.2.2.2.2.2.2.2.2.1, u.2.2.2.2.2.2.2.2.2.2.2.2.2.2) : gU) x o z) := by
  intro m
  induction m with
  | zero =>
    intro f u h h5
    rw [cT_openGap_5, if_neg (n_nltl (by omega) (by omega) (by omega)), hiT_5 hk, Option.bind_some, h5, hpT_5 hk, Option.bind_some, n_succ]
    simp only [Nat.add_zero, gsh_base]
  | succ m ih =>
    intro f u h h5
    have j8 : t + m < 8 := by omega
    have k8 : t + m + 1 < 8 := by omega
    rw [show f + (m + 1) + 1 = (f + m + 1) + 1 by omega, show t + (m + 1) = t + m + 1 by omega, cT_openGap_5, if_pos (n_ltl (by omega) (by omega) (by omega))]
    simp only [hrT_0 hk, hrT_1 hk, hrT_2 hk, hrT_3 hk, Option.bind_some, n_pred, n_m1, haT_1 hk j8, haT_2 hk j8, haT_3 hk j8, haT_4 hk j8, hbT_1 hk k8, hbT_2 hk k8, ho_T hk, k_setValue hk k8, gup_eq, gup_gup]
    rw [ih f ((gup u.1 k ((gup (u.1 k).1 (t + m + 1) ((u.1 k).1 (t + m)), gup (u.1 k).2.1 (t + m + 1) ((u.1 k).2.1 (t + m)), gup (u.1 k).2.2.1 (t + m + 1) ((u.1 k).2.2.1 (t + m)), gup (u.1 k).2.2.2.1 (t + m + 1) ((u.1 k).2.2.2.1 (t + m)), (u.1 k).2.2.2.2.1, (u.1 k).2.2.2.2.2) : gQ), u.2.1, u.2.2.1, u.2.2.2.1, u.2.2.2.2.1, u.2.2.2.2.2.1, u.2.2.2.2.2.2.1, u.2.2.2.2.2.2.2.1, u.2.2.2.2.2.2.2.2.1, u.2.2.2.2.2.2.2.2.2.1, u.2.2.2.2.2.2.2.2.2.2.1, u.2.2.2.2.2.2.2.2.2.2.2.1, u.2.2.2.2.2.2.2.2.2.2.2.2.1, u.2.2.2.2.2.2.2.2.2.2.2.2.2.1, u.2.2.2.2.2.2.2.2.2.2.2.2.2.2) : gU) (by omega) (by simp only [gup_eq]; exact h5)]
    simp only [gup_eq, gup_gup, gsh_step]
theorem k_gap {k t c : Nat} (hk : k < 32) (ht : t ≤ c) (hc : c < 8) (h5 : (u.1 k).2.2.2.2.1 5 = Int32.ofNat c) : cT_openGap (some (3 + 5 * k)) (Int32.ofNat t) (gH u x o z) = some (gH ((gup u.1 k ((gsh (u.1 k).1 t c, gsh (u.1 k).2.1 t c, gsh (u.1 k).2.2.1 t c, gsh (u.1 k).2.2.2.1 t c, gup (u.1 k).2.2.2.2.1 5 (Int32.ofNat (c + 1)), (u.1 k).2.2.2.2.2) : gQ), u.2.1, u.2.2.1, u.2.2.2.1, u.2.2.2.2.1, u.2.2.2.2.2.1, u.2.2.2.2.2.2.1, u.2.2.2.2.2.2.2.1, u.2.2.2.2.2.2.2.2.1, u.2.2.2.2.2.2.2.2.2.1, u.2.2.2.2.2.2.2.2.2.2.1, u.2.2.2.2.2.2.2.2.2.2.2.1, u.2.2.2.2.2.2.2.2.2.2.2.2.1, u.2.2.2.2.2.2.2.2.2.2.2.2.2.1, u.2.2.2.2.2.2.2.2.2.2.2.2.2.2) : gU) x o z) := by
  have := k_gapL (x := x) (o := o) (z := z) (t := t) hk (c - t) (1000000000000000 - (c - t) - 1) u (by omega) h5
  rw [show 1000000000000000 - (c - t) - 1 + (c - t) + 1 = 1000000000000000 by omega, show t + (c - t) = c by omega] at this
  unfold cT_openGap
  rw [hiT_5 hk, Option.bind_some, h5, this]
theorem k_ordL {k c : Nat} {a : Int32} (hk : k < 32) (h5 : (u.1 k).2.2.2.2.1 5 = Int32.ofNat c) (h8 : c ≤ 8) : ∀ (m i f : Nat), i + m = c → cT_orderedPlace_11 (f + m + 1) (some (3 + 5 * k)) a (Int32.ofNat i) (gH u x o z) = some (Int32.ofNat ((gfi (fun i => decide ((u.1 k).2.1 i < 0 ∨ ¬ (u.1 k).2.1 i < a)) m i).getD c)) := by
  intro m
  induction m with
  | zero =>
    intro i f h
    rw [cT_orderedPlace_11, hiT_5 hk, Option.bind_some, h5, if_neg (n_nltl (by omega) (by omega) (by omega)), gfi, show i = c by omega]
    rfl
  | succ m ih =>
    intro i f h
    have i8 : i < 8 := by omega
    rw [show f + (m + 1) + 1 = (f + m + 1) + 1 by omega, cT_orderedPlace_11, hiT_5 hk, Option.bind_some, h5, if_pos (n_ltl (by omega) (by omega) (by omega)), gfi]
    simp only [hrT_1 hk, haT_2 hk i8, Option.bind_some, n_succ, ih (i + 1) f (by omega)]
    by_cases c1 : (u.1 k).2.1 i < 0
    · simp [c1]
    · by_cases c2 : (u.1 k).2.1 i < a
      · simp [c1, c2]
      · simp [c1, c2]
/-- where a key comes -/
def gat (r : Nat → Int32) (c : Nat) (a : Int32) : Nat := if a < 0 then c else (gfi (fun i => decide (r i < 0 ∨ ¬ r i < a)) c 0).getD c
theorem gat_le {r : Nat → Int32} {c : Nat} {a : Int32} : gat r c a ≤ c := by
  unfold gat
  split
  · omega
  · cases h : gfi (fun i => decide (r i < 0 ∨ ¬ r i < a)) c 0 with
    | none => simp
    | some j =>
      have := (gfi_some _ _ _ h).2.1
      simp only [Option.getD_some]
      omega
theorem k_ord {k c : Nat} {a : Int32} (hk : k < 32) (h5 : (u.1 k).2.2.2.2.1 5 = Int32.ofNat c) (h8 : c ≤ 8) : cT_orderedPlace (some (3 + 5 * k)) a (gH u x o z) = some (Int32.ofNat (gat (u.1 k).2.1 c a)) := by
  unfold cT_orderedPlace gat
  by_cases c0 : a < 0
  · rw [if_pos c0, if_pos c0, hiT_5 hk, Option.bind_some, h5]
  · have := k_ordL (x := x) (o := o) (z := z) (a := a) hk h5 h8 c 0 (1000000000000000 - c - 1) (by omega)
    rw [show 1000000000000000 - c - 1 + c + 1 = 1000000000000000 by omega] at this
    rw [if_neg c0, if_neg c0]
    exact this
/-- a property that is new, or is set anew -/
def gq_ins (q : gQ) (c t : Nat) (a kd nm : Int32) : gQ := ((gup (gsh q.1 t c) t 4, gup (gsh q.2.1 t c) t a, gup (gsh q.2.2.1 t c) t kd, gup (gsh q.2.2.2.1 t c) t nm, gup q.2.2.2.2.1 5 (Int32.ofNat (c + 1)), q.2.2.2.2.2) : gQ)
def gp_ins (p : gP) (c t : Nat) (a kd nm : Int32) : gP := ((p.1, gup (gsh p.2.1 t c) t a, gup (gsh p.2.2.1 t c) t kd, gup (gsh p.2.2.2.1 t c) t nm, p.2.2.2.2.1, Int32.ofNat (c + 1), p.2.2.2.2.2.2.1, p.2.2.2.2.2.2.2) : gP)
theorem k_setProp {k c : Nat} {a kd nm : Int32} (hk : k < 32) (h5 : (u.1 k).2.2.2.2.1 5 = Int32.ofNat c) (h8 : c ≤ 6) : cT_setProperty (some (3 + 5 * k)) a kd nm (gH u x o z) = match gfi (fun i => decide ((u.1 k).1 i = 4 ∧ (u.1 k).2.1 i = a)) c 0 with
    | some j => some (1, gH ((gup u.1 k (((u.1 k).1, (u.1 k).2.1, gup (u.1 k).2.2.1 j kd, gup (u.1 k).2.2.2.1 j nm, (u.1 k).2.2.2.2.1, (u.1 k).2.2.2.2.2) : gQ), u.2.1, u.2.2.1, u.2.2.2.1, u.2.2.2.2.1, u.2.2.2.2.2.1, u.2.2.2.2.2.2.1, u.2.2.2.2.2.2.2.1, u.2.2.2.2.2.2.2.2.1, u.2.2.2.2.2.2.2.2.2.1, u.2.2.2.2.2.2.2.2.2.2.1, u.2.2.2.2.2.2.2.2.2.2.2.1, u.2.2.2.2.2.2.2.2.2.2.2.2.1, u.2.2.2.2.2.2.2.2.2.2.2.2.2.1, u.2.2.2.2.2.2.2.2.2.2.2.2.2.2) : gU) x o z)
    | none => if c < 6 then some (1, gH ((gup u.1 k (gq_ins (u.1 k) c (gat (u.1 k).2.1 c a) a kd nm), u.2.1, u.2.2.1, u.2.2.2.1, u.2.2.2.2.1, u.2.2.2.2.2.1, u.2.2.2.2.2.2.1, u.2.2.2.2.2.2.2.1, u.2.2.2.2.2.2.2.2.1, u.2.2.2.2.2.2.2.2.2.1, u.2.2.2.2.2.2.2.2.2.2.1, u.2.2.2.2.2.2.2.2.2.2.2.1, u.2.2.2.2.2.2.2.2.2.2.2.2.1, u.2.2.2.2.2.2.2.2.2.2.2.2.2.1, u.2.2.2.2.2.2.2.2.2.2.2.2.2.2) : gU) x o z) else some (0, gH u x o z) := by
  unfold cT_setProperty
  simp only [ho_T hk, Option.bind_some, k_index hk h5 (show c ≤ 8 by omega)]
  cases h : gfi (fun i => decide ((u.1 k).1 i = 4 ∧ (u.1 k).2.1 i = a)) c 0 with
  | some j =>
    have hj := (gfi_some _ _ _ h).2.1
    have j8 : j < 8 := by omega
    simp only [gio, if_neg (n_ne1 (n := j) (by omega)), cT_setProperty_54, ho_T hk, Option.bind_some, k_setValue hk j8]
  | none =>
    by_cases c6 : c < 6
    · have t8 : gat (u.1 k).2.1 c a < 8 := by have := gat_le (r := (u.1 k).2.1) (c := c) (a := a); omega
      simp only [gio, if_true, hiT_5 hk, Option.bind_some, h5, if_pos (show Int32.ofNat c < 6 from n_ltl (m := 6) (by omega) (by omega) c6), ho_T hk, k_ord hk h5 (show c ≤ 8 by omega), k_gap hk gat_le (show c < 8 by omega) h5, hrT_0 hk, hrT_1 hk, hbT_1 hk t8, hbT_2 hk t8, gup_eq, gup_gup, cT_setProperty_54, k_setValue hk t8, if_pos c6] <;> rfl
    · simp only [gio, if_true, hiT_5 hk, Option.bind_some, h5, if_neg (show ¬ Int32.ofNat c < 6 from n_nltl (m := 6) (by omega) (by omega) (by omega)), if_neg c6]
theorem r_insL {k t c : Nat} {a kd nm : Int32} (hk : k < 32) (ht : t ≤ c) : ∀ (m f : Nat) (x : gX), t + m < 8 → (x.1 k).2.2.2.2.2.1 = Int32.ofNat c → (a < 0 → m = 0) → (∀ j, t ≤ j → j < t + m → (x.1 k).2.1 j < 0 ∨ a < (x.1 k).2.1 j) → (¬ a < 0 → t = 0 ∨ (¬ (x.1 k).2.1 (t - 1) < 0 ∧ ¬ a < (x.1 k).2.1 (t - 1))) → mM_setProperty_21 (f + m + 1) (some 188) (Int32.ofNat k) a kd nm (Int32.ofNat (t + m)) (gH u x o z) = some (gH u ((gup x.1 k (((x.1 k).1, gup (gsh (x.1 k).2.1 t (t + m)) t a, gup (gsh (x.1 k).2.2.1 t (t + m)) t kd, gup (gsh (x.1 k).2.2.2.1 t (t + m)) t (gcn kd nm), (x.1 k).2.2.2.2.1, Int32.ofNat (c + 1), (x.1 k).2.2.2.2.2.2.1, (x.1 k).2.2.2.2.2.2.2) : gP), x.2.1, x.2.2.1, x.2.2.2.1, x.2.2.2.2.1, x.2.2.2.2.2.1, x.2.2.2.2.2.2.1, x.2.2.2.2.2.2.2.1, x.2.2.2.2.2.2.2.2.1, x.2.2.2.2.2.2.2.2.2.1, x.2.2.2.2.2.2.2.2.2.2.1, x.2.2.2.2.2.2.2.2.2.2.2.1, x.2.2.2.2.2.2.2.2.2.2.2.2.1, x.2.2.2.2.2.2.2.2.2.2.2.2.2.1, x.2.2.2.2.2.2.2.2.2.2.2.2.2.2.1, x.2.2.2.2.2.2.2.2.2.2.2.2.2.2.2) : gX) o z) := by
  intro m
  induction m with
  | zero =>
    intro f x h8 h5 h0 h1 h2
    have t8 : t < 8 := by omega
    have fin : mM_setProperty_91 (some 188) (Int32.ofNat k) a kd nm (Int32.ofNat t) (gH u x o z) = some (gH u ((gup x.1 k (((x.1 k).1, gup (x.1 k).2.1 t a, gup (x.1 k).2.2.1 t kd, gup (x.1 k).2.2.2.1 t (gcn kd nm), (x.1 k).2.2.2.2.1, Int32.ofNat (c + 1), (x.1 k).2.2.2.2.2.2.1, (x.1 k).2.2.2.2.2.2.2) : gP), x.2.1, x.2.2.1, x.2.2.2.1, x.2.2.2.2.1, x.2.2.2.2.2.1, x.2.2.2.2.2.2.1, x.2.2.2.2.2.2.2.1, x.2.2.2.2.2.2.2.2.1, x.2.2.2.2.2.2.2.2.2.1, x.2.2.2.2.2.2.2.2.2.2.1, x.2.2.2.2.2.2.2.2.2.2.2.1, x.2.2.2.2.2.2.2.2.2.2.2.2.1, x.2.2.2.2.2.2.2.2.2.2.2.2.2.1, x.2.2.2.2.2.2.2.2.2.2.2.2.2.2.1, x.2.2.2.2.2.2.2.2.2.2.2.2.2.2.2) : gX) o z) := by
      simp only [mM_setProperty_91, mM_setProperty_118, hr_188_6, hr_188_3, Option.bind_some, n_8, hb_193 hk t8, ha_190 hk, gup_eq, h5, hb_190 hk, n_succ, ho_188, r_setSlot hk t8, gup_gup]
    simp only [Nat.add_zero, gsh_base]
    rw [mM_setProperty_21]
    by_cases a0 : a < 0
    · rw [if_pos a0, fin]
    · rw [if_neg a0]
      rcases h2 a0 with t0 | ⟨e1, e2⟩
      · subst t0
        rw [if_neg (show ¬ (0 : Int32) < Int32.ofNat 0 by decide)]
        exact fin
      · by_cases t0 : t = 0
        · subst t0
          rw [if_neg (show ¬ (0 : Int32) < Int32.ofNat 0 by decide)]
          exact fin
        · obtain ⟨t, rfl⟩ : ∃ s, t = s + 1 := ⟨t - 1, by omega⟩
          have e1' : ¬ (x.1 k).2.1 t < 0 := e1
          have e2' : ¬ a < (x.1 k).2.1 t := e2
          have pz : (0 : Int32) < Int32.ofNat (t + 1) := n_ltl (n := 0) (by omega) (by omega) (by omega)
          rw [if_pos pz]
          simp only [hr_188_6, Option.bind_some, n_8, show 8 * k + (t + 1) = (8 * k + t) + 1 by omega, n_pred, ha_193 hk (show t < 8 by omega), if_neg e1', if_neg e2']
          exact fin
  | succ m ih =>
    intro f x h8 h5 h0 h1 h2
    have a0 : ¬ a < 0 := fun q => by have := h0 q; omega
    have j8 : t + m < 8 := by omega
    have k8 : t + m + 1 < 8 := by omega
    have cond := h1 (t + m) (by omega) (by omega)
    have pz : (0 : Int32) < Int32.ofNat (t + m + 1) := n_ltl (n := 0) (by omega) (by omega) (by omega)
    have step : mM_setProperty_65 (mM_setProperty_21 (f + m + 1)) (some 188) (Int32.ofNat k) a kd nm (Int32.ofNat (t + m + 1)) (gH u x o z) = some (gH u ((gup x.1 k (((x.1 k).1, gup (gsh (x.1 k).2.1 t (t + m + 1)) t a, gup (gsh (x.1 k).2.2.1 t (t + m + 1)) t kd, gup (gsh (x.1 k).2.2.2.1 t (t + m + 1)) t (gcn kd nm), (x.1 k).2.2.2.2.1, Int32.ofNat (c + 1), (x.1 k).2.2.2.2.2.2.1, (x.1 k).2.2.2.2.2.2.2) : gP), x.2.1, x.2.2.1, x.2.2.2.1, x.2.2.2.2.1, x.2.2.2.2.2.1, x.2.2.2.2.2.2.1, x.2.2.2.2.2.2.2.1, x.2.2.2.2.2.2.2.2.1, x.2.2.2.2.2.2.2.2.2.1, x.2.2.2.2.2.2.2.2.2.2.1, x.2.2.2.2.2.2.2.2.2.2.2.1, x.2.2.2.2.2.2.2.2.2.2.2.2.1, x.2.2.2.2.2.2.2.2.2.2.2.2.2.1, x.2.2.2.2.2.2.2.2.2.2.2.2.2.2.1, x.2.2.2.2.2.2.2.2.2.2.2.2.2.2.2) : gX) o z) := by
      have cs := r_copySlot (u := u) (x := x) (o := o) (z := z) (k := k) (i := t + m) (j := t + m + 1) hk j8 k8
      rw [show 8 * k + (t + m + 1) = 8 * k + (t + m) + 1 by omega] at cs
      simp only [mM_setProperty_65, ho_188, Option.bind_some, n_m1, n_8, n_succ, cs]
      rw [ih f _ (by omega) (by simp only [gup_eq]; exact h5) (fun q => absurd q a0) ?_ ?_]
      · simp only [gup_eq, gup_gup, gsh_step]
      · intro j j1 j2
        simp only [gup_eq]
        rw [gup_ne (by omega)]
        exact h1 j j1 (by omega)
      · intro _
        simp only [gup_eq]
        rw [gup_ne (by omega)]
        exact h2 a0
    rw [show f + (m + 1) + 1 = (f + m + 1) + 1 by omega, show t + (m + 1) = t + m + 1 by omega, mM_setProperty_21, if_neg a0, if_pos pz]
    simp only [hr_188_6, Option.bind_some, n_8, show 8 * k + (t + m + 1) = (8 * k + (t + m)) + 1 by omega, n_pred, ha_193 hk j8]
    by_cases c1 : (x.1 k).2.1 (t + m) < 0
    · rw [if_pos c1]; exact step
    · rw [if_neg c1, if_pos (by rcases cond with h | h; exact absurd h c1; exact h)]; exact step
end H
