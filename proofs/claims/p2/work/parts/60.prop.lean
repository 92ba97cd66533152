/-! properties, on both sides -/
theorem i_tr {a b c : Int32} (h1 : ¬ b < a) (h2 : b < c) : a < c := by
  rw [Int32.lt_iff_toInt_lt] at h1 h2 ⊢; omega
theorem i_ne {a b : Int32} (h1 : ¬ b < a) (h2 : ¬ b = a) : a < b := by
  rw [Int32.lt_iff_toInt_lt] at h1 ⊢
  rw [← Int32.toInt_inj] at h2
  omega
theorem gat_spec {r : Nat → Int32} {c : Nat} {a : Int32} (so : ∀ i j, i < j → j < c → ¬ r j < 0 → ¬ r i < 0 ∧ r i < r j) (nf : ∀ i, i < c → ¬ r i = a) (a0 : ¬ a < 0) : (∀ j, gat r c a ≤ j → j < c → r j < 0 ∨ a < r j) ∧ (∀ j, j < gat r c a → ¬ r j < 0 ∧ r j < a) := by
  unfold gat
  rw [if_neg a0]
  cases h : gfi (fun i => decide (r i < 0 ∨ ¬ r i < a)) c 0 with
  | none =>
    have hf := gfi_none _ _ h
    simp only [Option.getD_none]
    refine ⟨fun j h1 h2 => by omega, fun j h1 => ?_⟩
    have := hf j (by omega) (by omega)
    simp only [decide_eq_false_iff_not, not_or, Decidable.not_not] at this
    exact this
  | some t =>
    obtain ⟨_, h2, h3, h4⟩ := gfi_some _ _ _ h
    simp only [Option.getD_some]
    simp only [decide_eq_true_eq] at h3
    refine ⟨fun j j1 j2 => ?_, fun j j1 => ?_⟩
    · by_cases j0 : r j < 0
      · exact Or.inl j0
      · right
        by_cases e : j = t
        · subst e
          rcases h3 with q | q
          · exact absurd q j0
          · exact i_ne q (nf j j2)
        · obtain ⟨s1, s2⟩ := so t j (by omega) j2 j0
          rcases h3 with q | q
          · exact absurd q s1
          · exact i_tr q s2
    · have := h4 j (by omega) j1
      simp only [decide_eq_false_iff_not, not_or, Decidable.not_not] at this
      exact this
theorem gin_hi {r : Nat → Int32} {t c i : Nat} {v : Int32} (h : t < i) (h2 : i ≤ c) : gup (gsh r t c) t v i = r (i - 1) := by
  rw [gup_ne (by omega)]; unfold gsh; rw [if_pos ⟨h, h2⟩]
theorem gin_lo {r : Nat → Int32} {t c i : Nat} {v : Int32} (h : i < t) : gup (gsh r t c) t v i = r i := by
  rw [gup_ne (by omega)]; unfold gsh; rw [if_neg (by omega)]
theorem gO_ins {n c : Nat} {q : gQ} {p : gP} {a kd nm : Int32} (O : gO n 0 c q p) (c6 : c < 6) (nf : ∀ i, i < c → ¬ q.2.1 i = a) (hv : gV n 0 kd nm) : gO n 0 (c + 1) (gq_ins q c (gat q.2.1 c a) a kd nm) (gp_ins p c (gat q.2.1 c a) a kd nm) := by
  have ht := gat_le (r := q.2.1) (c := c) (a := a)
  have gs := gat_spec (a := a) (O.so rfl) nf
  have ha : a < 0 → gat q.2.1 c a = c := fun h => by unfold gat; rw [if_pos h]
  generalize gat q.2.1 c a = t at ht gs ha ⊢
  have cs : ∀ i, i < c + 1 → i = t ∨ (t < i ∧ i ≤ c) ∨ (i < t ∧ i < c) := fun i hi => by omega
  have f6 : q.2.2.2.2.1 6 = 0 := by rcases O.d4 with h | h; exact h; omega
  refine ⟨by omega, O.es, O.et, rfl, by show c + 1 ≤ 6; omega, O.ed, Or.inl f6, fun _ => rfl, fun h => absurd f6 h, ?_, fun h => by omega, ?_, ?_, ?_, fun h => by omega, ?_, fun h => by omega, fun h => by omega, fun h => by omega⟩
  · intro _ i hi
    show gup (gsh p.2.1 t c) t a i = gup (gsh q.2.1 t c) t a i
    rcases cs i hi with h | ⟨h1, h2⟩ | ⟨h1, h2⟩
    · subst h; rw [gup_eq, gup_eq]
    · rw [gin_hi h1 h2, gin_hi h1 h2, O.kE (Or.inl rfl) _ (by omega)]
    · rw [gin_lo h1, gin_lo h1, O.kE (Or.inl rfl) _ h2]
  · intro _ i hi
    show gup (gsh q.1 t c) t 4 i = 4
    rcases cs i hi with h | ⟨h1, h2⟩ | ⟨h1, h2⟩
    · subst h; rw [gup_eq]
    · rw [gin_hi h1 h2, O.k4 rfl _ (by omega)]
    · rw [gin_lo h1, O.k4 rfl _ h2]
  · intro _ i hi
    show gup (gsh p.2.2.1 t c) t kd i = gup (gsh q.2.2.1 t c) t kd i ∧ gup (gsh p.2.2.2.1 t c) t nm i = gup (gsh q.2.2.2.1 t c) t nm i
    rcases cs i hi with h | ⟨h1, h2⟩ | ⟨h1, h2⟩
    · subst h; simp only [gup_eq, and_self]
    · rw [gin_hi h1 h2, gin_hi h1 h2, gin_hi h1 h2, gin_hi h1 h2]; exact O.vs (by omega) _ (by omega)
    · rw [gin_lo h1, gin_lo h1, gin_lo h1, gin_lo h1]; exact O.vs (by omega) _ h2
  · intro _ i hi
    show gV n 0 (gup (gsh q.2.2.1 t c) t kd i) (gup (gsh q.2.2.2.1 t c) t nm i)
    rcases cs i hi with h | ⟨h1, h2⟩ | ⟨h1, h2⟩
    · subst h; rw [gup_eq, gup_eq]; exact hv
    · rw [gin_hi h1 h2, gin_hi h1 h2]; exact O.vv (by omega) _ (by omega)
    · rw [gin_lo h1, gin_lo h1]; exact O.vv (by omega) _ h2
  · intro _ i j hij hj
    show ¬ gup (gsh q.2.1 t c) t a j < 0 → ¬ gup (gsh q.2.1 t c) t a i < 0 ∧ gup (gsh q.2.1 t c) t a i < gup (gsh q.2.1 t c) t a j
    rcases cs j hj with h | ⟨h1, h2⟩ | ⟨h1, h2⟩
    · subst h
      rw [gup_eq, gin_lo hij]
      intro a0
      exact (gs a0).2 i hij
    · rw [gin_hi h1 h2]
      intro j0
      rcases cs i (by omega) with e | ⟨e1, e2⟩ | ⟨e1, e2⟩
      · subst e
        rw [gup_eq]
        by_cases a0 : a < 0
        · have := ha a0; omega
        · refine ⟨a0, ?_⟩
          rcases (gs a0).1 (j - 1) (by omega) (by omega) with q | q
          · exact absurd q j0
          · exact q
      · rw [gin_hi e1 e2]
        exact O.so rfl (i - 1) (j - 1) (by omega) (by omega) j0
      · rw [gin_lo e1]
        exact O.so rfl i (j - 1) (by omega) (by omega) j0
    · rw [gin_lo h1, gin_lo (by omega)]
      intro j0
      exact O.so rfl i j hij h2 j0
theorem gO_set {n s c j : Nat} {q : gQ} {p : gP} {kd nm : Int32} (O : gO n s c q p) (s3 : s ≤ 3) (hv : gV n s kd nm) : gO n s c ((q.1, q.2.1, gup q.2.2.1 j kd, gup q.2.2.2.1 j nm, q.2.2.2.2.1, q.2.2.2.2.2) : gQ) ((p.1, p.2.1, gup p.2.2.1 j kd, gup p.2.2.2.1 j nm, p.2.2.2.2.1, p.2.2.2.2.2.1, p.2.2.2.2.2.2.1, p.2.2.2.2.2.2.2) : gP) := by
  refine ⟨O.s8, O.es, O.et, O.ec, O.c8, O.ed, O.d4, O.ep, O.e0, O.kE, O.kK, O.k4, ?_, ?_, O.kv, O.so, fun h => by omega, fun h => by omega, fun h => by omega⟩
  · intro _ i hi
    show gup p.2.2.1 j kd i = gup q.2.2.1 j kd i ∧ gup p.2.2.2.1 j nm i = gup q.2.2.2.1 j nm i
    by_cases e : i = j
    · subst e; simp only [gup_eq, and_self]
    · rw [gup_ne e, gup_ne e, gup_ne e, gup_ne e]; exact O.vs s3 i hi
  · intro _ i hi
    show gV n s (gup q.2.2.1 j kd i) (gup q.2.2.2.1 j nm i)
    by_cases e : i = j
    · subst e; rw [gup_eq, gup_eq]; exact hv
    · rw [gup_ne e, gup_ne e]; exact O.vv s3 i hi
def gq_del (q : gQ) (t c : Nat) : gQ := ((q.1, gdl q.2.1 t (c + 1), gdl q.2.2.1 t (c + 1), gdl q.2.2.2.1 t (c + 1), gup q.2.2.2.2.1 5 (Int32.ofNat c), q.2.2.2.2.2) : gQ)
def gp_del (p : gP) (t c : Nat) : gP := ((p.1, gdl p.2.1 t (c + 1), gdl p.2.2.1 t (c + 1), gdl p.2.2.2.1 t (c + 1), p.2.2.2.2.1, Int32.ofNat c, p.2.2.2.2.2.2.1, p.2.2.2.2.2.2.2) : gP)
theorem gdl_hi {r : Nat → Int32} {t c i : Nat} (h : t ≤ i) (h2 : i < c) : gdl r t (c + 1) i = r (i + 1) := by
  unfold gdl; rw [if_pos (by omega)]
theorem gdl_lo {r : Nat → Int32} {t c i : Nat} (h : i < t) : gdl r t (c + 1) i = r i := by
  unfold gdl; rw [if_neg (by omega)]
theorem gO_del {n c t : Nat} {q : gQ} {p : gP} (O : gO n 0 (c + 1) q p) : gO n 0 c (gq_del q t c) (gp_del p t c) := by
  have f6 : q.2.2.2.2.1 6 = 0 := by rcases O.d4 with h | h; exact h; omega
  have c6 : c + 1 ≤ 6 := O.c8
  have cs : ∀ i, t ≤ i ∨ i < t := fun i => by omega
  refine ⟨by omega, O.es, O.et, rfl, by show c ≤ 6; omega, O.ed, Or.inl f6, fun _ => rfl, fun h => absurd f6 h, ?_, fun h => by omega, ?_, ?_, ?_, fun h => by omega, ?_, fun h => by omega, fun h => by omega, fun h => by omega⟩
  · intro _ i hi
    show gdl p.2.1 t (c + 1) i = gdl q.2.1 t (c + 1) i
    rcases cs i with h | h
    · rw [gdl_hi h hi, gdl_hi h hi, O.kE (Or.inl rfl) _ (by omega)]
    · rw [gdl_lo h, gdl_lo h, O.kE (Or.inl rfl) _ (by omega)]
  · intro _ i hi
    exact O.k4 rfl i (by omega)
  · intro _ i hi
    show gdl p.2.2.1 t (c + 1) i = gdl q.2.2.1 t (c + 1) i ∧ gdl p.2.2.2.1 t (c + 1) i = gdl q.2.2.2.1 t (c + 1) i
    rcases cs i with h | h
    · rw [gdl_hi h hi, gdl_hi h hi, gdl_hi h hi, gdl_hi h hi]; exact O.vs (by omega) _ (by omega)
    · rw [gdl_lo h, gdl_lo h, gdl_lo h, gdl_lo h]; exact O.vs (by omega) _ (by omega)
  · intro _ i hi
    show gV n 0 (gdl q.2.2.1 t (c + 1) i) (gdl q.2.2.2.1 t (c + 1) i)
    rcases cs i with h | h
    · rw [gdl_hi h hi, gdl_hi h hi]; exact O.vv (by omega) _ (by omega)
    · rw [gdl_lo h, gdl_lo h]; exact O.vv (by omega) _ (by omega)
  · intro _ i j hij hj
    show ¬ gdl q.2.1 t (c + 1) j < 0 → ¬ gdl q.2.1 t (c + 1) i < 0 ∧ gdl q.2.1 t (c + 1) i < gdl q.2.1 t (c + 1) j
    rcases cs j with h | h
    · rw [gdl_hi h hj]
      intro j0
      rcases cs i with h2 | h2
      · rw [gdl_hi h2 (by omega)]; exact O.so rfl (i + 1) (j + 1) (by omega) (by omega) j0
      · rw [gdl_lo h2]; exact O.so rfl i (j + 1) (by omega) (by omega) j0
    · rw [gdl_lo h, gdl_lo (by omega)]
      intro j0
      exact O.so rfl i j hij (by omega) j0
section H
variable {u : gU} {x : gX} {o : Nat → Int64} {z : gx_H}
/-- a record's rows agree, so both sides look a key up alike -/
theorem rec_find {n c : Nat} {q : gQ} {p : gP} {a : Int32} (O : gO n 0 c q p) : gfi (fun i => decide (q.1 i = 4 ∧ q.2.1 i = a)) c 0 = gfi (fun i => decide (p.2.1 i = a)) c 0 := by
  refine gfi_congr _ _ fun t _ ht => ?_
  have ht : t < c := by omega
  rw [O.kE (Or.inl rfl) t ht, O.k4 rfl t ht]
  simp
theorem rec_gat {n c : Nat} {q : gQ} {p : gP} {a : Int32} (O : gO n 0 c q p) : gat p.2.1 c a = gat q.2.1 c a := by
  unfold gat
  split
  · rfl
  · rw [gfi_congr (P := fun i => decide (p.2.1 i < 0 ∨ ¬ p.2.1 i < a)) (Q := fun i => decide (q.2.1 i < 0 ∨ ¬ q.2.1 i < a)) c 0 fun t _ ht => ?_]
    rw [O.kE (Or.inl rfl) t (by omega)]
theorem gis_neg {k j : Nat} (h : 8 * k + j < 2 ^ 31) : ¬ gis k (some j) < 0 := n_nn h
theorem rec_f6 {n c : Nat} {q : gQ} {p : gP} (O : gO n 0 c q p) : p.2.2.2.2.2.1 = Int32.ofNat c := O.ep (by rcases O.d4 with h | h; exact h; omega)
theorem r_setProp {n k c : Nat} {a kd nm : Int32} {q : gQ} (hk : k < 32) (O : gO n 0 c q (x.1 k)) : ∀ y o z, mM_setProperty (some 188) (Int32.ofNat k) a kd nm (gH y x o z) = match gfi (fun i => decide (q.1 i = 4 ∧ q.2.1 i = a)) c 0 with
    | some j => some (gH y ((gup x.1 k (((x.1 k).1, (x.1 k).2.1, gup (x.1 k).2.2.1 j kd, gup (x.1 k).2.2.2.1 j (gcn kd nm), (x.1 k).2.2.2.2.1, (x.1 k).2.2.2.2.2.1, (x.1 k).2.2.2.2.2.2.1, (x.1 k).2.2.2.2.2.2.2) : gP), x.2.1, x.2.2.1, x.2.2.2.1, x.2.2.2.2.1, x.2.2.2.2.2.1, x.2.2.2.2.2.2.1, x.2.2.2.2.2.2.2.1, x.2.2.2.2.2.2.2.2.1, x.2.2.2.2.2.2.2.2.2.1, x.2.2.2.2.2.2.2.2.2.2.1, x.2.2.2.2.2.2.2.2.2.2.2.1, x.2.2.2.2.2.2.2.2.2.2.2.2.1, x.2.2.2.2.2.2.2.2.2.2.2.2.2.1, x.2.2.2.2.2.2.2.2.2.2.2.2.2.2.1, x.2.2.2.2.2.2.2.2.2.2.2.2.2.2.2) : gX) o z)
    | none => some (gH y ((gup x.1 k (gp_ins (x.1 k) c (gat q.2.1 c a) a kd (gcn kd nm)), x.2.1, x.2.2.1, x.2.2.2.1, x.2.2.2.2.1, x.2.2.2.2.2.1, x.2.2.2.2.2.2.1, x.2.2.2.2.2.2.2.1, x.2.2.2.2.2.2.2.2.1, x.2.2.2.2.2.2.2.2.2.1, x.2.2.2.2.2.2.2.2.2.2.1, x.2.2.2.2.2.2.2.2.2.2.2.1, x.2.2.2.2.2.2.2.2.2.2.2.2.1, x.2.2.2.2.2.2.2.2.2.2.2.2.2.1, x.2.2.2.2.2.2.2.2.2.2.2.2.2.2.1, x.2.2.2.2.2.2.2.2.2.2.2.2.2.2.2) : gX) o z) := by
  intro y o z
  have c6 : c ≤ 6 := O.c8
  have h5 := rec_f6 O
  unfold mM_setProperty
  rw [ho_188, Option.bind_some, r_slot hk h5 (by omega), Option.bind_some, ← rec_find O]
  cases h : gfi (fun i => decide (q.1 i = 4 ∧ q.2.1 i = a)) c 0 with
  | some j =>
    have hj := (gfi_some _ _ _ h).2.1
    have j8 : j < 8 := by omega
    dsimp only
    rw [if_neg (gis_neg (by omega))]
    simp only [gis, mM_setProperty_118, ho_188, Option.bind_some, r_setSlot hk j8]
  | none =>
    have nf := gfi_none _ _ h
    have ht := gat_le (r := q.2.1) (c := c) (a := a)
    have gs := gat_spec (a := a) (O.so rfl) (fun i hi e => by
      have := nf i (by omega) (by omega)
      simp only [decide_eq_false_iff_not, not_and] at this
      exact this (O.k4 rfl i hi) e)
    have ha : a < 0 → gat q.2.1 c a = c := fun h => by unfold gat; rw [if_pos h]
    dsimp only
    rw [if_pos (show gis k none < 0 by show (-1 : Int32) < 0; decide), hr_188_3, Option.bind_some, ha_190 hk, Option.bind_some, h5]
    have := r_insL (u := y) (o := o) (z := z) (a := a) (kd := kd) (nm := nm) (c := c) hk ht (c - gat q.2.1 c a) (1000000000000000 - (c - gat q.2.1 c a) - 1) x (by omega) h5 (fun q => by have := ha q; omega) ?_ ?_
    · rw [show 1000000000000000 - (c - gat q.2.1 c a) - 1 + (c - gat q.2.1 c a) + 1 = 1000000000000000 by omega, show gat q.2.1 c a + (c - gat q.2.1 c a) = c by omega] at this
      rw [this]
      rfl
    · intro j j1 j2
      by_cases a0 : a < 0
      · have := ha a0; omega
      · rw [O.kE (Or.inl rfl) j (by omega)]
        exact (gs a0).1 j j1 (by omega)
    · intro a0
      by_cases t0 : gat q.2.1 c a = 0
      · exact Or.inl t0
      · right
        obtain ⟨e1, e2⟩ := (gs a0).2 (gat q.2.1 c a - 1) (by omega)
        rw [O.kE (Or.inl rfl) _ (by omega)]
        refine ⟨e1, fun q => ?_⟩
        rw [Int32.lt_iff_toInt_lt] at e2 q
        omega
/-- setting a property: both sides, or the class has no room -/
theorem sp_tie {n k c : Nat} {a kd nm : Int32} (hk : k < 32) (O : gO n 0 c (u.1 k) (x.1 k)) (hv : gV n 0 kd (gcn kd nm)) : (∃ q' p' c', (∀ y o z, cT_setProperty (some (3 + 5 * k)) a kd (gcn kd nm) (gH u y o z) = some (1, gH ((gup u.1 k q', u.2.1, u.2.2.1, u.2.2.2.1, u.2.2.2.2.1, u.2.2.2.2.2.1, u.2.2.2.2.2.2.1, u.2.2.2.2.2.2.2.1, u.2.2.2.2.2.2.2.2.1, u.2.2.2.2.2.2.2.2.2.1, u.2.2.2.2.2.2.2.2.2.2.1, u.2.2.2.2.2.2.2.2.2.2.2.1, u.2.2.2.2.2.2.2.2.2.2.2.2.1, u.2.2.2.2.2.2.2.2.2.2.2.2.2.1, u.2.2.2.2.2.2.2.2.2.2.2.2.2.2) : gU) y o z)) ∧ (∀ (w : gX), w.1 = x.1 → ∀ y o z, mM_setProperty (some 188) (Int32.ofNat k) a kd nm (gH y w o z) = some (gH y ((gup x.1 k p', w.2.1, w.2.2.1, w.2.2.2.1, w.2.2.2.2.1, w.2.2.2.2.2.1, w.2.2.2.2.2.2.1, w.2.2.2.2.2.2.2.1, w.2.2.2.2.2.2.2.2.1, w.2.2.2.2.2.2.2.2.2.1, w.2.2.2.2.2.2.2.2.2.2.1, w.2.2.2.2.2.2.2.2.2.2.2.1, w.2.2.2.2.2.2.2.2.2.2.2.2.1, w.2.2.2.2.2.2.2.2.2.2.2.2.2.1, w.2.2.2.2.2.2.2.2.2.2.2.2.2.2.1, w.2.2.2.2.2.2.2.2.2.2.2.2.2.2.2) : gX) o z)) ∧ gO n 0 c' q' p' ∧ (c < 6 ∨ ¬ gfi (fun i => decide ((u.1 k).1 i = 4 ∧ (u.1 k).2.1 i = a)) c 0 = none)) ∨ ((∀ y o z, cT_setProperty (some (3 + 5 * k)) a kd (gcn kd nm) (gH u y o z) = some (0, gH u y o z)) ∧ c = 6 ∧ gfi (fun i => decide ((u.1 k).1 i = 4 ∧ (u.1 k).2.1 i = a)) c 0 = none) := by
  have c6 : c ≤ 6 := O.c8
  have e1 := fun y o z => k_setProp (x := y) (o := o) (z := z) (a := a) (kd := kd) (nm := gcn kd nm) hk O.ec c6
  have e2 : ∀ (w : gX), w.1 = x.1 → ∀ y o z, _ := fun w hw y o z => r_setProp (x := w) (q := u.1 k) (a := a) (kd := kd) (nm := nm) hk (by rw [hw]; exact O) y o z
  cases h : gfi (fun i => decide ((u.1 k).1 i = 4 ∧ (u.1 k).2.1 i = a)) c 0 with
  | some j =>
    rw [h] at e1
    refine Or.inl ⟨_, _, c, e1, fun w hw y o z => ?_, gO_set O (by omega) hv, Or.inr (by simp)⟩
    have := e2 w hw y o z
    rw [h, hw] at this
    exact this
  | none =>
    rw [h] at e1
    have nf := gfi_none _ _ h
    by_cases c5 : c < 6
    · refine Or.inl ⟨_, _, c + 1, fun y o z => (e1 y o z).trans (if_pos c5), fun w hw y o z => ?_, gO_ins O c5 (fun i hi e => ?_) hv, Or.inl c5⟩
      · have := e2 w hw y o z
        rw [h, hw] at this
        exact this
      have := nf i (by omega) (by omega)
      simp only [decide_eq_false_iff_not, not_and] at this
      exact this (O.k4 rfl i hi) e
    · exact Or.inr ⟨fun y o z => (e1 y o z).trans (if_neg c5), by omega, rfl⟩
theorem k_dropL {k c : Nat} (hk : k < 32) (hc : c < 8) : ∀ (m t f : Nat) (u : gU), t + m = c → (u.1 k).2.2.2.2.1 5 = Int32.ofNat (c + 1) → cT_dropProperty_16 (f + m + 1) (some (3 + 5 * k)) (Int32.ofNat t) (gH u x o z) = some (1, gH ((gup u.1 k (gq_del (u.1 k) t c), u.2.1, u.2.2.1, u.2.2.2.1, u.2.2.2.2.1, u.2.2.2.2.2.1, u.2.2.2.2.2.2.1, u.2.2.2.2.2.2.2.1, u.2.2.2.2.2.2.2.2.1, u.2.2.2.2.2.2.2.2.2.1, u.2.2.2.2.2.2.2.2.2.2.1, u.2.2.2.2.2.2.2.2.2.2.2.1, u.2.2.2.2.2.2.2.2.2.2.2.2.1, u.2.2.2.2.2.2.2.2.2.2.2.2.2.1, u.2.2.2.2.2.2.2.2.2.2.2.2.2.2) : gU) x o z) := by
  intro m
  induction m with
  | zero =>
    intro t f u h h5
    rw [cT_dropProperty_16, hiT_5 hk, Option.bind_some, h5, n_succ, if_neg (n_nltl (by omega) (by omega) (by omega)), Option.bind_some, n_pred, hpT_5 hk, Option.bind_some]
    simp only [gq_del, gdl_base (show c + 1 ≤ t + 1 by omega)]
  | succ m ih =>
    intro t f u h h5
    have t8 : t < 8 := by omega
    have s8 : t + 1 < 8 := by omega
    rw [show f + (m + 1) + 1 = (f + m + 1) + 1 by omega, cT_dropProperty_16, hiT_5 hk, Option.bind_some, h5, n_succ, if_pos (n_ltl (by omega) (by omega) (by omega))]
    simp only [hrT_1 hk, hrT_2 hk, hrT_3 hk, Option.bind_some, haT_2 hk s8, haT_3 hk s8, haT_4 hk s8, hbT_2 hk t8, ho_T hk, k_setValue hk t8, gup_eq, gup_gup]
    rw [ih (t + 1) f ((gup u.1 k (((u.1 k).1, gup (u.1 k).2.1 t ((u.1 k).2.1 (t + 1)), gup (u.1 k).2.2.1 t ((u.1 k).2.2.1 (t + 1)), gup (u.1 k).2.2.2.1 t ((u.1 k).2.2.2.1 (t + 1)), (u.1 k).2.2.2.2.1, (u.1 k).2.2.2.2.2) : gQ), u.2.1, u.2.2.1, u.2.2.2.1, u.2.2.2.2.1, u.2.2.2.2.2.1, u.2.2.2.2.2.2.1, u.2.2.2.2.2.2.2.1, u.2.2.2.2.2.2.2.2.1, u.2.2.2.2.2.2.2.2.2.1, u.2.2.2.2.2.2.2.2.2.2.1, u.2.2.2.2.2.2.2.2.2.2.2.1, u.2.2.2.2.2.2.2.2.2.2.2.2.1, u.2.2.2.2.2.2.2.2.2.2.2.2.2.1, u.2.2.2.2.2.2.2.2.2.2.2.2.2.2) : gU) (by omega) (by simp only [gup_eq]; exact h5)]
    simp only [gq_del, gup_eq, gup_gup, gdl_step (show t + 1 < c + 1 by omega)]
theorem r_dropL {k c : Nat} (hk : k < 32) (hc : c < 8) : ∀ (m t f : Nat) (x : gX), t + m = c → (x.1 k).2.2.2.2.2.1 = Int32.ofNat c → mM_takeProperty_26 (f + m + 1) (some 188) (Int32.ofNat k) (Int32.ofNat (8 * k + t)) (gH u x o z) = some (1, gH u ((gup x.1 k (((x.1 k).1, gdl (x.1 k).2.1 t (c + 1), gdl (x.1 k).2.2.1 t (c + 1), gdl (x.1 k).2.2.2.1 t (c + 1), (x.1 k).2.2.2.2.1, Int32.ofNat c, (x.1 k).2.2.2.2.2.2.1, (x.1 k).2.2.2.2.2.2.2) : gP), x.2.1, x.2.2.1, x.2.2.2.1, x.2.2.2.2.1, x.2.2.2.2.2.1, x.2.2.2.2.2.2.1, x.2.2.2.2.2.2.2.1, x.2.2.2.2.2.2.2.2.1, x.2.2.2.2.2.2.2.2.2.1, x.2.2.2.2.2.2.2.2.2.2.1, x.2.2.2.2.2.2.2.2.2.2.2.1, x.2.2.2.2.2.2.2.2.2.2.2.2.1, x.2.2.2.2.2.2.2.2.2.2.2.2.2.1, x.2.2.2.2.2.2.2.2.2.2.2.2.2.2.1, x.2.2.2.2.2.2.2.2.2.2.2.2.2.2.2) : gX) o z) := by
  intro m
  induction m with
  | zero =>
    intro t f x h h5
    rw [mM_takeProperty_26, hr_188_3, Option.bind_some, ha_190 hk, Option.bind_some, h5, n_8, if_neg (n_nltl (by omega) (by omega) (by omega))]
    simp only [gdl_base (show c + 1 ≤ t + 1 by omega)]
    rw [← h5, show ((((x.1 k).1, (x.1 k).2.1, (x.1 k).2.2.1, (x.1 k).2.2.2.1, (x.1 k).2.2.2.2.1, (x.1 k).2.2.2.2.2.1, (x.1 k).2.2.2.2.2.2.1, (x.1 k).2.2.2.2.2.2.2) : gP) : gP) = x.1 k from rfl, gup_self]
  | succ m ih =>
    intro t f x h h5
    have t8 : t < 8 := by omega
    have s8 : t + 1 < 8 := by omega
    have cs := r_copySlot (u := u) (x := x) (o := o) (z := z) (k := k) (i := t + 1) (j := t) hk s8 t8
    rw [show 8 * k + (t + 1) = 8 * k + t + 1 by omega] at cs
    rw [show f + (m + 1) + 1 = (f + m + 1) + 1 by omega, mM_takeProperty_26, hr_188_3, Option.bind_some, ha_190 hk, Option.bind_some, h5, n_8, if_pos (n_ltl (by omega) (by omega) (by omega)), ho_188, Option.bind_some, n_succ, cs, Option.bind_some, show 8 * k + t + 1 = 8 * k + (t + 1) by omega]
    rw [ih (t + 1) f ((gup x.1 k (((x.1 k).1, gup (x.1 k).2.1 t ((x.1 k).2.1 (t + 1)), gup (x.1 k).2.2.1 t ((x.1 k).2.2.1 (t + 1)), gup (x.1 k).2.2.2.1 t ((x.1 k).2.2.2.1 (t + 1)), (x.1 k).2.2.2.2.1, (x.1 k).2.2.2.2.2.1, (x.1 k).2.2.2.2.2.2.1, (x.1 k).2.2.2.2.2.2.2) : gP), x.2.1, x.2.2.1, x.2.2.2.1, x.2.2.2.2.1, x.2.2.2.2.2.1, x.2.2.2.2.2.2.1, x.2.2.2.2.2.2.2.1, x.2.2.2.2.2.2.2.2.1, x.2.2.2.2.2.2.2.2.2.1, x.2.2.2.2.2.2.2.2.2.2.1, x.2.2.2.2.2.2.2.2.2.2.2.1, x.2.2.2.2.2.2.2.2.2.2.2.2.1, x.2.2.2.2.2.2.2.2.2.2.2.2.2.1, x.2.2.2.2.2.2.2.2.2.2.2.2.2.2.1, x.2.2.2.2.2.2.2.2.2.2.2.2.2.2.2) : gX) (by omega) (by simp only [gup_eq]; exact h5)]
    simp only [gup_eq, gup_gup, gdl_step (show t + 1 < c + 1 by omega)]
/-- taking a property away, on both sides -/
theorem dp_tie {n k c : Nat} {a : Int32} (hk : k < 32) (O : gO n 0 c (u.1 k) (x.1 k)) : ∃ r q' p' c', (r = 0 ∨ r = 1) ∧ (∀ y o z, cT_dropProperty (some (3 + 5 * k)) a (gH u y o z) = some (r, gH ((gup u.1 k q', u.2.1, u.2.2.1, u.2.2.2.1, u.2.2.2.2.1, u.2.2.2.2.2.1, u.2.2.2.2.2.2.1, u.2.2.2.2.2.2.2.1, u.2.2.2.2.2.2.2.2.1, u.2.2.2.2.2.2.2.2.2.1, u.2.2.2.2.2.2.2.2.2.2.1, u.2.2.2.2.2.2.2.2.2.2.2.1, u.2.2.2.2.2.2.2.2.2.2.2.2.1, u.2.2.2.2.2.2.2.2.2.2.2.2.2.1, u.2.2.2.2.2.2.2.2.2.2.2.2.2.2) : gU) y o z)) ∧ (∀ (w : gX), w.1 = x.1 → ∀ y o z, mM_takeProperty (some 188) (Int32.ofNat k) a (gH y w o z) = some (r, gH y ((gup x.1 k p', w.2.1, w.2.2.1, w.2.2.2.1, w.2.2.2.2.1, w.2.2.2.2.2.1, w.2.2.2.2.2.2.1, w.2.2.2.2.2.2.2.1, w.2.2.2.2.2.2.2.2.1, w.2.2.2.2.2.2.2.2.2.1, w.2.2.2.2.2.2.2.2.2.2.1, w.2.2.2.2.2.2.2.2.2.2.2.1, w.2.2.2.2.2.2.2.2.2.2.2.2.1, w.2.2.2.2.2.2.2.2.2.2.2.2.2.1, w.2.2.2.2.2.2.2.2.2.2.2.2.2.2.1, w.2.2.2.2.2.2.2.2.2.2.2.2.2.2.2) : gX) o z)) ∧ gO n 0 c' q' p' := by
  have c6 : c ≤ 6 := O.c8
  have h5 := rec_f6 O
  have e1 := fun y o z => k_index (x := y) (o := o) (z := z) (a := 4) (b := a) hk O.ec (show c ≤ 8 by omega)
  have e2 : ∀ (w : gX), w.1 = x.1 → ∀ y o z, mM_slotOf (some 188) (Int32.ofNat k) a (gH y w o z) = some (gis k (gfi (fun i => decide ((u.1 k).1 i = 4 ∧ (u.1 k).2.1 i = a)) c 0)) := fun w hw y o z => by
    rw [r_slot (u := y) (x := w) (o := o) (z := z) (b := a) hk (by rw [hw]; exact h5) (show c ≤ 8 by omega), hw, rec_find O]
  cases h : gfi (fun i => decide ((u.1 k).1 i = 4 ∧ (u.1 k).2.1 i = a)) c 0 with
  | none =>
    rw [h] at e1 e2
    refine ⟨0, u.1 k, x.1 k, c, Or.inl rfl, fun y o z => ?_, fun w hw y o z => ?_, O⟩
    · simp only [cT_dropProperty, ho_T hk, Option.bind_some, e1, gio, if_true, gup_self]
    · simp only [mM_takeProperty, ho_188, Option.bind_some, e2 w hw, gis, if_pos (show (-1 : Int32) < 0 by decide), gup_self, ← hw]
  | some t =>
    rw [h] at e1 e2
    have ht := (gfi_some _ _ _ h).2.1
    obtain ⟨c, rfl⟩ : ∃ d, c = d + 1 := ⟨c - 1, by omega⟩
    refine ⟨1, gq_del (u.1 k) t c, gp_del (x.1 k) t c, c, Or.inr rfl, fun y o z => ?_, fun w hw y o z => ?_, gO_del O⟩
    · have := k_dropL (x := y) (o := o) (z := z) hk (show c < 8 by omega) (c - t) t (1000000000000000 - (c - t) - 1) u (by omega) O.ec
      rw [show 1000000000000000 - (c - t) - 1 + (c - t) + 1 = 1000000000000000 by omega] at this
      simp only [cT_dropProperty, ho_T hk, Option.bind_some, e1, gio, if_neg (n_ne1 (n := t) (by omega)), this]
    · have := r_dropL (u := y) (o := o) (z := z) hk (show c < 8 by omega) (c - t) t (1000000000000000 - (c - t) - 1) ((gup w.1 k (((w.1 k).1, (w.1 k).2.1, (w.1 k).2.2.1, (w.1 k).2.2.2.1, (w.1 k).2.2.2.2.1, Int32.ofNat c, (w.1 k).2.2.2.2.2.2.1, (w.1 k).2.2.2.2.2.2.2) : gP), w.2.1, w.2.2.1, w.2.2.2.1, w.2.2.2.2.1, w.2.2.2.2.2.1, w.2.2.2.2.2.2.1, w.2.2.2.2.2.2.2.1, w.2.2.2.2.2.2.2.2.1, w.2.2.2.2.2.2.2.2.2.1, w.2.2.2.2.2.2.2.2.2.2.1, w.2.2.2.2.2.2.2.2.2.2.2.1, w.2.2.2.2.2.2.2.2.2.2.2.2.1, w.2.2.2.2.2.2.2.2.2.2.2.2.2.1, w.2.2.2.2.2.2.2.2.2.2.2.2.2.2.1, w.2.2.2.2.2.2.2.2.2.2.2.2.2.2.2) : gX) (by omega) (by simp only [gup_eq])
      rw [show 1000000000000000 - (c - t) - 1 + (c - t) + 1 = 1000000000000000 by omega] at this
      simp only [hw, gup_eq, gup_gup] at this
      simp only [mM_takeProperty, ho_188, Option.bind_some, e2 w hw, gis, if_neg (n_nn (n := 8 * k + t) (by omega)), hr_188_3, ha_190 hk, h5, n_pred, hb_190 hk, this, gup_eq, gup_gup, hw, gp_del]
end H
