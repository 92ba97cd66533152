/-! what ties the class's record to the reference's -/
/-- byte i of a long -/
def gt_w (w : Int64) (i : Nat) : Int32 := (Int64.toInt32 ((Int64.toUInt64 w >>> ((Int32.toInt64 ((8 : Int32) * Int32.ofNat i)).toUInt64 &&& Int64.toUInt64 63)).toInt64)) &&& (255 : Int32)
theorem k_byteOf {w : Int64} {i : Nat} : cG_byteOf w (Int32.ofNat i) = some (gt_w w i) := rfl
def gcap (s : Nat) : Nat := if s = 0 then 6 else if s = 2 then 4 else if s = 3 then 5 else if s ≤ 5 then 8 else 0
/-- a kind and a number that may stand in an object of sort s, where there are n objects -/
def gV (n s : Nat) (k v : Int32) : Prop := (k = -1 ∧ s = 1 ∧ v = 0) ∨ (k = 8 ∧ s = 0) ∨ ∃ j, j < 8 ∧ k = Int32.ofNat j ∧ (j = 6 → ∃ b, b < n ∧ v = Int32.ofNat b)
abbrev gO  (n s c : Nat) (q : gQ) (p : gP) : Prop := (s < 8) ∧ (q.2.2.2.2.1 4 = Int32.ofNat s) ∧ (p.2.2.2.2.1 = Int32.ofNat s) ∧ (q.2.2.2.2.1 5 = Int32.ofNat c) ∧ (c ≤ gcap s) ∧ (p.2.2.2.2.2.2.1 = q.2.2.2.2.1 6) ∧ (q.2.2.2.2.1 6 = 0 ∨ (q.2.2.2.2.1 6 = 1 ∧ s = 4)) ∧ (q.2.2.2.2.1 6 = 0 → p.2.2.2.2.2.1 = Int32.ofNat c) ∧ (¬ q.2.2.2.2.1 6 = 0 → p.2.2.2.2.2.1 = 0) ∧ (s = 0 ∨ s = 2 → ∀ i, i < c → p.2.1 i = q.2.1 i) ∧ (s = 2 → ∀ i, i < c → p.1 i = q.1 i) ∧ (s = 0 → ∀ i, i < c → q.1 i = 4) ∧ (s ≤ 3 → ∀ i, i < c → p.2.2.1 i = q.2.2.1 i ∧ p.2.2.2.1 i = q.2.2.2.1 i) ∧ (s ≤ 3 → ∀ i, i < c → gV n s (q.2.2.1 i) (q.2.2.2.1 i)) ∧ (s = 2 → ∀ i, i < c → gV n s (q.1 i) (q.2.1 i)) ∧ (s = 0 → ∀ i j, i < j → j < c → ¬ q.2.1 j < 0 → ¬ q.2.1 i < 0 ∧ q.2.1 i < q.2.1 j) ∧ (s = 4 → ∀ i, i < c → p.2.2.2.1 i = gt_w (q.2.2.2.2.2 10) i) ∧ (s = 5 → p.2.2.2.1 0 = q.2.2.2.2.1 7 ∧ p.2.2.2.1 1 = q.2.2.2.2.1 8 ∧ p.2.2.2.1 2 = q.2.2.2.2.1 9 ∧ p.2.2.2.1 3 = q.2.2.2.2.1 5 ∧ (∃ b, b < n ∧ q.2.2.2.2.1 7 = Int32.ofNat b) ∧ (∃ b, b ≤ 4 ∧ q.2.2.2.2.1 8 = Int32.ofNat b) ∧ ∃ b, b ≤ 8 ∧ q.2.2.2.2.1 9 = Int32.ofNat b) ∧ (s = 6 → p.2.2.2.2.2.2.2 = q.2.2.2.2.2 10)
theorem gO.s8 {n s c : Nat} {q : gQ} {p : gP} (h : gO n s c q p) : s < 8 := h.1
theorem gO.es {n s c : Nat} {q : gQ} {p : gP} (h : gO n s c q p) : q.2.2.2.2.1 4 = Int32.ofNat s := h.2.1
theorem gO.et {n s c : Nat} {q : gQ} {p : gP} (h : gO n s c q p) : p.2.2.2.2.1 = Int32.ofNat s := h.2.2.1
theorem gO.ec {n s c : Nat} {q : gQ} {p : gP} (h : gO n s c q p) : q.2.2.2.2.1 5 = Int32.ofNat c := h.2.2.2.1
theorem gO.c8 {n s c : Nat} {q : gQ} {p : gP} (h : gO n s c q p) : c ≤ gcap s := h.2.2.2.2.1
theorem gO.ed {n s c : Nat} {q : gQ} {p : gP} (h : gO n s c q p) : p.2.2.2.2.2.2.1 = q.2.2.2.2.1 6 := h.2.2.2.2.2.1
theorem gO.d4 {n s c : Nat} {q : gQ} {p : gP} (h : gO n s c q p) : q.2.2.2.2.1 6 = 0 ∨ (q.2.2.2.2.1 6 = 1 ∧ s = 4) := h.2.2.2.2.2.2.1
theorem gO.ep {n s c : Nat} {q : gQ} {p : gP} (h : gO n s c q p) : q.2.2.2.2.1 6 = 0 → p.2.2.2.2.2.1 = Int32.ofNat c := h.2.2.2.2.2.2.2.1
theorem gO.e0 {n s c : Nat} {q : gQ} {p : gP} (h : gO n s c q p) : ¬ q.2.2.2.2.1 6 = 0 → p.2.2.2.2.2.1 = 0 := h.2.2.2.2.2.2.2.2.1
theorem gO.kE {n s c : Nat} {q : gQ} {p : gP} (h : gO n s c q p) : s = 0 ∨ s = 2 → ∀ i, i < c → p.2.1 i = q.2.1 i := h.2.2.2.2.2.2.2.2.2.1
theorem gO.kK {n s c : Nat} {q : gQ} {p : gP} (h : gO n s c q p) : s = 2 → ∀ i, i < c → p.1 i = q.1 i := h.2.2.2.2.2.2.2.2.2.2.1
theorem gO.k4 {n s c : Nat} {q : gQ} {p : gP} (h : gO n s c q p) : s = 0 → ∀ i, i < c → q.1 i = 4 := h.2.2.2.2.2.2.2.2.2.2.2.1
theorem gO.vs {n s c : Nat} {q : gQ} {p : gP} (h : gO n s c q p) : s ≤ 3 → ∀ i, i < c → p.2.2.1 i = q.2.2.1 i ∧ p.2.2.2.1 i = q.2.2.2.1 i := h.2.2.2.2.2.2.2.2.2.2.2.2.1
theorem gO.vv {n s c : Nat} {q : gQ} {p : gP} (h : gO n s c q p) : s ≤ 3 → ∀ i, i < c → gV n s (q.2.2.1 i) (q.2.2.2.1 i) := h.2.2.2.2.2.2.2.2.2.2.2.2.2.1
theorem gO.kv {n s c : Nat} {q : gQ} {p : gP} (h : gO n s c q p) : s = 2 → ∀ i, i < c → gV n s (q.1 i) (q.2.1 i) := h.2.2.2.2.2.2.2.2.2.2.2.2.2.2.1
theorem gO.so {n s c : Nat} {q : gQ} {p : gP} (h : gO n s c q p) : s = 0 → ∀ i j, i < j → j < c → ¬ q.2.1 j < 0 → ¬ q.2.1 i < 0 ∧ q.2.1 i < q.2.1 j := h.2.2.2.2.2.2.2.2.2.2.2.2.2.2.2.1
theorem gO.bb {n s c : Nat} {q : gQ} {p : gP} (h : gO n s c q p) : s = 4 → ∀ i, i < c → p.2.2.2.1 i = gt_w (q.2.2.2.2.2 10) i := h.2.2.2.2.2.2.2.2.2.2.2.2.2.2.2.2.1
theorem gO.vw {n s c : Nat} {q : gQ} {p : gP} (h : gO n s c q p) : s = 5 → p.2.2.2.1 0 = q.2.2.2.2.1 7 ∧ p.2.2.2.1 1 = q.2.2.2.2.1 8 ∧ p.2.2.2.1 2 = q.2.2.2.2.1 9 ∧ p.2.2.2.1 3 = q.2.2.2.2.1 5 ∧ (∃ b, b < n ∧ q.2.2.2.2.1 7 = Int32.ofNat b) ∧ (∃ b, b ≤ 4 ∧ q.2.2.2.2.1 8 = Int32.ofNat b) ∧ ∃ b, b ≤ 8 ∧ q.2.2.2.2.1 9 = Int32.ofNat b := h.2.2.2.2.2.2.2.2.2.2.2.2.2.2.2.2.2.1
theorem gO.sT {n s c : Nat} {q : gQ} {p : gP} (h : gO n s c q p) : s = 6 → p.2.2.2.2.2.2.2 = q.2.2.2.2.2 10 := h.2.2.2.2.2.2.2.2.2.2.2.2.2.2.2.2.2.2
abbrev gTi  (n m p q : Nat) (u : gU) (x : gX) : Prop := (n ≤ 32) ∧ (u.2.2.1 1 = Int32.ofNat n) ∧ (x.2.1 1 = Int32.ofNat n) ∧ (∀ k, k < n → ∃ s c, gO n s c (u.1 k) (x.1 k)) ∧ (m ≤ 300) ∧ (u.2.2.2.1 1 = Int32.ofNat m) ∧ (x.2.1 15 = Int32.ofNat m) ∧ (∀ i, i < m → x.2.2.2.2.2.1 i = u.2.2.2.2.1 i) ∧ (∀ i, i < m → ∃ b, b < 256 ∧ u.2.2.2.2.1 i = Int32.ofNat b) ∧ (p ≤ 4) ∧ (u.2.2.2.2.2.1 1 = Int32.ofNat p) ∧ (x.2.1 10 = Int32.ofNat p) ∧ (∀ i, i < p → x.2.2.1 i = u.2.2.2.2.2.2.1 i) ∧ (∀ i, i < p → ∃ k, k < n ∧ u.2.2.2.2.2.2.1 i = Int32.ofNat k) ∧ (q ≤ 4) ∧ (u.2.2.2.2.2.1 4 = Int32.ofNat q) ∧ (x.2.1 12 = Int32.ofNat q) ∧ (∀ i, i < q → ∃ l, l ≤ 8 ∧ u.2.2.2.2.2.2.2.1 i = Int32.ofNat l ∧ x.2.2.2.1 i = Int32.ofNat l ∧ ∀ j, j < l → x.2.2.2.2.1 (8 * i + j) = gt_w (u.2.2.2.2.2.2.2.2.2.2.2.2.2.2 i) j) ∧ (u.2.1 5 = x.2.1 17)
theorem gTi.hn {n m p q : Nat} {u : gU} {x : gX} (h : gTi n m p q u x) : n ≤ 32 := h.1
theorem gTi.un {n m p q : Nat} {u : gU} {x : gX} (h : gTi n m p q u x) : u.2.2.1 1 = Int32.ofNat n := h.2.1
theorem gTi.xn {n m p q : Nat} {u : gU} {x : gX} (h : gTi n m p q u x) : x.2.1 1 = Int32.ofNat n := h.2.2.1
theorem gTi.ob {n m p q : Nat} {u : gU} {x : gX} (h : gTi n m p q u x) : ∀ k, k < n → ∃ s c, gO n s c (u.1 k) (x.1 k) := h.2.2.2.1
theorem gTi.hm {n m p q : Nat} {u : gU} {x : gX} (h : gTi n m p q u x) : m ≤ 300 := h.2.2.2.2.1
theorem gTi.um {n m p q : Nat} {u : gU} {x : gX} (h : gTi n m p q u x) : u.2.2.2.1 1 = Int32.ofNat m := h.2.2.2.2.2.1
theorem gTi.xm {n m p q : Nat} {u : gU} {x : gX} (h : gTi n m p q u x) : x.2.1 15 = Int32.ofNat m := h.2.2.2.2.2.2.1
theorem gTi.bs {n m p q : Nat} {u : gU} {x : gX} (h : gTi n m p q u x) : ∀ i, i < m → x.2.2.2.2.2.1 i = u.2.2.2.2.1 i := h.2.2.2.2.2.2.2.1
theorem gTi.b8 {n m p q : Nat} {u : gU} {x : gX} (h : gTi n m p q u x) : ∀ i, i < m → ∃ b, b < 256 ∧ u.2.2.2.2.1 i = Int32.ofNat b := h.2.2.2.2.2.2.2.2.1
theorem gTi.hp {n m p q : Nat} {u : gU} {x : gX} (h : gTi n m p q u x) : p ≤ 4 := h.2.2.2.2.2.2.2.2.2.1
theorem gTi.up {n m p q : Nat} {u : gU} {x : gX} (h : gTi n m p q u x) : u.2.2.2.2.2.1 1 = Int32.ofNat p := h.2.2.2.2.2.2.2.2.2.2.1
theorem gTi.xp {n m p q : Nat} {u : gU} {x : gX} (h : gTi n m p q u x) : x.2.1 10 = Int32.ofNat p := h.2.2.2.2.2.2.2.2.2.2.2.1
theorem gTi.pa {n m p q : Nat} {u : gU} {x : gX} (h : gTi n m p q u x) : ∀ i, i < p → x.2.2.1 i = u.2.2.2.2.2.2.1 i := h.2.2.2.2.2.2.2.2.2.2.2.2.1
theorem gTi.pb {n m p q : Nat} {u : gU} {x : gX} (h : gTi n m p q u x) : ∀ i, i < p → ∃ k, k < n ∧ u.2.2.2.2.2.2.1 i = Int32.ofNat k := h.2.2.2.2.2.2.2.2.2.2.2.2.2.1
theorem gTi.hq {n m p q : Nat} {u : gU} {x : gX} (h : gTi n m p q u x) : q ≤ 4 := h.2.2.2.2.2.2.2.2.2.2.2.2.2.2.1
theorem gTi.uq {n m p q : Nat} {u : gU} {x : gX} (h : gTi n m p q u x) : u.2.2.2.2.2.1 4 = Int32.ofNat q := h.2.2.2.2.2.2.2.2.2.2.2.2.2.2.2.1
theorem gTi.xq {n m p q : Nat} {u : gU} {x : gX} (h : gTi n m p q u x) : x.2.1 12 = Int32.ofNat q := h.2.2.2.2.2.2.2.2.2.2.2.2.2.2.2.2.1
theorem gTi.ho {n m p q : Nat} {u : gU} {x : gX} (h : gTi n m p q u x) : ∀ i, i < q → ∃ l, l ≤ 8 ∧ u.2.2.2.2.2.2.2.1 i = Int32.ofNat l ∧ x.2.2.2.1 i = Int32.ofNat l ∧ ∀ j, j < l → x.2.2.2.2.1 (8 * i + j) = gt_w (u.2.2.2.2.2.2.2.2.2.2.2.2.2.2 i) j := h.2.2.2.2.2.2.2.2.2.2.2.2.2.2.2.2.2.1
theorem gTi.fo {n m p q : Nat} {u : gU} {x : gX} (h : gTi n m p q u x) : u.2.1 5 = x.2.1 17 := h.2.2.2.2.2.2.2.2.2.2.2.2.2.2.2.2.2.2
theorem gV_mono {n n2 s : Nat} {k v : Int32} (hn : n ≤ n2) (h : gV n s k v) : gV n2 s k v := by
  rcases h with h | h | ⟨j, h1, h2, h3⟩
  · exact Or.inl h
  · exact Or.inr (Or.inl h)
  · refine Or.inr (Or.inr ⟨j, h1, h2, fun h4 => ?_⟩)
    obtain ⟨b, h5, h6⟩ := h3 h4
    exact ⟨b, by omega, h6⟩
theorem gO_mono {n n2 s c : Nat} {q : gQ} {p : gP} (hn : n ≤ n2) (h : gO n s c q p) : gO n2 s c q p := by
  refine ⟨h.s8, h.es, h.et, h.ec, h.c8, h.ed, h.d4, h.ep, h.e0, h.kE, h.kK, h.k4, h.vs, fun a i b => gV_mono hn (h.vv a i b), fun a i b => gV_mono hn (h.kv a i b), h.so, h.bb, fun a => ?_, h.sT⟩
  obtain ⟨h1, h2, h3, h4, ⟨b, h5, h6⟩, h7⟩ := h.vw a
  exact ⟨h1, h2, h3, h4, ⟨b, by omega, h6⟩, h7⟩
theorem gob_up {n k0 : Nat} {C : Nat → gQ} {R : Nat → gP} {q : gQ} {p : gP} (h : ∀ k, k < n → ∃ s c, gO n s c (C k) (R k)) (h2 : ∃ s c, gO n s c q p) : ∀ k, k < n → ∃ s c, gO n s c (gup C k0 q k) (gup R k0 p k) := by
  intro k hk
  by_cases c : k = k0
  · subst c; rw [gup_eq, gup_eq]; exact h2
  · rw [gup_ne c, gup_ne c]; exact h k hk
theorem gob_new {n : Nat} {C : Nat → gQ} {R : Nat → gP} {q : gQ} {p : gP} (h : ∀ k, k < n → ∃ s c, gO n s c (C k) (R k)) (h2 : ∃ s c, gO (n + 1) s c q p) : ∀ k, k < n + 1 → ∃ s c, gO (n + 1) s c (gup C n q k) (gup R n p k) := by
  intro k hk
  by_cases c : k = n
  · subst c; rw [gup_eq, gup_eq]; exact h2
  · rw [gup_ne c, gup_ne c]
    obtain ⟨s, c, h3⟩ := h k (by omega)
    exact ⟨s, c, gO_mono (by omega) h3⟩
/-- a number is an object, or it is none -/
theorem g_ob (v : Int32) (n : Nat) (hn : n < 2 ^ 31) : (v < 0 ∨ ¬ v < Int32.ofNat n) ∨ ∃ k, k < n ∧ v = Int32.ofNat k := by
  by_cases h0 : v < 0
  · exact Or.inl (Or.inl h0)
  · by_cases h1 : v < Int32.ofNat n
    · exact Or.inr (n_of h0 h1 hn)
    · exact Or.inl (Or.inr h1)
section H
variable {u : gU} {x : gX} {o : Nat → Int64} {z : gx_H}
theorem k_tin {n k : Nat} (hu : u.2.2.1 1 = Int32.ofNat n) (hn : n ≤ 32) (hk : k < n) : cS_thingAt (some 1) (Int32.ofNat k) (gH u x o z) = some (some (3 + 5 * k)) := by
  unfold cS_thingAt
  rw [if_neg (n_nn (by omega)), hi_1_1, Option.bind_some, hu, if_pos (n_ltl (by omega) (by omega) hk), hr_1_0, Option.bind_some, hT (by omega)]
  rfl
theorem k_tout {n : Nat} {v : Int32} (hu : u.2.2.1 1 = Int32.ofNat n) (h : v < 0 ∨ ¬ v < Int32.ofNat n) : cS_thingAt (some 1) v (gH u x o z) = some none := by
  unfold cS_thingAt
  by_cases h0 : v < 0
  · rw [if_pos h0]
  · rw [if_neg h0, hi_1_1, Option.bind_some, hu, if_neg (by rcases h with h | h; exact absurd h h0; exact h)]
theorem r_oin {n k : Nat} (hx : x.2.1 1 = Int32.ofNat n) (hn : n ≤ 32) (hk : k < n) : mM_isObject (some 188) (Int32.ofNat k) (gH u x o z) = some 1 := by
  unfold mM_isObject
  rw [if_neg (n_nn (by omega)), hi_188_1, Option.bind_some, hx, if_pos (n_ltl (by omega) (by omega) hk)]
theorem r_oout {n : Nat} {v : Int32} (hx : x.2.1 1 = Int32.ofNat n) (h : v < 0 ∨ ¬ v < Int32.ofNat n) : mM_isObject (some 188) v (gH u x o z) = some 0 := by
  unfold mM_isObject
  by_cases h0 : v < 0
  · rw [if_pos h0]
  · rw [if_neg h0, hi_188_1, Option.bind_some, hx, if_neg (by rcases h with h | h; exact absurd h h0; exact h)]
theorem r_isin {n k : Nat} {t : Int32} (hx : x.2.1 1 = Int32.ofNat n) (hn : n ≤ 32) (hk : k < n) : mM_is (some 188) (Int32.ofNat k) t (gH u x o z) = some (if (x.1 k).2.2.2.2.1 = t then 1 else 0) := by
  unfold mM_is
  rw [ho_188, Option.bind_some, r_oin hx hn hk, Option.bind_some, if_neg (by decide), hr_188_2, Option.bind_some, ha_189 (by omega), Option.bind_some]
  split <;> rfl
theorem r_isout {n : Nat} {v t : Int32} (hx : x.2.1 1 = Int32.ofNat n) (h : v < 0 ∨ ¬ v < Int32.ofNat n) : mM_is (some 188) v t (gH u x o z) = some 0 := by
  unfold mM_is
  rw [ho_188, Option.bind_some, r_oout hx h, Option.bind_some, if_pos rfl]
theorem r_ref {a b : Int32} : mM_refused (some 188) a b (gH u x o z) = some (if a = 0 ∧ b = 0 then 0 else 1, gH u ((x.1, gup x.2.1 0 (if a = 0 then if b = 0 then 0 else 2 else 1), x.2.2.1, x.2.2.2.1, x.2.2.2.2.1, x.2.2.2.2.2.1, x.2.2.2.2.2.2.1, x.2.2.2.2.2.2.2.1, x.2.2.2.2.2.2.2.2.1, x.2.2.2.2.2.2.2.2.2.1, x.2.2.2.2.2.2.2.2.2.2.1, x.2.2.2.2.2.2.2.2.2.2.2.1, x.2.2.2.2.2.2.2.2.2.2.2.2.1, x.2.2.2.2.2.2.2.2.2.2.2.2.2.1, x.2.2.2.2.2.2.2.2.2.2.2.2.2.2.1, x.2.2.2.2.2.2.2.2.2.2.2.2.2.2.2) : gX) o z) := by
  unfold mM_refused
  by_cases ha : a = 0 <;> by_cases hb : b = 0 <;> simp [ha, hb, mM_refused_18, hp_188_0, hi_188_0, gup]
end H
