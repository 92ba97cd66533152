/-! by program: the law, call by call -/
theorem n_p2 {i : Nat} : Int32.ofNat i + 2 = Int32.ofNat (i + 2) := n_add (b := 2)
theorem n_p3 {i : Nat} : Int32.ofNat i + 3 = Int32.ofNat (i + 3) := n_add (b := 3)
theorem n_p4 {i : Nat} : Int32.ofNat i + 4 = Int32.ofNat (i + 4) := n_add (b := 4)
theorem n_p5 {i : Nat} : Int32.ofNat i + 5 = Int32.ofNat (i + 5) := n_add (b := 5)
theorem n_p6 {i : Nat} : Int32.ofNat i + 6 = Int32.ofNat (i + 6) := n_add (b := 6)
theorem n_len {L i : Nat} (hL : L ≤ 3072) (hi : i ≤ 6000) : (Nat.toInt32 L - (6 : Int32) < Int32.ofNat i) ↔ L < i + 6 := by
  rw [Int32.lt_iff_toInt_lt, Int32.toInt_sub, show (Nat.toInt32 L).toInt = (L : Int) from Int32.toInt_ofNat_of_lt (by omega), Int32.toInt_ofNat_of_lt (n := i) (by omega), show (6 : Int32).toInt = 6 from rfl, Int.bmod_eq_of_le_mul_two (by omega) (by omega)]
  omega
theorem lw_step (hread : ∀ (u : gU) (x : gX) (o : Nat → Int64) (z : gx_H), gTT u x → gAns u x o z (lw_read (some 0) (some 211)) (mM_read (some 188))) {xs : List Int32} (hL : xs.length ≤ 3072) {n i : Nat} (hi : i + 6 ≤ xs.length) {u : gU} {x : gX} {o : Nat → Int64} {z : gx_H} (T : gTT u x) : ∃ u' x' o' z', lw_law_23 xs (n + 1) (some 0) (some 188) (some 211) (Int32.ofNat i) (gH u x o z) = lw_law_23 xs n (some 0) (some 188) (some 211) (Int32.ofNat (i + 6)) (gH u' x' o' z') ∧ gTT u' x' ∧ z'.length ≤ z.length + 1 := by
  obtain ⟨a0, g0⟩ : ∃ a, xs[i + 0]? = some a := ⟨xs[i + 0], List.getElem?_eq_getElem (by omega)⟩
  obtain ⟨a1, g1⟩ : ∃ a, xs[i + 1]? = some a := ⟨xs[i + 1], List.getElem?_eq_getElem (by omega)⟩
  obtain ⟨a2, g2⟩ : ∃ a, xs[i + 2]? = some a := ⟨xs[i + 2], List.getElem?_eq_getElem (by omega)⟩
  obtain ⟨a3, g3⟩ : ∃ a, xs[i + 3]? = some a := ⟨xs[i + 3], List.getElem?_eq_getElem (by omega)⟩
  obtain ⟨a4, g4⟩ : ∃ a, xs[i + 4]? = some a := ⟨xs[i + 4], List.getElem?_eq_getElem (by omega)⟩
  obtain ⟨a5, g5⟩ : ∃ a, xs[i + 5]? = some a := ⟨xs[i + 5], List.getElem?_eq_getElem (by omega)⟩
  have nl : ¬ (Nat.toInt32 xs.length - (6 : Int32) < Int32.ofNat i) := fun q => by have := (n_len hL (by omega)).mp q; omega
  have k0 : ¬ Int32.ofNat i < 0 := n_nn (by omega)
  have c0 : (Int32.ofNat i).toNatClampNeg = i + 0 := n_cl (by omega)
  have k1 : ¬ Int32.ofNat (i + 1) < 0 := n_nn (by omega)
  have c1 : (Int32.ofNat (i + 1)).toNatClampNeg = i + 1 := n_cl (by omega)
  have k2 : ¬ Int32.ofNat (i + 2) < 0 := n_nn (by omega)
  have c2 : (Int32.ofNat (i + 2)).toNatClampNeg = i + 2 := n_cl (by omega)
  have k3 : ¬ Int32.ofNat (i + 3) < 0 := n_nn (by omega)
  have c3 : (Int32.ofNat (i + 3)).toNatClampNeg = i + 3 := n_cl (by omega)
  have k4 : ¬ Int32.ofNat (i + 4) < 0 := n_nn (by omega)
  have c4 : (Int32.ofNat (i + 4)).toNatClampNeg = i + 4 := n_cl (by omega)
  have k5 : ¬ Int32.ofNat (i + 5) < 0 := n_nn (by omega)
  have c5 : (Int32.ofNat (i + 5)).toNatClampNeg = i + 5 := n_cl (by omega)
  rw [lw_law_23, if_neg nl, if_neg k0, c0, g0, Option.bind_some]
  by_cases b0 : a0 &&& 31 = 0
  · rw [if_pos b0]
    obtain ⟨e, u', o', z', r, x', h1, h2, h3, h4, h5, h6⟩ := t_make (t := a1) (o := o) (z := z) T
    refine ⟨u', x', o', z', ?_, h5, h6⟩
    first
    | (simp only [n_succ, n_p2, n_p3, n_p4, n_p5, n_p6, k1, k2, k3, k4, k5, c1, c2, c3, c4, c5, g1, g2, g3, g4, g5, if_false, Option.bind_some, h1, ho_0, ho_188, h2, ha0, lw_law_1005]; done)
    | (by_cases e0 : e = 0
       · have o0 := h4 e0
         subst e0
         simp only [n_succ, n_p2, n_p3, n_p4, n_p5, n_p6, k1, k2, k3, k4, k5, c1, c2, c3, c4, c5, g1, g2, g3, g4, g5, if_false, Option.bind_some, h1, ho_0, ho_188, h2, ha0, lw_law_1005, h3, if_true, o0]
         try rfl
       · simp only [n_succ, n_p2, n_p3, n_p4, n_p5, n_p6, k1, k2, k3, k4, k5, c1, c2, c3, c4, c5, g1, g2, g3, g4, g5, if_false, Option.bind_some, h1, ho_0, ho_188, h2, ha0, lw_law_1005, h3, if_true, if_neg e0]
         try rfl)
  rw [if_neg b0]
  by_cases b1 : a0 &&& 31 = 1
  · rw [if_pos b1]
    obtain ⟨e, u', o', z', r, x', h1, h2, h3, h4, h5, h6⟩ := t_buffer (w := (((Int32.toInt64 a1) <<< (Int32.toInt64 (32 : Int32) &&& 63)) ||| ((Int32.toInt64 a2) &&& (4294967295 : Int64)))) (v := a3) (o := o) (z := z) T
    refine ⟨u', x', o', z', ?_, h5, h6⟩
    first
    | (simp only [n_succ, n_p2, n_p3, n_p4, n_p5, n_p6, k1, k2, k3, k4, k5, c1, c2, c3, c4, c5, g1, g2, g3, g4, g5, if_false, Option.bind_some, h1, ho_0, ho_188, h2, ha0, lw_law_1005]; done)
    | (by_cases e0 : e = 0
       · have o0 := h4 e0
         subst e0
         simp only [n_succ, n_p2, n_p3, n_p4, n_p5, n_p6, k1, k2, k3, k4, k5, c1, c2, c3, c4, c5, g1, g2, g3, g4, g5, if_false, Option.bind_some, h1, ho_0, ho_188, h2, ha0, lw_law_1005, h3, if_true, o0]
         try rfl
       · simp only [n_succ, n_p2, n_p3, n_p4, n_p5, n_p6, k1, k2, k3, k4, k5, c1, c2, c3, c4, c5, g1, g2, g3, g4, g5, if_false, Option.bind_some, h1, ho_0, ho_188, h2, ha0, lw_law_1005, h3, if_true, if_neg e0]
         try rfl)
  rw [if_neg b1]
  by_cases b2 : a0 &&& 31 = 2
  · rw [if_pos b2]
    obtain ⟨e, u', o', z', r, x', h1, h2, h3, h4, h5, h6⟩ := t_view (b := a1) (un := a2) (fr := a3) (co := a4) (o := o) (z := z) T
    refine ⟨u', x', o', z', ?_, h5, h6⟩
    first
    | (simp only [n_succ, n_p2, n_p3, n_p4, n_p5, n_p6, k1, k2, k3, k4, k5, c1, c2, c3, c4, c5, g1, g2, g3, g4, g5, if_false, Option.bind_some, h1, ho_0, ho_188, h2, ha0, lw_law_1005]; done)
    | (by_cases e0 : e = 0
       · have o0 := h4 e0
         subst e0
         simp only [n_succ, n_p2, n_p3, n_p4, n_p5, n_p6, k1, k2, k3, k4, k5, c1, c2, c3, c4, c5, g1, g2, g3, g4, g5, if_false, Option.bind_some, h1, ho_0, ho_188, h2, ha0, lw_law_1005, h3, if_true, o0]
         try rfl
       · simp only [n_succ, n_p2, n_p3, n_p4, n_p5, n_p6, k1, k2, k3, k4, k5, c1, c2, c3, c4, c5, g1, g2, g3, g4, g5, if_false, Option.bind_some, h1, ho_0, ho_188, h2, ha0, lw_law_1005, h3, if_true, if_neg e0]
         try rfl)
  rw [if_neg b2]
  by_cases b3 : a0 &&& 31 = 3
  · rw [if_pos b3]
    obtain ⟨e, u', o', z', r, x', h1, h2, h3, h4, h5, h6⟩ := t_stamp (w := (((Int32.toInt64 a1) <<< (Int32.toInt64 (32 : Int32) &&& 63)) ||| ((Int32.toInt64 a2) &&& (4294967295 : Int64)))) (o := o) (z := z) T
    refine ⟨u', x', o', z', ?_, h5, h6⟩
    first
    | (simp only [n_succ, n_p2, n_p3, n_p4, n_p5, n_p6, k1, k2, k3, k4, k5, c1, c2, c3, c4, c5, g1, g2, g3, g4, g5, if_false, Option.bind_some, h1, ho_0, ho_188, h2, ha0, lw_law_1005]; done)
    | (by_cases e0 : e = 0
       · have o0 := h4 e0
         subst e0
         simp only [n_succ, n_p2, n_p3, n_p4, n_p5, n_p6, k1, k2, k3, k4, k5, c1, c2, c3, c4, c5, g1, g2, g3, g4, g5, if_false, Option.bind_some, h1, ho_0, ho_188, h2, ha0, lw_law_1005, h3, if_true, o0]
         try rfl
       · simp only [n_succ, n_p2, n_p3, n_p4, n_p5, n_p6, k1, k2, k3, k4, k5, c1, c2, c3, c4, c5, g1, g2, g3, g4, g5, if_false, Option.bind_some, h1, ho_0, ho_188, h2, ha0, lw_law_1005, h3, if_true, if_neg e0]
         try rfl)
  rw [if_neg b3]
  by_cases b4 : a0 &&& 31 = 4
  · rw [if_pos b4]
    obtain ⟨e, u', z', x', h1, h2, h3, h5, h6⟩ := t_put (b := a1) (key := a2) (kd := a3) (nm := a4) (o := o) (z := z) T
    refine ⟨u', x', o, z', ?_, h5, h6⟩
    first
    | (simp only [n_succ, n_p2, n_p3, n_p4, n_p5, n_p6, k1, k2, k3, k4, k5, c1, c2, c3, c4, c5, g1, g2, g3, g4, g5, if_false, Option.bind_some, h1, ho_0, ho_188, h2, ha0, lw_law_1005]; done)
    | (simp only [n_succ, n_p2, n_p3, n_p4, n_p5, n_p6, k1, k2, k3, k4, k5, c1, c2, c3, c4, c5, g1, g2, g3, g4, g5, if_false, Option.bind_some, h1, ho_0, ho_188, h2, ha0, lw_law_1005, h3, if_true]; try rfl; done)
    | (simp [n_succ, n_p2, n_p3, n_p4, n_p5, n_p6, k1, k2, k3, k4, k5, c1, c2, c3, c4, c5, g1, g2, g3, g4, g5, if_false, Option.bind_some, h1, ho_0, ho_188, h2, ha0, lw_law_1005, h3]; done)
  rw [if_neg b4]
  by_cases b5 : a0 &&& 31 = 5
  · rw [if_pos b5]
    obtain ⟨e, u', o', z', r, x', h1, h2, h3, h5, h6⟩ := t_take (b := a1) (key := a2) (o := o) (z := z) T
    refine ⟨u', x', o', z', ?_, h5, h6⟩
    first
    | (simp only [n_succ, n_p2, n_p3, n_p4, n_p5, n_p6, k1, k2, k3, k4, k5, c1, c2, c3, c4, c5, g1, g2, g3, g4, g5, if_false, Option.bind_some, h1, ho_0, ho_188, h2, ha0, lw_law_1005]; done)
    | (simp only [n_succ, n_p2, n_p3, n_p4, n_p5, n_p6, k1, k2, k3, k4, k5, c1, c2, c3, c4, c5, g1, g2, g3, g4, g5, if_false, Option.bind_some, h1, ho_0, ho_188, h2, ha0, lw_law_1005, h3, if_true]; try rfl; done)
    | (simp [n_succ, n_p2, n_p3, n_p4, n_p5, n_p6, k1, k2, k3, k4, k5, c1, c2, c3, c4, c5, g1, g2, g3, g4, g5, if_false, Option.bind_some, h1, ho_0, ho_188, h2, ha0, lw_law_1005, h3]; done)
  rw [if_neg b5]
  by_cases b6 : a0 &&& 31 = 6
  · rw [if_pos b6]
    obtain ⟨e, u', z', x', h1, h2, h3, h5, h6⟩ := t_entry (b := a1) (a := a2) (v := a3) (kd := a4) (nm := a5) (o := o) (z := z) T
    refine ⟨u', x', o, z', ?_, h5, h6⟩
    first
    | (simp only [n_succ, n_p2, n_p3, n_p4, n_p5, n_p6, k1, k2, k3, k4, k5, c1, c2, c3, c4, c5, g1, g2, g3, g4, g5, if_false, Option.bind_some, h1, ho_0, ho_188, h2, ha0, lw_law_1005]; done)
    | (simp only [n_succ, n_p2, n_p3, n_p4, n_p5, n_p6, k1, k2, k3, k4, k5, c1, c2, c3, c4, c5, g1, g2, g3, g4, g5, if_false, Option.bind_some, h1, ho_0, ho_188, h2, ha0, lw_law_1005, h3, if_true]; try rfl; done)
    | (simp [n_succ, n_p2, n_p3, n_p4, n_p5, n_p6, k1, k2, k3, k4, k5, c1, c2, c3, c4, c5, g1, g2, g3, g4, g5, if_false, Option.bind_some, h1, ho_0, ho_188, h2, ha0, lw_law_1005, h3]; done)
  rw [if_neg b6]
  by_cases b7 : a0 &&& 31 = 7
  · rw [if_pos b7]
    obtain ⟨e, u', o', z', r, x', h1, h2, h3, h4, h5, h6, h7⟩ := t_add (b := a1) (kd := a2) (nm := a3) (o := o) (z := z) T
    refine ⟨u', x', o', z', ?_, h5, h6⟩
    first
    | (simp only [n_succ, n_p2, n_p3, n_p4, n_p5, n_p6, k1, k2, k3, k4, k5, c1, c2, c3, c4, c5, g1, g2, g3, g4, g5, if_false, Option.bind_some, h1, ho_0, ho_188, h2, ha0, lw_law_1005]; done)
    | (by_cases e0 : e = 0
       · have o0 := h4 e0
         subst e0
         rcases h7 with rfl | rfl
         · simp only [n_succ, n_p2, n_p3, n_p4, n_p5, n_p6, k1, k2, k3, k4, k5, c1, c2, c3, c4, c5, g1, g2, g3, g4, g5, if_false, Option.bind_some, h1, ho_0, ho_188, h2, ha0, lw_law_1005, h3, if_true, o0, show Int32.toInt64 0 = 0 from rfl]
           try rfl
         · simp only [n_succ, n_p2, n_p3, n_p4, n_p5, n_p6, k1, k2, k3, k4, k5, c1, c2, c3, c4, c5, g1, g2, g3, g4, g5, if_false, Option.bind_some, h1, ho_0, ho_188, h2, ha0, lw_law_1005, h3, if_true, o0, show Int32.toInt64 1 = 1 from rfl, if_neg (show ¬ (1 : Int32) = 0 by decide)]
           try rfl
       · simp only [n_succ, n_p2, n_p3, n_p4, n_p5, n_p6, k1, k2, k3, k4, k5, c1, c2, c3, c4, c5, g1, g2, g3, g4, g5, if_false, Option.bind_some, h1, ho_0, ho_188, h2, ha0, lw_law_1005, h3, if_true, if_neg e0]
         try rfl)
  rw [if_neg b7]
  by_cases b8 : a0 &&& 31 = 8
  · rw [if_pos b8]
    obtain ⟨r, u', x', h1, h2, h3, h5⟩ := t_detach (v := a1) (o := o) (z := z) T
    refine ⟨u', x', o, z, ?_, h5, by omega⟩
    first
    | (simp only [n_succ, n_p2, n_p3, n_p4, n_p5, n_p6, k1, k2, k3, k4, k5, c1, c2, c3, c4, c5, g1, g2, g3, g4, g5, if_false, Option.bind_some, h1, ho_0, ho_188, h2, ha0, lw_law_1005]; done)
    | (simp only [n_succ, n_p2, n_p3, n_p4, n_p5, n_p6, k1, k2, k3, k4, k5, c1, c2, c3, c4, c5, g1, g2, g3, g4, g5, if_false, Option.bind_some, h1, ho_0, ho_188, h2, ha0, lw_law_1005, h3, if_true]; try rfl; done)
    | (simp [n_succ, n_p2, n_p3, n_p4, n_p5, n_p6, k1, k2, k3, k4, k5, c1, c2, c3, c4, c5, g1, g2, g3, g4, g5, if_false, Option.bind_some, h1, ho_0, ho_188, h2, ha0, lw_law_1005, h3]; done)
  rw [if_neg b8]
  by_cases b9 : a0 &&& 31 = 9
  · rw [if_pos b9]
    obtain ⟨r, u', x', h1, h2, h3, h5⟩ := t_clear  (o := o) (z := z) T
    refine ⟨u', x', o, z, ?_, h5, by omega⟩
    first
    | (simp only [n_succ, n_p2, n_p3, n_p4, n_p5, n_p6, k1, k2, k3, k4, k5, c1, c2, c3, c4, c5, g1, g2, g3, g4, g5, if_false, Option.bind_some, h1, ho_0, ho_188, h2, ha0, lw_law_1005]; done)
    | (simp only [n_succ, n_p2, n_p3, n_p4, n_p5, n_p6, k1, k2, k3, k4, k5, c1, c2, c3, c4, c5, g1, g2, g3, g4, g5, if_false, Option.bind_some, h1, ho_0, ho_188, h2, ha0, lw_law_1005, h3, if_true]; try rfl; done)
    | (simp [n_succ, n_p2, n_p3, n_p4, n_p5, n_p6, k1, k2, k3, k4, k5, c1, c2, c3, c4, c5, g1, g2, g3, g4, g5, if_false, Option.bind_some, h1, ho_0, ho_188, h2, ha0, lw_law_1005, h3]; done)
  rw [if_neg b9]
  by_cases b10 : a0 &&& 31 = 10
  · rw [if_pos b10]
    obtain ⟨r, x', h1, h2, h3, h5⟩ := t_objects  (o := o) (z := z) T
    refine ⟨u, x', o, z, ?_, h5, by omega⟩
    first
    | (simp only [n_succ, n_p2, n_p3, n_p4, n_p5, n_p6, k1, k2, k3, k4, k5, c1, c2, c3, c4, c5, g1, g2, g3, g4, g5, if_false, Option.bind_some, h1, ho_0, ho_188, h2, ha0, lw_law_1005]; done)
    | (simp only [n_succ, n_p2, n_p3, n_p4, n_p5, n_p6, k1, k2, k3, k4, k5, c1, c2, c3, c4, c5, g1, g2, g3, g4, g5, if_false, Option.bind_some, h1, ho_0, ho_188, h2, ha0, lw_law_1005, h3, if_true]; try rfl; done)
    | (simp [n_succ, n_p2, n_p3, n_p4, n_p5, n_p6, k1, k2, k3, k4, k5, c1, c2, c3, c4, c5, g1, g2, g3, g4, g5, if_false, Option.bind_some, h1, ho_0, ho_188, h2, ha0, lw_law_1005, h3]; done)
  rw [if_neg b10]
  by_cases b11 : a0 &&& 31 = 11
  · rw [if_pos b11]
    obtain ⟨r, x', h1, h2, h3, h5⟩ := t_type (v := a1) (o := o) (z := z) T
    refine ⟨u, x', o, z, ?_, h5, by omega⟩
    first
    | (simp only [n_succ, n_p2, n_p3, n_p4, n_p5, n_p6, k1, k2, k3, k4, k5, c1, c2, c3, c4, c5, g1, g2, g3, g4, g5, if_false, Option.bind_some, h1, ho_0, ho_188, h2, ha0, lw_law_1005]; done)
    | (simp only [n_succ, n_p2, n_p3, n_p4, n_p5, n_p6, k1, k2, k3, k4, k5, c1, c2, c3, c4, c5, g1, g2, g3, g4, g5, if_false, Option.bind_some, h1, ho_0, ho_188, h2, ha0, lw_law_1005, h3, if_true]; try rfl; done)
    | (simp [n_succ, n_p2, n_p3, n_p4, n_p5, n_p6, k1, k2, k3, k4, k5, c1, c2, c3, c4, c5, g1, g2, g3, g4, g5, if_false, Option.bind_some, h1, ho_0, ho_188, h2, ha0, lw_law_1005, h3]; done)
  rw [if_neg b11]
  by_cases b12 : a0 &&& 31 = 12
  · rw [if_pos b12]
    obtain ⟨r, x', h1, h2, h3, h5⟩ := t_size (v := a1) (o := o) (z := z) T
    refine ⟨u, x', o, z, ?_, h5, by omega⟩
    first
    | (simp only [n_succ, n_p2, n_p3, n_p4, n_p5, n_p6, k1, k2, k3, k4, k5, c1, c2, c3, c4, c5, g1, g2, g3, g4, g5, if_false, Option.bind_some, h1, ho_0, ho_188, h2, ha0, lw_law_1005]; done)
    | (simp only [n_succ, n_p2, n_p3, n_p4, n_p5, n_p6, k1, k2, k3, k4, k5, c1, c2, c3, c4, c5, g1, g2, g3, g4, g5, if_false, Option.bind_some, h1, ho_0, ho_188, h2, ha0, lw_law_1005, h3, if_true]; try rfl; done)
    | (simp [n_succ, n_p2, n_p3, n_p4, n_p5, n_p6, k1, k2, k3, k4, k5, c1, c2, c3, c4, c5, g1, g2, g3, g4, g5, if_false, Option.bind_some, h1, ho_0, ho_188, h2, ha0, lw_law_1005, h3]; done)
  rw [if_neg b12]
  by_cases b13 : a0 &&& 31 = 13
  · rw [if_pos b13]
    obtain ⟨e, u', o', z', r, x', h1, h2, h3, h4, h5, h6⟩ := t_get (b := a1) (v := a2) (w := a3) (o := o) (z := z) T
    refine ⟨u', x', o', z', ?_, h5, h6⟩
    first
    | (simp only [n_succ, n_p2, n_p3, n_p4, n_p5, n_p6, k1, k2, k3, k4, k5, c1, c2, c3, c4, c5, g1, g2, g3, g4, g5, if_false, Option.bind_some, h1, ho_0, ho_188, h2, ha0, lw_law_1005]; done)
    | (by_cases e0 : e = 0
       · have o0 := h4 e0
         subst e0
         simp only [n_succ, n_p2, n_p3, n_p4, n_p5, n_p6, k1, k2, k3, k4, k5, c1, c2, c3, c4, c5, g1, g2, g3, g4, g5, if_false, Option.bind_some, h1, ho_0, ho_188, h2, ha0, lw_law_1005, h3, if_true, o0]
         try rfl
       · simp only [n_succ, n_p2, n_p3, n_p4, n_p5, n_p6, k1, k2, k3, k4, k5, c1, c2, c3, c4, c5, g1, g2, g3, g4, g5, if_false, Option.bind_some, h1, ho_0, ho_188, h2, ha0, lw_law_1005, h3, if_true, if_neg e0]
         try rfl)
  rw [if_neg b13]
  by_cases b14 : a0 &&& 31 = 14
  · rw [if_pos b14]
    obtain ⟨e, u', o', z', r, x', h1, h2, h3, h4, h5, h6⟩ := t_pass (v := a1) (o := o) (z := z) T
    refine ⟨u', x', o', z', ?_, h5, h6⟩
    first
    | (simp only [n_succ, n_p2, n_p3, n_p4, n_p5, n_p6, k1, k2, k3, k4, k5, c1, c2, c3, c4, c5, g1, g2, g3, g4, g5, if_false, Option.bind_some, h1, ho_0, ho_188, h2, ha0, lw_law_1005]; done)
    | (by_cases e0 : e = 0
       · have o0 := h4 e0
         subst e0
         simp only [n_succ, n_p2, n_p3, n_p4, n_p5, n_p6, k1, k2, k3, k4, k5, c1, c2, c3, c4, c5, g1, g2, g3, g4, g5, if_false, Option.bind_some, h1, ho_0, ho_188, h2, ha0, lw_law_1005, h3, if_true, o0]
         try rfl
       · simp only [n_succ, n_p2, n_p3, n_p4, n_p5, n_p6, k1, k2, k3, k4, k5, c1, c2, c3, c4, c5, g1, g2, g3, g4, g5, if_false, Option.bind_some, h1, ho_0, ho_188, h2, ha0, lw_law_1005, h3, if_true, if_neg e0]
         try rfl)
  rw [if_neg b14]
  by_cases b15 : a0 &&& 31 = 15
  · rw [if_pos b15]
    obtain ⟨r, x', h1, h2, h3, h5⟩ := t_holders  (o := o) (z := z) T
    refine ⟨u, x', o, z, ?_, h5, by omega⟩
    first
    | (simp only [n_succ, n_p2, n_p3, n_p4, n_p5, n_p6, k1, k2, k3, k4, k5, c1, c2, c3, c4, c5, g1, g2, g3, g4, g5, if_false, Option.bind_some, h1, ho_0, ho_188, h2, ha0, lw_law_1005]; done)
    | (simp only [n_succ, n_p2, n_p3, n_p4, n_p5, n_p6, k1, k2, k3, k4, k5, c1, c2, c3, c4, c5, g1, g2, g3, g4, g5, if_false, Option.bind_some, h1, ho_0, ho_188, h2, ha0, lw_law_1005, h3, if_true]; try rfl; done)
    | (simp [n_succ, n_p2, n_p3, n_p4, n_p5, n_p6, k1, k2, k3, k4, k5, c1, c2, c3, c4, c5, g1, g2, g3, g4, g5, if_false, Option.bind_some, h1, ho_0, ho_188, h2, ha0, lw_law_1005, h3]; done)
  rw [if_neg b15]
  by_cases b16 : a0 &&& 31 = 16
  · rw [if_pos b16]
    obtain ⟨e, u', o', z', r, x', h1, h2, h3, h4, h5, h6⟩ := t_write (k := a1) (v := a2) (o := o) (z := z) T
    refine ⟨u', x', o', z', ?_, h5, h6⟩
    first
    | (simp only [n_succ, n_p2, n_p3, n_p4, n_p5, n_p6, k1, k2, k3, k4, k5, c1, c2, c3, c4, c5, g1, g2, g3, g4, g5, if_false, Option.bind_some, h1, ho_0, ho_188, h2, ha0, lw_law_1005]; done)
    | (by_cases e0 : e = 0
       · have o0 := h4 e0
         subst e0
         simp only [n_succ, n_p2, n_p3, n_p4, n_p5, n_p6, k1, k2, k3, k4, k5, c1, c2, c3, c4, c5, g1, g2, g3, g4, g5, if_false, Option.bind_some, h1, ho_0, ho_188, h2, ha0, lw_law_1005, h3, if_true, o0]
         try rfl
       · simp only [n_succ, n_p2, n_p3, n_p4, n_p5, n_p6, k1, k2, k3, k4, k5, c1, c2, c3, c4, c5, g1, g2, g3, g4, g5, if_false, Option.bind_some, h1, ho_0, ho_188, h2, ha0, lw_law_1005, h3, if_true, if_neg e0]
         try rfl)
  rw [if_neg b16]
  by_cases b17 : a0 &&& 31 = 17
  · rw [if_pos b17]
    obtain ⟨e, u', o', z', r, x', h1, h2, h3, h4, h5, h6⟩ := hread u x o z T
    refine ⟨u', x', o', z', ?_, h5, h6⟩
    first
    | (simp only [n_succ, n_p2, n_p3, n_p4, n_p5, n_p6, k1, k2, k3, k4, k5, c1, c2, c3, c4, c5, g1, g2, g3, g4, g5, if_false, Option.bind_some, h1, ho_0, ho_188, h2, ha0, lw_law_1005]; done)
    | (by_cases e0 : e = 0
       · have o0 := h4 e0
         subst e0
         simp only [n_succ, n_p2, n_p3, n_p4, n_p5, n_p6, k1, k2, k3, k4, k5, c1, c2, c3, c4, c5, g1, g2, g3, g4, g5, if_false, Option.bind_some, h1, ho_0, ho_188, h2, ha0, lw_law_1005, h3, if_true, o0]
         try rfl
       · simp only [n_succ, n_p2, n_p3, n_p4, n_p5, n_p6, k1, k2, k3, k4, k5, c1, c2, c3, c4, c5, g1, g2, g3, g4, g5, if_false, Option.bind_some, h1, ho_0, ho_188, h2, ha0, lw_law_1005, h3, if_true, if_neg e0]
         try rfl)
  rw [if_neg b17]
  by_cases b18 : a0 &&& 31 = 18
  · rw [if_pos b18]
    obtain ⟨r, x', h1, h2, h3, h5⟩ := t_found  (o := o) (z := z) T
    refine ⟨u, x', o, z, ?_, h5, by omega⟩
    first
    | (simp only [n_succ, n_p2, n_p3, n_p4, n_p5, n_p6, k1, k2, k3, k4, k5, c1, c2, c3, c4, c5, g1, g2, g3, g4, g5, if_false, Option.bind_some, h1, ho_0, ho_188, h2, ha0, lw_law_1005]; done)
    | (simp only [n_succ, n_p2, n_p3, n_p4, n_p5, n_p6, k1, k2, k3, k4, k5, c1, c2, c3, c4, c5, g1, g2, g3, g4, g5, if_false, Option.bind_some, h1, ho_0, ho_188, h2, ha0, lw_law_1005, h3, if_true]; try rfl; done)
    | (simp [n_succ, n_p2, n_p3, n_p4, n_p5, n_p6, k1, k2, k3, k4, k5, c1, c2, c3, c4, c5, g1, g2, g3, g4, g5, if_false, Option.bind_some, h1, ho_0, ho_188, h2, ha0, lw_law_1005, h3]; done)
  rw [if_neg b18]
  by_cases b19 : a0 &&& 31 = 19
  · rw [if_pos b19]
    obtain ⟨r, u', x', h1, h2, h3, h5⟩ := t_feed (w := (((Int32.toInt64 a1) <<< (Int32.toInt64 (32 : Int32) &&& 63)) ||| ((Int32.toInt64 a2) &&& (4294967295 : Int64)))) (v := a3) (o := o) (z := z) T
    refine ⟨u', x', o, z, ?_, h5, by omega⟩
    first
    | (simp only [n_succ, n_p2, n_p3, n_p4, n_p5, n_p6, k1, k2, k3, k4, k5, c1, c2, c3, c4, c5, g1, g2, g3, g4, g5, if_false, Option.bind_some, h1, ho_0, ho_188, h2, ha0, lw_law_1005]; done)
    | (simp only [n_succ, n_p2, n_p3, n_p4, n_p5, n_p6, k1, k2, k3, k4, k5, c1, c2, c3, c4, c5, g1, g2, g3, g4, g5, if_false, Option.bind_some, h1, ho_0, ho_188, h2, ha0, lw_law_1005, h3, if_true]; try rfl; done)
    | (simp [n_succ, n_p2, n_p3, n_p4, n_p5, n_p6, k1, k2, k3, k4, k5, c1, c2, c3, c4, c5, g1, g2, g3, g4, g5, if_false, Option.bind_some, h1, ho_0, ho_188, h2, ha0, lw_law_1005, h3]; done)
  rw [if_neg b19]
  by_cases b20 : a0 &&& 31 = 20
  · rw [if_pos b20]
    obtain ⟨r, u', x', h1, h2, h3, h5⟩ := t_wipe  (o := o) (z := z) T
    refine ⟨u', x', o, z, ?_, h5, by omega⟩
    first
    | (simp only [n_succ, n_p2, n_p3, n_p4, n_p5, n_p6, k1, k2, k3, k4, k5, c1, c2, c3, c4, c5, g1, g2, g3, g4, g5, if_false, Option.bind_some, h1, ho_0, ho_188, h2, ha0, lw_law_1005]; done)
    | (simp only [n_succ, n_p2, n_p3, n_p4, n_p5, n_p6, k1, k2, k3, k4, k5, c1, c2, c3, c4, c5, g1, g2, g3, g4, g5, if_false, Option.bind_some, h1, ho_0, ho_188, h2, ha0, lw_law_1005, h3, if_true]; try rfl; done)
    | (simp [n_succ, n_p2, n_p3, n_p4, n_p5, n_p6, k1, k2, k3, k4, k5, c1, c2, c3, c4, c5, g1, g2, g3, g4, g5, if_false, Option.bind_some, h1, ho_0, ho_188, h2, ha0, lw_law_1005, h3]; done)
  rw [if_neg b20]
  by_cases b21 : a0 &&& 31 = 21
  · rw [if_pos b21]
    obtain ⟨r, u', x', h1, h2, h3, h5⟩ := t_spoil (v := a1) (w := a2) (o := o) (z := z) T
    refine ⟨u', x', o, z, ?_, h5, by omega⟩
    first
    | (simp only [n_succ, n_p2, n_p3, n_p4, n_p5, n_p6, k1, k2, k3, k4, k5, c1, c2, c3, c4, c5, g1, g2, g3, g4, g5, if_false, Option.bind_some, h1, ho_0, ho_188, h2, ha0, lw_law_1005]; done)
    | (simp only [n_succ, n_p2, n_p3, n_p4, n_p5, n_p6, k1, k2, k3, k4, k5, c1, c2, c3, c4, c5, g1, g2, g3, g4, g5, if_false, Option.bind_some, h1, ho_0, ho_188, h2, ha0, lw_law_1005, h3, if_true]; try rfl; done)
    | (simp [n_succ, n_p2, n_p3, n_p4, n_p5, n_p6, k1, k2, k3, k4, k5, c1, c2, c3, c4, c5, g1, g2, g3, g4, g5, if_false, Option.bind_some, h1, ho_0, ho_188, h2, ha0, lw_law_1005, h3]; done)
  rw [if_neg b21]
  by_cases b22 : a0 &&& 31 = 22
  · rw [if_pos b22]
    obtain ⟨r, x', h1, h2, h3, h5⟩ := t_byteAt (v := a1) (o := o) (z := z) T
    refine ⟨u, x', o, z, ?_, h5, by omega⟩
    first
    | (simp only [n_succ, n_p2, n_p3, n_p4, n_p5, n_p6, k1, k2, k3, k4, k5, c1, c2, c3, c4, c5, g1, g2, g3, g4, g5, if_false, Option.bind_some, h1, ho_0, ho_188, h2, ha0, lw_law_1005]; done)
    | (simp only [n_succ, n_p2, n_p3, n_p4, n_p5, n_p6, k1, k2, k3, k4, k5, c1, c2, c3, c4, c5, g1, g2, g3, g4, g5, if_false, Option.bind_some, h1, ho_0, ho_188, h2, ha0, lw_law_1005, h3, if_true]; try rfl; done)
    | (simp [n_succ, n_p2, n_p3, n_p4, n_p5, n_p6, k1, k2, k3, k4, k5, c1, c2, c3, c4, c5, g1, g2, g3, g4, g5, if_false, Option.bind_some, h1, ho_0, ho_188, h2, ha0, lw_law_1005, h3]; done)
  rw [if_neg b22]
  refine ⟨u, x, o, z, ?_, T, by omega⟩
  simp only [n_succ, n_p2, n_p3, n_p4, n_p5, n_p6, k1, k2, k3, k4, k5, c1, c2, c3, c4, c5, g1, g2, g3, g4, g5, if_false, Option.bind_some, lw_law_1005]
theorem lw_all (hread : ∀ (u : gU) (x : gX) (o : Nat → Int64) (z : gx_H), gTT u x → gAns u x o z (lw_read (some 0) (some 211)) (mM_read (some 188))) {xs : List Int32} (hL : xs.length ≤ 3072) : ∀ (k i f : Nat) (u : gU) (x : gX) (o : Nat → Int64) (z : gx_H), xs.length < i + 6 * k + 6 → i ≤ xs.length → gTT u x → ∃ h', lw_law_23 xs (f + k + 1) (some 0) (some 188) (some 211) (Int32.ofNat i) (gH u x o z) = some (1, h') ∧ h'.length ≤ 212 + z.length + k := by
  intro k
  induction k with
  | zero =>
    intro i f u x o z h hi T
    refine ⟨gH u x o z, ?_, by rw [hl]; omega⟩
    rw [lw_law_23, if_pos ((n_len hL (by omega)).mpr (by omega))]
  | succ k ih =>
    intro i f u x o z h hi T
    by_cases c : i + 6 ≤ xs.length
    · obtain ⟨u', x', o', z', h1, h2, h3⟩ := lw_step hread hL (n := f + k + 1) c (o := o) (z := z) T
      obtain ⟨h', h4, h5⟩ := ih (i + 6) f u' x' o' z' (by omega) c h2
      refine ⟨h', ?_, by omega⟩
      rw [show f + (k + 1) + 1 = (f + k + 1) + 1 by omega, h1, h4]
    · refine ⟨gH u x o z, ?_, by rw [hl]; omega⟩
      rw [show f + (k + 1) + 1 = (f + k + 1) + 1 by omega, lw_law_23, if_pos ((n_len hL (by omega)).mpr (by omega))]
def gu_0 : gU := ((fun _ => ((fun _ => 0, fun _ => 0, fun _ => 0, fun _ => 0, fun _ => 0, fun _ => 0) : gQ)), fun _ => 0, fun _ => 0, fun _ => 0, fun _ => 0, fun _ => 0, fun _ => 0, fun _ => 0, fun _ => 0, fun _ => 0, fun _ => 0, fun _ => 0, fun _ => 0, fun _ _ => 0, fun _ => 0)
def gx_0 : gX := ((fun _ => ((fun _ => 0, fun _ => 0, fun _ => 0, fun _ => 0, 0, 0, 0, 0) : gP)), fun _ => 0, fun _ => 0, fun _ => 0, fun _ => 0, fun _ => 0, fun _ => 0, fun _ => 0, fun _ => 0, fun _ => 0, fun _ => 0, fun _ => 0, fun _ => 0, fun _ => 0, fun _ => 0, fun _ => 0)
theorem gh_0 : gm_mk gm_I0 gm_J0 [] = gH gu_0 gx_0 (fun _ => 0) [] := by
  unfold gH
  congr 1
  · funext a i
    unfold gm_I0 gf_I gf_C gf_X gf_T gu_0 gx_0
    simp only [ite_self]
  · funext a i
    unfold gm_J0 gf_J gu_0 gx_0
    simp only [ite_self]
theorem gt_0 : gTT gu_0 gx_0 := ⟨0, 0, 0, 0, by omega, rfl, rfl, fun k hk => by omega, by omega, rfl, rfl, fun i hi => by omega, fun i hi => by omega, by omega, rfl, rfl, fun i hi => by omega, fun i hi => by omega, by omega, rfl, rfl, fun i hi => by omega, rfl⟩
theorem lw_done (hread : ∀ (u : gU) (x : gX) (o : Nat → Int64) (z : gx_H), gTT u x → gAns u x o z (lw_read (some 0) (some 211)) (mM_read (some 188))) : gx_Law 3072 := by
  refine gm_law fun xs hL => ?_
  obtain ⟨G, hG⟩ : ∃ G, 1000000000000000 = G + 600 + 1 := ⟨999999999999399, rfl⟩
  obtain ⟨h', h1, h2⟩ := lw_all hread hL 600 0 G gu_0 gx_0 (fun _ => 0) [] (by omega) (by omega) gt_0
  refine ⟨h', ?_, by simp at h2; omega⟩
  rw [hG, gh_0]
  exact h1
theorem i_vc : Claimed_1_1 ∧ Claimed_1_2 := i_vc_open (lw_done fun _ _ _ _ h => t_read h)
