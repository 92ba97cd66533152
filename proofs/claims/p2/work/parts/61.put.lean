/-! put, take, entry, add -/
section H
variable {u : gU} {x : gX} {o : Nat → Int64} {z : gx_H}
def gAnsV (u : gU) (x : gX) (o : Nat → Int64) (z : gx_H) (L : gx_H → Option (Int32 × gx_H)) (M : gx_H → Option gx_H) : Prop := ∃ e u' z' x', L (gH u x o z) = some (e, gH u' x o z') ∧ M (gH u' x o z') = some (gH u' x' o z') ∧ x'.2.1 0 = e ∧ gTT u' x' ∧ z'.length ≤ z.length + 1
/-- as gAns, but nothing of what both answer -/
def gAnsT (u : gU) (x : gX) (o : Nat → Int64) (z : gx_H) (L : gx_H → Option (Int32 × gx_H)) (M : gx_H → Option (Int32 × gx_H)) : Prop := ∃ e u' o' z' r x', L (gH u x o z) = some (e, gH u' x o' z') ∧ M (gH u' x o' z') = some (r, gH u' x' o' z') ∧ x'.2.1 0 = e ∧ gTT u' x' ∧ z'.length ≤ z.length + 1
theorem gT_0 {n m p q : Nat} {v : Int32} (T : gTi n m p q u x) : gTi n m p q u ((x.1, gup x.2.1 0 v, x.2.2.1, x.2.2.2.1, x.2.2.2.2.1, x.2.2.2.2.2.1, x.2.2.2.2.2.2.1, x.2.2.2.2.2.2.2.1, x.2.2.2.2.2.2.2.2.1, x.2.2.2.2.2.2.2.2.2.1, x.2.2.2.2.2.2.2.2.2.2.1, x.2.2.2.2.2.2.2.2.2.2.2.1, x.2.2.2.2.2.2.2.2.2.2.2.2.1, x.2.2.2.2.2.2.2.2.2.2.2.2.2.1, x.2.2.2.2.2.2.2.2.2.2.2.2.2.2.1, x.2.2.2.2.2.2.2.2.2.2.2.2.2.2.2) : gX) :=
  ⟨T.hn, T.un, T.xn, T.ob, T.hm, T.um, T.xm, T.bs, T.b8, T.hp, T.up, T.xp, T.pa, T.pb, T.hq, T.uq, T.xq, T.ho, T.fo⟩
theorem r_put0 {a b c d : Int32} : mM_put_79 (some 188) a b c d 0 1 (gH u x o z) = some (gH u ((x.1, gup x.2.1 0 1, x.2.2.1, x.2.2.2.1, x.2.2.2.2.1, x.2.2.2.2.2.1, x.2.2.2.2.2.2.1, x.2.2.2.2.2.2.2.1, x.2.2.2.2.2.2.2.2.1, x.2.2.2.2.2.2.2.2.2.1, x.2.2.2.2.2.2.2.2.2.2.1, x.2.2.2.2.2.2.2.2.2.2.2.1, x.2.2.2.2.2.2.2.2.2.2.2.2.1, x.2.2.2.2.2.2.2.2.2.2.2.2.2.1, x.2.2.2.2.2.2.2.2.2.2.2.2.2.2.1, x.2.2.2.2.2.2.2.2.2.2.2.2.2.2.2) : gX) o z) := by
  simp only [mM_put_79, if_true, mM_put_113, mM_put_114, ho_188, Option.bind_some, r_ref] <;> rfl
theorem r_putS {n k c : Nat} {a kd nm s : Int32} {q : gQ} (hk : k < 32) (O : gO n 0 c q (x.1 k)) : mM_put_79 (some 188) (Int32.ofNat k) a kd nm 1 s (gH u x o z) = mM_put_114 (some 188) (Int32.ofNat k) a kd nm 1 (some 188) s (if gfi (fun i => decide (q.1 i = 4 ∧ q.2.1 i = a)) c 0 = none ∧ c = 6 then 1 else 0) (gH u x o z) := by
  have c6 : c ≤ 6 := O.c8
  have h5 := rec_f6 O
  have d10 : ¬ (1 : Int32) = 0 := by decide
  simp only [mM_put_79, if_neg d10, ho_188, Option.bind_some, r_slot hk h5 (show c ≤ 8 by omega), ← rec_find O]
  cases h : gfi (fun i => decide (q.1 i = 4 ∧ q.2.1 i = a)) c 0 with
  | some j =>
    have hj := (gfi_some _ _ _ h).2.1
    rw [if_neg (gis_neg (k := k) (j := j) (by omega))]
    simp only [mM_put_113, reduceCtorEq, false_and, if_false]
  | none =>
    simp only [gis, if_pos (show (-1 : Int32) < 0 by decide), hr_188_3, Option.bind_some, ha_190 hk, h5, true_and]
    by_cases e : c = 6
    · subst e; rfl
    · rw [if_neg (show ¬ Int32.ofNat c = 6 from fun q => e ((n_eq (m := 6) (by omega) (by omega)).mp q)), if_neg e]; rfl
theorem t_put {b key kd nm : Int32} (h : gTT u x) : gAnsV u x o z (lw_put (some 0) b key kd nm) (mM_put (some 188) b key kd nm) := by
  obtain ⟨n, m, p, q, T⟩ := h
  have hn := T.hn
  have d10 : ¬ (1 : Int32) = 0 := by decide
  obtain ⟨r, r1, r2, r3, r4⟩ := v_eq (k := kd) (v := nm) T.un T.xn hn
  have no : (∀ h : gx_H, h = gH u x o z → cG_put (some 0) b key kd nm h = cG_put_28 h) → (∀ z, mM_put (some 188) b key kd nm (gH u x o z) = some (gH u ((x.1, gup x.2.1 0 1, x.2.2.1, x.2.2.2.1, x.2.2.2.2.1, x.2.2.2.2.2.1, x.2.2.2.2.2.2.1, x.2.2.2.2.2.2.2.1, x.2.2.2.2.2.2.2.2.1, x.2.2.2.2.2.2.2.2.2.1, x.2.2.2.2.2.2.2.2.2.2.1, x.2.2.2.2.2.2.2.2.2.2.2.1, x.2.2.2.2.2.2.2.2.2.2.2.2.1, x.2.2.2.2.2.2.2.2.2.2.2.2.2.1, x.2.2.2.2.2.2.2.2.2.2.2.2.2.2.1, x.2.2.2.2.2.2.2.2.2.2.2.2.2.2.2) : gX) o z)) → gAnsV u x o z (lw_put (some 0) b key kd nm) (mM_put (some 188) b key kd nm) := by
    intro h1 h2
    refine ⟨1, u, z ++ [(8, [])], ((x.1, gup x.2.1 0 1, x.2.2.1, x.2.2.2.1, x.2.2.2.2.1, x.2.2.2.2.2.1, x.2.2.2.2.2.2.1, x.2.2.2.2.2.2.2.1, x.2.2.2.2.2.2.2.2.1, x.2.2.2.2.2.2.2.2.2.1, x.2.2.2.2.2.2.2.2.2.2.1, x.2.2.2.2.2.2.2.2.2.2.2.1, x.2.2.2.2.2.2.2.2.2.2.2.2.1, x.2.2.2.2.2.2.2.2.2.2.2.2.2.1, x.2.2.2.2.2.2.2.2.2.2.2.2.2.2.1, x.2.2.2.2.2.2.2.2.2.2.2.2.2.2.2) : gX), ?_, h2 _, rfl, gTT_0 ⟨n, m, p, q, T⟩, by simp⟩
    simp only [lw_put, ho_0, Option.bind_some, h1 _ rfl, cG_put_28, hl, hthr, hexc] <;> rfl
  have both : ∀ z, mM_is (some 188) b 0 (gH u x o z) = some 0 → mM_is (some 188) b 1 (gH u x o z) = some 0 → mM_put (some 188) b key kd nm (gH u x o z) = some (gH u ((x.1, gup x.2.1 0 1, x.2.2.1, x.2.2.2.1, x.2.2.2.2.1, x.2.2.2.2.2.1, x.2.2.2.2.2.2.1, x.2.2.2.2.2.2.2.1, x.2.2.2.2.2.2.2.2.1, x.2.2.2.2.2.2.2.2.2.1, x.2.2.2.2.2.2.2.2.2.2.1, x.2.2.2.2.2.2.2.2.2.2.2.1, x.2.2.2.2.2.2.2.2.2.2.2.2.1, x.2.2.2.2.2.2.2.2.2.2.2.2.2.1, x.2.2.2.2.2.2.2.2.2.2.2.2.2.2.1, x.2.2.2.2.2.2.2.2.2.2.2.2.2.2.2) : gX) o z) := by
    intro z h1 h2
    simp only [mM_put, ho_188, Option.bind_some, h1, h2, r3]
    rcases r1 with rfl | rfl
    · simp only [if_true, mM_put_41, mM_put_42, mM_put_74, r_put0]
    · simp only [if_neg d10, mM_put_37, mM_put_42, if_true, mM_put_74, r_put0]
  rcases g_ob b n (by omega) with c | ⟨k, hk, rfl⟩
  · refine no (fun h e => ?_) (fun z => both z (r_isout T.xn c) (r_isout T.xn c))
    subst e
    simp only [cG_put, hr_0_0, Option.bind_some, ho_1, k_tout T.un c, if_true]
  · obtain ⟨s, c, O⟩ := T.ob k hk
    have hk2 : k < 32 := by omega
    obtain ⟨_, _, _, e0, e1, _⟩ := n_s6 s O.s8
    by_cases s0 : s = 0
    · subst s0
      have c6 : c ≤ 6 := O.c8
      have i0 : ∀ y z, mM_is (some 188) (Int32.ofNat k) 0 (gH y x o z) = some 1 := fun y z => by rw [r_isin T.xn hn hk, O.et]; rfl
      have i1 : ∀ y z, mM_is (some 188) (Int32.ofNat k) 1 (gH y x o z) = some 0 := fun y z => by rw [r_isin T.xn hn hk, O.et]; rfl
      by_cases g : kd = 8 ∨ r = 1
      · have hv : gV n 0 kd (gcn kd nm) := by
          rcases g with g | g
          · exact Or.inr (Or.inl ⟨g, rfl⟩)
          · obtain ⟨j, j1, j2, j3⟩ := r4 g
            refine Or.inr (Or.inr ⟨j, j1, j2, fun e => ?_⟩)
            obtain ⟨b, b1, b2⟩ := j3 e
            refine ⟨b, b1, ?_⟩
            subst e
            rw [j2]
            exact b2
        have can : ∀ o z, cG_canBePut (some 0) (some (3 + 5 * k)) key kd nm (gH u x o z) = some 1 := by
          intro o z
          simp only [cG_canBePut, hiT_4 hk2, Option.bind_some, O.es, e0, if_true]
          by_cases k8 : kd = 8
          · rw [if_pos k8]
          · rw [if_neg k8]
            have : r = 1 := by rcases g with g | g; exact absurd g k8; exact g
            simp only [hr_0_0, Option.bind_some, ho_1, r2, this, if_neg d10]
        have ref : ∀ y z, mM_put (some 188) (Int32.ofNat k) key kd nm (gH y x o z) = mM_put_79 (some 188) (Int32.ofNat k) key kd nm 1 0 (gH y x o z) := by
          intro y z
          simp only [mM_put, ho_188, Option.bind_some, i0, i1, r3]
          rcases r1 with rfl | rfl
          · have k8 : kd = 8 := by rcases g with g | g; exact g; exact absurd g (by decide)
            simp only [if_true, if_neg d10, if_pos k8, mM_put_37, mM_put_42, mM_put_54, mM_put_78]
          · simp only [if_neg d10, mM_put_37, mM_put_42, mM_put_54, if_true, mM_put_78]
        have cl : ∀ h : gx_H, h = gH u x o z → cG_put (some 0) (Int32.ofNat k) key kd nm h = (cT_setProperty (some (3 + 5 * k)) key kd (gcn kd nm) h).bind fun r18 => if r18.1 = 0 then some (.threw r18.2.length, r18.2 ++ [(9, [])]) else some (.returned none, r18.2) := by
          intro h e
          subst e
          simp only [cG_put, hr_0_0, Option.bind_some, ho_1, ho_0, k_tin T.un hn hk, reduceCtorEq, if_false, can, if_neg d10, hiT_4 hk2, O.es, show ¬ Int32.ofNat 0 = (1 : Int32) by decide, if_false, k_cn, ho_T hk2] <;> rfl
        rcases sp_tie (a := key) hk2 O hv with ⟨q', p', c', a1, a2, a3, a4⟩ | ⟨a1, a2, a3⟩
        · refine ⟨0, ((gup u.1 k q', u.2.1, u.2.2.1, u.2.2.2.1, u.2.2.2.2.1, u.2.2.2.2.2.1, u.2.2.2.2.2.2.1, u.2.2.2.2.2.2.2.1, u.2.2.2.2.2.2.2.2.1, u.2.2.2.2.2.2.2.2.2.1, u.2.2.2.2.2.2.2.2.2.2.1, u.2.2.2.2.2.2.2.2.2.2.2.1, u.2.2.2.2.2.2.2.2.2.2.2.2.1, u.2.2.2.2.2.2.2.2.2.2.2.2.2.1, u.2.2.2.2.2.2.2.2.2.2.2.2.2.2) : gU), z, ((gup x.1 k p', gup x.2.1 0 0, x.2.2.1, x.2.2.2.1, x.2.2.2.2.1, x.2.2.2.2.2.1, x.2.2.2.2.2.2.1, x.2.2.2.2.2.2.2.1, x.2.2.2.2.2.2.2.2.1, x.2.2.2.2.2.2.2.2.2.1, x.2.2.2.2.2.2.2.2.2.2.1, x.2.2.2.2.2.2.2.2.2.2.2.1, x.2.2.2.2.2.2.2.2.2.2.2.2.1, x.2.2.2.2.2.2.2.2.2.2.2.2.2.1, x.2.2.2.2.2.2.2.2.2.2.2.2.2.2.1, x.2.2.2.2.2.2.2.2.2.2.2.2.2.2.2) : gX), ?_, ?_, rfl, ⟨n, m, p, q, gT_0 (x := ((gup x.1 k p', x.2.1, x.2.2.1, x.2.2.2.1, x.2.2.2.2.1, x.2.2.2.2.2.1, x.2.2.2.2.2.2.1, x.2.2.2.2.2.2.2.1, x.2.2.2.2.2.2.2.2.1, x.2.2.2.2.2.2.2.2.2.1, x.2.2.2.2.2.2.2.2.2.2.1, x.2.2.2.2.2.2.2.2.2.2.2.1, x.2.2.2.2.2.2.2.2.2.2.2.2.1, x.2.2.2.2.2.2.2.2.2.2.2.2.2.1, x.2.2.2.2.2.2.2.2.2.2.2.2.2.2.1, x.2.2.2.2.2.2.2.2.2.2.2.2.2.2.2) : gX)) (gT_ob T ⟨0, c', a3⟩)⟩, by omega⟩
          · simp only [lw_put, ho_0, Option.bind_some, cl _ rfl, a1, if_neg d10]
          · have nn : ¬ (gfi (fun i => decide ((u.1 k).1 i = 4 ∧ (u.1 k).2.1 i = key)) c 0 = none ∧ c = 6) := by
              rcases a4 with a4 | a4
              · exact fun q => by omega
              · exact fun q => a4 q.1
            rw [ref, r_putS hk2 O, if_neg nn]
            simp only [mM_put_114, ho_188, Option.bind_some, r_ref, and_self, if_true, if_neg d10, a2 ((x.1, gup x.2.1 0 0, x.2.2.1, x.2.2.2.1, x.2.2.2.2.1, x.2.2.2.2.2.1, x.2.2.2.2.2.2.1, x.2.2.2.2.2.2.2.1, x.2.2.2.2.2.2.2.2.1, x.2.2.2.2.2.2.2.2.2.1, x.2.2.2.2.2.2.2.2.2.2.1, x.2.2.2.2.2.2.2.2.2.2.2.1, x.2.2.2.2.2.2.2.2.2.2.2.2.1, x.2.2.2.2.2.2.2.2.2.2.2.2.2.1, x.2.2.2.2.2.2.2.2.2.2.2.2.2.2.1, x.2.2.2.2.2.2.2.2.2.2.2.2.2.2.2) : gX) rfl]
        · refine ⟨2, u, z ++ [(9, [])], ((x.1, gup x.2.1 0 2, x.2.2.1, x.2.2.2.1, x.2.2.2.2.1, x.2.2.2.2.2.1, x.2.2.2.2.2.2.1, x.2.2.2.2.2.2.2.1, x.2.2.2.2.2.2.2.2.1, x.2.2.2.2.2.2.2.2.2.1, x.2.2.2.2.2.2.2.2.2.2.1, x.2.2.2.2.2.2.2.2.2.2.2.1, x.2.2.2.2.2.2.2.2.2.2.2.2.1, x.2.2.2.2.2.2.2.2.2.2.2.2.2.1, x.2.2.2.2.2.2.2.2.2.2.2.2.2.2.1, x.2.2.2.2.2.2.2.2.2.2.2.2.2.2.2) : gX), ?_, ?_, rfl, gTT_0 ⟨n, m, p, q, T⟩, by simp⟩
          · simp only [lw_put, ho_0, Option.bind_some, cl _ rfl, a1, if_true, hl, hthr, hexc] <;> rfl
          · rw [ref, r_putS hk2 O, if_pos ⟨a3, a2⟩]
            simp only [mM_put_114, ho_188, Option.bind_some, r_ref] <;> rfl
      · have k8 : ¬ kd = 8 := fun q => g (Or.inl q)
        have r0 : r = 0 := by rcases r1 with h | h; exact h; exact absurd (Or.inr h) g
        subst r0
        refine no (fun h e => ?_) (fun z => ?_)
        · subst e
          simp only [cG_put, hr_0_0, Option.bind_some, ho_1, ho_0, k_tin T.un hn hk, reduceCtorEq, if_false, cG_canBePut, hiT_4 hk2, O.es, e0, if_true, if_neg k8, r2] <;> rfl
        · simp only [mM_put, ho_188, Option.bind_some, i0, i1, r3, if_true, if_neg d10, if_neg k8, mM_put_41, mM_put_42, mM_put_54, mM_put_74, r_putS hk2 O, mM_put_114, r_ref] <;> rfl
    · by_cases s1 : s = 1
      · subst s1
        have c8 : c ≤ 8 := O.c8
        have f6 : (u.1 k).2.2.2.2.1 6 = 0 := by rcases O.d4 with h | h; exact h; omega
        have h5 := O.ep f6
        have i0 : ∀ y z, mM_is (some 188) (Int32.ofNat k) 0 (gH y x o z) = some 0 := fun y z => by rw [r_isin T.xn hn hk, O.et]; rfl
        have i1 : ∀ y z, mM_is (some 188) (Int32.ofNat k) 1 (gH y x o z) = some 1 := fun y z => by rw [r_isin T.xn hn hk, O.et]; rfl
        by_cases g : (¬ key < 0 ∧ key < 8) ∧ r = 1
        · obtain ⟨⟨k0, k8⟩, rr⟩ := g
          subst rr
          obtain ⟨t, ht, rfl⟩ := n_of (m := 8) k0 k8 (by omega)
          have k7 : ¬ 7 < Int32.ofNat t := fun q => n_78.mp q k8
          obtain ⟨j, j1, j2, j3⟩ := r4 rfl
          have hv : gV n 1 kd (gcn kd nm) := by
            refine Or.inr (Or.inr ⟨j, j1, j2, fun e => ?_⟩)
            obtain ⟨b, b1, b2⟩ := j3 e
            refine ⟨b, b1, ?_⟩
            subst e
            rw [j2]
            exact b2
          have O2 : gO n 1 (max c (t + 1)) (((u.1 k).1, (u.1 k).2.1, gpl (u.1 k).2.2.1 c t kd (-1), gpl (u.1 k).2.2.2.1 c t (gcn kd nm) 0, gup (u.1 k).2.2.2.2.1 5 (Int32.ofNat (max c (t + 1))), (u.1 k).2.2.2.2.2) : gQ) (((x.1 k).1, (x.1 k).2.1, gpl (x.1 k).2.2.1 c t kd (-1), gpl (x.1 k).2.2.2.1 c t (gcn kd nm) 0, (x.1 k).2.2.2.2.1, Int32.ofNat (max c (t + 1)), (x.1 k).2.2.2.2.2.2.1, (x.1 k).2.2.2.2.2.2.2) : gP) := by
            refine ⟨by omega, O.es, O.et, rfl, by show max c (t + 1) ≤ 8; omega, O.ed, Or.inl f6, fun _ => rfl, fun h => absurd f6 h, fun h => by omega, fun h => by omega, fun h => by omega, ?_, ?_, fun h => by omega, fun h => by omega, fun h => by omega, fun h => by omega, fun h => by omega⟩
            · intro _ i hi
              show gpl (x.1 k).2.2.1 c t kd (-1) i = gpl (u.1 k).2.2.1 c t kd (-1) i ∧ gpl (x.1 k).2.2.2.1 c t (gcn kd nm) 0 i = gpl (u.1 k).2.2.2.1 c t (gcn kd nm) 0 i
              unfold gpl
              by_cases e : i = t
              · rw [if_pos e, if_pos e, if_pos e, if_pos e]; exact ⟨rfl, rfl⟩
              · rw [if_neg e, if_neg e, if_neg e, if_neg e]
                by_cases e2 : c ≤ i ∧ i < t
                · rw [if_pos e2, if_pos e2, if_pos e2, if_pos e2]; exact ⟨rfl, rfl⟩
                · rw [if_neg e2, if_neg e2, if_neg e2, if_neg e2]; exact O.vs (by omega) i (by omega)
            · intro _ i hi
              show gV n 1 (gpl (u.1 k).2.2.1 c t kd (-1) i) (gpl (u.1 k).2.2.2.1 c t (gcn kd nm) 0 i)
              unfold gpl
              by_cases e : i = t
              · rw [if_pos e, if_pos e]; exact hv
              · rw [if_neg e, if_neg e]
                by_cases e2 : c ≤ i ∧ i < t
                · rw [if_pos e2, if_pos e2]; exact Or.inl ⟨rfl, rfl, rfl⟩
                · rw [if_neg e2, if_neg e2]; exact O.vv (by omega) i (by omega)
          refine ⟨0, _, z, _, ?_, ?_, rfl, ⟨n, m, p, q, gT_0 (x := ((gup x.1 k _, x.2.1, x.2.2.1, x.2.2.2.1, x.2.2.2.2.1, x.2.2.2.2.2.1, x.2.2.2.2.2.2.1, x.2.2.2.2.2.2.2.1, x.2.2.2.2.2.2.2.2.1, x.2.2.2.2.2.2.2.2.2.1, x.2.2.2.2.2.2.2.2.2.2.1, x.2.2.2.2.2.2.2.2.2.2.2.1, x.2.2.2.2.2.2.2.2.2.2.2.2.1, x.2.2.2.2.2.2.2.2.2.2.2.2.2.1, x.2.2.2.2.2.2.2.2.2.2.2.2.2.2.1, x.2.2.2.2.2.2.2.2.2.2.2.2.2.2.2) : gX)) (gT_ob T ⟨1, _, O2⟩)⟩, by omega⟩
          · simp only [lw_put, ho_0, Option.bind_some, cG_put, hr_0_0, ho_1, k_tin T.un hn hk, reduceCtorEq, if_false, cG_canBePut, hiT_4 hk2, O.es, show ¬ Int32.ofNat 1 = (0 : Int32) by decide, show Int32.ofNat 1 = (1 : Int32) from rfl, if_false, if_true, if_neg k0, if_pos k8, r2, if_neg d10, k_cn, ho_T hk2, k_setPlace hk2 ht c8 O.ec] <;> rfl
          · simp only [mM_put, ho_188, Option.bind_some, i0, i1, r3, if_neg d10, if_true, mM_put_37, mM_put_42, mM_put_54, if_neg k0, if_neg k7, mM_put_78, mM_put_79, mM_put_113, mM_put_114, r_ref, and_self, r_put136 (x := ((x.1, gup x.2.1 0 0, x.2.2.1, x.2.2.2.1, x.2.2.2.2.1, x.2.2.2.2.2.1, x.2.2.2.2.2.2.1, x.2.2.2.2.2.2.2.1, x.2.2.2.2.2.2.2.2.1, x.2.2.2.2.2.2.2.2.2.1, x.2.2.2.2.2.2.2.2.2.2.1, x.2.2.2.2.2.2.2.2.2.2.2.1, x.2.2.2.2.2.2.2.2.2.2.2.2.1, x.2.2.2.2.2.2.2.2.2.2.2.2.2.1, x.2.2.2.2.2.2.2.2.2.2.2.2.2.2.1, x.2.2.2.2.2.2.2.2.2.2.2.2.2.2.2) : gX)) hk2 ht c8 h5]
        · refine no (fun h e => ?_) (fun z => ?_)
          · subst e
            simp only [cG_put, hr_0_0, Option.bind_some, ho_1, ho_0, k_tin T.un hn hk, reduceCtorEq, if_false, cG_canBePut, hiT_4 hk2, O.es, show ¬ Int32.ofNat 1 = (0 : Int32) by decide, show Int32.ofNat 1 = (1 : Int32) from rfl, if_false, if_true]
            by_cases k0 : key < 0
            · simp only [if_pos k0, if_true] <;> rfl
            · by_cases k8 : key < 8
              · have r0 : r = 0 := by rcases r1 with h | h; exact h; exact absurd ⟨⟨k0, k8⟩, h⟩ g
                simp only [if_neg k0, if_pos k8, r2, Option.bind_some, r0, if_true] <;> rfl
              · simp only [if_neg k0, if_neg k8, if_true] <;> rfl
          · simp only [mM_put, ho_188, Option.bind_some, i0, i1, r3]
            rcases r1 with rfl | rfl
            · simp only [if_true, mM_put_41, mM_put_42, if_neg d10, mM_put_54, mM_put_74, r_put0]
            · simp only [if_neg d10, mM_put_37, mM_put_42, if_true, mM_put_54, mM_put_74, r_put0]
              by_cases k0 : key < 0
              · rw [if_pos k0]
              · rw [if_neg k0, if_pos (n_78.mpr (fun k8 => g ⟨⟨k0, k8⟩, rfl⟩))]
      · refine no (fun h e => ?_) (fun z => both z ?_ ?_)
        · subst e
          simp only [cG_put, hr_0_0, Option.bind_some, ho_1, ho_0, k_tin T.un hn hk, reduceCtorEq, if_false, cG_canBePut, hiT_4 hk2, O.es, e0, e1, if_neg s0, if_neg s1, if_true] <;> rfl
        · rw [r_isin T.xn hn hk, O.et, if_neg (fun q => s0 (e0.mp q))]
        · rw [r_isin T.xn hn hk, O.et, if_neg (fun q => s1 (e1.mp q))]
end H
