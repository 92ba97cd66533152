/-! the heap as two records: what the class keeps and what the reference keeps; by program -/
structure gQ where
  f : Nat → Int32
  kk : Nat → Int32
  ke : Nat → Int32
  ki : Nat → Int32
  nu : Nat → Int32
  w : Nat → Int64
structure gP where
  ty : Int32
  ct : Int32
  de : Int32
  ke : Nat → Int32
  kk : Nat → Int32
  ki : Nat → Int32
  nu : Nat → Int32
  st : Int64
structure gU where
  C : Nat → gQ
  c0 : Nat → Int32
  c1 : Nat → Int32
  c163 : Nat → Int32
  c164 : Nat → Int32
  c165 : Nat → Int32
  c166 : Nat → Int32
  c168 : Nat → Int32
  c169 : Nat → Int32
  c170 : Nat → Int32
  c171 : Nat → Int32
  c172 : Nat → Int32
  c187 : Nat → Int32
  kd : Nat → Nat → Int32
  hw : Nat → Int64
structure gX where
  R : Nat → gP
  x188 : Nat → Int32
  x197 : Nat → Int32
  x198 : Nat → Int32
  x199 : Nat → Int32
  x200 : Nat → Int32
  x201 : Nat → Int32
  x202 : Nat → Int32
  x203 : Nat → Int32
  x204 : Nat → Int32
  x205 : Nat → Int32
  x206 : Nat → Int32
  x207 : Nat → Int32
  x208 : Nat → Int32
  x209 : Nat → Int32
  x210 : Nat → Int32
def gf_T (q : gQ) (r : Nat) : Nat → Int32 := if r = 0 then q.f else if r = 1 then q.kk else if r = 2 then q.ke else if r = 3 then q.ki else q.nu
def gf_C (u : gU) (a : Nat) : Nat → Int32 := if 174 ≤ a ∧ a ≤ 186 then u.kd (a - 174) else if a = 163 then u.c163 else if a = 164 then u.c164 else if a = 165 then u.c165 else if a = 166 then u.c166 else if a = 168 then u.c168 else if a = 169 then u.c169 else if a = 170 then u.c170 else if a = 171 then u.c171 else if a = 172 then u.c172 else if a = 187 then u.c187 else fun _ => 0
def gf_X (x : gX) (a : Nat) : Nat → Int32 := if a = 189 then (fun j => (x.R j).ty) else if a = 190 then (fun j => (x.R j).ct) else if a = 191 then (fun j => (x.R j).de) else if a = 193 then (fun j => (x.R (j / 8)).ke (j % 8)) else if a = 194 then (fun j => (x.R (j / 8)).kk (j % 8)) else if a = 195 then (fun j => (x.R (j / 8)).ki (j % 8)) else if a = 196 then (fun j => (x.R (j / 8)).nu (j % 8)) else if a = 188 then x.x188 else if a = 197 then x.x197 else if a = 198 then x.x198 else if a = 199 then x.x199 else if a = 200 then x.x200 else if a = 201 then x.x201 else if a = 202 then x.x202 else if a = 203 then x.x203 else if a = 204 then x.x204 else if a = 205 then x.x205 else if a = 206 then x.x206 else if a = 207 then x.x207 else if a = 208 then x.x208 else if a = 209 then x.x209 else if a = 210 then x.x210 else fun _ => 0
def gf_I (u : gU) (x : gX) (a : Nat) : Nat → Int32 := if a < 163 then (if a < 3 then (if a = 0 then u.c0 else if a = 1 then u.c1 else fun _ => 0) else gf_T (u.C ((a - 3) / 5)) ((a - 3) % 5)) else if a < 188 then gf_C u a else gf_X x a
def gf_J (u : gU) (x : gX) (o : Nat → Int64) (a : Nat) : Nat → Int64 := if a < 163 then (if a < 3 then fun _ => 0 else if (a - 3) % 5 = 0 then (u.C ((a - 3) / 5)).w else fun _ => 0) else if a = 167 then u.hw else if a = 192 then (fun j => (x.R j).st) else if a = 211 then o else fun _ => 0
def gH (u : gU) (x : gX) (o : Nat → Int64) (z : gx_H) : gx_H := gm_mk (gf_I u x) (gf_J u x o) z
theorem gf_up {I I2 : Nat → Nat → Int32} {a i : Nat} {v : Int32} (h1 : I2 a = gup (I a) i v) (h2 : ∀ b, ¬ b = a → I2 b = I b) : gm_up I a i v = I2 := by
  funext b j
  unfold gm_up
  by_cases hb : b = a
  · subst hb; rw [h1]; unfold gup; by_cases hj : j = i <;> simp [hj]
  · rw [h2 b hb]; simp [hb]
theorem gf_uj {I I2 : Nat → Nat → Int64} {a i : Nat} {v : Int64} (h1 : I2 a = gup (I a) i v) (h2 : ∀ b, ¬ b = a → I2 b = I b) : gm_uj I a i v = I2 := by
  funext b j
  unfold gm_uj
  by_cases hb : b = a
  · subst hb; rw [h1]; unfold gup; by_cases hj : j = i <;> simp [hj]
  · rw [h2 b hb]; simp [hb]
theorem gh_I {I I2 : Nat → Nat → Int32} {J J2 : Nat → Nat → Int64} {z : gx_H} (h1 : I = I2) (h2 : J = J2) : some (gm_mk I J z) = some (gm_mk I2 J2 z) := by rw [h1, h2]
section H
variable {u : gU} {x : gX} {o : Nat → Int64} {z : gx_H}
theorem gf_w0 {i : Nat} {v : Int32} : gm_up (gf_I u x) 0 i v = gf_I { u with c0 := gup u.c0 i v } x := by
  refine gf_up rfl ?_
  intro b hb
  unfold gf_I
  rw [if_neg hb, if_neg hb]
  rfl
theorem gf_v0 {r : Nat → Int32} : gf_J { u with c0 := r } x o = gf_J u x o := rfl
theorem gf_w1 {i : Nat} {v : Int32} : gm_up (gf_I u x) 1 i v = gf_I { u with c1 := gup u.c1 i v } x := by
  refine gf_up rfl ?_
  intro b hb
  unfold gf_I
  rw [if_neg hb, if_neg hb]
  rfl
theorem gf_v1 {r : Nat → Int32} : gf_J { u with c1 := r } x o = gf_J u x o := rfl
theorem gf_w163 {i : Nat} {v : Int32} : gm_up (gf_I u x) 163 i v = gf_I { u with c163 := gup u.c163 i v } x := by
  refine gf_up rfl ?_
  intro b hb
  unfold gf_I gf_C
  rw [if_neg hb, if_neg hb]
  rfl
theorem gf_v163 {r : Nat → Int32} : gf_J { u with c163 := r } x o = gf_J u x o := rfl
theorem gf_w164 {i : Nat} {v : Int32} : gm_up (gf_I u x) 164 i v = gf_I { u with c164 := gup u.c164 i v } x := by
  refine gf_up rfl ?_
  intro b hb
  unfold gf_I gf_C
  rw [if_neg hb, if_neg hb]
  rfl
theorem gf_v164 {r : Nat → Int32} : gf_J { u with c164 := r } x o = gf_J u x o := rfl
theorem gf_w165 {i : Nat} {v : Int32} : gm_up (gf_I u x) 165 i v = gf_I { u with c165 := gup u.c165 i v } x := by
  refine gf_up rfl ?_
  intro b hb
  unfold gf_I gf_C
  rw [if_neg hb, if_neg hb]
  rfl
theorem gf_v165 {r : Nat → Int32} : gf_J { u with c165 := r } x o = gf_J u x o := rfl
theorem gf_w166 {i : Nat} {v : Int32} : gm_up (gf_I u x) 166 i v = gf_I { u with c166 := gup u.c166 i v } x := by
  refine gf_up rfl ?_
  intro b hb
  unfold gf_I gf_C
  rw [if_neg hb, if_neg hb]
  rfl
theorem gf_v166 {r : Nat → Int32} : gf_J { u with c166 := r } x o = gf_J u x o := rfl
theorem gf_w168 {i : Nat} {v : Int32} : gm_up (gf_I u x) 168 i v = gf_I { u with c168 := gup u.c168 i v } x := by
  refine gf_up rfl ?_
  intro b hb
  unfold gf_I gf_C
  rw [if_neg hb, if_neg hb]
  rfl
theorem gf_v168 {r : Nat → Int32} : gf_J { u with c168 := r } x o = gf_J u x o := rfl
theorem gf_w169 {i : Nat} {v : Int32} : gm_up (gf_I u x) 169 i v = gf_I { u with c169 := gup u.c169 i v } x := by
  refine gf_up rfl ?_
  intro b hb
  unfold gf_I gf_C
  rw [if_neg hb, if_neg hb]
  rfl
theorem gf_v169 {r : Nat → Int32} : gf_J { u with c169 := r } x o = gf_J u x o := rfl
theorem gf_w170 {i : Nat} {v : Int32} : gm_up (gf_I u x) 170 i v = gf_I { u with c170 := gup u.c170 i v } x := by
  refine gf_up rfl ?_
  intro b hb
  unfold gf_I gf_C
  rw [if_neg hb, if_neg hb]
  rfl
theorem gf_v170 {r : Nat → Int32} : gf_J { u with c170 := r } x o = gf_J u x o := rfl
theorem gf_w171 {i : Nat} {v : Int32} : gm_up (gf_I u x) 171 i v = gf_I { u with c171 := gup u.c171 i v } x := by
  refine gf_up rfl ?_
  intro b hb
  unfold gf_I gf_C
  rw [if_neg hb, if_neg hb]
  rfl
theorem gf_v171 {r : Nat → Int32} : gf_J { u with c171 := r } x o = gf_J u x o := rfl
theorem gf_w172 {i : Nat} {v : Int32} : gm_up (gf_I u x) 172 i v = gf_I { u with c172 := gup u.c172 i v } x := by
  refine gf_up rfl ?_
  intro b hb
  unfold gf_I gf_C
  rw [if_neg hb, if_neg hb]
  rfl
theorem gf_v172 {r : Nat → Int32} : gf_J { u with c172 := r } x o = gf_J u x o := rfl
theorem gf_w187 {i : Nat} {v : Int32} : gm_up (gf_I u x) 187 i v = gf_I { u with c187 := gup u.c187 i v } x := by
  refine gf_up rfl ?_
  intro b hb
  unfold gf_I gf_C
  rw [if_neg hb, if_neg hb]
  rfl
theorem gf_v187 {r : Nat → Int32} : gf_J { u with c187 := r } x o = gf_J u x o := rfl
theorem gf_w188 {i : Nat} {v : Int32} : gm_up (gf_I u x) 188 i v = gf_I u { x with x188 := gup x.x188 i v } := by
  refine gf_up rfl ?_
  intro b hb
  unfold gf_I gf_X
  rw [if_neg hb, if_neg hb]
  rfl
theorem gf_v188 {r : Nat → Int32} : gf_J u { x with x188 := r } o = gf_J u x o := rfl
theorem gf_w197 {i : Nat} {v : Int32} : gm_up (gf_I u x) 197 i v = gf_I u { x with x197 := gup x.x197 i v } := by
  refine gf_up rfl ?_
  intro b hb
  unfold gf_I gf_X
  rw [if_neg hb, if_neg hb]
  rfl
theorem gf_v197 {r : Nat → Int32} : gf_J u { x with x197 := r } o = gf_J u x o := rfl
theorem gf_w198 {i : Nat} {v : Int32} : gm_up (gf_I u x) 198 i v = gf_I u { x with x198 := gup x.x198 i v } := by
  refine gf_up rfl ?_
  intro b hb
  unfold gf_I gf_X
  rw [if_neg hb, if_neg hb]
  rfl
theorem gf_v198 {r : Nat → Int32} : gf_J u { x with x198 := r } o = gf_J u x o := rfl
theorem gf_w199 {i : Nat} {v : Int32} : gm_up (gf_I u x) 199 i v = gf_I u { x with x199 := gup x.x199 i v } := by
  refine gf_up rfl ?_
  intro b hb
  unfold gf_I gf_X
  rw [if_neg hb, if_neg hb]
  rfl
theorem gf_v199 {r : Nat → Int32} : gf_J u { x with x199 := r } o = gf_J u x o := rfl
theorem gf_w200 {i : Nat} {v : Int32} : gm_up (gf_I u x) 200 i v = gf_I u { x with x200 := gup x.x200 i v } := by
  refine gf_up rfl ?_
  intro b hb
  unfold gf_I gf_X
  rw [if_neg hb, if_neg hb]
  rfl
theorem gf_v200 {r : Nat → Int32} : gf_J u { x with x200 := r } o = gf_J u x o := rfl
theorem gf_w201 {i : Nat} {v : Int32} : gm_up (gf_I u x) 201 i v = gf_I u { x with x201 := gup x.x201 i v } := by
  refine gf_up rfl ?_
  intro b hb
  unfold gf_I gf_X
  rw [if_neg hb, if_neg hb]
  rfl
theorem gf_v201 {r : Nat → Int32} : gf_J u { x with x201 := r } o = gf_J u x o := rfl
theorem gf_w202 {i : Nat} {v : Int32} : gm_up (gf_I u x) 202 i v = gf_I u { x with x202 := gup x.x202 i v } := by
  refine gf_up rfl ?_
  intro b hb
  unfold gf_I gf_X
  rw [if_neg hb, if_neg hb]
  rfl
theorem gf_v202 {r : Nat → Int32} : gf_J u { x with x202 := r } o = gf_J u x o := rfl
theorem gf_w203 {i : Nat} {v : Int32} : gm_up (gf_I u x) 203 i v = gf_I u { x with x203 := gup x.x203 i v } := by
  refine gf_up rfl ?_
  intro b hb
  unfold gf_I gf_X
  rw [if_neg hb, if_neg hb]
  rfl
theorem gf_v203 {r : Nat → Int32} : gf_J u { x with x203 := r } o = gf_J u x o := rfl
theorem gf_w204 {i : Nat} {v : Int32} : gm_up (gf_I u x) 204 i v = gf_I u { x with x204 := gup x.x204 i v } := by
  refine gf_up rfl ?_
  intro b hb
  unfold gf_I gf_X
  rw [if_neg hb, if_neg hb]
  rfl
theorem gf_v204 {r : Nat → Int32} : gf_J u { x with x204 := r } o = gf_J u x o := rfl
theorem gf_w205 {i : Nat} {v : Int32} : gm_up (gf_I u x) 205 i v = gf_I u { x with x205 := gup x.x205 i v } := by
  refine gf_up rfl ?_
  intro b hb
  unfold gf_I gf_X
  rw [if_neg hb, if_neg hb]
  rfl
theorem gf_v205 {r : Nat → Int32} : gf_J u { x with x205 := r } o = gf_J u x o := rfl
theorem gf_w206 {i : Nat} {v : Int32} : gm_up (gf_I u x) 206 i v = gf_I u { x with x206 := gup x.x206 i v } := by
  refine gf_up rfl ?_
  intro b hb
  unfold gf_I gf_X
  rw [if_neg hb, if_neg hb]
  rfl
theorem gf_v206 {r : Nat → Int32} : gf_J u { x with x206 := r } o = gf_J u x o := rfl
theorem gf_w207 {i : Nat} {v : Int32} : gm_up (gf_I u x) 207 i v = gf_I u { x with x207 := gup x.x207 i v } := by
  refine gf_up rfl ?_
  intro b hb
  unfold gf_I gf_X
  rw [if_neg hb, if_neg hb]
  rfl
theorem gf_v207 {r : Nat → Int32} : gf_J u { x with x207 := r } o = gf_J u x o := rfl
theorem gf_w208 {i : Nat} {v : Int32} : gm_up (gf_I u x) 208 i v = gf_I u { x with x208 := gup x.x208 i v } := by
  refine gf_up rfl ?_
  intro b hb
  unfold gf_I gf_X
  rw [if_neg hb, if_neg hb]
  rfl
theorem gf_v208 {r : Nat → Int32} : gf_J u { x with x208 := r } o = gf_J u x o := rfl
theorem gf_w209 {i : Nat} {v : Int32} : gm_up (gf_I u x) 209 i v = gf_I u { x with x209 := gup x.x209 i v } := by
  refine gf_up rfl ?_
  intro b hb
  unfold gf_I gf_X
  rw [if_neg hb, if_neg hb]
  rfl
theorem gf_v209 {r : Nat → Int32} : gf_J u { x with x209 := r } o = gf_J u x o := rfl
theorem gf_w210 {i : Nat} {v : Int32} : gm_up (gf_I u x) 210 i v = gf_I u { x with x210 := gup x.x210 i v } := by
  refine gf_up rfl ?_
  intro b hb
  unfold gf_I gf_X
  rw [if_neg hb, if_neg hb]
  rfl
theorem gf_v210 {r : Nat → Int32} : gf_J u { x with x210 := r } o = gf_J u x o := rfl
theorem gf_tI {k r : Nat} (h : k < 32) (hr : r < 5) : gf_I u x (3 + 5 * k + r) = gf_T (u.C k) r := by
  unfold gf_I
  rw [if_pos (by omega), if_neg (by omega), show (3 + 5 * k + r - 3) / 5 = k by omega, show (3 + 5 * k + r - 3) % 5 = r by omega]
theorem gf_tJ {k : Nat} (h : k < 32) : gf_J u x o (3 + 5 * k) = (u.C k).w := by
  unfold gf_J
  rw [if_pos (by omega), if_neg (by omega), if_pos (by omega), show (3 + 5 * k - 3) / 5 = k by omega]
theorem gf_tw {k r i : Nat} {v : Int32} {q : gQ} (h : k < 32) (hr : r < 5) (h1 : gf_T q r = gup (gf_T (u.C k) r) i v) (h2 : ∀ s, ¬ s = r → s < 5 → gf_T q s = gf_T (u.C k) s) : gm_up (gf_I u x) (3 + 5 * k + r) i v = gf_I { u with C := gup u.C k q } x := by
  refine gf_up ?_ ?_
  · rw [gf_tI h hr, gf_tI h hr]
    show gf_T (gup u.C k q k) r = _
    rw [gup_eq, h1]
  · intro b hb
    unfold gf_I
    by_cases c1 : b < 163
    · rw [if_pos c1, if_pos c1]
      by_cases c2 : b < 3
      · rw [if_pos c2, if_pos c2]
      · rw [if_neg c2, if_neg c2]
        show gf_T (gup u.C k q ((b - 3) / 5)) ((b - 3) % 5) = _
        by_cases c3 : (b - 3) / 5 = k
        · rw [c3, gup_eq, h2 _ (by omega) (by omega)]
        · rw [gup_ne c3]
    · rw [if_neg c1, if_neg c1]; rfl
theorem gf_tv {k : Nat} {q : gQ} (hq : q.w = (u.C k).w) : gf_J { u with C := gup u.C k q } x o = gf_J u x o := by
  funext b
  unfold gf_J
  by_cases c1 : b < 163
  · rw [if_pos c1, if_pos c1]
    by_cases c2 : b < 3
    · rw [if_pos c2, if_pos c2]
    · rw [if_neg c2, if_neg c2]
      by_cases c4 : (b - 3) % 5 = 0
      · rw [if_pos c4, if_pos c4]
        show (gup u.C k q ((b - 3) / 5)).w = _
        by_cases c3 : (b - 3) / 5 = k
        · rw [c3, gup_eq, hq]
        · rw [gup_ne c3]
      · rw [if_neg c4, if_neg c4]
  · rw [if_neg c1, if_neg c1]
theorem gf_tj {k i : Nat} {v : Int64} (h : k < 32) : gm_uj (gf_J u x o) (3 + 5 * k) i v = gf_J { u with C := gup u.C k { u.C k with w := gup (u.C k).w i v } } x o := by
  refine gf_uj ?_ ?_
  · rw [gf_tJ h, gf_tJ h]
    show (gup u.C k _ k).w = _
    rw [gup_eq]
  · intro b hb
    unfold gf_J
    by_cases c1 : b < 163
    · rw [if_pos c1, if_pos c1]
      by_cases c2 : b < 3
      · rw [if_pos c2, if_pos c2]
      · rw [if_neg c2, if_neg c2]
        by_cases c4 : (b - 3) % 5 = 0
        · rw [if_pos c4, if_pos c4]
          show (gup u.C k _ ((b - 3) / 5)).w = _
          rw [gup_ne (by omega)]
        · rw [if_neg c4, if_neg c4]
    · rw [if_neg c1, if_neg c1]
theorem gf_ti {k : Nat} {r : Nat → Int64} : gf_I { u with C := gup u.C k { u.C k with w := r } } x = gf_I u x := by
  funext b
  unfold gf_I
  by_cases c1 : b < 163
  · rw [if_pos c1, if_pos c1]
    by_cases c2 : b < 3
    · rw [if_pos c2, if_pos c2]
    · rw [if_neg c2, if_neg c2]
      show gf_T (gup u.C k _ ((b - 3) / 5)) ((b - 3) % 5) = _
      by_cases c3 : (b - 3) / 5 = k
      · rw [c3, gup_eq]; rfl
      · rw [gup_ne c3]
  · rw [if_neg c1, if_neg c1]; rfl
theorem gf_dI {d : Nat} (h : d < 13) : gf_I u x (174 + d) = u.kd d := by
  unfold gf_I gf_C
  rw [if_neg (by omega), if_pos (by omega), if_pos (by omega), show 174 + d - 174 = d by omega]
theorem gf_kd {k d n : Nat} (hk : k < 32) (h : d < 13) : gm_copy (gf_I u x) (3 + 5 * k + 2) (174 + d) 0 n = gf_I { u with kd := gup u.kd d (fun i => if i < n then (u.C k).ke i else u.kd d i) } x := by
  funext b j
  unfold gm_copy
  by_cases hb : b = 174 + d
  · subst hb
    rw [gf_dI h, gf_dI h, gf_tI hk (by omega)]
    show _ = gup u.kd d _ d j
    rw [gup_eq]
    by_cases hj : j < n
    · rw [if_pos ⟨rfl, by omega, hj⟩, if_pos hj]; rfl
    · rw [if_neg (fun q => hj q.2.2), if_neg hj]
  · rw [if_neg (fun q => hb q.1)]
    unfold gf_I gf_C
    by_cases c1 : b < 163
    · rw [if_pos c1, if_pos c1]
    · rw [if_neg c1, if_neg c1]
      by_cases c2 : b < 188
      · rw [if_pos c2, if_pos c2]
        by_cases c3 : 174 ≤ b ∧ b ≤ 186
        · rw [if_pos c3, if_pos c3]
          show _ = gup u.kd d _ (b - 174) j
          rw [gup_ne (by omega)]
        · rw [if_neg c3, if_neg c3]
      · rw [if_neg c2, if_neg c2]
theorem gf_bl {n : Nat} : gm_copy (gf_I u x) 171 164 0 n = gf_I { u with c164 := fun i => if i < n then u.c171 i else u.c164 i } x := by
  funext b j
  unfold gm_copy
  by_cases hb : b = 164
  · subst hb
    by_cases hj : j < n
    · rw [if_pos ⟨rfl, by omega, hj⟩]
      show u.c171 j = if j < n then u.c171 j else u.c164 j
      rw [if_pos hj]
    · rw [if_neg (fun q => hj q.2.2)]
      show u.c164 j = if j < n then u.c171 j else u.c164 j
      rw [if_neg hj]
  · rw [if_neg (fun q => hb q.1)]
    unfold gf_I gf_C
    rw [if_neg hb, if_neg hb]
    rfl
theorem gf_hw {i : Nat} {v : Int64} : gm_uj (gf_J u x o) 167 i v = gf_J { u with hw := gup u.hw i v } x o := by
  refine gf_uj rfl ?_
  intro b hb
  unfold gf_J
  rw [if_neg hb, if_neg hb]
theorem gf_oo {i : Nat} {v : Int64} : gm_uj (gf_J u x o) 211 i v = gf_J u x (gup o i v) := by
  refine gf_uj rfl ?_
  intro b hb
  unfold gf_J
  rw [if_neg hb, if_neg hb]
theorem gr_ty {q : gP} {k : Nat} (h : q.ty = (x.R k).ty) : (fun j => (gup x.R k q j).ty) = fun j => (x.R j).ty := by
  funext j
  by_cases c : j = k
  · subst c; rw [gup_eq, h]
  · rw [gup_ne c]
theorem gr_ct {q : gP} {k : Nat} (h : q.ct = (x.R k).ct) : (fun j => (gup x.R k q j).ct) = fun j => (x.R j).ct := by
  funext j
  by_cases c : j = k
  · subst c; rw [gup_eq, h]
  · rw [gup_ne c]
theorem gr_de {q : gP} {k : Nat} (h : q.de = (x.R k).de) : (fun j => (gup x.R k q j).de) = fun j => (x.R j).de := by
  funext j
  by_cases c : j = k
  · subst c; rw [gup_eq, h]
  · rw [gup_ne c]
theorem gr_ke {q : gP} {k : Nat} (h : q.ke = (x.R k).ke) : (fun j => (gup x.R k q (j / 8)).ke (j % 8)) = fun j => (x.R (j / 8)).ke (j % 8) := by
  funext j
  by_cases c : j / 8 = k
  · rw [c, gup_eq, h]
  · rw [gup_ne c]
theorem gr_kk {q : gP} {k : Nat} (h : q.kk = (x.R k).kk) : (fun j => (gup x.R k q (j / 8)).kk (j % 8)) = fun j => (x.R (j / 8)).kk (j % 8) := by
  funext j
  by_cases c : j / 8 = k
  · rw [c, gup_eq, h]
  · rw [gup_ne c]
theorem gr_ki {q : gP} {k : Nat} (h : q.ki = (x.R k).ki) : (fun j => (gup x.R k q (j / 8)).ki (j % 8)) = fun j => (x.R (j / 8)).ki (j % 8) := by
  funext j
  by_cases c : j / 8 = k
  · rw [c, gup_eq, h]
  · rw [gup_ne c]
theorem gr_nu {q : gP} {k : Nat} (h : q.nu = (x.R k).nu) : (fun j => (gup x.R k q (j / 8)).nu (j % 8)) = fun j => (x.R (j / 8)).nu (j % 8) := by
  funext j
  by_cases c : j / 8 = k
  · rw [c, gup_eq, h]
  · rw [gup_ne c]
theorem gr_st {q : gP} {k : Nat} (h : q.st = (x.R k).st) : gf_J u { x with R := gup x.R k q } o = gf_J u x o := by
  have e : (fun j => (gup x.R k q j).st) = fun j => (x.R j).st := by
    funext j
    by_cases c : j = k
    · subst c; rw [gup_eq, h]
    · rw [gup_ne c]
  funext b
  unfold gf_J
  dsimp only
  rw [e]
theorem gf_w189 {k : Nat} {v : Int32} : gm_up (gf_I u x) 189 k v = gf_I u { x with R := gup x.R k { x.R k with ty := v } } := by
  refine gf_up ?_ ?_
  · show (fun j => (gup x.R k _ j).ty) = gup (fun j => (x.R j).ty) k v
    funext j
    by_cases c : j = k
    · subst c; rw [gup_eq, gup_eq]
    · rw [gup_ne c, gup_ne c]
  · intro b hb
    unfold gf_I gf_X
    rw [if_neg hb, if_neg hb]
    dsimp only
    rw [gr_ct rfl, gr_de rfl, gr_ke rfl, gr_kk rfl, gr_ki rfl, gr_nu rfl]
theorem gf_v189 {k : Nat} {q : gP} (h : q.st = (x.R k).st) : gf_J u { x with R := gup x.R k q } o = gf_J u x o := gr_st h
theorem gf_w190 {k : Nat} {v : Int32} : gm_up (gf_I u x) 190 k v = gf_I u { x with R := gup x.R k { x.R k with ct := v } } := by
  refine gf_up ?_ ?_
  · show (fun j => (gup x.R k _ j).ct) = gup (fun j => (x.R j).ct) k v
    funext j
    by_cases c : j = k
    · subst c; rw [gup_eq, gup_eq]
    · rw [gup_ne c, gup_ne c]
  · intro b hb
    unfold gf_I gf_X
    rw [if_neg hb, if_neg hb]
    dsimp only
    rw [gr_ty rfl, gr_de rfl, gr_ke rfl, gr_kk rfl, gr_ki rfl, gr_nu rfl]
theorem gf_v190 {k : Nat} {q : gP} (h : q.st = (x.R k).st) : gf_J u { x with R := gup x.R k q } o = gf_J u x o := gr_st h
theorem gf_w191 {k : Nat} {v : Int32} : gm_up (gf_I u x) 191 k v = gf_I u { x with R := gup x.R k { x.R k with de := v } } := by
  refine gf_up ?_ ?_
  · show (fun j => (gup x.R k _ j).de) = gup (fun j => (x.R j).de) k v
    funext j
    by_cases c : j = k
    · subst c; rw [gup_eq, gup_eq]
    · rw [gup_ne c, gup_ne c]
  · intro b hb
    unfold gf_I gf_X
    rw [if_neg hb, if_neg hb]
    dsimp only
    rw [gr_ty rfl, gr_ct rfl, gr_ke rfl, gr_kk rfl, gr_ki rfl, gr_nu rfl]
theorem gf_v191 {k : Nat} {q : gP} (h : q.st = (x.R k).st) : gf_J u { x with R := gup x.R k q } o = gf_J u x o := gr_st h
theorem gf_w193 {k i : Nat} {v : Int32} (hi : i < 8) : gm_up (gf_I u x) 193 (8 * k + i) v = gf_I u { x with R := gup x.R k { x.R k with ke := gup (x.R k).ke i v } } := by
  refine gf_up ?_ ?_
  · show (fun j => (gup x.R k _ (j / 8)).ke (j % 8)) = gup (fun j => (x.R (j / 8)).ke (j % 8)) (8 * k + i) v
    funext j
    by_cases c : j = 8 * k + i
    · subst c; rw [gup_eq, show (8 * k + i) / 8 = k by omega, gup_eq, show (8 * k + i) % 8 = i by omega]; exact gup_eq
    · rw [gup_ne c]
      by_cases c2 : j / 8 = k
      · rw [c2, gup_eq]; exact gup_ne (by omega)
      · rw [gup_ne c2]
  · intro b hb
    unfold gf_I gf_X
    rw [if_neg hb, if_neg hb]
    dsimp only
    rw [gr_ty rfl, gr_ct rfl, gr_de rfl, gr_kk rfl, gr_ki rfl, gr_nu rfl]
theorem gf_v193 {k : Nat} {q : gP} (h : q.st = (x.R k).st) : gf_J u { x with R := gup x.R k q } o = gf_J u x o := gr_st h
theorem gf_w194 {k i : Nat} {v : Int32} (hi : i < 8) : gm_up (gf_I u x) 194 (8 * k + i) v = gf_I u { x with R := gup x.R k { x.R k with kk := gup (x.R k).kk i v } } := by
  refine gf_up ?_ ?_
  · show (fun j => (gup x.R k _ (j / 8)).kk (j % 8)) = gup (fun j => (x.R (j / 8)).kk (j % 8)) (8 * k + i) v
    funext j
    by_cases c : j = 8 * k + i
    · subst c; rw [gup_eq, show (8 * k + i) / 8 = k by omega, gup_eq, show (8 * k + i) % 8 = i by omega]; exact gup_eq
    · rw [gup_ne c]
      by_cases c2 : j / 8 = k
      · rw [c2, gup_eq]; exact gup_ne (by omega)
      · rw [gup_ne c2]
  · intro b hb
    unfold gf_I gf_X
    rw [if_neg hb, if_neg hb]
    dsimp only
    rw [gr_ty rfl, gr_ct rfl, gr_de rfl, gr_ke rfl, gr_ki rfl, gr_nu rfl]
theorem gf_v194 {k : Nat} {q : gP} (h : q.st = (x.R k).st) : gf_J u { x with R := gup x.R k q } o = gf_J u x o := gr_st h
theorem gf_w195 {k i : Nat} {v : Int32} (hi : i < 8) : gm_up (gf_I u x) 195 (8 * k + i) v = gf_I u { x with R := gup x.R k { x.R k with ki := gup (x.R k).ki i v } } := by
  refine gf_up ?_ ?_
  · show (fun j => (gup x.R k _ (j / 8)).ki (j % 8)) = gup (fun j => (x.R (j / 8)).ki (j % 8)) (8 * k + i) v
    funext j
    by_cases c : j = 8 * k + i
    · subst c; rw [gup_eq, show (8 * k + i) / 8 = k by omega, gup_eq, show (8 * k + i) % 8 = i by omega]; exact gup_eq
    · rw [gup_ne c]
      by_cases c2 : j / 8 = k
      · rw [c2, gup_eq]; exact gup_ne (by omega)
      · rw [gup_ne c2]
  · intro b hb
    unfold gf_I gf_X
    rw [if_neg hb, if_neg hb]
    dsimp only
    rw [gr_ty rfl, gr_ct rfl, gr_de rfl, gr_ke rfl, gr_kk rfl, gr_nu rfl]
theorem gf_v195 {k : Nat} {q : gP} (h : q.st = (x.R k).st) : gf_J u { x with R := gup x.R k q } o = gf_J u x o := gr_st h
theorem gf_w196 {k i : Nat} {v : Int32} (hi : i < 8) : gm_up (gf_I u x) 196 (8 * k + i) v = gf_I u { x with R := gup x.R k { x.R k with nu := gup (x.R k).nu i v } } := by
  refine gf_up ?_ ?_
  · show (fun j => (gup x.R k _ (j / 8)).nu (j % 8)) = gup (fun j => (x.R (j / 8)).nu (j % 8)) (8 * k + i) v
    funext j
    by_cases c : j = 8 * k + i
    · subst c; rw [gup_eq, show (8 * k + i) / 8 = k by omega, gup_eq, show (8 * k + i) % 8 = i by omega]; exact gup_eq
    · rw [gup_ne c]
      by_cases c2 : j / 8 = k
      · rw [c2, gup_eq]; exact gup_ne (by omega)
      · rw [gup_ne c2]
  · intro b hb
    unfold gf_I gf_X
    rw [if_neg hb, if_neg hb]
    dsimp only
    rw [gr_ty rfl, gr_ct rfl, gr_de rfl, gr_ke rfl, gr_kk rfl, gr_ki rfl]
theorem gf_v196 {k : Nat} {q : gP} (h : q.st = (x.R k).st) : gf_J u { x with R := gup x.R k q } o = gf_J u x o := gr_st h
theorem gf_ws {k : Nat} {v : Int64} : gm_uj (gf_J u x o) 192 k v = gf_J u { x with R := gup x.R k { x.R k with st := v } } o := by
  refine gf_uj ?_ ?_
  · show (fun j => (gup x.R k _ j).st) = gup (fun j => (x.R j).st) k v
    funext j
    by_cases c : j = k
    · subst c; rw [gup_eq, gup_eq]
    · rw [gup_ne c, gup_ne c]
  · intro b hb
    unfold gf_J
    rw [if_neg hb, if_neg hb]
theorem gf_wi {k : Nat} {v : Int64} : gf_I u { x with R := gup x.R k { x.R k with st := v } } = gf_I u x := by
  funext b
  unfold gf_I gf_X
  dsimp only
  rw [gr_ty rfl, gr_ct rfl, gr_de rfl, gr_ke rfl, gr_kk rfl, gr_ki rfl, gr_nu rfl]
theorem ho_0 : gv_is (gH u x o z) (some 0) 0 = some 0 := go_0
theorem hr_0_0 : gv_gR (gH u x o z) (some 0) 0 0 = some (some 1) := gr_0_0
theorem hr_0_1 : gv_gR (gH u x o z) (some 0) 0 1 = some (some 163) := gr_0_1
theorem hr_0_2 : gv_gR (gH u x o z) (some 0) 0 2 = some (some 165) := gr_0_2
theorem hr_0_3 : gv_gR (gH u x o z) (some 0) 0 3 = some (some 169) := gr_0_3
theorem hr_0_4 : gv_gR (gH u x o z) (some 0) 0 4 = some (some 187) := gr_0_4
theorem ho_1 : gv_is (gH u x o z) (some 1) 1 = some 1 := go_1
theorem hr_1_0 : gv_gR (gH u x o z) (some 1) 1 0 = some (some 2) := gr_1_0
theorem ho_163 : gv_is (gH u x o z) (some 163) 3 = some 163 := go_163
theorem hr_163_0 : gv_gR (gH u x o z) (some 163) 3 0 = some (some 164) := gr_163_0
theorem ho_165 : gv_is (gH u x o z) (some 165) 4 = some 165 := go_165
theorem hr_165_0 : gv_gR (gH u x o z) (some 165) 4 0 = some (some 166) := gr_165_0
theorem hr_165_2 : gv_gR (gH u x o z) (some 165) 4 2 = some (some 167) := gr_165_2
theorem hr_165_3 : gv_gR (gH u x o z) (some 165) 4 3 = some (some 168) := gr_165_3
theorem ho_169 : gv_is (gH u x o z) (some 169) 5 = some 169 := go_169
theorem hr_169_0 : gv_gR (gH u x o z) (some 169) 5 0 = some (some 170) := gr_169_0
theorem hr_169_1 : gv_gR (gH u x o z) (some 169) 5 1 = some (some 172) := gr_169_1
theorem hr_169_3 : gv_gR (gH u x o z) (some 169) 5 3 = some (some 173) := gr_169_3
theorem ho_170 : gv_is (gH u x o z) (some 170) 3 = some 170 := go_170
theorem hr_170_0 : gv_gR (gH u x o z) (some 170) 3 0 = some (some 171) := gr_170_0
theorem ho_187 : gv_is (gH u x o z) (some 187) 6 = some 187 := go_187
theorem ho_188 : gv_is (gH u x o z) (some 188) 7 = some 188 := go_188
theorem hr_188_2 : gv_gR (gH u x o z) (some 188) 7 2 = some (some 189) := gr_188_2
theorem hr_188_3 : gv_gR (gH u x o z) (some 188) 7 3 = some (some 190) := gr_188_3
theorem hr_188_4 : gv_gR (gH u x o z) (some 188) 7 4 = some (some 191) := gr_188_4
theorem hr_188_5 : gv_gR (gH u x o z) (some 188) 7 5 = some (some 192) := gr_188_5
theorem hr_188_6 : gv_gR (gH u x o z) (some 188) 7 6 = some (some 193) := gr_188_6
theorem hr_188_7 : gv_gR (gH u x o z) (some 188) 7 7 = some (some 194) := gr_188_7
theorem hr_188_8 : gv_gR (gH u x o z) (some 188) 7 8 = some (some 195) := gr_188_8
theorem hr_188_9 : gv_gR (gH u x o z) (some 188) 7 9 = some (some 196) := gr_188_9
theorem hr_188_11 : gv_gR (gH u x o z) (some 188) 7 11 = some (some 197) := gr_188_11
theorem hr_188_13 : gv_gR (gH u x o z) (some 188) 7 13 = some (some 198) := gr_188_13
theorem hr_188_14 : gv_gR (gH u x o z) (some 188) 7 14 = some (some 199) := gr_188_14
theorem hr_188_16 : gv_gR (gH u x o z) (some 188) 7 16 = some (some 200) := gr_188_16
theorem hr_188_19 : gv_gR (gH u x o z) (some 188) 7 19 = some (some 201) := gr_188_19
theorem hr_188_20 : gv_gR (gH u x o z) (some 188) 7 20 = some (some 202) := gr_188_20
theorem hr_188_21 : gv_gR (gH u x o z) (some 188) 7 21 = some (some 203) := gr_188_21
theorem hr_188_22 : gv_gR (gH u x o z) (some 188) 7 22 = some (some 204) := gr_188_22
theorem hr_188_23 : gv_gR (gH u x o z) (some 188) 7 23 = some (some 205) := gr_188_23
theorem hr_188_24 : gv_gR (gH u x o z) (some 188) 7 24 = some (some 206) := gr_188_24
theorem hr_188_25 : gv_gR (gH u x o z) (some 188) 7 25 = some (some 207) := gr_188_25
theorem hr_188_28 : gv_gR (gH u x o z) (some 188) 7 28 = some (some 208) := gr_188_28
theorem hr_188_30 : gv_gR (gH u x o z) (some 188) 7 30 = some (some 209) := gr_188_30
theorem hr_188_34 : gv_gR (gH u x o z) (some 188) 7 34 = some (some 210) := gr_188_34
theorem hi_0_5 : gv_gI (gH u x o z) (some 0) 0 5 = some (u.c0 5) := gi_0_5
theorem hp_0_5 {v : Int32} : gv_pV (gH u x o z) (some 0) 0 5 (.int v) = some (gH { u with c0 := gup u.c0 5 v } x o z) := by
  unfold gH
  rw [gp_0_5, gf_w0]
  rfl
theorem hi_1_1 : gv_gI (gH u x o z) (some 1) 1 1 = some (u.c1 1) := gi_1_1
theorem hp_1_1 {v : Int32} : gv_pV (gH u x o z) (some 1) 1 1 (.int v) = some (gH { u with c1 := gup u.c1 1 v } x o z) := by
  unfold gH
  rw [gp_1_1, gf_w1]
  rfl
theorem hi_163_1 : gv_gI (gH u x o z) (some 163) 3 1 = some (u.c163 1) := gi_163_1
theorem hp_163_1 {v : Int32} : gv_pV (gH u x o z) (some 163) 3 1 (.int v) = some (gH { u with c163 := gup u.c163 1 v } x o z) := by
  unfold gH
  rw [gp_163_1, gf_w163]
  rfl
theorem hi_165_1 : gv_gI (gH u x o z) (some 165) 4 1 = some (u.c165 1) := gi_165_1
theorem hp_165_1 {v : Int32} : gv_pV (gH u x o z) (some 165) 4 1 (.int v) = some (gH { u with c165 := gup u.c165 1 v } x o z) := by
  unfold gH
  rw [gp_165_1, gf_w165]
  rfl
theorem hi_165_4 : gv_gI (gH u x o z) (some 165) 4 4 = some (u.c165 4) := gi_165_4
theorem hp_165_4 {v : Int32} : gv_pV (gH u x o z) (some 165) 4 4 (.int v) = some (gH { u with c165 := gup u.c165 4 v } x o z) := by
  unfold gH
  rw [gp_165_4, gf_w165]
  rfl
theorem hi_169_2 : gv_gI (gH u x o z) (some 169) 5 2 = some (u.c169 2) := gi_169_2
theorem hp_169_2 {v : Int32} : gv_pV (gH u x o z) (some 169) 5 2 (.int v) = some (gH { u with c169 := gup u.c169 2 v } x o z) := by
  unfold gH
  rw [gp_169_2, gf_w169]
  rfl
theorem hi_169_4 : gv_gI (gH u x o z) (some 169) 5 4 = some (u.c169 4) := gi_169_4
theorem hp_169_4 {v : Int32} : gv_pV (gH u x o z) (some 169) 5 4 (.int v) = some (gH { u with c169 := gup u.c169 4 v } x o z) := by
  unfold gH
  rw [gp_169_4, gf_w169]
  rfl
theorem hi_170_1 : gv_gI (gH u x o z) (some 170) 3 1 = some (u.c170 1) := gi_170_1
theorem hp_170_1 {v : Int32} : gv_pV (gH u x o z) (some 170) 3 1 (.int v) = some (gH { u with c170 := gup u.c170 1 v } x o z) := by
  unfold gH
  rw [gp_170_1, gf_w170]
  rfl
theorem hi_187_0 : gv_gI (gH u x o z) (some 187) 6 0 = some (u.c187 0) := gi_187_0
theorem hp_187_0 {v : Int32} : gv_pV (gH u x o z) (some 187) 6 0 (.int v) = some (gH { u with c187 := gup u.c187 0 v } x o z) := by
  unfold gH
  rw [gp_187_0, gf_w187]
  rfl
theorem hi_187_1 : gv_gI (gH u x o z) (some 187) 6 1 = some (u.c187 1) := gi_187_1
theorem hp_187_1 {v : Int32} : gv_pV (gH u x o z) (some 187) 6 1 (.int v) = some (gH { u with c187 := gup u.c187 1 v } x o z) := by
  unfold gH
  rw [gp_187_1, gf_w187]
  rfl
theorem hi_187_2 : gv_gI (gH u x o z) (some 187) 6 2 = some (u.c187 2) := gi_187_2
theorem hp_187_2 {v : Int32} : gv_pV (gH u x o z) (some 187) 6 2 (.int v) = some (gH { u with c187 := gup u.c187 2 v } x o z) := by
  unfold gH
  rw [gp_187_2, gf_w187]
  rfl
theorem hi_187_3 : gv_gI (gH u x o z) (some 187) 6 3 = some (u.c187 3) := gi_187_3
theorem hp_187_3 {v : Int32} : gv_pV (gH u x o z) (some 187) 6 3 (.int v) = some (gH { u with c187 := gup u.c187 3 v } x o z) := by
  unfold gH
  rw [gp_187_3, gf_w187]
  rfl
theorem hi_187_4 : gv_gI (gH u x o z) (some 187) 6 4 = some (u.c187 4) := gi_187_4
theorem hp_187_4 {v : Int32} : gv_pV (gH u x o z) (some 187) 6 4 (.int v) = some (gH { u with c187 := gup u.c187 4 v } x o z) := by
  unfold gH
  rw [gp_187_4, gf_w187]
  rfl
theorem hi_187_5 : gv_gI (gH u x o z) (some 187) 6 5 = some (u.c187 5) := gi_187_5
theorem hp_187_5 {v : Int32} : gv_pV (gH u x o z) (some 187) 6 5 (.int v) = some (gH { u with c187 := gup u.c187 5 v } x o z) := by
  unfold gH
  rw [gp_187_5, gf_w187]
  rfl
theorem hi_187_6 : gv_gI (gH u x o z) (some 187) 6 6 = some (u.c187 6) := gi_187_6
theorem hp_187_6 {v : Int32} : gv_pV (gH u x o z) (some 187) 6 6 (.int v) = some (gH { u with c187 := gup u.c187 6 v } x o z) := by
  unfold gH
  rw [gp_187_6, gf_w187]
  rfl
theorem hi_188_0 : gv_gI (gH u x o z) (some 188) 7 0 = some (x.x188 0) := gi_188_0
theorem hp_188_0 {v : Int32} : gv_pV (gH u x o z) (some 188) 7 0 (.int v) = some (gH u { x with x188 := gup x.x188 0 v } o z) := by
  unfold gH
  rw [gp_188_0, gf_w188]
  rfl
theorem hi_188_1 : gv_gI (gH u x o z) (some 188) 7 1 = some (x.x188 1) := gi_188_1
theorem hp_188_1 {v : Int32} : gv_pV (gH u x o z) (some 188) 7 1 (.int v) = some (gH u { x with x188 := gup x.x188 1 v } o z) := by
  unfold gH
  rw [gp_188_1, gf_w188]
  rfl
theorem hi_188_10 : gv_gI (gH u x o z) (some 188) 7 10 = some (x.x188 10) := gi_188_10
theorem hp_188_10 {v : Int32} : gv_pV (gH u x o z) (some 188) 7 10 (.int v) = some (gH u { x with x188 := gup x.x188 10 v } o z) := by
  unfold gH
  rw [gp_188_10, gf_w188]
  rfl
theorem hi_188_12 : gv_gI (gH u x o z) (some 188) 7 12 = some (x.x188 12) := gi_188_12
theorem hp_188_12 {v : Int32} : gv_pV (gH u x o z) (some 188) 7 12 (.int v) = some (gH u { x with x188 := gup x.x188 12 v } o z) := by
  unfold gH
  rw [gp_188_12, gf_w188]
  rfl
theorem hi_188_15 : gv_gI (gH u x o z) (some 188) 7 15 = some (x.x188 15) := gi_188_15
theorem hp_188_15 {v : Int32} : gv_pV (gH u x o z) (some 188) 7 15 (.int v) = some (gH u { x with x188 := gup x.x188 15 v } o z) := by
  unfold gH
  rw [gp_188_15, gf_w188]
  rfl
theorem hi_188_17 : gv_gI (gH u x o z) (some 188) 7 17 = some (x.x188 17) := gi_188_17
theorem hp_188_17 {v : Int32} : gv_pV (gH u x o z) (some 188) 7 17 (.int v) = some (gH u { x with x188 := gup x.x188 17 v } o z) := by
  unfold gH
  rw [gp_188_17, gf_w188]
  rfl
theorem hi_188_18 : gv_gI (gH u x o z) (some 188) 7 18 = some (x.x188 18) := gi_188_18
theorem hp_188_18 {v : Int32} : gv_pV (gH u x o z) (some 188) 7 18 (.int v) = some (gH u { x with x188 := gup x.x188 18 v } o z) := by
  unfold gH
  rw [gp_188_18, gf_w188]
  rfl
theorem hi_188_26 : gv_gI (gH u x o z) (some 188) 7 26 = some (x.x188 26) := gi_188_26
theorem hp_188_26 {v : Int32} : gv_pV (gH u x o z) (some 188) 7 26 (.int v) = some (gH u { x with x188 := gup x.x188 26 v } o z) := by
  unfold gH
  rw [gp_188_26, gf_w188]
  rfl
theorem hi_188_27 : gv_gI (gH u x o z) (some 188) 7 27 = some (x.x188 27) := gi_188_27
theorem hp_188_27 {v : Int32} : gv_pV (gH u x o z) (some 188) 7 27 (.int v) = some (gH u { x with x188 := gup x.x188 27 v } o z) := by
  unfold gH
  rw [gp_188_27, gf_w188]
  rfl
theorem hi_188_29 : gv_gI (gH u x o z) (some 188) 7 29 = some (x.x188 29) := gi_188_29
theorem hp_188_29 {v : Int32} : gv_pV (gH u x o z) (some 188) 7 29 (.int v) = some (gH u { x with x188 := gup x.x188 29 v } o z) := by
  unfold gH
  rw [gp_188_29, gf_w188]
  rfl
theorem hi_188_31 : gv_gI (gH u x o z) (some 188) 7 31 = some (x.x188 31) := gi_188_31
theorem hp_188_31 {v : Int32} : gv_pV (gH u x o z) (some 188) 7 31 (.int v) = some (gH u { x with x188 := gup x.x188 31 v } o z) := by
  unfold gH
  rw [gp_188_31, gf_w188]
  rfl
theorem hi_188_32 : gv_gI (gH u x o z) (some 188) 7 32 = some (x.x188 32) := gi_188_32
theorem hp_188_32 {v : Int32} : gv_pV (gH u x o z) (some 188) 7 32 (.int v) = some (gH u { x with x188 := gup x.x188 32 v } o z) := by
  unfold gH
  rw [gp_188_32, gf_w188]
  rfl
theorem hi_188_33 : gv_gI (gH u x o z) (some 188) 7 33 = some (x.x188 33) := gi_188_33
theorem hp_188_33 {v : Int32} : gv_pV (gH u x o z) (some 188) 7 33 (.int v) = some (gH u { x with x188 := gup x.x188 33 v } o z) := by
  unfold gH
  rw [gp_188_33, gf_w188]
  rfl
theorem hi_188_35 : gv_gI (gH u x o z) (some 188) 7 35 = some (x.x188 35) := gi_188_35
theorem hp_188_35 {v : Int32} : gv_pV (gH u x o z) (some 188) 7 35 (.int v) = some (gH u { x with x188 := gup x.x188 35 v } o z) := by
  unfold gH
  rw [gp_188_35, gf_w188]
  rfl
theorem hi_188_36 : gv_gI (gH u x o z) (some 188) 7 36 = some (x.x188 36) := gi_188_36
theorem hp_188_36 {v : Int32} : gv_pV (gH u x o z) (some 188) 7 36 (.int v) = some (gH u { x with x188 := gup x.x188 36 v } o z) := by
  unfold gH
  rw [gp_188_36, gf_w188]
  rfl
theorem ha_164 {i : Nat} (h : i < 300) : gv_lI (gH u x o z) (some 164) (Int32.ofNat i) = some (u.c164 i) := by
  unfold gH
  rw [ga_164 (n_nn (by omega)) (by rw [n_cl (by omega)]; omega), n_cl (by omega)]
  rfl
theorem hb_164 {i : Nat} {v : Int32} (h : i < 300) : gv_wI (gH u x o z) (some 164) (Int32.ofNat i) v = some (gH { u with c164 := gup u.c164 i v } x o z) := by
  unfold gH
  rw [gb_164 (n_nn (by omega)) (by rw [n_cl (by omega)]; omega), n_cl (by omega), gf_w164]
  rfl
theorem ha_166 {i : Nat} (h : i < 4) : gv_lI (gH u x o z) (some 166) (Int32.ofNat i) = some (u.c166 i) := by
  unfold gH
  rw [ga_166 (n_nn (by omega)) (by rw [n_cl (by omega)]; omega), n_cl (by omega)]
  rfl
theorem hb_166 {i : Nat} {v : Int32} (h : i < 4) : gv_wI (gH u x o z) (some 166) (Int32.ofNat i) v = some (gH { u with c166 := gup u.c166 i v } x o z) := by
  unfold gH
  rw [gb_166 (n_nn (by omega)) (by rw [n_cl (by omega)]; omega), n_cl (by omega), gf_w166]
  rfl
theorem ha_167 {i : Nat} (h : i < 4) : gv_lJ (gH u x o z) (some 167) (Int32.ofNat i) = some (u.hw i) := by
  unfold gH
  rw [ga_167 (n_nn (by omega)) (by rw [n_cl (by omega)]; omega), n_cl (by omega)]
  rfl
theorem hb_167 {i : Nat} {v : Int64} (h : i < 4) : gv_wJ (gH u x o z) (some 167) (Int32.ofNat i) v = some (gH { u with hw := gup u.hw i v } x o z) := by
  unfold gH
  rw [gb_167 (n_nn (by omega)) (by rw [n_cl (by omega)]; omega), n_cl (by omega), gf_hw]
  rfl
theorem ha_168 {i : Nat} (h : i < 4) : gv_lI (gH u x o z) (some 168) (Int32.ofNat i) = some (u.c168 i) := by
  unfold gH
  rw [ga_168 (n_nn (by omega)) (by rw [n_cl (by omega)]; omega), n_cl (by omega)]
  rfl
theorem hb_168 {i : Nat} {v : Int32} (h : i < 4) : gv_wI (gH u x o z) (some 168) (Int32.ofNat i) v = some (gH { u with c168 := gup u.c168 i v } x o z) := by
  unfold gH
  rw [gb_168 (n_nn (by omega)) (by rw [n_cl (by omega)]; omega), n_cl (by omega), gf_w168]
  rfl
theorem ha_171 {i : Nat} (h : i < 300) : gv_lI (gH u x o z) (some 171) (Int32.ofNat i) = some (u.c171 i) := by
  unfold gH
  rw [ga_171 (n_nn (by omega)) (by rw [n_cl (by omega)]; omega), n_cl (by omega)]
  rfl
theorem hb_171 {i : Nat} {v : Int32} (h : i < 300) : gv_wI (gH u x o z) (some 171) (Int32.ofNat i) v = some (gH { u with c171 := gup u.c171 i v } x o z) := by
  unfold gH
  rw [gb_171 (n_nn (by omega)) (by rw [n_cl (by omega)]; omega), n_cl (by omega), gf_w171]
  rfl
theorem ha_172 {i : Nat} (h : i < 32) : gv_lI (gH u x o z) (some 172) (Int32.ofNat i) = some (u.c172 i) := by
  unfold gH
  rw [ga_172 (n_nn (by omega)) (by rw [n_cl (by omega)]; omega), n_cl (by omega)]
  rfl
theorem hb_172 {i : Nat} {v : Int32} (h : i < 32) : gv_wI (gH u x o z) (some 172) (Int32.ofNat i) v = some (gH { u with c172 := gup u.c172 i v } x o z) := by
  unfold gH
  rw [gb_172 (n_nn (by omega)) (by rw [n_cl (by omega)]; omega), n_cl (by omega), gf_w172]
  rfl
theorem ha_189 {k : Nat} (h : k < 32) : gv_lI (gH u x o z) (some 189) (Int32.ofNat k) = some (x.R k).ty := by
  unfold gH
  rw [ga_189 (n_nn (by omega)) (by rw [n_cl (by omega)]; omega), n_cl (by omega)]
  rfl
theorem hb_189 {k : Nat} {v : Int32} (h : k < 32) : gv_wI (gH u x o z) (some 189) (Int32.ofNat k) v = some (gH u { x with R := gup x.R k { x.R k with ty := v } } o z) := by
  unfold gH
  rw [gb_189 (n_nn (by omega)) (by rw [n_cl (by omega)]; omega), n_cl (by omega), gf_w189, gf_v189 rfl]
theorem ha_190 {k : Nat} (h : k < 32) : gv_lI (gH u x o z) (some 190) (Int32.ofNat k) = some (x.R k).ct := by
  unfold gH
  rw [ga_190 (n_nn (by omega)) (by rw [n_cl (by omega)]; omega), n_cl (by omega)]
  rfl
theorem hb_190 {k : Nat} {v : Int32} (h : k < 32) : gv_wI (gH u x o z) (some 190) (Int32.ofNat k) v = some (gH u { x with R := gup x.R k { x.R k with ct := v } } o z) := by
  unfold gH
  rw [gb_190 (n_nn (by omega)) (by rw [n_cl (by omega)]; omega), n_cl (by omega), gf_w190, gf_v190 rfl]
theorem ha_191 {k : Nat} (h : k < 32) : gv_lZ (gH u x o z) (some 191) (Int32.ofNat k) = some (x.R k).de := by
  unfold gH
  rw [ga_191 (n_nn (by omega)) (by rw [n_cl (by omega)]; omega), n_cl (by omega)]
  rfl
theorem hb_191 {k : Nat} {v : Int32} (h : k < 32) : gv_wZ (gH u x o z) (some 191) (Int32.ofNat k) v = some (gH u { x with R := gup x.R k { x.R k with de := (v &&& 1) } } o z) := by
  unfold gH
  rw [gb_191 (n_nn (by omega)) (by rw [n_cl (by omega)]; omega), n_cl (by omega), gf_w191, gf_v191 rfl]
theorem ha_192 {k : Nat} (h : k < 32) : gv_lJ (gH u x o z) (some 192) (Int32.ofNat k) = some (x.R k).st := by
  unfold gH
  rw [ga_192 (n_nn (by omega)) (by rw [n_cl (by omega)]; omega), n_cl (by omega)]
  rfl
theorem hb_192 {k : Nat} {v : Int64} (h : k < 32) : gv_wJ (gH u x o z) (some 192) (Int32.ofNat k) v = some (gH u { x with R := gup x.R k { x.R k with st := v } } o z) := by
  unfold gH
  rw [gb_192 (n_nn (by omega)) (by rw [n_cl (by omega)]; omega), n_cl (by omega), gf_ws, gf_wi]
theorem ha_193 {k i : Nat} (h : k < 32) (hi : i < 8) : gv_lI (gH u x o z) (some 193) (Int32.ofNat (8 * k + i)) = some ((x.R k).ke i) := by
  unfold gH
  rw [ga_193 (n_nn (by omega)) (by rw [n_cl (by omega)]; omega), n_cl (by omega)]
  show some ((x.R ((8 * k + i) / 8)).ke ((8 * k + i) % 8)) = _
  rw [show (8 * k + i) / 8 = k by omega, show (8 * k + i) % 8 = i by omega]
theorem hb_193 {k i : Nat} {v : Int32} (h : k < 32) (hi : i < 8) : gv_wI (gH u x o z) (some 193) (Int32.ofNat (8 * k + i)) v = some (gH u { x with R := gup x.R k { x.R k with ke := gup (x.R k).ke i v } } o z) := by
  unfold gH
  rw [gb_193 (n_nn (by omega)) (by rw [n_cl (by omega)]; omega), n_cl (by omega), gf_w193 hi, gf_v193 rfl]
theorem ha_194 {k i : Nat} (h : k < 32) (hi : i < 8) : gv_lI (gH u x o z) (some 194) (Int32.ofNat (8 * k + i)) = some ((x.R k).kk i) := by
  unfold gH
  rw [ga_194 (n_nn (by omega)) (by rw [n_cl (by omega)]; omega), n_cl (by omega)]
  show some ((x.R ((8 * k + i) / 8)).kk ((8 * k + i) % 8)) = _
  rw [show (8 * k + i) / 8 = k by omega, show (8 * k + i) % 8 = i by omega]
theorem hb_194 {k i : Nat} {v : Int32} (h : k < 32) (hi : i < 8) : gv_wI (gH u x o z) (some 194) (Int32.ofNat (8 * k + i)) v = some (gH u { x with R := gup x.R k { x.R k with kk := gup (x.R k).kk i v } } o z) := by
  unfold gH
  rw [gb_194 (n_nn (by omega)) (by rw [n_cl (by omega)]; omega), n_cl (by omega), gf_w194 hi, gf_v194 rfl]
theorem ha_195 {k i : Nat} (h : k < 32) (hi : i < 8) : gv_lI (gH u x o z) (some 195) (Int32.ofNat (8 * k + i)) = some ((x.R k).ki i) := by
  unfold gH
  rw [ga_195 (n_nn (by omega)) (by rw [n_cl (by omega)]; omega), n_cl (by omega)]
  show some ((x.R ((8 * k + i) / 8)).ki ((8 * k + i) % 8)) = _
  rw [show (8 * k + i) / 8 = k by omega, show (8 * k + i) % 8 = i by omega]
theorem hb_195 {k i : Nat} {v : Int32} (h : k < 32) (hi : i < 8) : gv_wI (gH u x o z) (some 195) (Int32.ofNat (8 * k + i)) v = some (gH u { x with R := gup x.R k { x.R k with ki := gup (x.R k).ki i v } } o z) := by
  unfold gH
  rw [gb_195 (n_nn (by omega)) (by rw [n_cl (by omega)]; omega), n_cl (by omega), gf_w195 hi, gf_v195 rfl]
theorem ha_196 {k i : Nat} (h : k < 32) (hi : i < 8) : gv_lI (gH u x o z) (some 196) (Int32.ofNat (8 * k + i)) = some ((x.R k).nu i) := by
  unfold gH
  rw [ga_196 (n_nn (by omega)) (by rw [n_cl (by omega)]; omega), n_cl (by omega)]
  show some ((x.R ((8 * k + i) / 8)).nu ((8 * k + i) % 8)) = _
  rw [show (8 * k + i) / 8 = k by omega, show (8 * k + i) % 8 = i by omega]
theorem hb_196 {k i : Nat} {v : Int32} (h : k < 32) (hi : i < 8) : gv_wI (gH u x o z) (some 196) (Int32.ofNat (8 * k + i)) v = some (gH u { x with R := gup x.R k { x.R k with nu := gup (x.R k).nu i v } } o z) := by
  unfold gH
  rw [gb_196 (n_nn (by omega)) (by rw [n_cl (by omega)]; omega), n_cl (by omega), gf_w196 hi, gf_v196 rfl]
theorem ha_197 {i : Nat} (h : i < 4) : gv_lI (gH u x o z) (some 197) (Int32.ofNat i) = some (x.x197 i) := by
  unfold gH
  rw [ga_197 (n_nn (by omega)) (by rw [n_cl (by omega)]; omega), n_cl (by omega)]
  rfl
theorem hb_197 {i : Nat} {v : Int32} (h : i < 4) : gv_wI (gH u x o z) (some 197) (Int32.ofNat i) v = some (gH u { x with x197 := gup x.x197 i v } o z) := by
  unfold gH
  rw [gb_197 (n_nn (by omega)) (by rw [n_cl (by omega)]; omega), n_cl (by omega), gf_w197]
  rfl
theorem ha_198 {i : Nat} (h : i < 4) : gv_lI (gH u x o z) (some 198) (Int32.ofNat i) = some (x.x198 i) := by
  unfold gH
  rw [ga_198 (n_nn (by omega)) (by rw [n_cl (by omega)]; omega), n_cl (by omega)]
  rfl
theorem hb_198 {i : Nat} {v : Int32} (h : i < 4) : gv_wI (gH u x o z) (some 198) (Int32.ofNat i) v = some (gH u { x with x198 := gup x.x198 i v } o z) := by
  unfold gH
  rw [gb_198 (n_nn (by omega)) (by rw [n_cl (by omega)]; omega), n_cl (by omega), gf_w198]
  rfl
theorem ha_199 {i : Nat} (h : i < 32) : gv_lI (gH u x o z) (some 199) (Int32.ofNat i) = some (x.x199 i) := by
  unfold gH
  rw [ga_199 (n_nn (by omega)) (by rw [n_cl (by omega)]; omega), n_cl (by omega)]
  rfl
theorem hb_199 {i : Nat} {v : Int32} (h : i < 32) : gv_wI (gH u x o z) (some 199) (Int32.ofNat i) v = some (gH u { x with x199 := gup x.x199 i v } o z) := by
  unfold gH
  rw [gb_199 (n_nn (by omega)) (by rw [n_cl (by omega)]; omega), n_cl (by omega), gf_w199]
  rfl
theorem ha_200 {i : Nat} (h : i < 300) : gv_lI (gH u x o z) (some 200) (Int32.ofNat i) = some (x.x200 i) := by
  unfold gH
  rw [ga_200 (n_nn (by omega)) (by rw [n_cl (by omega)]; omega), n_cl (by omega)]
  rfl
theorem hb_200 {i : Nat} {v : Int32} (h : i < 300) : gv_wI (gH u x o z) (some 200) (Int32.ofNat i) v = some (gH u { x with x200 := gup x.x200 i v } o z) := by
  unfold gH
  rw [gb_200 (n_nn (by omega)) (by rw [n_cl (by omega)]; omega), n_cl (by omega), gf_w200]
  rfl
theorem ha_201 {i : Nat} (h : i < 14) : gv_lI (gH u x o z) (some 201) (Int32.ofNat i) = some (x.x201 i) := by
  unfold gH
  rw [ga_201 (n_nn (by omega)) (by rw [n_cl (by omega)]; omega), n_cl (by omega)]
  rfl
theorem hb_201 {i : Nat} {v : Int32} (h : i < 14) : gv_wI (gH u x o z) (some 201) (Int32.ofNat i) v = some (gH u { x with x201 := gup x.x201 i v } o z) := by
  unfold gH
  rw [gb_201 (n_nn (by omega)) (by rw [n_cl (by omega)]; omega), n_cl (by omega), gf_w201]
  rfl
theorem ha_202 {i : Nat} (h : i < 14) : gv_lI (gH u x o z) (some 202) (Int32.ofNat i) = some (x.x202 i) := by
  unfold gH
  rw [ga_202 (n_nn (by omega)) (by rw [n_cl (by omega)]; omega), n_cl (by omega)]
  rfl
theorem hb_202 {i : Nat} {v : Int32} (h : i < 14) : gv_wI (gH u x o z) (some 202) (Int32.ofNat i) v = some (gH u { x with x202 := gup x.x202 i v } o z) := by
  unfold gH
  rw [gb_202 (n_nn (by omega)) (by rw [n_cl (by omega)]; omega), n_cl (by omega), gf_w202]
  rfl
theorem ha_203 {i : Nat} (h : i < 14) : gv_lI (gH u x o z) (some 203) (Int32.ofNat i) = some (x.x203 i) := by
  unfold gH
  rw [ga_203 (n_nn (by omega)) (by rw [n_cl (by omega)]; omega), n_cl (by omega)]
  rfl
theorem hb_203 {i : Nat} {v : Int32} (h : i < 14) : gv_wI (gH u x o z) (some 203) (Int32.ofNat i) v = some (gH u { x with x203 := gup x.x203 i v } o z) := by
  unfold gH
  rw [gb_203 (n_nn (by omega)) (by rw [n_cl (by omega)]; omega), n_cl (by omega), gf_w203]
  rfl
theorem ha_204 {i : Nat} (h : i < 84) : gv_lI (gH u x o z) (some 204) (Int32.ofNat i) = some (x.x204 i) := by
  unfold gH
  rw [ga_204 (n_nn (by omega)) (by rw [n_cl (by omega)]; omega), n_cl (by omega)]
  rfl
theorem hb_204 {i : Nat} {v : Int32} (h : i < 84) : gv_wI (gH u x o z) (some 204) (Int32.ofNat i) v = some (gH u { x with x204 := gup x.x204 i v } o z) := by
  unfold gH
  rw [gb_204 (n_nn (by omega)) (by rw [n_cl (by omega)]; omega), n_cl (by omega), gf_w204]
  rfl
theorem ha_205 {i : Nat} (h : i < 14) : gv_lI (gH u x o z) (some 205) (Int32.ofNat i) = some (x.x205 i) := by
  unfold gH
  rw [ga_205 (n_nn (by omega)) (by rw [n_cl (by omega)]; omega), n_cl (by omega)]
  rfl
theorem hb_205 {i : Nat} {v : Int32} (h : i < 14) : gv_wI (gH u x o z) (some 205) (Int32.ofNat i) v = some (gH u { x with x205 := gup x.x205 i v } o z) := by
  unfold gH
  rw [gb_205 (n_nn (by omega)) (by rw [n_cl (by omega)]; omega), n_cl (by omega), gf_w205]
  rfl
theorem ha_206 {i : Nat} (h : i < 14) : gv_lI (gH u x o z) (some 206) (Int32.ofNat i) = some (x.x206 i) := by
  unfold gH
  rw [ga_206 (n_nn (by omega)) (by rw [n_cl (by omega)]; omega), n_cl (by omega)]
  rfl
theorem hb_206 {i : Nat} {v : Int32} (h : i < 14) : gv_wI (gH u x o z) (some 206) (Int32.ofNat i) v = some (gH u { x with x206 := gup x.x206 i v } o z) := by
  unfold gH
  rw [gb_206 (n_nn (by omega)) (by rw [n_cl (by omega)]; omega), n_cl (by omega), gf_w206]
  rfl
theorem ha_207 {i : Nat} (h : i < 14) : gv_lI (gH u x o z) (some 207) (Int32.ofNat i) = some (x.x207 i) := by
  unfold gH
  rw [ga_207 (n_nn (by omega)) (by rw [n_cl (by omega)]; omega), n_cl (by omega)]
  rfl
theorem hb_207 {i : Nat} {v : Int32} (h : i < 14) : gv_wI (gH u x o z) (some 207) (Int32.ofNat i) v = some (gH u { x with x207 := gup x.x207 i v } o z) := by
  unfold gH
  rw [gb_207 (n_nn (by omega)) (by rw [n_cl (by omega)]; omega), n_cl (by omega), gf_w207]
  rfl
theorem ha_208 {i : Nat} (h : i < 300) : gv_lI (gH u x o z) (some 208) (Int32.ofNat i) = some (x.x208 i) := by
  unfold gH
  rw [ga_208 (n_nn (by omega)) (by rw [n_cl (by omega)]; omega), n_cl (by omega)]
  rfl
theorem hb_208 {i : Nat} {v : Int32} (h : i < 300) : gv_wI (gH u x o z) (some 208) (Int32.ofNat i) v = some (gH u { x with x208 := gup x.x208 i v } o z) := by
  unfold gH
  rw [gb_208 (n_nn (by omega)) (by rw [n_cl (by omega)]; omega), n_cl (by omega), gf_w208]
  rfl
theorem ha_209 {i : Nat} (h : i < 32) : gv_lI (gH u x o z) (some 209) (Int32.ofNat i) = some (x.x209 i) := by
  unfold gH
  rw [ga_209 (n_nn (by omega)) (by rw [n_cl (by omega)]; omega), n_cl (by omega)]
  rfl
theorem hb_209 {i : Nat} {v : Int32} (h : i < 32) : gv_wI (gH u x o z) (some 209) (Int32.ofNat i) v = some (gH u { x with x209 := gup x.x209 i v } o z) := by
  unfold gH
  rw [gb_209 (n_nn (by omega)) (by rw [n_cl (by omega)]; omega), n_cl (by omega), gf_w209]
  rfl
theorem ha_210 {i : Nat} (h : i < 32) : gv_lI (gH u x o z) (some 210) (Int32.ofNat i) = some (x.x210 i) := by
  unfold gH
  rw [ga_210 (n_nn (by omega)) (by rw [n_cl (by omega)]; omega), n_cl (by omega)]
  rfl
theorem hb_210 {i : Nat} {v : Int32} (h : i < 32) : gv_wI (gH u x o z) (some 210) (Int32.ofNat i) v = some (gH u { x with x210 := gup x.x210 i v } o z) := by
  unfold gH
  rw [gb_210 (n_nn (by omega)) (by rw [n_cl (by omega)]; omega), n_cl (by omega), gf_w210]
  rfl
theorem ha_211 {i : Nat} (h : i < 1) : gv_lJ (gH u x o z) (some 211) (Int32.ofNat i) = some (o i) := by
  unfold gH
  rw [ga_211 (n_nn (by omega)) (by rw [n_cl (by omega)]; omega), n_cl (by omega)]
  rfl
theorem hb_211 {i : Nat} {v : Int64} (h : i < 1) : gv_wJ (gH u x o z) (some 211) (Int32.ofNat i) v = some (gH u x (gup o i v) z) := by
  unfold gH
  rw [gb_211 (n_nn (by omega)) (by rw [n_cl (by omega)]; omega), n_cl (by omega), gf_oo]
  rfl
theorem ho_T {k : Nat} (h : k < 32) : gv_is (gH u x o z) (some (3 + 5 * k)) 2 = some (3 + 5 * k) := go_T h
theorem hT {k : Nat} (h : k < 32) : gv_lT (gH u x o z) (some 2) (Int32.ofNat k) = some (some (3 + 5 * k)) := by
  unfold gH
  rw [gT (n_nn (by omega)) (by rw [n_cl (by omega)]; exact h), n_cl (by omega)]
theorem hrT_0 {k : Nat} (h : k < 32) : gv_gR (gH u x o z) (some (3 + 5 * k)) 2 0 = some (some (3 + 5 * k + 1)) := grT_0 h
theorem hrT_1 {k : Nat} (h : k < 32) : gv_gR (gH u x o z) (some (3 + 5 * k)) 2 1 = some (some (3 + 5 * k + 2)) := grT_1 h
theorem hrT_2 {k : Nat} (h : k < 32) : gv_gR (gH u x o z) (some (3 + 5 * k)) 2 2 = some (some (3 + 5 * k + 3)) := grT_2 h
theorem hrT_3 {k : Nat} (h : k < 32) : gv_gR (gH u x o z) (some (3 + 5 * k)) 2 3 = some (some (3 + 5 * k + 4)) := grT_3 h
theorem hiT_4 {k : Nat} (h : k < 32) : gv_gI (gH u x o z) (some (3 + 5 * k)) 2 4 = some ((u.C k).f 4) := by
  unfold gH
  rw [giT_4 h, show 3 + 5 * k = 3 + 5 * k + 0 by omega, gf_tI h (by omega)]
  rfl
theorem hpT_4 {k : Nat} {v : Int32} (h : k < 32) : gv_pV (gH u x o z) (some (3 + 5 * k)) 2 4 (.int v) = some (gH { u with C := gup u.C k { u.C k with f := gup (u.C k).f 4 v } } x o z) := by
  unfold gH
  rw [gpT_4 h]
  refine gh_I ?_ ?_
  · refine gf_tw (r := 0) h (by omega) rfl ?_
    intro s hs _
    unfold gf_T
    rw [if_neg hs, if_neg hs]
  · exact (gf_tv rfl).symm
theorem hiT_5 {k : Nat} (h : k < 32) : gv_gI (gH u x o z) (some (3 + 5 * k)) 2 5 = some ((u.C k).f 5) := by
  unfold gH
  rw [giT_5 h, show 3 + 5 * k = 3 + 5 * k + 0 by omega, gf_tI h (by omega)]
  rfl
theorem hpT_5 {k : Nat} {v : Int32} (h : k < 32) : gv_pV (gH u x o z) (some (3 + 5 * k)) 2 5 (.int v) = some (gH { u with C := gup u.C k { u.C k with f := gup (u.C k).f 5 v } } x o z) := by
  unfold gH
  rw [gpT_5 h]
  refine gh_I ?_ ?_
  · refine gf_tw (r := 0) h (by omega) rfl ?_
    intro s hs _
    unfold gf_T
    rw [if_neg hs, if_neg hs]
  · exact (gf_tv rfl).symm
theorem hiT_6 {k : Nat} (h : k < 32) : gv_gI (gH u x o z) (some (3 + 5 * k)) 2 6 = some ((u.C k).f 6) := by
  unfold gH
  rw [giT_6 h, show 3 + 5 * k = 3 + 5 * k + 0 by omega, gf_tI h (by omega)]
  rfl
theorem hpT_6 {k : Nat} {v : Int32} (h : k < 32) : gv_pV (gH u x o z) (some (3 + 5 * k)) 2 6 (.int v) = some (gH { u with C := gup u.C k { u.C k with f := gup (u.C k).f 6 v } } x o z) := by
  unfold gH
  rw [gpT_6 h]
  refine gh_I ?_ ?_
  · refine gf_tw (r := 0) h (by omega) rfl ?_
    intro s hs _
    unfold gf_T
    rw [if_neg hs, if_neg hs]
  · exact (gf_tv rfl).symm
theorem hiT_7 {k : Nat} (h : k < 32) : gv_gI (gH u x o z) (some (3 + 5 * k)) 2 7 = some ((u.C k).f 7) := by
  unfold gH
  rw [giT_7 h, show 3 + 5 * k = 3 + 5 * k + 0 by omega, gf_tI h (by omega)]
  rfl
theorem hpT_7 {k : Nat} {v : Int32} (h : k < 32) : gv_pV (gH u x o z) (some (3 + 5 * k)) 2 7 (.int v) = some (gH { u with C := gup u.C k { u.C k with f := gup (u.C k).f 7 v } } x o z) := by
  unfold gH
  rw [gpT_7 h]
  refine gh_I ?_ ?_
  · refine gf_tw (r := 0) h (by omega) rfl ?_
    intro s hs _
    unfold gf_T
    rw [if_neg hs, if_neg hs]
  · exact (gf_tv rfl).symm
theorem hiT_8 {k : Nat} (h : k < 32) : gv_gI (gH u x o z) (some (3 + 5 * k)) 2 8 = some ((u.C k).f 8) := by
  unfold gH
  rw [giT_8 h, show 3 + 5 * k = 3 + 5 * k + 0 by omega, gf_tI h (by omega)]
  rfl
theorem hpT_8 {k : Nat} {v : Int32} (h : k < 32) : gv_pV (gH u x o z) (some (3 + 5 * k)) 2 8 (.int v) = some (gH { u with C := gup u.C k { u.C k with f := gup (u.C k).f 8 v } } x o z) := by
  unfold gH
  rw [gpT_8 h]
  refine gh_I ?_ ?_
  · refine gf_tw (r := 0) h (by omega) rfl ?_
    intro s hs _
    unfold gf_T
    rw [if_neg hs, if_neg hs]
  · exact (gf_tv rfl).symm
theorem hiT_9 {k : Nat} (h : k < 32) : gv_gI (gH u x o z) (some (3 + 5 * k)) 2 9 = some ((u.C k).f 9) := by
  unfold gH
  rw [giT_9 h, show 3 + 5 * k = 3 + 5 * k + 0 by omega, gf_tI h (by omega)]
  rfl
theorem hpT_9 {k : Nat} {v : Int32} (h : k < 32) : gv_pV (gH u x o z) (some (3 + 5 * k)) 2 9 (.int v) = some (gH { u with C := gup u.C k { u.C k with f := gup (u.C k).f 9 v } } x o z) := by
  unfold gH
  rw [gpT_9 h]
  refine gh_I ?_ ?_
  · refine gf_tw (r := 0) h (by omega) rfl ?_
    intro s hs _
    unfold gf_T
    rw [if_neg hs, if_neg hs]
  · exact (gf_tv rfl).symm
theorem hjT_10 {k : Nat} (h : k < 32) : gv_gJ (gH u x o z) (some (3 + 5 * k)) 2 10 = some ((u.C k).w 10) := by
  unfold gH
  rw [gjT_10 h, gf_tJ h]
theorem hqT_10 {k : Nat} {v : Int64} (h : k < 32) : gv_pV (gH u x o z) (some (3 + 5 * k)) 2 10 (.long v) = some (gH { u with C := gup u.C k { u.C k with w := gup (u.C k).w 10 v } } x o z) := by
  unfold gH
  rw [gqT_10 h, gf_tj h]
  exact gh_I gf_ti.symm rfl
theorem haT_1 {k i : Nat} (h : k < 32) (hi : i < 8) : gv_lI (gH u x o z) (some (3 + 5 * k + 1)) (Int32.ofNat i) = some ((u.C k).kk i) := by
  unfold gH
  rw [gaT h (by omega) (by omega) (n_nn (by omega)) (by rw [n_cl (by omega)]; exact hi), n_cl (by omega), gf_tI h (by omega)]
  rfl
theorem hbT_1 {k i : Nat} {v : Int32} (h : k < 32) (hi : i < 8) : gv_wI (gH u x o z) (some (3 + 5 * k + 1)) (Int32.ofNat i) v = some (gH { u with C := gup u.C k { u.C k with kk := gup (u.C k).kk i v } } x o z) := by
  unfold gH
  rw [gbT h (by omega) (by omega) (n_nn (by omega)) (by rw [n_cl (by omega)]; exact hi), n_cl (by omega)]
  refine gh_I ?_ ?_
  · refine gf_tw (r := 1) h (by omega) rfl ?_
    intro s hs _
    unfold gf_T
    rw [if_neg hs, if_neg hs]
  · exact (gf_tv rfl).symm
theorem haT_2 {k i : Nat} (h : k < 32) (hi : i < 8) : gv_lI (gH u x o z) (some (3 + 5 * k + 2)) (Int32.ofNat i) = some ((u.C k).ke i) := by
  unfold gH
  rw [gaT h (by omega) (by omega) (n_nn (by omega)) (by rw [n_cl (by omega)]; exact hi), n_cl (by omega), gf_tI h (by omega)]
  rfl
theorem hbT_2 {k i : Nat} {v : Int32} (h : k < 32) (hi : i < 8) : gv_wI (gH u x o z) (some (3 + 5 * k + 2)) (Int32.ofNat i) v = some (gH { u with C := gup u.C k { u.C k with ke := gup (u.C k).ke i v } } x o z) := by
  unfold gH
  rw [gbT h (by omega) (by omega) (n_nn (by omega)) (by rw [n_cl (by omega)]; exact hi), n_cl (by omega)]
  refine gh_I ?_ ?_
  · refine gf_tw (r := 2) h (by omega) rfl ?_
    intro s hs _
    unfold gf_T
    rw [if_neg hs, if_neg hs]
  · exact (gf_tv rfl).symm
theorem haT_3 {k i : Nat} (h : k < 32) (hi : i < 8) : gv_lI (gH u x o z) (some (3 + 5 * k + 3)) (Int32.ofNat i) = some ((u.C k).ki i) := by
  unfold gH
  rw [gaT h (by omega) (by omega) (n_nn (by omega)) (by rw [n_cl (by omega)]; exact hi), n_cl (by omega), gf_tI h (by omega)]
  rfl
theorem hbT_3 {k i : Nat} {v : Int32} (h : k < 32) (hi : i < 8) : gv_wI (gH u x o z) (some (3 + 5 * k + 3)) (Int32.ofNat i) v = some (gH { u with C := gup u.C k { u.C k with ki := gup (u.C k).ki i v } } x o z) := by
  unfold gH
  rw [gbT h (by omega) (by omega) (n_nn (by omega)) (by rw [n_cl (by omega)]; exact hi), n_cl (by omega)]
  refine gh_I ?_ ?_
  · refine gf_tw (r := 3) h (by omega) rfl ?_
    intro s hs _
    unfold gf_T
    rw [if_neg hs, if_neg hs]
  · exact (gf_tv rfl).symm
theorem haT_4 {k i : Nat} (h : k < 32) (hi : i < 8) : gv_lI (gH u x o z) (some (3 + 5 * k + 4)) (Int32.ofNat i) = some ((u.C k).nu i) := by
  unfold gH
  rw [gaT h (by omega) (by omega) (n_nn (by omega)) (by rw [n_cl (by omega)]; exact hi), n_cl (by omega), gf_tI h (by omega)]
  rfl
theorem hbT_4 {k i : Nat} {v : Int32} (h : k < 32) (hi : i < 8) : gv_wI (gH u x o z) (some (3 + 5 * k + 4)) (Int32.ofNat i) v = some (gH { u with C := gup u.C k { u.C k with nu := gup (u.C k).nu i v } } x o z) := by
  unfold gH
  rw [gbT h (by omega) (by omega) (n_nn (by omega)) (by rw [n_cl (by omega)]; exact hi), n_cl (by omega)]
  refine gh_I ?_ ?_
  · refine gf_tw (r := 4) h (by omega) rfl ?_
    intro s hs _
    unfold gf_T
    rw [if_neg hs, if_neg hs]
  · exact (gf_tv rfl).symm
theorem hl : (gH u x o z).length = 212 + z.length := gm_len
theorem hthr (e : gx_C) : gH u x o z ++ [e] = gH u x o (z ++ [e]) := gm_thr e
theorem hexc {e : Nat} : (gH u x o (z ++ [(e, [])]))[212 + z.length]? = some (e, []) := gm_exc
end H
