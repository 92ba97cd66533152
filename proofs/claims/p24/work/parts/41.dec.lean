section
/-! what the small machine does from a place on, told by what is known of its locals -/
def gv_u : Option Nat → Value
  | none => .null
  | some a => .ref a
def gv_r : Value → Option (Option Nat)
  | .ref a => some (some a)
  | .null => some none
  | _ => none
theorem gv_r_e {v : Value} {x : Option Nat} (h : gv_r v = some x) : v = gv_u x := by
  unfold gv_r at h; split at h <;> cases h <;> rfl
theorem gv_u_cat (x : Option Nat) : (gv_u x).category = 1 := by cases x <;> rfl
theorem gv_u_ref (x : Option Nat) : (gv_u x).isRef = true := by cases x <;> rfl
/-- more fuel, more depth, or a script where there was none, and the run is the same -/
theorem gx_q_up {xs : Option (List Int32)} {o : Nat} {h : gx_H} {ins : Instr} {pc : Nat} {L : gx_L} {st : List Value} {q : Nat × gx_L × List Value} (e : gx_q none o h ins pc L st = some q) : gx_q xs o h ins pc L st = some q := by
  by_cases c1 : ins = .iaload
  · subst c1
    unfold gx_q at e ⊢
    dsimp only at e ⊢
    split at e
    · exact e
    · cases hs : gx_sc st <;> simp [hs] at e
  · by_cases c2 : ins = .arraylength
    · subst c2
      unfold gx_q at e ⊢
      dsimp only at e ⊢
      split at e <;> simp at e
    · cases ins <;> first | exact e | exact absurd rfl c1 | exact absurd rfl c2
theorem gx_q_no {xs : Option (List Int32)} {o : Nat} {h : gx_H} {ins : Instr} {pc : Nat} {L : gx_L} {st : List Value} {q : Nat × gx_L × List Value} (e : gx_q none o h ins pc L st = none) (e2 : gx_q xs o h ins pc L st = some q) : ins = .iaload ∨ ins = .arraylength := by
  cases ins <;> first | exact Or.inl rfl | exact Or.inr rfl | skip
  all_goals (have e3 := e.symm.trans e2; cases e3)
set_option maxHeartbeats 4000000 in
theorem gv_up (xs : Option (List Int32)) {xs0 : Option (List Int32)} (hx : xs0 = xs ∨ xs0 = none) : ∀ (n n' d d' j pc : Nat) (L : gx_L) (st : List Value) (h : gx_H) (k u : Nat) (r : Outcome × gx_H × Nat × Nat), n ≤ n' → d ≤ d' → gx_run xs0 n d j pc L st h k u = some r → gx_run xs n' d' j pc L st h k u = some r := by
  intro n
  induction n with
  | zero => intro n' d d' j pc L st h k u r _ _ e; cases e
  | succ n ih =>
    intro n' d d' j pc L st h k u r hn hd e
    obtain ⟨n', rfl⟩ : ∃ m, n' = m + 1 := ⟨n' - 1, by omega⟩
    have hn : n ≤ n' := by omega
    rw [gx_run] at e ⊢
    cases hI : gx_I j pc with
    | none => simp only [hI] at e; cases e
    | some ins =>
    simp only [hI] at e ⊢
    cases hp : gx_p (gx_mo j) (gx_nl j) ins pc L st with
    | some q => simp only [hp] at e ⊢; exact ih _ _ _ _ _ _ _ _ _ _ _ hn hd e
    | none =>
    simp only [hp] at e ⊢
    cases hq : gx_q xs0 (gx_mo j) h ins pc L st with
    | some q =>
      have hq2 : gx_q xs (gx_mo j) h ins pc L st = some q := by
        rcases hx with rfl | rfl
        · exact hq
        · exact gx_q_up hq
      simp only [hq] at e
      simp only [hq2]
      exact ih _ _ _ _ _ _ _ _ _ _ _ hn hd e
    | none =>
    simp only [hq] at e
    have hq2 : gx_q xs (gx_mo j) h ins pc L st = none := by
      rcases hx with rfl | rfl
      · exact hq
      · cases hq3 : gx_q xs (gx_mo j) h ins pc L st with
        | none => rfl
        | some q =>
          exfalso
          rcases gx_q_no hq hq3 with rfl | rfl
          · cases d <;> cases e
          · cases d <;> cases e
    simp only [hq2]
    cases hw : gx_w (gx_mo j) (gx_in j) h ins pc st with
    | some q => simp only [hw] at e ⊢; exact ih _ _ _ _ _ _ _ _ _ _ _ hn hd e
    | none =>
    simp only [hw] at e ⊢
    cases hnn : gx_n (gx_mo j) h ins pc st with
    | some q => simp only [hnn] at e ⊢; exact ih _ _ _ _ _ _ _ _ _ _ _ hn hd e
    | none =>
    simp only [hnn] at e ⊢
    cases hmu : gx_mu (gx_mo j) h ins pc st with
    | some q => simp only [hmu] at e ⊢; exact ih _ _ _ _ _ _ _ _ _ _ _ hn hd e
    | none =>
    simp only [hmu] at e ⊢
    cases he : gx_e j ins st with
    | some q => simp only [he] at e ⊢; exact e
    | none =>
    simp only [he] at e ⊢
    cases hbi : gx_bi (gx_mo j) h ins pc st with
    | some q => simp only [hbi] at e ⊢; exact ih _ _ _ _ _ _ _ _ _ _ _ hn hd e
    | none =>
    simp only [hbi] at e ⊢
    cases hth : gx_th j pc ins st with
    | some q => simp only [hth] at e ⊢; exact e
    | none =>
    simp only [hth] at e ⊢
    cases hc : gx_c (gx_mo j) h ins st with
    | none => simp only [hc] at e; cases d <;> cases e
    | some q =>
    cases d with
    | zero => simp only [hc] at e; cases e
    | succ d =>
    obtain ⟨d', rfl⟩ : ∃ m, d' = m + 1 := ⟨d' - 1, by omega⟩
    have hd' : d ≤ d' := by omega
    simp only [hc] at e ⊢
    split at e
    · rename_i hcond
      rw [if_pos hcond]
      cases hr : gx_run xs0 n d q.1 0 (lv_args 0 q.2.1) [] h 0 0 with
      | none => simp only [hr] at e; cases e
      | some r1 =>
        have hr2 := ih n' d d' _ _ _ _ _ _ _ _ hn hd' hr
        simp only [hr] at e
        simp only [hr2]
        obtain ⟨oc, h1, kc, uc⟩ := r1
        cases oc with
        | returned v => exact ih _ _ _ _ _ _ _ _ _ _ _ hn hd e
        | threw x =>
          cases hcat : gx_cat j pc h1 x with
          | none => simp only [hcat] at e; cases e
          | some z =>
            cases z with
            | none => simp only [hcat] at e ⊢; exact e
            | some pc2 => simp only [hcat] at e ⊢; exact ih _ _ _ _ _ _ _ _ _ _ _ hn hd e
    · cases e
def gv_S (E L : gx_L) : Prop := ∀ i v, E.lookup i = some v → L.lookup i = some v
def gv_V (xs : Option (List Int32)) (D j pc : Nat) (E : gx_L) (st : List Value) (h : gx_H) (o : Outcome) (h' : gx_H) : Prop :=
  h.length ≤ h'.length ∧ ∀ L : gx_L, gv_S E L → ∃ n, ∀ d, D ≤ d → ∀ k u, gx_run xs n d j pc L st h k u = some (o, h', k + (h'.length - h.length), u + 6 * (h'.length - h.length))
theorem gv_S0 {L : gx_L} : gv_S [] L := fun i v e => by cases e
theorem gv_S1 {E L : gx_L} {i : Nat} {v : Value} (h1 : L.lookup i = some v) (h2 : gv_S E L) : gv_S ((i, v) :: E) L := fun m w e => by
  rw [List.lookup_cons] at e
  split at e
  · rename_i q
    have q : m = i := by simpa using q
    cases e; rw [q]; exact h1
  · exact h2 m w e
theorem gv_Sr {L : gx_L} : gv_S L L := fun _ _ e => e
/-- no long lies just below local i -/
def gv_C (E : gx_L) (i : Nat) : Prop := ∀ m v, m + 1 = i → E.lookup m = some v → v.category = 1
theorem gv_C0 {E : gx_L} : gv_C E 0 := fun m v e => by omega
theorem gv_Cn {E : gx_L} {m : Nat} (h : E.lookup m = none) : gv_C E (m + 1) := fun m' v e e2 => by
  obtain rfl : m' = m := by omega
  rw [h] at e2; cases e2
theorem gv_Ci {E : gx_L} {m : Nat} {x : Int32} (h : E.lookup m = some (.int x)) : gv_C E (m + 1) := fun m' v e e2 => by
  obtain rfl : m' = m := by omega
  rw [h] at e2; cases e2; rfl
theorem gv_Cr {E : gx_L} {m : Nat} {x : Option Nat} (h : E.lookup m = some (gv_u x)) : gv_C E (m + 1) := fun m' v e e2 => by
  obtain rfl : m' = m := by omega
  rw [h] at e2; cases e2; exact gv_u_cat x
theorem gv_Cf {E : gx_L} {m : Nat} {x : UInt32} (h : E.lookup m = some (.float x)) : gv_C E (m + 1) := fun m' v e e2 => by
  obtain rfl : m' = m := by omega
  rw [h] at e2; cases e2; rfl
theorem gv_filter {L : gx_L} {m : Nat} {w : Value} {f : Nat × Value → Bool} (h : L.lookup m = some w) (hf : f (m, w) = true) : (L.filter f).lookup m = some w := by
  induction L with
  | nil => cases h
  | cons q r ih =>
    obtain ⟨a, v⟩ := q
    rw [List.lookup_cons] at h
    split at h
    · rename_i e
      have e : m = a := by simpa using e
      cases h; subst e
      rw [List.filter_cons, if_pos hf, List.lookup_cons]; simp
    · rename_i e
      rw [List.filter_cons]
      split
      · rw [List.lookup_cons]; simp only [e]; exact ih h
      · exact ih h
theorem gv_S_s1 {E L : gx_L} {i : Nat} {v : Value} (hL : gv_S E L) (hc : gv_C E i) : gv_S ((i, v) :: E) (gx_s1 L i v) := fun m w e => by
  rw [List.lookup_cons] at e
  unfold gx_s1
  rw [List.lookup_cons]
  split at e
  · exact e
  · rename_i q
    refine gv_filter (hL m w e) ?_
    have q : ¬ m = i := by simpa using q
    by_cases h2 : m + 1 = i
    · have := hc m w h2 e
      simp [q, this]
    · simp [q, h2]
theorem gv_S_s2 {E L : gx_L} {i : Nat} {v : Value} (hL : gv_S E L) (hc : gv_C E i) (hn : E.lookup (i + 1) = none) : gv_S ((i, v) :: E) (gx_s2 L i v) := fun m w e => by
  rw [List.lookup_cons] at e
  unfold gx_s2
  rw [List.lookup_cons]
  split at e
  · exact e
  · rename_i q
    refine gv_filter (hL m w e) ?_
    have q : ¬ m = i := by simpa using q
    have q2 : ¬ m = i + 1 := fun h => by rw [h, hn] at e; cases e
    by_cases h2 : m + 1 = i
    · have := hc m w h2 e
      simp [q, q2, this]
    · simp [q, q2, h2]
/-- the room that arguments take, and where they lie -/
def gv_z (A : List Value) (n : Nat) : Prop := (lg_sl A).length = n
theorem gv_z0 : gv_z [] 0 := rfl
theorem gv_zI {A : List Value} {n : Nat} {x : Int32} (h : gv_z A n) : gv_z (.int x :: A) (n + 1) := by unfold gv_z at *; rw [← h]; simp [lg_sl, Value.category]
theorem gv_zJ {A : List Value} {n : Nat} {x : Int64} (h : gv_z A n) : gv_z (.long x :: A) (n + 2) := by unfold gv_z at *; rw [← h]; simp [lg_sl, Value.category]
theorem gv_zR {A : List Value} {n : Nat} {x : Option Nat} (h : gv_z A n) : gv_z (gv_u x :: A) (n + 1) := by unfold gv_z at *; rw [← h]; cases x <;> simp [lg_sl, gv_u, Value.category]
def gv_a (i : Nat) (A : List Value) (E : gx_L) : Prop := lv_args i A = E
theorem gv_a0 {i : Nat} : gv_a i [] [] := rfl
theorem gv_aI {i : Nat} {A : List Value} {E : gx_L} {x : Int32} (h : gv_a (i + 1) A E) : gv_a i (.int x :: A) ((i, .int x) :: E) := by unfold gv_a at *; rw [← h]; rfl
theorem gv_aJ {i : Nat} {A : List Value} {E : gx_L} {x : Int64} (h : gv_a (i + 2) A E) : gv_a i (.long x :: A) ((i, .long x) :: E) := by unfold gv_a at *; rw [← h]; rfl
theorem gv_aR {i : Nat} {A : List Value} {E : gx_L} {x : Option Nat} (h : gv_a (i + 1) A E) : gv_a i (gv_u x :: A) ((i, gv_u x) :: E) := by unfold gv_a at *; rw [← h]; cases x <;> rfl
theorem gv_cat2 (v : Value) : v.category ≤ 2 := by cases v <;> simp [Value.category]
theorem gv_lt {a b : Nat} (h : Nat.blt a b = true) : a < b := Nat.le_of_ble_eq_true h
theorem gv_sum (r : List Value) (h : Nat.ble r.length 4 = true) : (r.map fun v => v.category).sum ≤ 8 := by
  have h : r.length ≤ 4 := Nat.le_of_ble_eq_true h
  have : ∀ r : List Value, (r.map fun v => v.category).sum ≤ 2 * r.length := fun r => by
    induction r with
    | nil => simp
    | cons v r ih => have := gv_cat2 v; simp only [List.map_cons, List.sum_cons, List.length_cons]; omega
  have := this r
  omega
/-! reading and writing, typed -/
def gv_gV (h : gx_H) (x : Option Nat) (c i : Nat) : Option Value := x.bind fun a => (gx_ob h a c).bind fun fs => fs[i]?
def gv_gI (h : gx_H) (x : Option Nat) (c i : Nat) : Option Int32 := (gv_gV h x c i).bind gx_i1
def gv_gJ (h : gx_H) (x : Option Nat) (c i : Nat) : Option Int64 := (gv_gV h x c i).bind gx_l1
def gv_gR (h : gx_H) (x : Option Nat) (c i : Nat) : Option (Option Nat) := (gv_gV h x c i).bind gv_r
def gv_pV (h : gx_H) (x : Option Nat) (c i : Nat) (v : Value) : Option gx_H := x.bind fun a => (gx_ob h a c).bind fun fs => if i < fs.length then some (h.set a (c, fs.set i v)) else none
def gv_lI (h : gx_H) (x : Option Nat) (i : Int32) : Option Int32 := x.bind fun a => (gx_rd h a 100 i).bind gx_i1
def gv_lJ (h : gx_H) (x : Option Nat) (i : Int32) : Option Int64 := x.bind fun a => (gx_rd h a 101 i).bind gx_l1
def gv_lZ (h : gx_H) (x : Option Nat) (i : Int32) : Option Int32 := x.bind fun a => (gx_rd h a 102 i).bind gx_i1
def gv_lT (h : gx_H) (x : Option Nat) (i : Int32) : Option (Option Nat) := x.bind fun a => (gx_rd h a 103 i).bind gv_r
def gv_lA (h : gx_H) (x : Option Nat) (i : Int32) : Option (Option Nat) := x.bind fun a => (gx_rd h a 104 i).bind gv_r
def gv_wI (h : gx_H) (x : Option Nat) (i : Int32) (v : Int32) : Option gx_H := x.bind fun a => gx_wr h a 100 i (.int v)
def gv_wJ (h : gx_H) (x : Option Nat) (i : Int32) (v : Int64) : Option gx_H := x.bind fun a => gx_wr h a 101 i (.long v)
def gv_wZ (h : gx_H) (x : Option Nat) (i : Int32) (v : Int32) : Option gx_H := x.bind fun a => gx_wr h a 102 i (.int (v &&& 1))
def gv_is (h : gx_H) (x : Option Nat) (c : Nat) : Option Nat := x.bind fun a => (gx_ob h a c).map fun _ => a
def gv_cp (h : gx_H) (x : Option Nat) (sp : Int32) (y : Option Nat) (dp n : Int32) : Option gx_H := x.bind fun a0 => y.bind fun a => (gx_ob h a0 100).bind fun vs => (gx_ob h a 100).bind fun ws =>
  if ¬ sp < 0 ∧ ¬ dp < 0 ∧ ¬ n < 0 ∧ sp.toNatClampNeg + n.toNatClampNeg ≤ vs.length ∧ dp.toNatClampNeg + n.toNatClampNeg ≤ ws.length ∧ vs.all (fun v => (gx_i1 v).isSome) = true then some (h.set a (100, gx_cpy vs ws sp.toNatClampNeg dp.toNatClampNeg n.toNatClampNeg)) else none
def gv_fk (ci k : Nat) : Nat := match gx_cl[ci]? with
  | some r => if (r.2.1 k).2.2.2 = true then 0 else match gx_fty ci k with
    | .int => 1
    | .long => 2
    | .boolean => 3
    | _ => 0
  | none => 0
theorem gv_fok1 {ini : Bool} {o ci k : Nat} {x : Int32} (h : gv_fk ci k = 1) : gx_fok ini o ci k (.int x) = true := by
  unfold gv_fk at h; unfold gx_fok
  split at h
  · rename_i r hr
    rw [hr]
    split at h
    · cases h
    · rename_i hf
      split at h <;> rename_i hT <;> first | cases h | skip
      rw [hT]
      simp [narrow, fits, gx_fl, hf]
  · cases h
theorem gv_fok2 {ini : Bool} {o ci k : Nat} {x : Int64} (h : gv_fk ci k = 2) : gx_fok ini o ci k (.long x) = true := by
  unfold gv_fk at h; unfold gx_fok
  split at h
  · rename_i r hr
    rw [hr]
    split at h
    · cases h
    · rename_i hf
      split at h <;> rename_i hT <;> first | cases h | skip
      rw [hT]
      simp [narrow, fits, gx_fl, hf]
  · cases h
theorem gv_nz {x : Int32} (hz : x = 0 ∨ x = 1) : narrow .boolean (.int x) = .int x := by
  rcases hz with rfl | rfl <;> rfl
theorem gv_fok3 {ini : Bool} {o ci k : Nat} {x : Int32} (h : gv_fk ci k = 3) (hz : x = 0 ∨ x = 1) : gx_fok ini o ci k (.int x) = true := by
  unfold gv_fk at h; unfold gx_fok
  split at h
  · rename_i r hr
    rw [hr]
    split at h
    · cases h
    · rename_i hf
      split at h <;> rename_i hT <;> first | cases h | skip
      rw [hT]
      rcases hz with rfl | rfl <;> simp [narrow, fits, gx_fl, hf]
  · cases h
def gv_cT (o' pc t0 : Nat) : List (Nat × Nat × Nat × Nat) → Bool → Option (Option Nat)
  | [], seen => if seen = true then none else some none
  | q :: r, seen => if gx_cov q pc = true then (gx_xt o' q.2.2.2).bind fun t => if t0 = t then some (some q.2.2.1) else if gx_NC.any (fun n => n.1 == t0 && n.2 == t) = true then gv_cT o' pc t0 r true else none
    else gv_cT o' pc t0 r seen
section GV
variable {xs : Option (List Int32)} {D j pc pc' : Nat} {E : gx_L} {st : List Value} {h h' : gx_H} {o : Outcome}
theorem gv_weak {E' : gx_L} (K : gv_V xs D j pc E' st h o h') (hs : gv_S E' E) : gv_V xs D j pc E st h o h' :=
  ⟨K.1, fun L hL => K.2 L (fun i v e => hL i v (hs i v e))⟩
theorem gv_P {E' : gx_L} {st' : List Value} {ins : Instr} (hi : gx_I j pc = some ins) (hp : ∀ L, gv_S E L → ∃ L', gx_p (gx_mo j) (gx_nl j) ins pc L st = some (pc', L', st') ∧ gv_S E' L') (K : gv_V xs D j pc' E' st' h o h') : gv_V xs D j pc E st h o h' := by
  refine ⟨K.1, fun L hL => ?_⟩
  obtain ⟨L', h1, h2⟩ := hp L hL
  obtain ⟨n, hn⟩ := K.2 L' h2
  refine ⟨n + 1, fun d hd k u => ?_⟩
  rw [gx_run]
  simp only [hi, h1]
  exact hn d hd k u
theorem gv_P0 {st' : List Value} {ins : Instr} (hi : gx_I j pc = some ins) (hp : ∀ L, gx_p (gx_mo j) (gx_nl j) ins pc L st = some (pc', L, st')) (K : gv_V xs D j pc' E st' h o h') : gv_V xs D j pc E st h o h' :=
  gv_P hi (fun L hL => ⟨L, hp L, hL⟩) K
theorem gv_Q {st' : List Value} {ins : Instr} (hi : gx_I j pc = some ins) (hp : ∀ L, gx_p (gx_mo j) (gx_nl j) ins pc L st = none) (hq : ∀ L, gx_q xs (gx_mo j) h ins pc L st = some (pc', L, st')) (K : gv_V xs D j pc' E st' h o h') : gv_V xs D j pc E st h o h' := by
  refine ⟨K.1, fun L hL => ?_⟩
  obtain ⟨n, hn⟩ := K.2 L hL
  refine ⟨n + 1, fun d hd k u => ?_⟩
  rw [gx_run]
  simp only [hi, hp, hq]
  exact hn d hd k u
theorem gv_W {st' : List Value} {ins : Instr} {h1 : gx_H} (hi : gx_I j pc = some ins) (hp : ∀ L, gx_p (gx_mo j) (gx_nl j) ins pc L st = none) (hq : ∀ L, gx_q xs (gx_mo j) h ins pc L st = none) (hw : gx_w (gx_mo j) (gx_in j) h ins pc st = some (pc', st', h1)) (hl : h1.length = h.length) (K : gv_V xs D j pc' E st' h1 o h') : gv_V xs D j pc E st h o h' := by
  refine ⟨by rw [← hl]; exact K.1, fun L hL => ?_⟩
  obtain ⟨n, hn⟩ := K.2 L hL
  refine ⟨n + 1, fun d hd k u => ?_⟩
  rw [gx_run]
  simp only [hi, hp, hq, hw]
  rw [← hl]
  exact hn d hd k u
theorem gv_B {st' : List Value} {ins : Instr} {h1 : gx_H} (hi : gx_I j pc = some ins) (hp : ∀ L, gx_p (gx_mo j) (gx_nl j) ins pc L st = none) (hq : ∀ L, gx_q xs (gx_mo j) h ins pc L st = none) (hw : gx_w (gx_mo j) (gx_in j) h ins pc st = none) (hn : gx_n (gx_mo j) h ins pc st = none) (hm : gx_mu (gx_mo j) h ins pc st = none) (he : gx_e j ins st = none)
    (hb : gx_bi (gx_mo j) h ins pc st = some (pc', st', h1)) (hl : h1.length = h.length) (K : gv_V xs D j pc' E st' h1 o h') : gv_V xs D j pc E st h o h' := by
  refine ⟨by rw [← hl]; exact K.1, fun L hL => ?_⟩
  obtain ⟨n, hn'⟩ := K.2 L hL
  refine ⟨n + 1, fun d hd k u => ?_⟩
  rw [gx_run]
  simp only [hi, hp, hq, hw, hn, hm, he, hb]
  rw [← hl]
  exact hn' d hd k u
theorem gv_E {ins : Instr} {v : Option Value} (hi : gx_I j pc = some ins) (hp : ∀ L, gx_p (gx_mo j) (gx_nl j) ins pc L st = none) (hq : ∀ L, gx_q xs (gx_mo j) h ins pc L st = none) (hw : gx_w (gx_mo j) (gx_in j) h ins pc st = none) (hn : gx_n (gx_mo j) h ins pc st = none) (hm : gx_mu (gx_mo j) h ins pc st = none) (he : gx_e j ins st = some v) : gv_V xs D j pc E st h (.returned v) h := by
  refine ⟨Nat.le_refl _, fun L hL => ⟨1, fun d hd k u => ?_⟩⟩
  rw [gx_run]
  simp only [hi, hp, hq, hw, hn, hm, he]
  simp
theorem gv_th {ins : Instr} {t : Nat} (hi : gx_I j pc = some ins) (hp : ∀ L, gx_p (gx_mo j) (gx_nl j) ins pc L st = none) (hq : ∀ L, gx_q xs (gx_mo j) h ins pc L st = none) (hw : gx_w (gx_mo j) (gx_in j) h ins pc st = none) (hn : gx_n (gx_mo j) h ins pc st = none) (hm : gx_mu (gx_mo j) h ins pc st = none) (he : gx_e j ins st = none) (hb : gx_bi (gx_mo j) h ins pc st = none) (ht : gx_th j pc ins st = some t) : gv_V xs D j pc E st h (.threw h.length) (h ++ [(t, [])]) := by
  refine ⟨by simp, fun L hL => ⟨1, fun d hd k u => ?_⟩⟩
  rw [gx_run]
  simp only [hi, hp, hq, hw, hn, hm, he, hb, ht]
  simp
/-- a call that returns -/
theorem gv_call {ins : Instr} {Dc jc : Nat} {A rest : List Value} {Ec : gx_L} {v : Option Value} {h1 : gx_H} {sz : Nat} (hi : gx_I j pc = some ins) (hp : ∀ L, gx_p (gx_mo j) (gx_nl j) ins pc L st = none) (hq : ∀ L, gx_q xs (gx_mo j) h ins pc L st = none) (hw : gx_w (gx_mo j) (gx_in j) h ins pc st = none) (hn : gx_n (gx_mo j) h ins pc st = none) (hm : gx_mu (gx_mo j) h ins pc st = none) (he : gx_e j ins st = none) (hb : gx_bi (gx_mo j) h ins pc st = none) (ht : gx_th j pc ins st = none)
    (hc : gx_c (gx_mo j) h ins st = some (jc, A, rest)) (hr : Nat.ble rest.length 4 = true) (hz : gv_z A sz) (hz2 : Nat.ble sz (gx_nl jc) = true) (hA : gv_a 0 A Ec) (hD : Dc + 1 ≤ D)
    (C : gv_V xs Dc jc 0 Ec [] h (.returned v) h1) (K : gv_V xs D j (pc + 3) E (v.toList ++ rest) h1 o h') : gv_V xs D j pc E st h o h' := by
  refine ⟨Nat.le_trans C.1 K.1, fun L hL => ?_⟩
  obtain ⟨n1, hn1⟩ := C.2 (lv_args 0 A) (by unfold gv_a at hA; rw [hA]; exact gv_Sr)
  obtain ⟨n2, hn2⟩ := K.2 L hL
  refine ⟨max n1 n2 + 1, fun d hd k u => ?_⟩
  obtain ⟨d, rfl⟩ : ∃ m, d = m + 1 := ⟨d - 1, by omega⟩
  have e1 := gv_up xs (Or.inl rfl) _ (max n1 n2) _ d _ _ _ _ _ _ _ _ (Nat.le_max_left _ _) (Nat.le_refl _) (hn1 d (by omega) 0 0)
  have e2 := gv_up xs (Or.inl rfl) _ (max n1 n2) _ (d + 1) _ _ _ _ _ _ _ _ (Nat.le_max_right n1 n2) (Nat.le_refl _) (hn2 (d + 1) hd (k + (0 + (h1.length - h.length))) (u + (0 + 6 * (h1.length - h.length))))
  rw [gx_run]
  simp only [hi, hp, hq, hw, hn, hm, he, hb, ht, hc]
  rw [if_pos ⟨gv_sum rest hr, by unfold gv_z at hz; rw [hz]; exact Nat.le_of_ble_eq_true hz2⟩]
  simp only [e1, e2]
  have := C.1
  have := K.1
  congr 4
  · omega
  · omega
/-- a call that throws, and no handler lies there -/
theorem gv_callX {ins : Instr} {Dc jc : Nat} {A rest : List Value} {Ec : gx_L} {x : Nat} {h1 : gx_H} {sz : Nat} (hi : gx_I j pc = some ins) (hp : ∀ L, gx_p (gx_mo j) (gx_nl j) ins pc L st = none) (hq : ∀ L, gx_q xs (gx_mo j) h ins pc L st = none) (hw : gx_w (gx_mo j) (gx_in j) h ins pc st = none) (hn : gx_n (gx_mo j) h ins pc st = none) (hm : gx_mu (gx_mo j) h ins pc st = none) (he : gx_e j ins st = none) (hb : gx_bi (gx_mo j) h ins pc st = none) (ht : gx_th j pc ins st = none)
    (hc : gx_c (gx_mo j) h ins st = some (jc, A, rest)) (hr : Nat.ble rest.length 4 = true) (hz : gv_z A sz) (hz2 : Nat.ble sz (gx_nl jc) = true) (hA : gv_a 0 A Ec) (hD : Dc + 1 ≤ D)
    (C : gv_V xs Dc jc 0 Ec [] h (.threw x) h1) (hx : gx_hd j = []) : gv_V xs D j pc E st h (.threw x) h1 := by
  refine ⟨C.1, fun L hL => ?_⟩
  obtain ⟨n1, hn1⟩ := C.2 (lv_args 0 A) (by unfold gv_a at hA; rw [hA]; exact gv_Sr)
  refine ⟨n1 + 1, fun d hd k u => ?_⟩
  obtain ⟨d, rfl⟩ : ∃ m, d = m + 1 := ⟨d - 1, by omega⟩
  have e1 := hn1 d (by omega) 0 0
  rw [gx_run]
  simp only [hi, hp, hq, hw, hn, hm, he, hb, ht, hc]
  rw [if_pos ⟨gv_sum rest hr, by unfold gv_z at hz; rw [hz]; exact Nat.le_of_ble_eq_true hz2⟩]
  have hcat : gx_cat j pc h1 x = some none := by unfold gx_cat; rw [hx]; rfl
  simp only [e1, hcat]
  congr 4 <;> omega
/-- a call that throws what the first handler there catches -/
theorem gv_callC {ins : Instr} {Dc jc : Nat} {A rest : List Value} {Ec : gx_L} {x : Nat} {h1 : gx_H} {sz : Nat} (hi : gx_I j pc = some ins) (hp : ∀ L, gx_p (gx_mo j) (gx_nl j) ins pc L st = none) (hq : ∀ L, gx_q xs (gx_mo j) h ins pc L st = none) (hw : gx_w (gx_mo j) (gx_in j) h ins pc st = none) (hn : gx_n (gx_mo j) h ins pc st = none) (hm : gx_mu (gx_mo j) h ins pc st = none) (he : gx_e j ins st = none) (hb : gx_bi (gx_mo j) h ins pc st = none) (ht : gx_th j pc ins st = none)
    (hc : gx_c (gx_mo j) h ins st = some (jc, A, rest)) (hr : Nat.ble rest.length 4 = true) (hz : gv_z A sz) (hz2 : Nat.ble sz (gx_nl jc) = true) (hA : gv_a 0 A Ec) (hD : Dc + 1 ≤ D)
    (C : gv_V xs Dc jc 0 Ec [] h (.threw x) h1) (hx : gx_cat j pc h1 x = some (some pc')) (K : gv_V xs D j pc' E [gv_u (some x)] h1 o h') : gv_V xs D j pc E st h o h' := by
  refine ⟨Nat.le_trans C.1 K.1, fun L hL => ?_⟩
  obtain ⟨n1, hn1⟩ := C.2 (lv_args 0 A) (by unfold gv_a at hA; rw [hA]; exact gv_Sr)
  obtain ⟨n2, hn2⟩ := K.2 L hL
  refine ⟨max n1 n2 + 1, fun d hd k u => ?_⟩
  obtain ⟨d, rfl⟩ : ∃ m, d = m + 1 := ⟨d - 1, by omega⟩
  have e1 := gv_up xs (Or.inl rfl) _ (max n1 n2) _ d _ _ _ _ _ _ _ _ (Nat.le_max_left _ _) (Nat.le_refl _) (hn1 d (by omega) 0 0)
  have e2 := gv_up xs (Or.inl rfl) _ (max n1 n2) _ (d + 1) _ _ _ _ _ _ _ _ (Nat.le_max_right n1 n2) (Nat.le_refl _) (hn2 (d + 1) hd (k + (0 + (h1.length - h.length))) (u + (0 + 6 * (h1.length - h.length))))
  rw [gx_run]
  simp only [hi, hp, hq, hw, hn, hm, he, hb, ht, hc]
  rw [if_pos ⟨gv_sum rest hr, by unfold gv_z at hz; rw [hz]; exact Nat.le_of_ble_eq_true hz2⟩]
  simp only [e1, hx]
  change gx_run xs (max n1 n2) (d + 1) j pc' L [.ref x] h1 _ _ = _
  change gx_run xs (max n1 n2) (d + 1) j pc' L [.ref x] h1 _ _ = _ at e2
  rw [e2]
  have := C.1
  have := K.1
  congr 4
  · omega
  · omega
theorem gv_null (hi : gx_I j pc = some .aconst_null) (hc : pc + 1 = pc') (K : gv_V xs D j pc' E (gv_u none :: st) h o h') : gv_V xs D j pc E st h o h' := gv_P0 hi (fun _ => by rw [← hc]; rfl) K
theorem gv_ic {n : Int} {x : Int32} (hi : gx_I j pc = some (.iconst n)) (hx : Int32.ofInt n = x) (hc : pc + 1 = pc') (K : gv_V xs D j pc' E (.int x :: st) h o h') : gv_V xs D j pc E st h o h' := gv_P0 hi (fun _ => by rw [← hc, ← hx]; rfl) K
theorem gv_bp {n : Int} {x : Int32} (hi : gx_I j pc = some (.bipush n)) (hx : (Int8.ofInt n).toInt32 = x) (hc : pc + 2 = pc') (K : gv_V xs D j pc' E (.int x :: st) h o h') : gv_V xs D j pc E st h o h' := gv_P0 hi (fun _ => by rw [← hc, ← hx]; rfl) K
theorem gv_sp {n : Int} {x : Int32} (hi : gx_I j pc = some (.sipush n)) (hx : (Int16.ofInt n).toInt32 = x) (hc : pc + 3 = pc') (K : gv_V xs D j pc' E (.int x :: st) h o h') : gv_V xs D j pc E st h o h' := gv_P0 hi (fun _ => by rw [← hc, ← hx]; rfl) K
theorem gv_lc {n : Fin 2} {x : Int64} (hi : gx_I j pc = some (.lconst n)) (hx : Int64.ofNat (n : Nat) = x) (hc : pc + 1 = pc') (K : gv_V xs D j pc' E (.long x :: st) h o h') : gv_V xs D j pc E st h o h' := gv_P0 hi (fun _ => by rw [← hc, ← hx]; rfl) K
theorem gv_ld {idx : Nat} {x : Int64} (hi : gx_I j pc = some (.ldc2_w idx)) (hx : gx_kl (gx_mo j) idx = some x) (hc : pc + 3 = pc') (K : gv_V xs D j pc' E (.long x :: st) h o h') : gv_V xs D j pc E st h o h' := gv_P0 hi (fun _ => by rw [← hc]; show (gx_kl _ _).map _ = _; rw [hx]; rfl) K
theorem gv_ild {i : Nat} {x : Int32} (hi : gx_I j pc = some (.iload i)) (hv : E.lookup i = some (.int x)) (hc : pc + 2 = pc') (K : gv_V xs D j pc' E (.int x :: st) h o h') : gv_V xs D j pc E st h o h' := gv_P hi (fun L hL => ⟨L, by rw [← hc]; show ((L.lookup i).bind _).map _ = _; rw [hL _ _ hv]; rfl, hL⟩) K
theorem gv_ildn {i : Fin 4} {x : Int32} (hi : gx_I j pc = some (.iload_n i)) (hv : E.lookup (i : Nat) = some (.int x)) (hc : pc + 1 = pc') (K : gv_V xs D j pc' E (.int x :: st) h o h') : gv_V xs D j pc E st h o h' := gv_P hi (fun L hL => ⟨L, by rw [← hc]; show ((L.lookup (i : Nat)).bind _).map _ = _; rw [hL _ _ hv]; rfl, hL⟩) K
theorem gv_jld {i : Nat} {x : Int64} (hi : gx_I j pc = some (.lload i)) (hv : E.lookup i = some (.long x)) (hc : pc + 2 = pc') (K : gv_V xs D j pc' E (.long x :: st) h o h') : gv_V xs D j pc E st h o h' := gv_P hi (fun L hL => ⟨L, by rw [← hc]; show ((L.lookup i).bind _).map _ = _; rw [hL _ _ hv]; rfl, hL⟩) K
theorem gv_jldn {i : Fin 4} {x : Int64} (hi : gx_I j pc = some (.lload_n i)) (hv : E.lookup (i : Nat) = some (.long x)) (hc : pc + 1 = pc') (K : gv_V xs D j pc' E (.long x :: st) h o h') : gv_V xs D j pc E st h o h' := gv_P hi (fun L hL => ⟨L, by rw [← hc]; show ((L.lookup (i : Nat)).bind _).map _ = _; rw [hL _ _ hv]; rfl, hL⟩) K
theorem gv_rld {i : Nat} {x : Option Nat} (hi : gx_I j pc = some (.aload i)) (hv : E.lookup i = some (gv_u x)) (hc : pc + 2 = pc') (K : gv_V xs D j pc' E (gv_u x :: st) h o h') : gv_V xs D j pc E st h o h' := gv_P hi (fun L hL => ⟨L, by rw [← hc]; show (L.lookup i).bind _ = _; rw [hL _ _ hv, Option.bind_some, gv_u_ref]; rfl, hL⟩) K
theorem gv_rldn {i : Fin 4} {x : Option Nat} (hi : gx_I j pc = some (.aload_n i)) (hv : E.lookup (i : Nat) = some (gv_u x)) (hc : pc + 1 = pc') (K : gv_V xs D j pc' E (gv_u x :: st) h o h') : gv_V xs D j pc E st h o h' := gv_P hi (fun L hL => ⟨L, by rw [← hc]; show (L.lookup (i : Nat)).bind _ = _; rw [hL _ _ hv, Option.bind_some, gv_u_ref]; rfl, hL⟩) K
theorem gv_xld {x : UInt32} {i : Fin 4} (hi : gx_I j pc = some (.aload_n i)) (hv : E.lookup (i : Nat) = some (.float x)) (hc : pc + 1 = pc') (K : gv_V xs D j pc' E (.float x :: st) h o h') : gv_V xs D j pc E st h o h' := gv_P hi (fun L hL => ⟨L, by rw [← hc]; show (L.lookup (i : Nat)).bind _ = _; rw [hL _ _ hv]; rfl, hL⟩) K
theorem gv_ist {i : Nat} {x : Int32} (hi : gx_I j pc = some (.istore i)) (hn : Nat.blt i (gx_nl j) = true) (hg : gv_C E i) (hc : pc + 2 = pc') (K : gv_V xs D j pc' ((i, .int x) :: E) st h o h') : gv_V xs D j pc E (.int x :: st) h o h' := gv_P hi (fun L hL => ⟨gx_s1 L i (.int x), by rw [← hc]; show (if _ then _ else _) = _; rw [if_pos (gv_lt hn)], gv_S_s1 hL hg⟩) K
theorem gv_istn {i : Fin 4} {x : Int32} (hi : gx_I j pc = some (.istore_n i)) (hn : Nat.blt (i : Nat) (gx_nl j) = true) (hg : gv_C E (i : Nat)) (hc : pc + 1 = pc') (K : gv_V xs D j pc' (((i : Nat), .int x) :: E) st h o h') : gv_V xs D j pc E (.int x :: st) h o h' := gv_P hi (fun L hL => ⟨gx_s1 L (i : Nat) (.int x), by rw [← hc]; show (if _ then _ else _) = _; rw [if_pos (gv_lt hn)], gv_S_s1 hL hg⟩) K
theorem gv_jst {i : Nat} {x : Int64} (hi : gx_I j pc = some (.lstore i)) (hn : Nat.blt (i + 1) (gx_nl j) = true) (hg : gv_C E i) (hg2 : E.lookup (i + 1) = none) (hc : pc + 2 = pc') (K : gv_V xs D j pc' ((i, .long x) :: E) st h o h') : gv_V xs D j pc E (.long x :: st) h o h' := gv_P hi (fun L hL => ⟨gx_s2 L i (.long x), by rw [← hc]; show (if _ then _ else _) = _; rw [if_pos (gv_lt hn)], gv_S_s2 hL hg hg2⟩) K
theorem gv_jstn {i : Fin 4} {x : Int64} (hi : gx_I j pc = some (.lstore_n i)) (hn : Nat.blt ((i : Nat) + 1) (gx_nl j) = true) (hg : gv_C E (i : Nat)) (hg2 : E.lookup ((i : Nat) + 1) = none) (hc : pc + 1 = pc') (K : gv_V xs D j pc' (((i : Nat), .long x) :: E) st h o h') : gv_V xs D j pc E (.long x :: st) h o h' := gv_P hi (fun L hL => ⟨gx_s2 L (i : Nat) (.long x), by rw [← hc]; show (if _ then _ else _) = _; rw [if_pos (gv_lt hn)], gv_S_s2 hL hg hg2⟩) K
theorem gv_rst {i : Nat} {x : Option Nat} (hi : gx_I j pc = some (.astore i)) (hn : Nat.blt i (gx_nl j) = true) (hg : gv_C E i) (hc : pc + 2 = pc') (K : gv_V xs D j pc' ((i, gv_u x) :: E) st h o h') : gv_V xs D j pc E (gv_u x :: st) h o h' := gv_P hi (fun L hL => ⟨gx_s1 L i (gv_u x), by rw [← hc]; cases x <;> (show (if _ then _ else _) = _; rw [if_pos (gv_lt hn)]; rfl), gv_S_s1 hL hg⟩) K
theorem gv_rstn {i : Fin 4} {x : Option Nat} (hi : gx_I j pc = some (.astore_n i)) (hn : Nat.blt (i : Nat) (gx_nl j) = true) (hg : gv_C E (i : Nat)) (hc : pc + 1 = pc') (K : gv_V xs D j pc' (((i : Nat), gv_u x) :: E) st h o h') : gv_V xs D j pc E (gv_u x :: st) h o h' := gv_P hi (fun L hL => ⟨gx_s1 L (i : Nat) (gv_u x), by rw [← hc]; cases x <;> (show (if _ then _ else _) = _; rw [if_pos (gv_lt hn)]; rfl), gv_S_s1 hL hg⟩) K
theorem gv_inc {i : Nat} {n : Int} {x y : Int32} (hi : gx_I j pc = some (.iinc i n)) (hv : E.lookup i = some (.int x)) (hy : Int32.ofInt n = y) (hn : Nat.blt i (gx_nl j) = true) (hg : gv_C E i) (hc : pc + 3 = pc') (K : gv_V xs D j pc' ((i, .int (x + y)) :: E) st h o h') : gv_V xs D j pc E st h o h' := gv_P hi (fun L hL => ⟨gx_s1 L i (.int (x + y)), by rw [← hc, ← hy]; show ((L.lookup i).bind _).bind _ = _; rw [hL _ _ hv]; show (if _ then _ else _) = _; rw [if_pos (gv_lt hn)], gv_S_s1 hL hg⟩) K
theorem gv_iadd {x y : Int32} (hi : gx_I j pc = some .iadd) (hc : pc + 1 = pc') (K : gv_V xs D j pc' E (.int (x + y) :: st) h o h') : gv_V xs D j pc E (.int y :: .int x :: st) h o h' := gv_P0 hi (fun _ => by rw [← hc]; rfl) K
theorem gv_isub {x y : Int32} (hi : gx_I j pc = some .isub) (hc : pc + 1 = pc') (K : gv_V xs D j pc' E (.int (x - y) :: st) h o h') : gv_V xs D j pc E (.int y :: .int x :: st) h o h' := gv_P0 hi (fun _ => by rw [← hc]; rfl) K
theorem gv_imul {x y : Int32} (hi : gx_I j pc = some .imul) (hc : pc + 1 = pc') (K : gv_V xs D j pc' E (.int (x * y) :: st) h o h') : gv_V xs D j pc E (.int y :: .int x :: st) h o h' := gv_P0 hi (fun _ => by rw [← hc]; rfl) K
theorem gv_iand {x y : Int32} (hi : gx_I j pc = some .iand) (hc : pc + 1 = pc') (K : gv_V xs D j pc' E (.int (x &&& y) :: st) h o h') : gv_V xs D j pc E (.int y :: .int x :: st) h o h' := gv_P0 hi (fun _ => by rw [← hc]; rfl) K
theorem gv_ior {x y : Int32} (hi : gx_I j pc = some .ior) (hc : pc + 1 = pc') (K : gv_V xs D j pc' E (.int (x ||| y) :: st) h o h') : gv_V xs D j pc E (.int y :: .int x :: st) h o h' := gv_P0 hi (fun _ => by rw [← hc]; rfl) K
theorem gv_ixor {x y : Int32} (hi : gx_I j pc = some .ixor) (hc : pc + 1 = pc') (K : gv_V xs D j pc' E (.int (x ^^^ y) :: st) h o h') : gv_V xs D j pc E (.int y :: .int x :: st) h o h' := gv_P0 hi (fun _ => by rw [← hc]; rfl) K
theorem gv_ishl {x y : Int32} (hi : gx_I j pc = some .ishl) (hc : pc + 1 = pc') (K : gv_V xs D j pc' E (.int (x <<< (y &&& 31)) :: st) h o h') : gv_V xs D j pc E (.int y :: .int x :: st) h o h' := gv_P0 hi (fun _ => by rw [← hc]; rfl) K
theorem gv_ishr {x y : Int32} (hi : gx_I j pc = some .ishr) (hc : pc + 1 = pc') (K : gv_V xs D j pc' E (.int (x >>> (y &&& 31)) :: st) h o h') : gv_V xs D j pc E (.int y :: .int x :: st) h o h' := gv_P0 hi (fun _ => by rw [← hc]; rfl) K
theorem gv_ladd {x y : Int64} (hi : gx_I j pc = some .ladd) (hc : pc + 1 = pc') (K : gv_V xs D j pc' E (.long (x + y) :: st) h o h') : gv_V xs D j pc E (.long y :: .long x :: st) h o h' := gv_P0 hi (fun _ => by rw [← hc]; rfl) K
theorem gv_lsub {x y : Int64} (hi : gx_I j pc = some .lsub) (hc : pc + 1 = pc') (K : gv_V xs D j pc' E (.long (x - y) :: st) h o h') : gv_V xs D j pc E (.long y :: .long x :: st) h o h' := gv_P0 hi (fun _ => by rw [← hc]; rfl) K
theorem gv_lmul {x y : Int64} (hi : gx_I j pc = some .lmul) (hc : pc + 1 = pc') (K : gv_V xs D j pc' E (.long (x * y) :: st) h o h') : gv_V xs D j pc E (.long y :: .long x :: st) h o h' := gv_P0 hi (fun _ => by rw [← hc]; rfl) K
theorem gv_land {x y : Int64} (hi : gx_I j pc = some .land) (hc : pc + 1 = pc') (K : gv_V xs D j pc' E (.long (x &&& y) :: st) h o h') : gv_V xs D j pc E (.long y :: .long x :: st) h o h' := gv_P0 hi (fun _ => by rw [← hc]; rfl) K
theorem gv_lor {x y : Int64} (hi : gx_I j pc = some .lor) (hc : pc + 1 = pc') (K : gv_V xs D j pc' E (.long (x ||| y) :: st) h o h') : gv_V xs D j pc E (.long y :: .long x :: st) h o h' := gv_P0 hi (fun _ => by rw [← hc]; rfl) K
theorem gv_lxor {x y : Int64} (hi : gx_I j pc = some .lxor) (hc : pc + 1 = pc') (K : gv_V xs D j pc' E (.long (x ^^^ y) :: st) h o h') : gv_V xs D j pc E (.long y :: .long x :: st) h o h' := gv_P0 hi (fun _ => by rw [← hc]; rfl) K
theorem gv_lshl {x : Int64} {y : Int32} (hi : gx_I j pc = some .lshl) (hc : pc + 1 = pc') (K : gv_V xs D j pc' E (.long (x <<< (y.toInt64 &&& 63)) :: st) h o h') : gv_V xs D j pc E (.int y :: .long x :: st) h o h' := gv_P0 hi (fun _ => by rw [← hc]; rfl) K
theorem gv_lshr {x : Int64} {y : Int32} (hi : gx_I j pc = some .lshr) (hc : pc + 1 = pc') (K : gv_V xs D j pc' E (.long (x >>> (y.toInt64 &&& 63)) :: st) h o h') : gv_V xs D j pc E (.int y :: .long x :: st) h o h' := gv_P0 hi (fun _ => by rw [← hc]; rfl) K
theorem gv_lushr {x : Int64} {y : Int32} (hi : gx_I j pc = some .lushr) (hc : pc + 1 = pc') (K : gv_V xs D j pc' E (.long ((x.toUInt64 >>> (y.toInt64.toUInt64 &&& Int64.toUInt64 63)).toInt64) :: st) h o h') : gv_V xs D j pc E (.int y :: .long x :: st) h o h' := gv_P0 hi (fun _ => by rw [← hc]; rfl) K
theorem gv_idiv {x y : Int32} (hi : gx_I j pc = some .idiv) (hy : ¬ y = 0) (hc : pc + 1 = pc') (K : gv_V xs D j pc' E (.int (x / y) :: st) h o h') : gv_V xs D j pc E (.int y :: .int x :: st) h o h' := gv_P0 hi (fun _ => by rw [← hc]; show (if _ then _ else _) = _; rw [if_neg hy]) K
theorem gv_irem {x y : Int32} (hi : gx_I j pc = some .irem) (hy : ¬ y = 0) (hc : pc + 1 = pc') (K : gv_V xs D j pc' E (.int (x - x / y * y) :: st) h o h') : gv_V xs D j pc E (.int y :: .int x :: st) h o h' := gv_P0 hi (fun _ => by rw [← hc]; show (if _ then _ else _) = _; rw [if_neg hy]) K
theorem gv_ineg {x : Int32} (hi : gx_I j pc = some .ineg) (hc : pc + 1 = pc') (K : gv_V xs D j pc' E (.int (-x) :: st) h o h') : gv_V xs D j pc E (.int x :: st) h o h' := gv_P0 hi (fun _ => by rw [← hc]; rfl) K
theorem gv_lneg {x : Int64} (hi : gx_I j pc = some .lneg) (hc : pc + 1 = pc') (K : gv_V xs D j pc' E (.long (-x) :: st) h o h') : gv_V xs D j pc E (.long x :: st) h o h' := gv_P0 hi (fun _ => by rw [← hc]; rfl) K
theorem gv_i2l {x : Int32} (hi : gx_I j pc = some .i2l) (hc : pc + 1 = pc') (K : gv_V xs D j pc' E (.long x.toInt64 :: st) h o h') : gv_V xs D j pc E (.int x :: st) h o h' := gv_P0 hi (fun _ => by rw [← hc]; rfl) K
theorem gv_l2i {x : Int64} (hi : gx_I j pc = some .l2i) (hc : pc + 1 = pc') (K : gv_V xs D j pc' E (.int x.toInt32 :: st) h o h') : gv_V xs D j pc E (.long x :: st) h o h' := gv_P0 hi (fun _ => by rw [← hc]; rfl) K
theorem gv_lcmp {x y : Int64} (hi : gx_I j pc = some .lcmp) (hc : pc + 1 = pc') (K : gv_V xs D j pc' E (.int (lg_cmp x y) :: st) h o h') : gv_V xs D j pc E (.long y :: .long x :: st) h o h' := gv_P0 hi (fun _ => by rw [← hc]; rfl) K
theorem gv_dup {v : Value} (hi : gx_I j pc = some .dup) (hv : v.category = 1) (hc : pc + 1 = pc') (K : gv_V xs D j pc' E (v :: v :: st) h o h') : gv_V xs D j pc E (v :: st) h o h' := gv_P0 hi (fun _ => by rw [← hc]; show (if _ then _ else _) = _; rw [if_pos hv]) K
theorem gv_pop {v : Value} (hi : gx_I j pc = some .pop) (hv : v.category = 1) (hc : pc + 1 = pc') (K : gv_V xs D j pc' E st h o h') : gv_V xs D j pc E (v :: st) h o h' := gv_P0 hi (fun _ => by rw [← hc]; show (if _ then _ else _) = _; rw [if_pos hv]) K
theorem gv_dup2 {v w : Value} (hi : gx_I j pc = some .dup2) (hv : v.category = 1) (hw : w.category = 1) (hc : pc + 1 = pc') (K : gv_V xs D j pc' E (v :: w :: v :: w :: st) h o h') : gv_V xs D j pc E (v :: w :: st) h o h' := gv_P0 hi (fun _ => by rw [← hc]; show (if _ then _ else _) = _; rw [if_pos ⟨hv, hw⟩]) K
theorem gv_goto {off : Int} (hi : gx_I j pc = some (.goto off)) (hc : gx_j pc off = some pc') (K : gv_V xs D j pc' E st h o h') : gv_V xs D j pc E st h o h' := gv_P0 hi (fun _ => by show (gx_j _ _).map _ = _; rw [hc]; rfl) K
theorem gv_ifT {c : ClassFile.Cond} {off : Int} {x : Int32} (hi : gx_I j pc = some (.ifCond c off)) (hx : gx_c1 c x = true) (hc : gx_j pc off = some pc') (K : gv_V xs D j pc' E st h o h') : gv_V xs D j pc E (.int x :: st) h o h' := gv_P0 hi (fun _ => by show (gx_j _ _).map _ = _; rw [hc]; show some (if gx_c1 c x = true then _ else _) = _; rw [if_pos hx]) K
theorem gv_ifF {c : ClassFile.Cond} {off : Int} {x : Int32} {t : Nat} (hi : gx_I j pc = some (.ifCond c off)) (hx : gx_c1 c x = false) (ht : gx_j pc off = some t) (hc : pc + 3 = pc') (K : gv_V xs D j pc' E st h o h') : gv_V xs D j pc E (.int x :: st) h o h' := gv_P0 hi (fun _ => by show (gx_j _ _).map _ = _; rw [ht, ← hc]; show some (if gx_c1 c x = true then _ else _) = _; rw [if_neg (by rw [hx]; exact Bool.false_ne_true)]) K
theorem gv_cmT {c : ClassFile.Cond} {off : Int} {x y : Int32} (hi : gx_I j pc = some (.if_icmp c off)) (hx : gx_c2 c x y = true) (hc : gx_j pc off = some pc') (K : gv_V xs D j pc' E st h o h') : gv_V xs D j pc E (.int y :: .int x :: st) h o h' := gv_P0 hi (fun _ => by show (gx_j _ _).map _ = _; rw [hc]; show some (if gx_c2 c x y = true then _ else _) = _; rw [if_pos hx]) K
theorem gv_cmF {c : ClassFile.Cond} {off : Int} {x y : Int32} {t : Nat} (hi : gx_I j pc = some (.if_icmp c off)) (hx : gx_c2 c x y = false) (ht : gx_j pc off = some t) (hc : pc + 3 = pc') (K : gv_V xs D j pc' E st h o h') : gv_V xs D j pc E (.int y :: .int x :: st) h o h' := gv_P0 hi (fun _ => by show (gx_j _ _).map _ = _; rw [ht, ← hc]; show some (if gx_c2 c x y = true then _ else _) = _; rw [if_neg (by rw [hx]; exact Bool.false_ne_true)]) K
theorem gv_nuT {off : Int} {x : Option Nat} (hi : gx_I j pc = some (.ifnull off)) (hx : x = none) (hc : gx_j pc off = some pc') (K : gv_V xs D j pc' E st h o h') : gv_V xs D j pc E (gv_u x :: st) h o h' := gv_P0 hi (fun _ => by rw [hx]; show (gx_j _ _).map _ = _; rw [hc]; rfl) K
theorem gv_nuF {off : Int} {x : Option Nat} (hi : gx_I j pc = some (.ifnull off)) (hx : ¬ x = none) (hc : pc + 3 = pc') (K : gv_V xs D j pc' E st h o h') : gv_V xs D j pc E (gv_u x :: st) h o h' := gv_P0 hi (fun _ => by cases x with | none => exact absurd rfl hx | some a => rw [← hc]; rfl) K
theorem gv_nnT {off : Int} {x : Option Nat} (hi : gx_I j pc = some (.ifnonnull off)) (hx : ¬ x = none) (hc : gx_j pc off = some pc') (K : gv_V xs D j pc' E st h o h') : gv_V xs D j pc E (gv_u x :: st) h o h' := gv_P0 hi (fun _ => by cases x with | none => exact absurd rfl hx | some a => show (gx_j _ _).map _ = _; rw [hc]; rfl) K
theorem gv_nnF {off : Int} {x : Option Nat} (hi : gx_I j pc = some (.ifnonnull off)) (hx : x = none) (hc : pc + 3 = pc') (K : gv_V xs D j pc' E st h o h') : gv_V xs D j pc E (gv_u x :: st) h o h' := gv_P0 hi (fun _ => by rw [hx, ← hc]; rfl) K
theorem gv_sw {d lo hi' : Int} {offs : Array Int} {x : Int32} {off : Int} (hi : gx_I j pc = some (.tableswitch d lo hi' offs)) (hx : gx_tab d lo hi' offs x = some off) (hc : gx_j pc off = some pc') (K : gv_V xs D j pc' E st h o h') : gv_V xs D j pc E (.int x :: st) h o h' := gv_P0 hi (fun _ => by show (gx_tab _ _ _ _ _).bind _ = _; rw [hx]; show (gx_j _ _).map _ = _; rw [hc]; rfl) K
theorem gv_fI {idx c i : Nat} {x : Option Nat} {v : Int32} (hi : gx_I j pc = some (.getfield idx)) (hf : gx_F (gx_mo j) idx = some (c, i)) (hv : gv_gI h x c i = some v) (hc : pc + 3 = pc') (K : gv_V xs D j pc' E (.int v :: st) h o h') : gv_V xs D j pc E (gv_u x :: st) h o h' := by
  unfold gv_gI gv_gV at hv
  obtain ⟨w, hw, hv1⟩ := Option.bind_eq_some_iff.mp hv
  clear hv
  obtain ⟨a, rfl, hw1⟩ := Option.bind_eq_some_iff.mp hw
  obtain ⟨fs, h1, h2⟩ := Option.bind_eq_some_iff.mp hw1
  have := gx_i1_e hv1
  subst this
  refine gv_Q hi (fun _ => rfl) (fun L => ?_) K
  show (gx_F _ _).bind _ = _
  rw [hf]
  show (gx_ob h a c).bind _ = _
  rw [h1]
  show (fs[i]?).map _ = _
  rw [h2, ← hc]
  rfl
theorem gv_fJ {idx c i : Nat} {x : Option Nat} {v : Int64} (hi : gx_I j pc = some (.getfield idx)) (hf : gx_F (gx_mo j) idx = some (c, i)) (hv : gv_gJ h x c i = some v) (hc : pc + 3 = pc') (K : gv_V xs D j pc' E (.long v :: st) h o h') : gv_V xs D j pc E (gv_u x :: st) h o h' := by
  unfold gv_gJ gv_gV at hv
  obtain ⟨w, hw, hv1⟩ := Option.bind_eq_some_iff.mp hv
  clear hv
  obtain ⟨a, rfl, hw1⟩ := Option.bind_eq_some_iff.mp hw
  obtain ⟨fs, h1, h2⟩ := Option.bind_eq_some_iff.mp hw1
  have := gx_l1_e hv1
  subst this
  refine gv_Q hi (fun _ => rfl) (fun L => ?_) K
  show (gx_F _ _).bind _ = _
  rw [hf]
  show (gx_ob h a c).bind _ = _
  rw [h1]
  show (fs[i]?).map _ = _
  rw [h2, ← hc]
  rfl
theorem gv_fR {idx c i : Nat} {x : Option Nat} {v : Option Nat} (hi : gx_I j pc = some (.getfield idx)) (hf : gx_F (gx_mo j) idx = some (c, i)) (hv : gv_gR h x c i = some v) (hc : pc + 3 = pc') (K : gv_V xs D j pc' E (gv_u v :: st) h o h') : gv_V xs D j pc E (gv_u x :: st) h o h' := by
  unfold gv_gR gv_gV at hv
  obtain ⟨w, hw, hv1⟩ := Option.bind_eq_some_iff.mp hv
  clear hv
  obtain ⟨a, rfl, hw1⟩ := Option.bind_eq_some_iff.mp hw
  obtain ⟨fs, h1, h2⟩ := Option.bind_eq_some_iff.mp hw1
  have := gv_r_e hv1
  subst this
  refine gv_Q hi (fun _ => rfl) (fun L => ?_) K
  show (gx_F _ _).bind _ = _
  rw [hf]
  show (gx_ob h a c).bind _ = _
  rw [h1]
  show (fs[i]?).map _ = _
  rw [h2, ← hc]
  rfl
theorem gv_iald {x : Option Nat} {i : Int32} {v : Int32} (hi : gx_I j pc = some .iaload) (hv : gv_lI h x i = some v) (hc : pc + 1 = pc') (K : gv_V xs D j pc' E (.int v :: st) h o h') : gv_V xs D j pc E (.int i :: gv_u x :: st) h o h' := by
  unfold gv_lI at hv
  obtain ⟨a, hxa, hv1⟩ := Option.bind_eq_some_iff.mp hv
  clear hv
  subst hxa
  have hv := hv1
  refine gv_Q hi (fun _ => rfl) (fun L => ?_) K
  show ((gx_rd h a 100 i).bind _).map _ = _
  rw [hv, ← hc]
  rfl
theorem gv_lald {x : Option Nat} {i : Int32} {v : Int64} (hi : gx_I j pc = some .laload) (hv : gv_lJ h x i = some v) (hc : pc + 1 = pc') (K : gv_V xs D j pc' E (.long v :: st) h o h') : gv_V xs D j pc E (.int i :: gv_u x :: st) h o h' := by
  unfold gv_lJ at hv
  obtain ⟨a, hxa, hv1⟩ := Option.bind_eq_some_iff.mp hv
  clear hv
  subst hxa
  have hv := hv1
  refine gv_Q hi (fun _ => rfl) (fun L => ?_) K
  show ((gx_rd h a 101 i).bind _).map _ = _
  rw [hv, ← hc]
  rfl
theorem gv_bald {x : Option Nat} {i : Int32} {v : Int32} (hi : gx_I j pc = some .baload) (hv : gv_lZ h x i = some v) (hc : pc + 1 = pc') (K : gv_V xs D j pc' E (.int v :: st) h o h') : gv_V xs D j pc E (.int i :: gv_u x :: st) h o h' := by
  unfold gv_lZ at hv
  obtain ⟨a, hxa, hv1⟩ := Option.bind_eq_some_iff.mp hv
  clear hv
  subst hxa
  have hv := hv1
  refine gv_Q hi (fun _ => rfl) (fun L => ?_) K
  show ((gx_rd h a 102 i).bind _).map _ = _
  rw [hv, ← hc]
  rfl
theorem gv_aaT {x : Option Nat} {i : Int32} {v : Option Nat} (hi : gx_I j pc = some .aaload) (hv : gv_lT h x i = some v) (hc : pc + 1 = pc') (K : gv_V xs D j pc' E (gv_u v :: st) h o h') : gv_V xs D j pc E (.int i :: gv_u x :: st) h o h' := by
  unfold gv_lT at hv
  obtain ⟨a, hxa, hv1⟩ := Option.bind_eq_some_iff.mp hv
  clear hv
  subst hxa
  obtain ⟨w, hw, hv2⟩ := Option.bind_eq_some_iff.mp hv1
  have := gv_r_e hv2
  subst this
  refine gv_Q hi (fun _ => rfl) (fun L => ?_) K
  show (match gx_rd h a 103 i with | some v => if v.isRef then some (pc + 1, L, v :: st) else none | none => (gx_rd h a 104 i).bind fun v => if v.isRef then some (pc + 1, L, v :: st) else none) = _
  rw [hw]
  show (if _ then _ else _) = _
  rw [if_pos (gv_u_ref v), hc]
theorem gv_aaA {x : Option Nat} {i : Int32} {v : Option Nat} (hi : gx_I j pc = some .aaload) (hv : gv_lA h x i = some v) (hc : pc + 1 = pc') (K : gv_V xs D j pc' E (gv_u v :: st) h o h') : gv_V xs D j pc E (.int i :: gv_u x :: st) h o h' := by
  unfold gv_lA at hv
  obtain ⟨a, hxa, hv1⟩ := Option.bind_eq_some_iff.mp hv
  clear hv
  subst hxa
  obtain ⟨w, hw, hv2⟩ := Option.bind_eq_some_iff.mp hv1
  have := gv_r_e hv2
  subst this
  obtain ⟨vs, q1, q2, q3⟩ := gx_rd_e hw
  have h3 : gx_rd h a 103 i = none := by unfold gx_rd; rw [q1]; rfl
  refine gv_Q hi (fun _ => rfl) (fun L => ?_) K
  show (match gx_rd h a 103 i with | some v => if v.isRef then some (pc + 1, L, v :: st) else none | none => (gx_rd h a 104 i).bind fun v => if v.isRef then some (pc + 1, L, v :: st) else none) = _
  rw [h3]
  show (gx_rd h a 104 i).bind _ = _
  rw [hw]
  show (if _ then _ else _) = _
  rw [if_pos (gv_u_ref v), hc]
theorem gv_xal {x : UInt32} {i v : Int32} {l : List Int32} (hi : gx_I j pc = some .iaload) (hl : xs = some l) (h0 : ¬ i < 0) (hv : l[i.toNatClampNeg]? = some v) (hc : pc + 1 = pc') (K : gv_V xs D j pc' E (.int v :: st) h o h') : gv_V xs D j pc E (.int i :: .float x :: st) h o h' := by
  refine gv_Q hi (fun _ => rfl) (fun L => ?_) K
  show xs.bind _ = _
  rw [hl]
  show (if _ then _ else _) = _
  rw [if_neg h0, hv, ← hc]
  rfl
theorem gv_xlen {x : UInt32} {l : List Int32} (hi : gx_I j pc = some .arraylength) (hl : xs = some l) (hc : pc + 1 = pc') (K : gv_V xs D j pc' E (.int l.length.toInt32 :: st) h o h') : gv_V xs D j pc E (.float x :: st) h o h' := by
  refine gv_Q hi (fun _ => rfl) (fun L => ?_) K
  show xs.map _ = _
  rw [hl, ← hc]
  rfl
theorem gv_pI {idx c i : Nat} {x : Option Nat} {v : Int32} {h1 : gx_H} (hi : gx_I j pc = some (.putfield idx)) (hf : gx_F (gx_mo j) idx = some (c, i)) (hk : gv_fk c i = 1) (hv : gv_pV h x c i (.int v) = some h1) (hc : pc + 3 = pc') (K : gv_V xs D j pc' E st h1 o h') : gv_V xs D j pc E (.int v :: gv_u x :: st) h o h' := by
  unfold gv_pV at hv
  obtain ⟨a, hxa, hv1⟩ := Option.bind_eq_some_iff.mp hv
  clear hv
  subst hxa
  obtain ⟨fs, q1, hv2⟩ := Option.bind_eq_some_iff.mp hv1
  clear hv1
  split at hv2
  · rename_i hlt
    cases hv2
    refine gv_W hi (fun _ => rfl) (fun _ => rfl) ?_ (by simp) K
    show (gx_F _ _).bind _ = _
    rw [hf]
    show (gx_ob h a c).bind _ = _
    rw [q1]
    show (if _ then _ else _) = _
    rw [if_pos ⟨gv_fok1 hk, hlt⟩, hc]
  · cases hv2
theorem gv_pJ {idx c i : Nat} {x : Option Nat} {v : Int64} {h1 : gx_H} (hi : gx_I j pc = some (.putfield idx)) (hf : gx_F (gx_mo j) idx = some (c, i)) (hk : gv_fk c i = 2) (hv : gv_pV h x c i (.long v) = some h1) (hc : pc + 3 = pc') (K : gv_V xs D j pc' E st h1 o h') : gv_V xs D j pc E (.long v :: gv_u x :: st) h o h' := by
  unfold gv_pV at hv
  obtain ⟨a, hxa, hv1⟩ := Option.bind_eq_some_iff.mp hv
  clear hv
  subst hxa
  obtain ⟨fs, q1, hv2⟩ := Option.bind_eq_some_iff.mp hv1
  clear hv1
  split at hv2
  · rename_i hlt
    cases hv2
    refine gv_W hi (fun _ => rfl) (fun _ => rfl) ?_ (by simp) K
    show (gx_F _ _).bind _ = _
    rw [hf]
    show (gx_ob h a c).bind _ = _
    rw [q1]
    show (if _ then _ else _) = _
    rw [if_pos ⟨gv_fok2 hk, hlt⟩, hc]
  · cases hv2
theorem gv_pZ {idx c i : Nat} {x : Option Nat} {v : Int32} {h1 : gx_H} (hi : gx_I j pc = some (.putfield idx)) (hf : gx_F (gx_mo j) idx = some (c, i)) (hk : gv_fk c i = 3) (hz : v = 0 ∨ v = 1) (hv : gv_pV h x c i (.int v) = some h1) (hc : pc + 3 = pc') (K : gv_V xs D j pc' E st h1 o h') : gv_V xs D j pc E (.int v :: gv_u x :: st) h o h' := by
  unfold gv_pV at hv
  obtain ⟨a, hxa, hv1⟩ := Option.bind_eq_some_iff.mp hv
  clear hv
  subst hxa
  obtain ⟨fs, q1, hv2⟩ := Option.bind_eq_some_iff.mp hv1
  clear hv1
  split at hv2
  · rename_i hlt
    cases hv2
    refine gv_W hi (fun _ => rfl) (fun _ => rfl) ?_ (by simp) K
    show (gx_F _ _).bind _ = _
    rw [hf]
    show (gx_ob h a c).bind _ = _
    rw [q1]
    show (if _ then _ else _) = _
    rw [if_pos ⟨gv_fok3 hk hz, hlt⟩, hc]
  · cases hv2
theorem gv_iast {x : Option Nat} {i : Int32} {v : Int32} {h1 : gx_H} (hi : gx_I j pc = some .iastore) (hv : gv_wI h x i v = some h1) (hc : pc + 1 = pc') (K : gv_V xs D j pc' E st h1 o h') : gv_V xs D j pc E (.int v :: .int i :: gv_u x :: st) h o h' := by
  unfold gv_wI at hv
  obtain ⟨a, hxa, hv1⟩ := Option.bind_eq_some_iff.mp hv
  clear hv
  subst hxa
  have hv := hv1
  refine gv_W hi (fun _ => rfl) (fun _ => rfl) ?_ ?_ K
  · show (gx_wr h a 100 i (.int v)).map _ = _
    rw [hv, hc]; rfl
  · obtain ⟨vs, -, -, -, rfl⟩ := gx_wr_e hv
    simp
theorem gv_last {x : Option Nat} {i : Int32} {v : Int64} {h1 : gx_H} (hi : gx_I j pc = some .lastore) (hv : gv_wJ h x i v = some h1) (hc : pc + 1 = pc') (K : gv_V xs D j pc' E st h1 o h') : gv_V xs D j pc E (.long v :: .int i :: gv_u x :: st) h o h' := by
  unfold gv_wJ at hv
  obtain ⟨a, hxa, hv1⟩ := Option.bind_eq_some_iff.mp hv
  clear hv
  subst hxa
  have hv := hv1
  refine gv_W hi (fun _ => rfl) (fun _ => rfl) ?_ ?_ K
  · show (gx_wr h a 101 i (.long v)).map _ = _
    rw [hv, hc]; rfl
  · obtain ⟨vs, -, -, -, rfl⟩ := gx_wr_e hv
    simp
theorem gv_bast {x : Option Nat} {i : Int32} {v : Int32} {h1 : gx_H} (hi : gx_I j pc = some .bastore) (hv : gv_wZ h x i v = some h1) (hc : pc + 1 = pc') (K : gv_V xs D j pc' E st h1 o h') : gv_V xs D j pc E (.int v :: .int i :: gv_u x :: st) h o h' := by
  unfold gv_wZ at hv
  obtain ⟨a, hxa, hv1⟩ := Option.bind_eq_some_iff.mp hv
  clear hv
  subst hxa
  have hv := hv1
  refine gv_W hi (fun _ => rfl) (fun _ => rfl) ?_ ?_ K
  · show (gx_wr h a 102 i (.int (v &&& 1))).map _ = _
    rw [hv, hc]; rfl
  · obtain ⟨vs, -, -, -, rfl⟩ := gx_wr_e hv
    simp
theorem gv_acp {idx : Nat} {x y : Option Nat} {sp dp n : Int32} {h1 : gx_H} (hi : gx_I j pc = some (.invokestatic idx)) (ha : gx_ac (gx_mo j) idx = true) (hr : Nat.ble st.length 4 = true) (hv : gv_cp h x sp y dp n = some h1) (hc : pc + 3 = pc') (K : gv_V xs D j pc' E st h1 o h') : gv_V xs D j pc E (.int n :: .int dp :: gv_u y :: .int sp :: gv_u x :: st) h o h' := by
  unfold gv_cp at hv
  obtain ⟨a0, hx0, hv1⟩ := Option.bind_eq_some_iff.mp hv
  obtain ⟨a, hx1, hv2⟩ := Option.bind_eq_some_iff.mp hv1
  obtain ⟨vs, q1, hv3⟩ := Option.bind_eq_some_iff.mp hv2
  obtain ⟨ws, q2, hv4⟩ := Option.bind_eq_some_iff.mp hv3
  clear hv hv1 hv2 hv3
  subst hx0
  subst hx1
  split at hv4
  · rename_i hcnd
    cases hv4
    refine gv_B hi (fun _ => rfl) (fun _ => rfl) rfl rfl rfl rfl ?_ (by simp) K
    show (gx_ob h a0 100).bind _ = _
    rw [q1]
    show (gx_ob h a 100).bind _ = _
    rw [q2]
    show (if _ then _ else _) = _
    rw [if_pos ⟨ha, gv_sum st hr, hcnd⟩, hc]
  · cases hv4
theorem gv_retV (hi : gx_I j pc = some .return_) (hr : gx_rt j = none) : gv_V xs D j pc E [] h (.returned none) h := gv_E hi (fun _ => rfl) (fun _ => rfl) rfl rfl rfl (by show (if _ then _ else _) = _; rw [if_pos hr])
theorem gv_retI {v : Int32} (hi : gx_I j pc = some .ireturn) (hr : gx_rt j = some .int) : gv_V xs D j pc E [.int v] h (.returned (some (.int v))) h := gv_E hi (fun _ => rfl) (fun _ => rfl) rfl rfl rfl (by show (match gx_rt j with | some ty => if narrow ty (Value.int v) = Value.int v then some (some (Value.int v)) else none | none => none) = _; rw [hr]; exact if_pos rfl)
theorem gv_retZ {v : Int32} (hi : gx_I j pc = some .ireturn) (hr : gx_rt j = some .boolean) (hz : v = 0 ∨ v = 1) : gv_V xs D j pc E [.int v] h (.returned (some (.int v))) h := gv_E hi (fun _ => rfl) (fun _ => rfl) rfl rfl rfl (by show (match gx_rt j with | some ty => if narrow ty (Value.int v) = Value.int v then some (some (Value.int v)) else none | none => none) = _; rw [hr]; show (if _ then _ else _) = _; rw [if_pos (gv_nz hz)])
theorem gv_retJ {v : Int64} (hi : gx_I j pc = some .lreturn) (hr : gx_rt j = some .long) : gv_V xs D j pc E [.long v] h (.returned (some (.long v))) h := gv_E hi (fun _ => rfl) (fun _ => rfl) rfl rfl rfl (by show (if _ then _ else _) = _; rw [if_pos hr])
theorem gv_retR {v : Option Nat} (hi : gx_I j pc = some .areturn) (hr : gx_rr (gx_rt j) = true) : gv_V xs D j pc E [gv_u v] h (.returned (some (gv_u v))) h := gv_E hi (fun _ => rfl) (fun _ => rfl) rfl rfl rfl (by show (if _ then _ else _) = _; rw [if_pos ⟨gv_u_ref v, hr⟩])
theorem gv_thr {idx t : Nat} (hi : gx_I j pc = some (.new idx)) (hn : gx_ct (gx_mo j) idx = none) (ht : gx_th j pc (.new idx) [] = some t) : gv_V xs D j pc E [] h (.threw h.length) (h ++ [(t, [])]) := gv_th hi (fun _ => rfl) (fun _ => rfl) rfl (by show (gx_ct _ _).bind _ = _; rw [hn]; rfl) rfl rfl rfl ht
/-! calls -/
theorem gv_acN {o' idx : Nat} {st : List Value} (hb : gx_ac o' idx = false) : gx_bi o' h (.invokestatic idx) pc st = none := by
  unfold gx_bi
  dsimp only
  split
  · cases gx_ob h _ 100 with
    | none => rfl
    | some vs =>
      show Option.bind _ _ = _
      cases gx_ob h _ 100 with
      | none => rfl
      | some ws => show (if _ then _ else _) = _; rw [if_neg (fun q => by rw [hb] at q; cases q.1)]
  · rfl
theorem gv_csN {idx jc n : Nat} {A rest : List Value} {b : Bool} (hm : gx_mt (gx_mo j) idx = some (jc, b)) (hk : gx_kd jc = 0) (hn : gx_np jc = n) (hl : Nat.ble n st.length = true) (hA : (st.take n).reverse = A) (hR : st.drop n = rest) : gx_c (gx_mo j) h (.invokestatic idx) st = some (jc, A, rest) := by
  show (gx_mt _ _).bind _ = _
  rw [hm]
  show (if _ then _ else _) = _
  rw [if_pos ⟨hk, by rw [hn]; exact Nat.le_of_ble_eq_true hl⟩, hn, hA, hR]
theorem gv_cvN {idx jc n c a : Nat} {A rest : List Value} {b : Bool} (hm : gx_mt (gx_mo j) idx = some (jc, b)) (hk : gx_kd jc = 1) (hn : gx_np jc = n) (hcl : gx_rc jc = c) (hl : Nat.ble n st.length = true) (hA : (st.take n).reverse = A) (hR : st.drop n = gv_u (some a) :: rest) (hv : gv_is h (some a) c = some a) : gx_c (gx_mo j) h (.invokevirtual idx) st = some (jc, gv_u (some a) :: A, rest) := by
  show (gx_mt _ _).bind _ = _
  rw [hm]
  show (if _ then _ else _) = _
  rw [if_pos ⟨hk, by rw [hn]; exact Nat.le_of_ble_eq_true hl⟩, hn, hA, hR]
  unfold gv_is at hv
  show (gx_ob h a (gx_rc jc)).map _ = _
  rw [hcl]
  obtain ⟨fs, h1, -⟩ := Option.map_eq_some_iff.mp (show (gx_ob h a c).map _ = _ from hv)
  rw [h1]
  rfl
theorem gv_catE {o' : Nat} {x : Nat} {w : gx_C} (hw : h[x]? = some w) : ∀ (l : List (Nat × Nat × Nat × Nat)) (seen : Bool), gx_catL o' pc h x l seen = gv_cT o' pc w.1 l seen := by
  intro l
  induction l with
  | nil => intro seen; rfl
  | cons q l ih =>
    intro seen
    rw [gx_catL, gv_cT, ih, ih]
    split
    · rw [hw]
      rfl
    · rfl
theorem gv_catT {x t : Nat} {w : gx_C} (hw : h[x]? = some w) (ht : w.1 = t) (hc : gv_cT (gx_mo j) pc t (gx_hd j) false = some (some pc')) : gx_cat j pc h x = some (some pc') := by
  unfold gx_cat
  rw [gv_catE hw, ht]
  exact hc
theorem gv_isx {x : Option Nat} {c a : Nat} (hv : gv_is h x c = some a) : x = some a ∧ gv_is h (some a) c = some a := by
  unfold gv_is at hv
  obtain ⟨a', rfl, hv⟩ := Option.bind_eq_some_iff.mp hv
  obtain ⟨fs, h1, rfl⟩ := Option.map_eq_some_iff.mp hv
  exact ⟨rfl, hv⟩
theorem gv_sS {idx jc n Dc sz : Nat} {A rest : List Value} {b : Bool} {Ec : gx_L} {v : Option Value} {h1 : gx_H} (hi : gx_I j pc = some (.invokestatic idx)) (hm : gx_mt (gx_mo j) idx = some (jc, b)) (hb : gx_ac (gx_mo j) idx = false) (hk : gx_kd jc = 0) (hn : gx_np jc = n) (hl : Nat.ble n st.length = true) (hA : (st.take n).reverse = A) (hR : st.drop n = rest) (hr : Nat.ble rest.length 4 = true) (hz : gv_z A sz) (hz2 : Nat.ble sz (gx_nl jc) = true) (ha : gv_a 0 A Ec) (hD : Dc + 1 ≤ D) (C : gv_V xs Dc jc 0 Ec [] h (.returned v) h1) {stk : List Value} (hs : v.toList ++ rest = stk) (hc : pc + 3 = pc') (K : gv_V xs D j pc' E stk h1 o h') : gv_V xs D j pc E st h o h' :=
  gv_call hi (fun _ => rfl) (fun _ => rfl) rfl rfl rfl rfl (gv_acN hb) rfl (gv_csN hm hk hn hl hA hR) hr hz hz2 ha hD C (by rw [hc, hs]; exact K)
theorem gv_vS {idx jc n c a Dc sz : Nat} {A rest : List Value} {b : Bool} {x : Option Nat} {Ec : gx_L} {v : Option Value} {h1 : gx_H} (hi : gx_I j pc = some (.invokevirtual idx)) (hm : gx_mt (gx_mo j) idx = some (jc, b)) (hk : gx_kd jc = 1) (hn : gx_np jc = n) (hcl : gx_rc jc = c) (hl : Nat.ble n st.length = true) (hA : (st.take n).reverse = A) (hR : st.drop n = gv_u x :: rest) (hr : Nat.ble rest.length 4 = true) (hz : gv_z (gv_u x :: A) sz) (hz2 : Nat.ble sz (gx_nl jc) = true) (ha : gv_a 0 (gv_u x :: A) Ec) (hD : Dc + 1 ≤ D) (hv : gv_is h x c = some a) (C : gv_V xs Dc jc 0 Ec [] h (.returned v) h1) {stk : List Value} (hs : v.toList ++ rest = stk) (hc : pc + 3 = pc') (K : gv_V xs D j pc' E stk h1 o h') : gv_V xs D j pc E st h o h' := by
  obtain ⟨rfl, hv2⟩ := gv_isx hv
  exact gv_call hi (fun _ => rfl) (fun _ => rfl) rfl rfl rfl rfl rfl rfl (gv_cvN hm hk hn hcl hl hA hR hv2) hr hz hz2 ha hD C (by rw [hc, hs]; exact K)
theorem gv_sX {idx jc n Dc sz : Nat} {A rest : List Value} {b : Bool} {Ec : gx_L} {x0 : Nat} {h1 : gx_H} (hi : gx_I j pc = some (.invokestatic idx)) (hm : gx_mt (gx_mo j) idx = some (jc, b)) (hb : gx_ac (gx_mo j) idx = false) (hk : gx_kd jc = 0) (hn : gx_np jc = n) (hl : Nat.ble n st.length = true) (hA : (st.take n).reverse = A) (hR : st.drop n = rest) (hr : Nat.ble rest.length 4 = true) (hz : gv_z A sz) (hz2 : Nat.ble sz (gx_nl jc) = true) (ha : gv_a 0 A Ec) (hD : Dc + 1 ≤ D) (C : gv_V xs Dc jc 0 Ec [] h (.threw x0) h1) (hx : gx_hd j = []) : gv_V xs D j pc E st h (.threw x0) h1 :=
  gv_callX hi (fun _ => rfl) (fun _ => rfl) rfl rfl rfl rfl (gv_acN hb) rfl (gv_csN hm hk hn hl hA hR) hr hz hz2 ha hD C hx
theorem gv_vX {idx jc n c a Dc sz : Nat} {A rest : List Value} {b : Bool} {x : Option Nat} {Ec : gx_L} {x0 : Nat} {h1 : gx_H} (hi : gx_I j pc = some (.invokevirtual idx)) (hm : gx_mt (gx_mo j) idx = some (jc, b)) (hk : gx_kd jc = 1) (hn : gx_np jc = n) (hcl : gx_rc jc = c) (hl : Nat.ble n st.length = true) (hA : (st.take n).reverse = A) (hR : st.drop n = gv_u x :: rest) (hr : Nat.ble rest.length 4 = true) (hz : gv_z (gv_u x :: A) sz) (hz2 : Nat.ble sz (gx_nl jc) = true) (ha : gv_a 0 (gv_u x :: A) Ec) (hD : Dc + 1 ≤ D) (hv : gv_is h x c = some a) (C : gv_V xs Dc jc 0 Ec [] h (.threw x0) h1) (hx : gx_hd j = []) : gv_V xs D j pc E st h (.threw x0) h1 := by
  obtain ⟨rfl, hv2⟩ := gv_isx hv
  exact gv_callX hi (fun _ => rfl) (fun _ => rfl) rfl rfl rfl rfl rfl rfl (gv_cvN hm hk hn hcl hl hA hR hv2) hr hz hz2 ha hD C hx
theorem gv_sC {idx jc n Dc sz : Nat} {A rest : List Value} {b : Bool} {Ec : gx_L} {x0 : Nat} {h1 : gx_H} (hi : gx_I j pc = some (.invokestatic idx)) (hm : gx_mt (gx_mo j) idx = some (jc, b)) (hb : gx_ac (gx_mo j) idx = false) (hk : gx_kd jc = 0) (hn : gx_np jc = n) (hl : Nat.ble n st.length = true) (hA : (st.take n).reverse = A) (hR : st.drop n = rest) (hr : Nat.ble rest.length 4 = true) (hz : gv_z A sz) (hz2 : Nat.ble sz (gx_nl jc) = true) (ha : gv_a 0 A Ec) (hD : Dc + 1 ≤ D) (C : gv_V xs Dc jc 0 Ec [] h (.threw x0) h1) (hx : gx_cat j pc h1 x0 = some (some pc')) (K : gv_V xs D j pc' E [gv_u (some x0)] h1 o h') : gv_V xs D j pc E st h o h' :=
  gv_callC hi (fun _ => rfl) (fun _ => rfl) rfl rfl rfl rfl (gv_acN hb) rfl (gv_csN hm hk hn hl hA hR) hr hz hz2 ha hD C hx K
theorem gv_vC {idx jc n c a Dc sz : Nat} {A rest : List Value} {b : Bool} {x : Option Nat} {Ec : gx_L} {x0 : Nat} {h1 : gx_H} (hi : gx_I j pc = some (.invokevirtual idx)) (hm : gx_mt (gx_mo j) idx = some (jc, b)) (hk : gx_kd jc = 1) (hn : gx_np jc = n) (hcl : gx_rc jc = c) (hl : Nat.ble n st.length = true) (hA : (st.take n).reverse = A) (hR : st.drop n = gv_u x :: rest) (hr : Nat.ble rest.length 4 = true) (hz : gv_z (gv_u x :: A) sz) (hz2 : Nat.ble sz (gx_nl jc) = true) (ha : gv_a 0 (gv_u x :: A) Ec) (hD : Dc + 1 ≤ D) (hv : gv_is h x c = some a) (C : gv_V xs Dc jc 0 Ec [] h (.threw x0) h1) (hx : gx_cat j pc h1 x0 = some (some pc')) (K : gv_V xs D j pc' E [gv_u (some x0)] h1 o h') : gv_V xs D j pc E st h o h' := by
  obtain ⟨rfl, hv2⟩ := gv_isx hv
  exact gv_callC hi (fun _ => rfl) (fun _ => rfl) rfl rfl rfl rfl rfl rfl (gv_cvN hm hk hn hcl hl hA hR hv2) hr hz hz2 ha hD C hx K
end GV
theorem gv_eqT {x : Int32} (c : x = 0) : gx_c1 .eq x = true := decide_eq_true (c)
theorem gv_eqF {x : Int32} (c : ¬ x = 0) : gx_c1 .eq x = false := decide_eq_false (c)
theorem gv_neT {x : Int32} (c : ¬ x = 0) : gx_c1 .ne x = true := decide_eq_true (c)
theorem gv_neF {x : Int32} (c : x = 0) : gx_c1 .ne x = false := decide_eq_false (fun q => q c)
theorem gv_ltT {x : Int32} (c : x < 0) : gx_c1 .lt x = true := decide_eq_true (c)
theorem gv_ltF {x : Int32} (c : ¬ x < 0) : gx_c1 .lt x = false := decide_eq_false (c)
theorem gv_geT {x : Int32} (c : ¬ x < 0) : gx_c1 .ge x = true := decide_eq_true (Int32.not_lt.mp c)
theorem gv_geF {x : Int32} (c : x < 0) : gx_c1 .ge x = false := decide_eq_false (Int32.not_le.mpr c)
theorem gv_gtT {x : Int32} (c : 0 < x) : gx_c1 .gt x = true := decide_eq_true (c)
theorem gv_gtF {x : Int32} (c : ¬ 0 < x) : gx_c1 .gt x = false := decide_eq_false (c)
theorem gv_leT {x : Int32} (c : ¬ 0 < x) : gx_c1 .le x = true := decide_eq_true (Int32.not_lt.mp c)
theorem gv_leF {x : Int32} (c : 0 < x) : gx_c1 .le x = false := decide_eq_false (Int32.not_le.mpr c)
theorem gv_eqT2 {x y : Int32} (c : x = y) : gx_c2 .eq x y = true := decide_eq_true (c)
theorem gv_eqF2 {x y : Int32} (c : ¬ x = y) : gx_c2 .eq x y = false := decide_eq_false (c)
theorem gv_neT2 {x y : Int32} (c : ¬ x = y) : gx_c2 .ne x y = true := decide_eq_true (c)
theorem gv_neF2 {x y : Int32} (c : x = y) : gx_c2 .ne x y = false := decide_eq_false (fun q => q c)
theorem gv_ltT2 {x y : Int32} (c : x < y) : gx_c2 .lt x y = true := decide_eq_true (c)
theorem gv_ltF2 {x y : Int32} (c : ¬ x < y) : gx_c2 .lt x y = false := decide_eq_false (c)
theorem gv_geT2 {x y : Int32} (c : ¬ x < y) : gx_c2 .ge x y = true := decide_eq_true (Int32.not_lt.mp c)
theorem gv_geF2 {x y : Int32} (c : x < y) : gx_c2 .ge x y = false := decide_eq_false (Int32.not_le.mpr c)
theorem gv_gtT2 {x y : Int32} (c : y < x) : gx_c2 .gt x y = true := decide_eq_true (c)
theorem gv_gtF2 {x y : Int32} (c : ¬ y < x) : gx_c2 .gt x y = false := decide_eq_false (c)
theorem gv_leT2 {x y : Int32} (c : ¬ y < x) : gx_c2 .le x y = true := decide_eq_true (Int32.not_lt.mp c)
theorem gv_leF2 {x y : Int32} (c : y < x) : gx_c2 .le x y = false := decide_eq_false (Int32.not_le.mpr c)
theorem gv_lg0 {x y : Int64} : lg_cmp x y = 0 ↔ x = y := by
  unfold lg_cmp
  by_cases c : x > y
  · rw [if_pos c]
    have := Int64.lt_iff_toInt_lt.mp c
    exact ⟨fun q => absurd q (by decide), fun q => by rw [q] at this; omega⟩
  · rw [if_neg c]
    by_cases c2 : x = y
    · rw [if_pos c2]; exact ⟨fun _ => c2, fun _ => rfl⟩
    · rw [if_neg c2]; exact ⟨fun q => absurd q (by decide), fun q => absurd q c2⟩
theorem gv_lgl {x y : Int64} : lg_cmp x y < 0 ↔ x < y := by
  unfold lg_cmp
  rw [Int64.lt_iff_toInt_lt]
  by_cases c : x > y
  · rw [if_pos c]
    have := Int64.lt_iff_toInt_lt.mp c
    exact ⟨fun q => absurd q (by decide), fun q => by omega⟩
  · rw [if_neg c]
    by_cases c2 : x = y
    · rw [if_pos c2]; exact ⟨fun q => absurd q (by decide), fun q => by rw [c2] at q; omega⟩
    · rw [if_neg c2]
      have c3 : ¬ y.toInt < x.toInt := fun q => c (Int64.lt_iff_toInt_lt.mpr q)
      have c4 : ¬ x.toInt = y.toInt := fun q => c2 (Int64.toInt_inj.mp q)
      exact ⟨fun _ => by omega, fun _ => by decide⟩
theorem gv_lgg {x y : Int64} : 0 < lg_cmp x y ↔ y < x := by
  unfold lg_cmp
  by_cases c : x > y
  · rw [if_pos c]
    exact ⟨fun _ => c, fun _ => by decide⟩
  · rw [if_neg c]
    refine ⟨fun q => ?_, fun q => absurd q c⟩
    by_cases c2 : x = y
    · rw [if_pos c2] at q; exact absurd q (by decide)
    · rw [if_neg c2] at q; exact absurd q (by decide)
theorem gv_eqTL {x y : Int64} (c : x = y) : gx_c1 .eq (lg_cmp x y) = true := gv_eqT (by rw [gv_lg0]; exact c)
theorem gv_eqFL {x y : Int64} (c : ¬ x = y) : gx_c1 .eq (lg_cmp x y) = false := gv_eqF (by rw [gv_lg0]; exact c)
theorem gv_neTL {x y : Int64} (c : ¬ x = y) : gx_c1 .ne (lg_cmp x y) = true := gv_neT (by rw [gv_lg0]; exact c)
theorem gv_neFL {x y : Int64} (c : x = y) : gx_c1 .ne (lg_cmp x y) = false := gv_neF (by rw [gv_lg0]; exact c)
theorem gv_ltTL {x y : Int64} (c : x < y) : gx_c1 .lt (lg_cmp x y) = true := gv_ltT (by rw [gv_lgl]; exact c)
theorem gv_ltFL {x y : Int64} (c : ¬ x < y) : gx_c1 .lt (lg_cmp x y) = false := gv_ltF (by rw [gv_lgl]; exact c)
theorem gv_geTL {x y : Int64} (c : ¬ x < y) : gx_c1 .ge (lg_cmp x y) = true := gv_geT (by rw [gv_lgl]; exact c)
theorem gv_geFL {x y : Int64} (c : x < y) : gx_c1 .ge (lg_cmp x y) = false := gv_geF (by rw [gv_lgl]; exact c)
theorem gv_gtTL {x y : Int64} (c : y < x) : gx_c1 .gt (lg_cmp x y) = true := gv_gtT (by rw [gv_lgg]; exact c)
theorem gv_gtFL {x y : Int64} (c : ¬ y < x) : gx_c1 .gt (lg_cmp x y) = false := gv_gtF (by rw [gv_lgg]; exact c)
theorem gv_leTL {x y : Int64} (c : ¬ y < x) : gx_c1 .le (lg_cmp x y) = true := gv_leT (by rw [gv_lgg]; exact c)
theorem gv_leFL {x y : Int64} (c : y < x) : gx_c1 .le (lg_cmp x y) = false := gv_leF (by rw [gv_lgg]; exact c)
/-- a switch's default -/
def gv_N (x : Int32) (ks : List Int32) : Prop := ∀ k ∈ ks, ¬ x = k
theorem gv_N0 {x : Int32} : gv_N x [] := fun k hk => by cases hk
theorem gv_N1 {x k : Int32} {ks : List Int32} (c : ¬ x = k) (h : gv_N x ks) : gv_N x (k :: ks) := fun k' hk => by
  cases hk with
  | head => exact c
  | tail _ hk => exact h k' hk
theorem gv_tabd {d lo hi : Int} {offs : Array Int} {x : Int32} {ks : List Int32} (hN : gv_N x ks) (hall : ((List.range (hi - lo + 1).toNat).all fun i => decide (offs[i]? = some d) || decide (Int32.ofInt (lo + i) ∈ ks)) = true) : gx_tab d lo hi offs x = some d := by
  unfold gx_tab
  split
  · rfl
  · split
    · rfl
    · rename_i c1 c2
      have h1 := List.all_eq_true.mp hall (x.toInt - lo).toNat (List.mem_range.mpr (by omega))
      rcases (Bool.or_eq_true _ _).mp h1 with h2 | h2
      · exact of_decide_eq_true h2
      · exfalso
        have h2 := of_decide_eq_true h2
        have h3 : lo + ((x.toInt - lo).toNat : Int) = x.toInt := by omega
        rw [h3, Int32.ofInt_toInt] at h2
        exact hN _ h2 rfl
theorem gv_bind {α β : Type} {x : Option α} {f : α → Option β} {r : β} (e : x.bind f = some r) : ∃ v, x = some v ∧ f v = some r := Option.bind_eq_some_iff.mp e
end
section
/-! by program: the methods as functions, and that the small machine does what they say -/
def cS_thingAt (l0 : Option Nat) (l1 : Int32) (h : gx_H) : Option (Option Nat) :=
  if l1 < 0 then (
    some none) else
  (gv_gI h l0 1 1).bind fun v2 =>
  if l1 < v2 then (
    (gv_gR h l0 1 0).bind fun v4 =>
    (gv_lT h v4 l1).bind fun v5 =>
    some v5) else
  some none
theorem cS_thingAt_ok {xs : Option (List Int32)} {l0 : Option Nat} {l1 : Int32} {h : gx_H} {r : (Option Nat)} (e : cS_thingAt l0 l1 h = some r) : gv_V xs 0 10 0 [(0, gv_u l0), (1, .int l1)] [] h (.returned (some (gv_u r))) h := by
  unfold cS_thingAt at e
  refine gv_ildn (pc' := 1) rfl rfl rfl ?_
  by_cases c1 : l1 < 0
  · rw [if_pos c1] at e
    refine gv_ifT (pc' := 12) rfl (gv_ltT c1) rfl ?_
    refine gv_null (pc' := 13) rfl rfl ?_
    refine gv_goto (pc' := 22) rfl rfl ?_
    cases e
    exact gv_retR rfl rfl
  rw [if_neg c1] at e
  refine gv_ifF (pc' := 4) rfl (gv_ltF c1) rfl rfl ?_
  refine gv_ildn (pc' := 5) rfl rfl rfl ?_
  refine gv_rldn (pc' := 6) rfl rfl rfl ?_
  obtain ⟨v2, qv2, e⟩ := gv_bind e
  refine gv_fI (pc' := 9) rfl rfl qv2 rfl ?_
  by_cases c3 : l1 < v2
  · rw [if_pos c3] at e
    refine gv_cmT (pc' := 16) rfl (gv_ltT2 c3) rfl ?_
    refine gv_rldn (pc' := 17) rfl rfl rfl ?_
    obtain ⟨v4, qv4, e⟩ := gv_bind e
    refine gv_fR (pc' := 20) rfl rfl qv4 rfl ?_
    refine gv_ildn (pc' := 21) rfl rfl rfl ?_
    obtain ⟨v5, qv5, e⟩ := gv_bind e
    refine gv_aaT (pc' := 22) rfl qv5 rfl ?_
    cases e
    exact gv_retR rfl rfl
  rw [if_neg c3] at e
  refine gv_cmF (pc' := 12) rfl (gv_ltF2 c3) rfl rfl ?_
  refine gv_null (pc' := 13) rfl rfl ?_
  refine gv_goto (pc' := 22) rfl rfl ?_
  cases e
  exact gv_retR rfl rfl
def cS_isFreeBuffer (l0 : Option Nat) (l1 : Int32) (h : gx_H) : Option Int32 :=
  (gv_is h l0 1).bind fun i1 =>
  (cS_thingAt l0 l1 h).bind fun v2 =>
  if v2 = none then (
    some (0 : Int32)) else
  (gv_gI h v2 2 4).bind fun v4 =>
  if v4 = (4 : Int32) then (
    (gv_gI h v2 2 6).bind fun v6 =>
    if v6 = 0 then (
      some (1 : Int32)) else
    some (0 : Int32)) else
  some (0 : Int32)
theorem cS_isFreeBuffer_ok {xs : Option (List Int32)} {l0 : Option Nat} {l1 : Int32} {h : gx_H} {r : Int32} (e : cS_isFreeBuffer l0 l1 h = some r) : gv_V xs 1 9 0 [(0, gv_u l0), (1, .int l1)] [] h (.returned (some (.int r))) h := by
  unfold cS_isFreeBuffer at e
  refine gv_rldn (pc' := 1) rfl rfl rfl ?_
  refine gv_ildn (pc' := 2) rfl rfl rfl ?_
  obtain ⟨i1, qi1, e⟩ := gv_bind e
  obtain ⟨v2, qv2, e⟩ := gv_bind e
  refine gv_vS (jc := 10) (n := 1) (rest := []) (stk := [gv_u v2]) (pc' := 5) rfl rfl rfl rfl rfl rfl rfl rfl rfl (gv_zR (gv_zI gv_z0)) rfl (gv_aR (gv_aI gv_a0)) (Nat.le_of_ble_eq_true rfl) qi1 (cS_thingAt_ok qv2) rfl rfl ?_
  refine gv_rstn (pc' := 6) rfl rfl (gv_Ci rfl) rfl ?_
  refine gv_rldn (pc' := 7) rfl rfl rfl ?_
  by_cases c3 : v2 = none
  · rw [if_pos c3] at e
    refine gv_nuT (pc' := 29) rfl c3 rfl ?_
    refine gv_ic (pc' := 30) (x := 0) rfl rfl rfl ?_
    cases e
    exact gv_retZ rfl rfl (by decide)
  rw [if_neg c3] at e
  refine gv_nuF (pc' := 10) rfl c3 rfl ?_
  refine gv_rldn (pc' := 11) rfl rfl rfl ?_
  obtain ⟨v4, qv4, e⟩ := gv_bind e
  refine gv_fI (pc' := 14) rfl rfl qv4 rfl ?_
  refine gv_ic (pc' := 15) (x := 4) rfl rfl rfl ?_
  by_cases c5 : v4 = (4 : Int32)
  · rw [if_pos c5] at e
    refine gv_cmF (pc' := 18) rfl (gv_neF2 c5) rfl rfl ?_
    refine gv_rldn (pc' := 19) rfl rfl rfl ?_
    obtain ⟨v6, qv6, e⟩ := gv_bind e
    refine gv_fI (pc' := 22) rfl rfl qv6 rfl ?_
    by_cases c7 : v6 = 0
    · rw [if_pos c7] at e
      refine gv_ifF (pc' := 25) rfl (gv_neF c7) rfl rfl ?_
      refine gv_ic (pc' := 26) (x := 1) rfl rfl rfl ?_
      refine gv_goto (pc' := 30) rfl rfl ?_
      cases e
      exact gv_retZ rfl rfl (by decide)
    rw [if_neg c7] at e
    refine gv_ifT (pc' := 29) rfl (gv_neT c7) rfl ?_
    refine gv_ic (pc' := 30) (x := 0) rfl rfl rfl ?_
    cases e
    exact gv_retZ rfl rfl (by decide)
  rw [if_neg c5] at e
  refine gv_cmT (pc' := 29) rfl (gv_neT2 c5) rfl ?_
  refine gv_ic (pc' := 30) (x := 0) rfl rfl rfl ?_
  cases e
  exact gv_retZ rfl rfl (by decide)
def cS_detachBuffer (l0 : Option Nat) (l1 : Int32) (h : gx_H) : Option (Int32 × gx_H) :=
  (gv_is h l0 1).bind fun i1 =>
  (cS_isFreeBuffer l0 l1 h).bind fun v2 =>
  if v2 = 0 then (
    some ((0 : Int32), h)) else
  (gv_gR h l0 1 0).bind fun v4 =>
  (gv_lT h v4 l1).bind fun v5 =>
  (gv_pV h v5 2 6 (.int (1 : Int32))).bind fun h6 =>
  some ((1 : Int32), h6)
theorem cS_detachBuffer_ok {xs : Option (List Int32)} {l0 : Option Nat} {l1 : Int32} {h : gx_H} {r : (Int32 × gx_H)} (e : cS_detachBuffer l0 l1 h = some r) : gv_V xs 2 8 0 [(0, gv_u l0), (1, .int l1)] [] h (.returned (some (.int r.1))) r.2 := by
  unfold cS_detachBuffer at e
  refine gv_rldn (pc' := 1) rfl rfl rfl ?_
  refine gv_ildn (pc' := 2) rfl rfl rfl ?_
  obtain ⟨i1, qi1, e⟩ := gv_bind e
  obtain ⟨v2, qv2, e⟩ := gv_bind e
  refine gv_vS (jc := 9) (n := 1) (rest := []) (stk := [.int v2]) (pc' := 5) rfl rfl rfl rfl rfl rfl rfl rfl rfl (gv_zR (gv_zI gv_z0)) rfl (gv_aR (gv_aI gv_a0)) (Nat.le_of_ble_eq_true rfl) qi1 (cS_isFreeBuffer_ok qv2) rfl rfl ?_
  by_cases c3 : v2 = 0
  · rw [if_pos c3] at e
    refine gv_ifF (pc' := 8) rfl (gv_neF c3) rfl rfl ?_
    refine gv_ic (pc' := 9) (x := 0) rfl rfl rfl ?_
    cases e
    exact gv_retZ rfl rfl (by decide)
  rw [if_neg c3] at e
  refine gv_ifT (pc' := 10) rfl (gv_neT c3) rfl ?_
  refine gv_rldn (pc' := 11) rfl rfl rfl ?_
  obtain ⟨v4, qv4, e⟩ := gv_bind e
  refine gv_fR (pc' := 14) rfl rfl qv4 rfl ?_
  refine gv_ildn (pc' := 15) rfl rfl rfl ?_
  obtain ⟨v5, qv5, e⟩ := gv_bind e
  refine gv_aaT (pc' := 16) rfl qv5 rfl ?_
  refine gv_ic (pc' := 17) (x := 1) rfl rfl rfl ?_
  obtain ⟨h6, qh6, e⟩ := gv_bind e
  refine gv_pZ (pc' := 20) rfl rfl rfl (by decide) qh6 rfl ?_
  refine gv_ic (pc' := 21) (x := 1) rfl rfl rfl ?_
  cases e
  exact gv_retZ rfl rfl (by decide)
def cG_byteOf (l0 : Int64) (l2 : Int32) : Option Int32 :=
  some ((Int64.toInt32 ((Int64.toUInt64 l0 >>> ((Int32.toInt64 ((8 : Int32) * l2)).toUInt64 &&& Int64.toUInt64 63)).toInt64)) &&& (255 : Int32))
theorem cG_byteOf_ok {xs : Option (List Int32)} {l0 : Int64} {l2 : Int32} {h : gx_H} {r : Int32} (e : cG_byteOf l0 l2 = some r) : gv_V xs 0 18 0 [(0, .long l0), (2, .int l2)] [] h (.returned (some (.int r))) h := by
  unfold cG_byteOf at e
  refine gv_jldn (pc' := 1) rfl rfl rfl ?_
  refine gv_bp (pc' := 3) (x := 8) rfl rfl rfl ?_
  refine gv_ildn (pc' := 4) rfl rfl rfl ?_
  refine gv_imul (pc' := 5) rfl rfl ?_
  refine gv_lushr (pc' := 6) rfl rfl ?_
  refine gv_l2i (pc' := 7) rfl rfl ?_
  refine gv_sp (pc' := 10) (x := 255) rfl rfl rfl ?_
  refine gv_iand (pc' := 11) rfl rfl ?_
  cases e
  exact gv_retI rfl rfl
def cB_append (l0 : Option Nat) (l1 : Int32) (h : gx_H) : Option (Int32 × gx_H) :=
  (gv_gI h l0 3 1).bind fun v1 =>
  if v1 < (300 : Int32) then (
    (gv_gR h l0 3 0).bind fun v3 =>
    (gv_gI h l0 3 1).bind fun v4 =>
    (gv_wI h v3 v4 l1).bind fun h5 =>
    (gv_gI h5 l0 3 1).bind fun v6 =>
    (gv_pV h5 l0 3 1 (.int (v6 + (1 : Int32)))).bind fun h7 =>
    some ((1 : Int32), h7)) else
  some ((0 : Int32), h)
theorem cB_append_ok {xs : Option (List Int32)} {l0 : Option Nat} {l1 : Int32} {h : gx_H} {r : (Int32 × gx_H)} (e : cB_append l0 l1 h = some r) : gv_V xs 0 19 0 [(0, gv_u l0), (1, .int l1)] [] h (.returned (some (.int r.1))) r.2 := by
  unfold cB_append at e
  refine gv_rldn (pc' := 1) rfl rfl rfl ?_
  obtain ⟨v1, qv1, e⟩ := gv_bind e
  refine gv_fI (pc' := 4) rfl rfl qv1 rfl ?_
  refine gv_sp (pc' := 7) (x := 300) rfl rfl rfl ?_
  by_cases c2 : v1 < (300 : Int32)
  · rw [if_pos c2] at e
    refine gv_cmT (pc' := 12) rfl (gv_ltT2 c2) rfl ?_
    refine gv_rldn (pc' := 13) rfl rfl rfl ?_
    obtain ⟨v3, qv3, e⟩ := gv_bind e
    refine gv_fR (pc' := 16) rfl rfl qv3 rfl ?_
    refine gv_rldn (pc' := 17) rfl rfl rfl ?_
    obtain ⟨v4, qv4, e⟩ := gv_bind e
    refine gv_fI (pc' := 20) rfl rfl qv4 rfl ?_
    refine gv_ildn (pc' := 21) rfl rfl rfl ?_
    obtain ⟨h5, qh5, e⟩ := gv_bind e
    refine gv_iast (pc' := 22) rfl qh5 rfl ?_
    refine gv_rldn (pc' := 23) rfl rfl rfl ?_
    refine gv_dup (pc' := 24) rfl (gv_u_cat _) rfl ?_
    obtain ⟨v6, qv6, e⟩ := gv_bind e
    refine gv_fI (pc' := 27) rfl rfl qv6 rfl ?_
    refine gv_ic (pc' := 28) (x := 1) rfl rfl rfl ?_
    refine gv_iadd (pc' := 29) rfl rfl ?_
    obtain ⟨h7, qh7, e⟩ := gv_bind e
    refine gv_pI (pc' := 32) rfl rfl rfl qh7 rfl ?_
    refine gv_ic (pc' := 33) (x := 1) rfl rfl rfl ?_
    cases e
    exact gv_retZ rfl rfl (by decide)
  rw [if_neg c2] at e
  refine gv_cmF (pc' := 10) rfl (gv_ltF2 c2) rfl rfl ?_
  refine gv_ic (pc' := 11) (x := 0) rfl rfl rfl ?_
  cases e
  exact gv_retZ rfl rfl (by decide)
def cT_begin (l0 : Option Nat) (l1 : Int32) (h : gx_H) : Option gx_H :=
  (gv_pV h l0 2 4 (.int l1)).bind fun h1 =>
  (gv_pV h1 l0 2 5 (.int (0 : Int32))).bind fun h2 =>
  (gv_pV h2 l0 2 6 (.int (0 : Int32))).bind fun h3 =>
  (gv_pV h3 l0 2 10 (.long (0 : Int64))).bind fun h4 =>
  some h4
theorem cT_begin_ok {xs : Option (List Int32)} {l0 : Option Nat} {l1 : Int32} {h : gx_H} {r : gx_H} (e : cT_begin l0 l1 h = some r) : gv_V xs 0 27 0 [(0, gv_u l0), (1, .int l1)] [] h (.returned none) r := by
  unfold cT_begin at e
  refine gv_rldn (pc' := 1) rfl rfl rfl ?_
  refine gv_ildn (pc' := 2) rfl rfl rfl ?_
  obtain ⟨h1, qh1, e⟩ := gv_bind e
  refine gv_pI (pc' := 5) rfl rfl rfl qh1 rfl ?_
  refine gv_rldn (pc' := 6) rfl rfl rfl ?_
  refine gv_ic (pc' := 7) (x := 0) rfl rfl rfl ?_
  obtain ⟨h2, qh2, e⟩ := gv_bind e
  refine gv_pI (pc' := 10) rfl rfl rfl qh2 rfl ?_
  refine gv_rldn (pc' := 11) rfl rfl rfl ?_
  refine gv_ic (pc' := 12) (x := 0) rfl rfl rfl ?_
  obtain ⟨h3, qh3, e⟩ := gv_bind e
  refine gv_pZ (pc' := 15) rfl rfl rfl (by decide) qh3 rfl ?_
  refine gv_rldn (pc' := 16) rfl rfl rfl ?_
  refine gv_lc (pc' := 17) (x := 0) rfl rfl rfl ?_
  obtain ⟨h4, qh4, e⟩ := gv_bind e
  refine gv_pJ (pc' := 20) rfl rfl rfl qh4 rfl ?_
  cases e
  exact gv_retV rfl rfl
def cS_begin (l0 : Option Nat) (l1 : Int32) (h : gx_H) : Option (Int32 × gx_H) :=
  (gv_gI h l0 1 1).bind fun v1 =>
  if v1 < (32 : Int32) then (
    (gv_gR h l0 1 0).bind fun v3 =>
    (gv_gI h l0 1 1).bind fun v4 =>
    (gv_lT h v3 v4).bind fun v5 =>
    (gv_is h v5 2).bind fun i6 =>
    (cT_begin v5 l1 h).bind fun h8 =>
    (gv_gI h8 l0 1 1).bind fun v9 =>
    (gv_pV h8 l0 1 1 (.int (v9 + (1 : Int32)))).bind fun h10 =>
    (gv_gI h10 l0 1 1).bind fun v11 =>
    some ((v11 - (1 : Int32)), h10)) else
  some ((-1 : Int32), h)
theorem cS_begin_ok {xs : Option (List Int32)} {l0 : Option Nat} {l1 : Int32} {h : gx_H} {r : (Int32 × gx_H)} (e : cS_begin l0 l1 h = some r) : gv_V xs 1 26 0 [(0, gv_u l0), (1, .int l1)] [] h (.returned (some (.int r.1))) r.2 := by
  unfold cS_begin at e
  refine gv_rldn (pc' := 1) rfl rfl rfl ?_
  obtain ⟨v1, qv1, e⟩ := gv_bind e
  refine gv_fI (pc' := 4) rfl rfl qv1 rfl ?_
  refine gv_bp (pc' := 6) (x := 32) rfl rfl rfl ?_
  by_cases c2 : v1 < (32 : Int32)
  · rw [if_pos c2] at e
    refine gv_cmT (pc' := 11) rfl (gv_ltT2 c2) rfl ?_
    refine gv_rldn (pc' := 12) rfl rfl rfl ?_
    obtain ⟨v3, qv3, e⟩ := gv_bind e
    refine gv_fR (pc' := 15) rfl rfl qv3 rfl ?_
    refine gv_rldn (pc' := 16) rfl rfl rfl ?_
    obtain ⟨v4, qv4, e⟩ := gv_bind e
    refine gv_fI (pc' := 19) rfl rfl qv4 rfl ?_
    obtain ⟨v5, qv5, e⟩ := gv_bind e
    refine gv_aaT (pc' := 20) rfl qv5 rfl ?_
    refine gv_ildn (pc' := 21) rfl rfl rfl ?_
    obtain ⟨i6, qi6, e⟩ := gv_bind e
    obtain ⟨h8, qv7, e⟩ := gv_bind e
    refine gv_vS (jc := 27) (n := 1) (rest := []) (stk := []) (pc' := 24) rfl rfl rfl rfl rfl rfl rfl rfl rfl (gv_zR (gv_zI gv_z0)) rfl (gv_aR (gv_aI gv_a0)) (Nat.le_of_ble_eq_true rfl) qi6 (cT_begin_ok qv7) rfl rfl ?_
    refine gv_rldn (pc' := 25) rfl rfl rfl ?_
    refine gv_dup (pc' := 26) rfl (gv_u_cat _) rfl ?_
    obtain ⟨v9, qv9, e⟩ := gv_bind e
    refine gv_fI (pc' := 29) rfl rfl qv9 rfl ?_
    refine gv_ic (pc' := 30) (x := 1) rfl rfl rfl ?_
    refine gv_iadd (pc' := 31) rfl rfl ?_
    obtain ⟨h10, qh10, e⟩ := gv_bind e
    refine gv_pI (pc' := 34) rfl rfl rfl qh10 rfl ?_
    refine gv_rldn (pc' := 35) rfl rfl rfl ?_
    obtain ⟨v11, qv11, e⟩ := gv_bind e
    refine gv_fI (pc' := 38) rfl rfl qv11 rfl ?_
    refine gv_ic (pc' := 39) (x := 1) rfl rfl rfl ?_
    refine gv_isub (pc' := 40) rfl rfl ?_
    cases e
    exact gv_retI rfl rfl
  rw [if_neg c2] at e
  refine gv_cmF (pc' := 9) rfl (gv_ltF2 c2) rfl rfl ?_
  refine gv_ic (pc' := 10) (x := -1) rfl rfl rfl ?_
  cases e
  exact gv_retI rfl rfl
def cT_holdBytes (l0 : Option Nat) (l1 : Int64) (l3 : Int32) (h : gx_H) : Option gx_H :=
  (gv_pV h l0 2 10 (.long l1)).bind fun h1 =>
  (gv_pV h1 l0 2 5 (.int l3)).bind fun h2 =>
  some h2
theorem cT_holdBytes_ok {xs : Option (List Int32)} {l0 : Option Nat} {l1 : Int64} {l3 : Int32} {h : gx_H} {r : gx_H} (e : cT_holdBytes l0 l1 l3 h = some r) : gv_V xs 0 30 0 [(0, gv_u l0), (1, .long l1), (3, .int l3)] [] h (.returned none) r := by
  unfold cT_holdBytes at e
  refine gv_rldn (pc' := 1) rfl rfl rfl ?_
  refine gv_jldn (pc' := 2) rfl rfl rfl ?_
  obtain ⟨h1, qh1, e⟩ := gv_bind e
  refine gv_pJ (pc' := 5) rfl rfl rfl qh1 rfl ?_
  refine gv_rldn (pc' := 6) rfl rfl rfl ?_
  refine gv_ildn (pc' := 7) rfl rfl rfl ?_
  obtain ⟨h2, qh2, e⟩ := gv_bind e
  refine gv_pI (pc' := 10) rfl rfl rfl qh2 rfl ?_
  cases e
  exact gv_retV rfl rfl
def cT_canBeViewed_34 (l0 : Option Nat) (l1 : Int32) (l2 : Int32) (l3 : Int32) (h : gx_H) : Option Int32 :=
  if l2 < 0 then (
    some (0 : Int32)) else
  if l1 = 0 then none else
  if (l2 - l2 / l1 * l1) = 0 then (
    if l3 < 0 then (
      some (0 : Int32)) else
    (gv_gI h l0 2 5).bind fun v5 =>
    if (Int32.toInt64 v5) < ((Int32.toInt64 l2) + ((Int32.toInt64 l1) * (Int32.toInt64 l3))) then (
      some (0 : Int32)) else
    some (1 : Int32)) else
  some (0 : Int32)
theorem cT_canBeViewed_34_ok {xs : Option (List Int32)} {l0 : Option Nat} {l1 : Int32} {l2 : Int32} {l3 : Int32} {h : gx_H} {r : Int32} (e : cT_canBeViewed_34 l0 l1 l2 l3 h = some r) : gv_V xs 0 33 34 [(0, gv_u l0), (1, .int l1), (2, .int l2), (3, .int l3)] [] h (.returned (some (.int r))) h := by
  unfold cT_canBeViewed_34 at e
  refine gv_ildn (pc' := 35) rfl rfl rfl ?_
  by_cases c1 : l2 < 0
  · rw [if_pos c1] at e
    refine gv_ifT (pc' := 48) rfl (gv_ltT c1) rfl ?_
    refine gv_ic (pc' := 49) (x := 0) rfl rfl rfl ?_
    cases e
    exact gv_retZ rfl rfl (by decide)
  rw [if_neg c1] at e
  refine gv_ifF (pc' := 38) rfl (gv_ltF c1) rfl rfl ?_
  refine gv_ildn (pc' := 39) rfl rfl rfl ?_
  refine gv_ildn (pc' := 40) rfl rfl rfl ?_
  by_cases c2 : l1 = 0
  · rw [if_pos c2] at e; cases e
  rw [if_neg c2] at e
  refine gv_irem (pc' := 41) rfl c2 rfl ?_
  by_cases c3 : (l2 - l2 / l1 * l1) = 0
  · rw [if_pos c3] at e
    refine gv_ifF (pc' := 44) rfl (gv_neF c3) rfl rfl ?_
    refine gv_ildn (pc' := 45) rfl rfl rfl ?_
    by_cases c4 : l3 < 0
    · rw [if_pos c4] at e
      refine gv_ifF (pc' := 48) rfl (gv_geF c4) rfl rfl ?_
      refine gv_ic (pc' := 49) (x := 0) rfl rfl rfl ?_
      cases e
      exact gv_retZ rfl rfl (by decide)
    rw [if_neg c4] at e
    refine gv_ifT (pc' := 50) rfl (gv_geT c4) rfl ?_
    refine gv_ildn (pc' := 51) rfl rfl rfl ?_
    refine gv_i2l (pc' := 52) rfl rfl ?_
    refine gv_ildn (pc' := 53) rfl rfl rfl ?_
    refine gv_i2l (pc' := 54) rfl rfl ?_
    refine gv_ildn (pc' := 55) rfl rfl rfl ?_
    refine gv_i2l (pc' := 56) rfl rfl ?_
    refine gv_lmul (pc' := 57) rfl rfl ?_
    refine gv_ladd (pc' := 58) rfl rfl ?_
    refine gv_rldn (pc' := 59) rfl rfl rfl ?_
    obtain ⟨v5, qv5, e⟩ := gv_bind e
    refine gv_fI (pc' := 62) rfl rfl qv5 rfl ?_
    refine gv_i2l (pc' := 63) rfl rfl ?_
    refine gv_lcmp (pc' := 64) rfl rfl ?_
    by_cases c6 : (Int32.toInt64 v5) < ((Int32.toInt64 l2) + ((Int32.toInt64 l1) * (Int32.toInt64 l3)))
    · rw [if_pos c6] at e
      refine gv_ifT (pc' := 71) rfl (gv_gtTL c6) rfl ?_
      refine gv_ic (pc' := 72) (x := 0) rfl rfl rfl ?_
      cases e
      exact gv_retZ rfl rfl (by decide)
    rw [if_neg c6] at e
    refine gv_ifF (pc' := 67) rfl (gv_gtFL c6) rfl rfl ?_
    refine gv_ic (pc' := 68) (x := 1) rfl rfl rfl ?_
    refine gv_goto (pc' := 72) rfl rfl ?_
    cases e
    exact gv_retZ rfl rfl (by decide)
  rw [if_neg c3] at e
  refine gv_ifT (pc' := 48) rfl (gv_neT c3) rfl ?_
  refine gv_ic (pc' := 49) (x := 0) rfl rfl rfl ?_
  cases e
  exact gv_retZ rfl rfl (by decide)
def cT_canBeViewed (l0 : Option Nat) (l1 : Int32) (l2 : Int32) (l3 : Int32) (h : gx_H) : Option Int32 :=
  (gv_gI h l0 2 4).bind fun v1 =>
  if v1 = (4 : Int32) then (
    (gv_gI h l0 2 6).bind fun v3 =>
    if v3 = 0 then (
      if l1 = (1 : Int32) then (
        cT_canBeViewed_34 l0 l1 l2 l3 h) else
      if l1 = (2 : Int32) then (
        cT_canBeViewed_34 l0 l1 l2 l3 h) else
      if l1 = (4 : Int32) then (
        cT_canBeViewed_34 l0 l1 l2 l3 h) else
      some (0 : Int32)) else
    some (0 : Int32)) else
  some (0 : Int32)
theorem cT_canBeViewed_ok {xs : Option (List Int32)} {l0 : Option Nat} {l1 : Int32} {l2 : Int32} {l3 : Int32} {h : gx_H} {r : Int32} (e : cT_canBeViewed l0 l1 l2 l3 h = some r) : gv_V xs 0 33 0 [(0, gv_u l0), (1, .int l1), (2, .int l2), (3, .int l3)] [] h (.returned (some (.int r))) h := by
  unfold cT_canBeViewed at e
  refine gv_rldn (pc' := 1) rfl rfl rfl ?_
  obtain ⟨v1, qv1, e⟩ := gv_bind e
  refine gv_fI (pc' := 4) rfl rfl qv1 rfl ?_
  refine gv_ic (pc' := 5) (x := 4) rfl rfl rfl ?_
  by_cases c2 : v1 = (4 : Int32)
  · rw [if_pos c2] at e
    refine gv_cmF (pc' := 8) rfl (gv_neF2 c2) rfl rfl ?_
    refine gv_rldn (pc' := 9) rfl rfl rfl ?_
    obtain ⟨v3, qv3, e⟩ := gv_bind e
    refine gv_fI (pc' := 12) rfl rfl qv3 rfl ?_
    by_cases c4 : v3 = 0
    · rw [if_pos c4] at e
      refine gv_ifT (pc' := 17) rfl (gv_eqT c4) rfl ?_
      refine gv_ildn (pc' := 18) rfl rfl rfl ?_
      refine gv_ic (pc' := 19) (x := 1) rfl rfl rfl ?_
      by_cases c5 : l1 = (1 : Int32)
      · rw [if_pos c5] at e
        refine gv_cmT (pc' := 34) rfl (gv_eqT2 c5) rfl ?_
        exact gv_weak (cT_canBeViewed_34_ok e) (gv_S1 rfl (gv_S1 rfl (gv_S1 rfl (gv_S1 rfl gv_S0))))
      rw [if_neg c5] at e
      refine gv_cmF (pc' := 22) rfl (gv_eqF2 c5) rfl rfl ?_
      refine gv_ildn (pc' := 23) rfl rfl rfl ?_
      refine gv_ic (pc' := 24) (x := 2) rfl rfl rfl ?_
      by_cases c6 : l1 = (2 : Int32)
      · rw [if_pos c6] at e
        refine gv_cmT (pc' := 34) rfl (gv_eqT2 c6) rfl ?_
        exact gv_weak (cT_canBeViewed_34_ok e) (gv_S1 rfl (gv_S1 rfl (gv_S1 rfl (gv_S1 rfl gv_S0))))
      rw [if_neg c6] at e
      refine gv_cmF (pc' := 27) rfl (gv_eqF2 c6) rfl rfl ?_
      refine gv_ildn (pc' := 28) rfl rfl rfl ?_
      refine gv_ic (pc' := 29) (x := 4) rfl rfl rfl ?_
      by_cases c7 : l1 = (4 : Int32)
      · rw [if_pos c7] at e
        refine gv_cmT (pc' := 34) rfl (gv_eqT2 c7) rfl ?_
        exact gv_weak (cT_canBeViewed_34_ok e) (gv_S1 rfl (gv_S1 rfl (gv_S1 rfl (gv_S1 rfl gv_S0))))
      rw [if_neg c7] at e
      refine gv_cmF (pc' := 32) rfl (gv_eqF2 c7) rfl rfl ?_
      refine gv_ic (pc' := 33) (x := 0) rfl rfl rfl ?_
      cases e
      exact gv_retZ rfl rfl (by decide)
    rw [if_neg c4] at e
    refine gv_ifF (pc' := 15) rfl (gv_eqF c4) rfl rfl ?_
    refine gv_ic (pc' := 16) (x := 0) rfl rfl rfl ?_
    cases e
    exact gv_retZ rfl rfl (by decide)
  rw [if_neg c2] at e
  refine gv_cmT (pc' := 15) rfl (gv_neT2 c2) rfl ?_
  refine gv_ic (pc' := 16) (x := 0) rfl rfl rfl ?_
  cases e
  exact gv_retZ rfl rfl (by decide)
def cT_lookAt (l0 : Option Nat) (l1 : Int32) (l2 : Int32) (l3 : Int32) (l4 : Int32) (h : gx_H) : Option gx_H :=
  (gv_pV h l0 2 7 (.int l1)).bind fun h1 =>
  (gv_pV h1 l0 2 8 (.int l2)).bind fun h2 =>
  (gv_pV h2 l0 2 9 (.int l3)).bind fun h3 =>
  (gv_pV h3 l0 2 5 (.int l4)).bind fun h4 =>
  some h4
theorem cT_lookAt_ok {xs : Option (List Int32)} {l0 : Option Nat} {l1 : Int32} {l2 : Int32} {l3 : Int32} {l4 : Int32} {h : gx_H} {r : gx_H} (e : cT_lookAt l0 l1 l2 l3 l4 h = some r) : gv_V xs 0 34 0 [(0, gv_u l0), (1, .int l1), (2, .int l2), (3, .int l3), (4, .int l4)] [] h (.returned none) r := by
  unfold cT_lookAt at e
  refine gv_rldn (pc' := 1) rfl rfl rfl ?_
  refine gv_ildn (pc' := 2) rfl rfl rfl ?_
  obtain ⟨h1, qh1, e⟩ := gv_bind e
  refine gv_pI (pc' := 5) rfl rfl rfl qh1 rfl ?_
  refine gv_rldn (pc' := 6) rfl rfl rfl ?_
  refine gv_ildn (pc' := 7) rfl rfl rfl ?_
  obtain ⟨h2, qh2, e⟩ := gv_bind e
  refine gv_pI (pc' := 10) rfl rfl rfl qh2 rfl ?_
  refine gv_rldn (pc' := 11) rfl rfl rfl ?_
  refine gv_ildn (pc' := 12) rfl rfl rfl ?_
  obtain ⟨h3, qh3, e⟩ := gv_bind e
  refine gv_pI (pc' := 15) rfl rfl rfl qh3 rfl ?_
  refine gv_rldn (pc' := 16) rfl rfl rfl ?_
  refine gv_ild (pc' := 18) rfl rfl rfl ?_
  obtain ⟨h4, qh4, e⟩ := gv_bind e
  refine gv_pI (pc' := 21) rfl rfl rfl qh4 rfl ?_
  cases e
  exact gv_retV rfl rfl
def cS_isText_31 (rec2 : Int32 → Int32 → Option Int32) (l0 : Int32) (l1 : Int32) : Option Int32 :=
  rec2 l0 (l1 + 1)
theorem cS_isText_31_ok {xs : Option (List Int32)} {rec2 : Int32 → Int32 → Option Int32} (hrec2 : ∀ (l0 : Int32) (l1 : Int32) (h : gx_H) (r : Int32), rec2 l0 l1 = some r → gv_V xs 1 41 2 [(0, .int l0), (1, .int l1)] [] h (.returned (some (.int r))) h) {l0 : Int32} {l1 : Int32} {h : gx_H} {r : Int32} (e : cS_isText_31 rec2 l0 l1 = some r) : gv_V xs 1 41 31 [(0, .int l0), (1, .int l1)] [] h (.returned (some (.int r))) h := by
  unfold cS_isText_31 at e
  refine gv_inc (pc' := 34) (y := 1) rfl rfl rfl rfl (gv_Ci rfl) rfl ?_
  refine gv_goto (pc' := 2) rfl rfl ?_
  exact gv_weak (hrec2 _ _ _ _ e) (gv_S1 rfl (gv_S1 rfl gv_S0))
def cS_isText_2 : Nat → Int32 → Int32 → Option Int32
  | 0, _, _ => none
  | n + 1, l0, l1 =>
    if (l1 + (1 : Int32)) < (4 : Int32) then (
      (cG_byteOf (Int32.toInt64 l0) l1).bind fun v2 =>
      if v2 = 0 then (
        (cG_byteOf (Int32.toInt64 l0) (l1 + (1 : Int32))).bind fun v4 =>
        if v4 = 0 then (
          cS_isText_31 (cS_isText_2 n) l0 l1) else
        some (0 : Int32)) else
      cS_isText_31 (cS_isText_2 n) l0 l1) else
    some (1 : Int32)
theorem cS_isText_2_ok {xs : Option (List Int32)} : ∀ (n : Nat) (l0 : Int32) (l1 : Int32) (h : gx_H) (r : Int32), cS_isText_2 n l0 l1 = some r → gv_V xs 1 41 2 [(0, .int l0), (1, .int l1)] [] h (.returned (some (.int r))) h := by
  intro n
  induction n with
  | zero => intro l0 l1 h r e; cases e
  | succ n ih =>
    intro l0 l1 h r e
    rw [cS_isText_2] at e
    refine gv_ildn (pc' := 3) rfl rfl rfl ?_
    refine gv_ic (pc' := 4) (x := 1) rfl rfl rfl ?_
    refine gv_iadd (pc' := 5) rfl rfl ?_
    refine gv_ic (pc' := 6) (x := 4) rfl rfl rfl ?_
    by_cases c1 : (l1 + (1 : Int32)) < (4 : Int32)
    · rw [if_pos c1] at e
      refine gv_cmF (pc' := 9) rfl (gv_geF2 c1) rfl rfl ?_
      refine gv_ildn (pc' := 10) rfl rfl rfl ?_
      refine gv_i2l (pc' := 11) rfl rfl ?_
      refine gv_ildn (pc' := 12) rfl rfl rfl ?_
      obtain ⟨v2, qv2, e⟩ := gv_bind e
      refine gv_sS (jc := 18) (n := 2) (rest := []) (stk := [.int v2]) (pc' := 15) rfl rfl rfl rfl rfl rfl rfl rfl rfl (gv_zJ (gv_zI gv_z0)) rfl (gv_aJ (gv_aI gv_a0)) (Nat.le_of_ble_eq_true rfl) (cG_byteOf_ok qv2) rfl rfl ?_
      by_cases c3 : v2 = 0
      · rw [if_pos c3] at e
        refine gv_ifF (pc' := 18) rfl (gv_neF c3) rfl rfl ?_
        refine gv_ildn (pc' := 19) rfl rfl rfl ?_
        refine gv_i2l (pc' := 20) rfl rfl ?_
        refine gv_ildn (pc' := 21) rfl rfl rfl ?_
        refine gv_ic (pc' := 22) (x := 1) rfl rfl rfl ?_
        refine gv_iadd (pc' := 23) rfl rfl ?_
        obtain ⟨v4, qv4, e⟩ := gv_bind e
        refine gv_sS (jc := 18) (n := 2) (rest := []) (stk := [.int v4]) (pc' := 26) rfl rfl rfl rfl rfl rfl rfl rfl rfl (gv_zJ (gv_zI gv_z0)) rfl (gv_aJ (gv_aI gv_a0)) (Nat.le_of_ble_eq_true rfl) (cG_byteOf_ok qv4) rfl rfl ?_
        by_cases c5 : v4 = 0
        · rw [if_pos c5] at e
          refine gv_ifT (pc' := 31) rfl (gv_eqT c5) rfl ?_
          exact gv_weak (cS_isText_31_ok ih e) (gv_S1 rfl (gv_S1 rfl gv_S0))
        rw [if_neg c5] at e
        refine gv_ifF (pc' := 29) rfl (gv_eqF c5) rfl rfl ?_
        refine gv_ic (pc' := 30) (x := 0) rfl rfl rfl ?_
        cases e
        exact gv_retZ rfl rfl (by decide)
      rw [if_neg c3] at e
      refine gv_ifT (pc' := 31) rfl (gv_neT c3) rfl ?_
      exact gv_weak (cS_isText_31_ok ih e) (gv_S1 rfl (gv_S1 rfl gv_S0))
    rw [if_neg c1] at e
    refine gv_cmT (pc' := 37) rfl (gv_geT2 c1) rfl ?_
    refine gv_ic (pc' := 38) (x := 1) rfl rfl rfl ?_
    cases e
    exact gv_retZ rfl rfl (by decide)
def cS_isText (l0 : Int32) : Option Int32 :=
  cS_isText_2 1000000000000000 l0 (0 : Int32)
theorem cS_isText_ok {xs : Option (List Int32)} {l0 : Int32} {h : gx_H} {r : Int32} (e : cS_isText l0 = some r) : gv_V xs 1 41 0 [(0, .int l0)] [] h (.returned (some (.int r))) h := by
  unfold cS_isText at e
  refine gv_ic (pc' := 1) (x := 0) rfl rfl rfl ?_
  refine gv_istn (pc' := 2) rfl rfl (gv_Ci rfl) rfl ?_
  exact gv_weak (cS_isText_2_ok 1000000000000000 _ _ _ _ e) (gv_S1 rfl (gv_S1 rfl gv_S0))
def cS_isValue (l0 : Option Nat) (l1 : Int32) (l2 : Int32) (h : gx_H) : Option Int32 :=
  if l1 < 0 then (
    some (0 : Int32)) else
  if (7 : Int32) < l1 then (
    some (0 : Int32)) else
  if l1 = (5 : Int32) then (
    (cS_isText l2).bind fun v4 =>
    if ¬ (v4 = 0 ∨ v4 = 1) then none else
    some v4) else
  if l1 = (6 : Int32) then (
    if l2 < 0 then (
      some (0 : Int32)) else
    (gv_gI h l0 1 1).bind fun v8 =>
    if l2 < v8 then (
      some (1 : Int32)) else
    some (0 : Int32)) else
  some (1 : Int32)
theorem cS_isValue_ok {xs : Option (List Int32)} {l0 : Option Nat} {l1 : Int32} {l2 : Int32} {h : gx_H} {r : Int32} (e : cS_isValue l0 l1 l2 h = some r) : gv_V xs 2 40 0 [(0, gv_u l0), (1, .int l1), (2, .int l2)] [] h (.returned (some (.int r))) h := by
  unfold cS_isValue at e
  refine gv_ildn (pc' := 1) rfl rfl rfl ?_
  by_cases c1 : l1 < 0
  · rw [if_pos c1] at e
    refine gv_ifT (pc' := 10) rfl (gv_ltT c1) rfl ?_
    refine gv_ic (pc' := 11) (x := 0) rfl rfl rfl ?_
    cases e
    exact gv_retZ rfl rfl (by decide)
  rw [if_neg c1] at e
  refine gv_ifF (pc' := 4) rfl (gv_ltF c1) rfl rfl ?_
  refine gv_ildn (pc' := 5) rfl rfl rfl ?_
  refine gv_bp (pc' := 7) (x := 7) rfl rfl rfl ?_
  by_cases c2 : (7 : Int32) < l1
  · rw [if_pos c2] at e
    refine gv_cmF (pc' := 10) rfl (gv_leF2 c2) rfl rfl ?_
    refine gv_ic (pc' := 11) (x := 0) rfl rfl rfl ?_
    cases e
    exact gv_retZ rfl rfl (by decide)
  rw [if_neg c2] at e
  refine gv_cmT (pc' := 12) rfl (gv_leT2 c2) rfl ?_
  refine gv_ildn (pc' := 13) rfl rfl rfl ?_
  refine gv_ic (pc' := 14) (x := 5) rfl rfl rfl ?_
  by_cases c3 : l1 = (5 : Int32)
  · rw [if_pos c3] at e
    refine gv_cmF (pc' := 17) rfl (gv_neF2 c3) rfl rfl ?_
    refine gv_ildn (pc' := 18) rfl rfl rfl ?_
    obtain ⟨v4, qv4, e⟩ := gv_bind e
    refine gv_sS (jc := 41) (n := 1) (rest := []) (stk := [.int v4]) (pc' := 21) rfl rfl rfl rfl rfl rfl rfl rfl rfl (gv_zI gv_z0) rfl (gv_aI gv_a0) (Nat.le_of_ble_eq_true rfl) (cS_isText_ok qv4) rfl rfl ?_
    by_cases c5 : ¬ (v4 = 0 ∨ v4 = 1)
    · rw [if_pos c5] at e; cases e
    rw [if_neg c5] at e
    cases e
    exact gv_retZ rfl rfl (Decidable.of_not_not c5)
  rw [if_neg c3] at e
  refine gv_cmT (pc' := 22) rfl (gv_neT2 c3) rfl ?_
  refine gv_ildn (pc' := 23) rfl rfl rfl ?_
  refine gv_bp (pc' := 25) (x := 6) rfl rfl rfl ?_
  by_cases c6 : l1 = (6 : Int32)
  · rw [if_pos c6] at e
    refine gv_cmF (pc' := 28) rfl (gv_neF2 c6) rfl rfl ?_
    refine gv_ildn (pc' := 29) rfl rfl rfl ?_
    by_cases c7 : l2 < 0
    · rw [if_pos c7] at e
      refine gv_ifT (pc' := 44) rfl (gv_ltT c7) rfl ?_
      refine gv_ic (pc' := 45) (x := 0) rfl rfl rfl ?_
      cases e
      exact gv_retZ rfl rfl (by decide)
    rw [if_neg c7] at e
    refine gv_ifF (pc' := 32) rfl (gv_ltF c7) rfl rfl ?_
    refine gv_ildn (pc' := 33) rfl rfl rfl ?_
    refine gv_rldn (pc' := 34) rfl rfl rfl ?_
    obtain ⟨v8, qv8, e⟩ := gv_bind e
    refine gv_fI (pc' := 37) rfl rfl qv8 rfl ?_
    by_cases c9 : l2 < v8
    · rw [if_pos c9] at e
      refine gv_cmF (pc' := 40) rfl (gv_geF2 c9) rfl rfl ?_
      refine gv_ic (pc' := 41) (x := 1) rfl rfl rfl ?_
      refine gv_goto (pc' := 45) rfl rfl ?_
      cases e
      exact gv_retZ rfl rfl (by decide)
    rw [if_neg c9] at e
    refine gv_cmT (pc' := 44) rfl (gv_geT2 c9) rfl ?_
    refine gv_ic (pc' := 45) (x := 0) rfl rfl rfl ?_
    cases e
    exact gv_retZ rfl rfl (by decide)
  rw [if_neg c6] at e
  refine gv_cmT (pc' := 40) rfl (gv_neT2 c6) rfl ?_
  refine gv_ic (pc' := 41) (x := 1) rfl rfl rfl ?_
  refine gv_goto (pc' := 45) rfl rfl ?_
  cases e
  exact gv_retZ rfl rfl (by decide)
def cT_setValue (l0 : Option Nat) (l1 : Int32) (l2 : Int32) (l3 : Int32) (h : gx_H) : Option gx_H :=
  (gv_gR h l0 2 2).bind fun v1 =>
  (gv_wI h v1 l1 l2).bind fun h2 =>
  (gv_gR h2 l0 2 3).bind fun v3 =>
  (gv_wI h2 v3 l1 l3).bind fun h4 =>
  some h4
theorem cT_setValue_ok {xs : Option (List Int32)} {l0 : Option Nat} {l1 : Int32} {l2 : Int32} {l3 : Int32} {h : gx_H} {r : gx_H} (e : cT_setValue l0 l1 l2 l3 h = some r) : gv_V xs 0 44 0 [(0, gv_u l0), (1, .int l1), (2, .int l2), (3, .int l3)] [] h (.returned none) r := by
  unfold cT_setValue at e
  refine gv_rldn (pc' := 1) rfl rfl rfl ?_
  obtain ⟨v1, qv1, e⟩ := gv_bind e
  refine gv_fR (pc' := 4) rfl rfl qv1 rfl ?_
  refine gv_ildn (pc' := 5) rfl rfl rfl ?_
  refine gv_ildn (pc' := 6) rfl rfl rfl ?_
  obtain ⟨h2, qh2, e⟩ := gv_bind e
  refine gv_iast (pc' := 7) rfl qh2 rfl ?_
  refine gv_rldn (pc' := 8) rfl rfl rfl ?_
  obtain ⟨v3, qv3, e⟩ := gv_bind e
  refine gv_fR (pc' := 11) rfl rfl qv3 rfl ?_
  refine gv_ildn (pc' := 12) rfl rfl rfl ?_
  refine gv_ildn (pc' := 13) rfl rfl rfl ?_
  obtain ⟨h4, qh4, e⟩ := gv_bind e
  refine gv_iast (pc' := 14) rfl qh4 rfl ?_
  cases e
  exact gv_retV rfl rfl
def jM_max (l0 : Int32) (l1 : Int32) : Option Int32 :=
  if l0 < l1 then (
    some l1) else
  some l0
theorem jM_max_ok {xs : Option (List Int32)} {l0 : Int32} {l1 : Int32} {h : gx_H} {r : Int32} (e : jM_max l0 l1 = some r) : gv_V xs 0 45 0 [(0, .int l0), (1, .int l1)] [] h (.returned (some (.int r))) h := by
  unfold jM_max at e
  refine gv_ildn (pc' := 1) rfl rfl rfl ?_
  refine gv_ildn (pc' := 2) rfl rfl rfl ?_
  by_cases c1 : l0 < l1
  · rw [if_pos c1] at e
    refine gv_cmT (pc' := 9) rfl (gv_ltT2 c1) rfl ?_
    refine gv_ildn (pc' := 10) rfl rfl rfl ?_
    cases e
    exact gv_retI rfl rfl
  rw [if_neg c1] at e
  refine gv_cmF (pc' := 5) rfl (gv_ltF2 c1) rfl rfl ?_
  refine gv_ildn (pc' := 6) rfl rfl rfl ?_
  refine gv_goto (pc' := 10) rfl rfl ?_
  cases e
  exact gv_retI rfl rfl
def cT_setPlace_6 : Nat → Option Nat → Int32 → Int32 → Int32 → Int32 → gx_H → Option gx_H
  | 0, _, _, _, _, _, _ => none
  | n + 1, l0, l1, l2, l3, l4, h =>
    if l4 < l1 then (
      (gv_is h l0 2).bind fun i2 =>
      (cT_setValue l0 l4 (-1 : Int32) (0 : Int32) h).bind fun h4 =>
      cT_setPlace_6 n l0 l1 l2 l3 (l4 + 1) h4) else
    (gv_is h l0 2).bind fun i5 =>
    (cT_setValue l0 l1 l2 l3 h).bind fun h7 =>
    (gv_gI h7 l0 2 5).bind fun v8 =>
    (jM_max v8 (l1 + (1 : Int32))).bind fun v9 =>
    (gv_pV h7 l0 2 5 (.int v9)).bind fun h10 =>
    some h10
theorem cT_setPlace_6_ok {xs : Option (List Int32)} : ∀ (n : Nat) (l0 : Option Nat) (l1 : Int32) (l2 : Int32) (l3 : Int32) (l4 : Int32) (h : gx_H) (r : gx_H), cT_setPlace_6 n l0 l1 l2 l3 l4 h = some r → gv_V xs 1 43 6 [(0, gv_u l0), (1, .int l1), (2, .int l2), (3, .int l3), (4, .int l4)] [] h (.returned none) r := by
  intro n
  induction n with
  | zero => intro l0 l1 l2 l3 l4 h r e; cases e
  | succ n ih =>
    intro l0 l1 l2 l3 l4 h r e
    rw [cT_setPlace_6] at e
    refine gv_ild (pc' := 8) rfl rfl rfl ?_
    refine gv_ildn (pc' := 9) rfl rfl rfl ?_
    by_cases c1 : l4 < l1
    · rw [if_pos c1] at e
      refine gv_cmF (pc' := 12) rfl (gv_geF2 c1) rfl rfl ?_
      refine gv_rldn (pc' := 13) rfl rfl rfl ?_
      refine gv_ild (pc' := 15) rfl rfl rfl ?_
      refine gv_ic (pc' := 16) (x := -1) rfl rfl rfl ?_
      refine gv_ic (pc' := 17) (x := 0) rfl rfl rfl ?_
      obtain ⟨i2, qi2, e⟩ := gv_bind e
      obtain ⟨h4, qv3, e⟩ := gv_bind e
      refine gv_vS (jc := 44) (n := 3) (rest := []) (stk := []) (pc' := 20) rfl rfl rfl rfl rfl rfl rfl rfl rfl (gv_zR (gv_zI (gv_zI (gv_zI gv_z0)))) rfl (gv_aR (gv_aI (gv_aI (gv_aI gv_a0)))) (Nat.le_of_ble_eq_true rfl) qi2 (cT_setValue_ok qv3) rfl rfl ?_
      refine gv_inc (pc' := 23) (y := 1) rfl rfl rfl rfl (gv_Ci rfl) rfl ?_
      refine gv_goto (pc' := 6) rfl rfl ?_
      exact gv_weak (ih _ _ _ _ _ _ _ e) (gv_S1 rfl (gv_S1 rfl (gv_S1 rfl (gv_S1 rfl (gv_S1 rfl gv_S0)))))
    rw [if_neg c1] at e
    refine gv_cmT (pc' := 26) rfl (gv_geT2 c1) rfl ?_
    refine gv_rldn (pc' := 27) rfl rfl rfl ?_
    refine gv_ildn (pc' := 28) rfl rfl rfl ?_
    refine gv_ildn (pc' := 29) rfl rfl rfl ?_
    refine gv_ildn (pc' := 30) rfl rfl rfl ?_
    obtain ⟨i5, qi5, e⟩ := gv_bind e
    obtain ⟨h7, qv6, e⟩ := gv_bind e
    refine gv_vS (jc := 44) (n := 3) (rest := []) (stk := []) (pc' := 33) rfl rfl rfl rfl rfl rfl rfl rfl rfl (gv_zR (gv_zI (gv_zI (gv_zI gv_z0)))) rfl (gv_aR (gv_aI (gv_aI (gv_aI gv_a0)))) (Nat.le_of_ble_eq_true rfl) qi5 (cT_setValue_ok qv6) rfl rfl ?_
    refine gv_rldn (pc' := 34) rfl rfl rfl ?_
    refine gv_rldn (pc' := 35) rfl rfl rfl ?_
    obtain ⟨v8, qv8, e⟩ := gv_bind e
    refine gv_fI (pc' := 38) rfl rfl qv8 rfl ?_
    refine gv_ildn (pc' := 39) rfl rfl rfl ?_
    refine gv_ic (pc' := 40) (x := 1) rfl rfl rfl ?_
    refine gv_iadd (pc' := 41) rfl rfl ?_
    obtain ⟨v9, qv9, e⟩ := gv_bind e
    refine gv_sS (jc := 45) (n := 2) (rest := [gv_u l0]) (stk := [.int v9, gv_u l0]) (pc' := 44) rfl rfl rfl rfl rfl rfl rfl rfl rfl (gv_zI (gv_zI gv_z0)) rfl (gv_aI (gv_aI gv_a0)) (Nat.le_of_ble_eq_true rfl) (jM_max_ok qv9) rfl rfl ?_
    obtain ⟨h10, qh10, e⟩ := gv_bind e
    refine gv_pI (pc' := 47) rfl rfl rfl qh10 rfl ?_
    cases e
    exact gv_retV rfl rfl
def cT_setPlace (l0 : Option Nat) (l1 : Int32) (l2 : Int32) (l3 : Int32) (h : gx_H) : Option gx_H :=
  (gv_gI h l0 2 5).bind fun v1 =>
  cT_setPlace_6 1000000000000000 l0 l1 l2 l3 v1 h
theorem cT_setPlace_ok {xs : Option (List Int32)} {l0 : Option Nat} {l1 : Int32} {l2 : Int32} {l3 : Int32} {h : gx_H} {r : gx_H} (e : cT_setPlace l0 l1 l2 l3 h = some r) : gv_V xs 1 43 0 [(0, gv_u l0), (1, .int l1), (2, .int l2), (3, .int l3)] [] h (.returned none) r := by
  unfold cT_setPlace at e
  refine gv_rldn (pc' := 1) rfl rfl rfl ?_
  obtain ⟨v1, qv1, e⟩ := gv_bind e
  refine gv_fI (pc' := 4) rfl rfl qv1 rfl ?_
  refine gv_ist (pc' := 6) rfl rfl (gv_Ci rfl) rfl ?_
  exact gv_weak (cT_setPlace_6_ok 1000000000000000 _ _ _ _ _ _ _ e) (gv_S1 rfl (gv_S1 rfl (gv_S1 rfl (gv_S1 rfl (gv_S1 rfl gv_S0)))))
def cT_indexOfKey_32 (rec2 : Option Nat → Int32 → Int32 → Int32 → gx_H → Option Int32) (l0 : Option Nat) (l1 : Int32) (l2 : Int32) (l3 : Int32) (h : gx_H) : Option Int32 :=
  rec2 l0 l1 l2 (l3 + 1) h
theorem cT_indexOfKey_32_ok {xs : Option (List Int32)} {rec2 : Option Nat → Int32 → Int32 → Int32 → gx_H → Option Int32} (hrec2 : ∀ (l0 : Option Nat) (l1 : Int32) (l2 : Int32) (l3 : Int32) (h : gx_H) (r : Int32), rec2 l0 l1 l2 l3 h = some r → gv_V xs 0 47 2 [(0, gv_u l0), (1, .int l1), (2, .int l2), (3, .int l3)] [] h (.returned (some (.int r))) h) {l0 : Option Nat} {l1 : Int32} {l2 : Int32} {l3 : Int32} {h : gx_H} {r : Int32} (e : cT_indexOfKey_32 rec2 l0 l1 l2 l3 h = some r) : gv_V xs 0 47 32 [(0, gv_u l0), (1, .int l1), (2, .int l2), (3, .int l3)] [] h (.returned (some (.int r))) h := by
  unfold cT_indexOfKey_32 at e
  refine gv_inc (pc' := 35) (y := 1) rfl rfl rfl rfl (gv_Ci rfl) rfl ?_
  refine gv_goto (pc' := 2) rfl rfl ?_
  exact gv_weak (hrec2 _ _ _ _ _ _ e) (gv_S1 rfl (gv_S1 rfl (gv_S1 rfl (gv_S1 rfl gv_S0))))
def cT_indexOfKey_2 : Nat → Option Nat → Int32 → Int32 → Int32 → gx_H → Option Int32
  | 0, _, _, _, _, _ => none
  | n + 1, l0, l1, l2, l3, h =>
    (gv_gI h l0 2 5).bind fun v1 =>
    if l3 < v1 then (
      (gv_gR h l0 2 0).bind fun v3 =>
      (gv_lI h v3 l3).bind fun v4 =>
      if v4 = l1 then (
        (gv_gR h l0 2 1).bind fun v6 =>
        (gv_lI h v6 l3).bind fun v7 =>
        if v7 = l2 then (
          some l3) else
        cT_indexOfKey_32 (cT_indexOfKey_2 n) l0 l1 l2 l3 h) else
      cT_indexOfKey_32 (cT_indexOfKey_2 n) l0 l1 l2 l3 h) else
    some (-1 : Int32)
theorem cT_indexOfKey_2_ok {xs : Option (List Int32)} : ∀ (n : Nat) (l0 : Option Nat) (l1 : Int32) (l2 : Int32) (l3 : Int32) (h : gx_H) (r : Int32), cT_indexOfKey_2 n l0 l1 l2 l3 h = some r → gv_V xs 0 47 2 [(0, gv_u l0), (1, .int l1), (2, .int l2), (3, .int l3)] [] h (.returned (some (.int r))) h := by
  intro n
  induction n with
  | zero => intro l0 l1 l2 l3 h r e; cases e
  | succ n ih =>
    intro l0 l1 l2 l3 h r e
    rw [cT_indexOfKey_2] at e
    refine gv_ildn (pc' := 3) rfl rfl rfl ?_
    refine gv_rldn (pc' := 4) rfl rfl rfl ?_
    obtain ⟨v1, qv1, e⟩ := gv_bind e
    refine gv_fI (pc' := 7) rfl rfl qv1 rfl ?_
    by_cases c2 : l3 < v1
    · rw [if_pos c2] at e
      refine gv_cmF (pc' := 10) rfl (gv_geF2 c2) rfl rfl ?_
      refine gv_rldn (pc' := 11) rfl rfl rfl ?_
      obtain ⟨v3, qv3, e⟩ := gv_bind e
      refine gv_fR (pc' := 14) rfl rfl qv3 rfl ?_
      refine gv_ildn (pc' := 15) rfl rfl rfl ?_
      obtain ⟨v4, qv4, e⟩ := gv_bind e
      refine gv_iald (pc' := 16) rfl qv4 rfl ?_
      refine gv_ildn (pc' := 17) rfl rfl rfl ?_
      by_cases c5 : v4 = l1
      · rw [if_pos c5] at e
        refine gv_cmF (pc' := 20) rfl (gv_neF2 c5) rfl rfl ?_
        refine gv_rldn (pc' := 21) rfl rfl rfl ?_
        obtain ⟨v6, qv6, e⟩ := gv_bind e
        refine gv_fR (pc' := 24) rfl rfl qv6 rfl ?_
        refine gv_ildn (pc' := 25) rfl rfl rfl ?_
        obtain ⟨v7, qv7, e⟩ := gv_bind e
        refine gv_iald (pc' := 26) rfl qv7 rfl ?_
        refine gv_ildn (pc' := 27) rfl rfl rfl ?_
        by_cases c8 : v7 = l2
        · rw [if_pos c8] at e
          refine gv_cmF (pc' := 30) rfl (gv_neF2 c8) rfl rfl ?_
          refine gv_ildn (pc' := 31) rfl rfl rfl ?_
          cases e
          exact gv_retI rfl rfl
        rw [if_neg c8] at e
        refine gv_cmT (pc' := 32) rfl (gv_neT2 c8) rfl ?_
        exact gv_weak (cT_indexOfKey_32_ok ih e) (gv_S1 rfl (gv_S1 rfl (gv_S1 rfl (gv_S1 rfl gv_S0))))
      rw [if_neg c5] at e
      refine gv_cmT (pc' := 32) rfl (gv_neT2 c5) rfl ?_
      exact gv_weak (cT_indexOfKey_32_ok ih e) (gv_S1 rfl (gv_S1 rfl (gv_S1 rfl (gv_S1 rfl gv_S0))))
    rw [if_neg c2] at e
    refine gv_cmT (pc' := 38) rfl (gv_geT2 c2) rfl ?_
    refine gv_ic (pc' := 39) (x := -1) rfl rfl rfl ?_
    cases e
    exact gv_retI rfl rfl
def cT_indexOfKey (l0 : Option Nat) (l1 : Int32) (l2 : Int32) (h : gx_H) : Option Int32 :=
  cT_indexOfKey_2 1000000000000000 l0 l1 l2 (0 : Int32) h
theorem cT_indexOfKey_ok {xs : Option (List Int32)} {l0 : Option Nat} {l1 : Int32} {l2 : Int32} {h : gx_H} {r : Int32} (e : cT_indexOfKey l0 l1 l2 h = some r) : gv_V xs 0 47 0 [(0, gv_u l0), (1, .int l1), (2, .int l2)] [] h (.returned (some (.int r))) h := by
  unfold cT_indexOfKey at e
  refine gv_ic (pc' := 1) (x := 0) rfl rfl rfl ?_
  refine gv_istn (pc' := 2) rfl rfl (gv_Ci rfl) rfl ?_
  exact gv_weak (cT_indexOfKey_2_ok 1000000000000000 _ _ _ _ _ _ e) (gv_S1 rfl (gv_S1 rfl (gv_S1 rfl (gv_S1 rfl gv_S0))))
def cT_orderedPlace_11 : Nat → Option Nat → Int32 → Int32 → gx_H → Option Int32
  | 0, _, _, _, _ => none
  | n + 1, l0, l1, l2, h =>
    (gv_gI h l0 2 5).bind fun v1 =>
    if l2 < v1 then (
      (gv_gR h l0 2 1).bind fun v3 =>
      (gv_lI h v3 l2).bind fun v4 =>
      if v4 < 0 then (
        some l2) else
      (gv_gR h l0 2 1).bind fun v6 =>
      (gv_lI h v6 l2).bind fun v7 =>
      if v7 < l1 then (
        cT_orderedPlace_11 n l0 l1 (l2 + 1) h) else
      some l2) else
    some l2
theorem cT_orderedPlace_11_ok {xs : Option (List Int32)} : ∀ (n : Nat) (l0 : Option Nat) (l1 : Int32) (l2 : Int32) (h : gx_H) (r : Int32), cT_orderedPlace_11 n l0 l1 l2 h = some r → gv_V xs 0 48 11 [(0, gv_u l0), (1, .int l1), (2, .int l2)] [] h (.returned (some (.int r))) h := by
  intro n
  induction n with
  | zero => intro l0 l1 l2 h r e; cases e
  | succ n ih =>
    intro l0 l1 l2 h r e
    rw [cT_orderedPlace_11] at e
    refine gv_ildn (pc' := 12) rfl rfl rfl ?_
    refine gv_rldn (pc' := 13) rfl rfl rfl ?_
    obtain ⟨v1, qv1, e⟩ := gv_bind e
    refine gv_fI (pc' := 16) rfl rfl qv1 rfl ?_
    by_cases c2 : l2 < v1
    · rw [if_pos c2] at e
      refine gv_cmF (pc' := 19) rfl (gv_geF2 c2) rfl rfl ?_
      refine gv_rldn (pc' := 20) rfl rfl rfl ?_
      obtain ⟨v3, qv3, e⟩ := gv_bind e
      refine gv_fR (pc' := 23) rfl rfl qv3 rfl ?_
      refine gv_ildn (pc' := 24) rfl rfl rfl ?_
      obtain ⟨v4, qv4, e⟩ := gv_bind e
      refine gv_iald (pc' := 25) rfl qv4 rfl ?_
      by_cases c5 : v4 < 0
      · rw [if_pos c5] at e
        refine gv_ifT (pc' := 44) rfl (gv_ltT c5) rfl ?_
        refine gv_ildn (pc' := 45) rfl rfl rfl ?_
        cases e
        exact gv_retI rfl rfl
      rw [if_neg c5] at e
      refine gv_ifF (pc' := 28) rfl (gv_ltF c5) rfl rfl ?_
      refine gv_rldn (pc' := 29) rfl rfl rfl ?_
      obtain ⟨v6, qv6, e⟩ := gv_bind e
      refine gv_fR (pc' := 32) rfl rfl qv6 rfl ?_
      refine gv_ildn (pc' := 33) rfl rfl rfl ?_
      obtain ⟨v7, qv7, e⟩ := gv_bind e
      refine gv_iald (pc' := 34) rfl qv7 rfl ?_
      refine gv_ildn (pc' := 35) rfl rfl rfl ?_
      by_cases c8 : v7 < l1
      · rw [if_pos c8] at e
        refine gv_cmF (pc' := 38) rfl (gv_geF2 c8) rfl rfl ?_
        refine gv_inc (pc' := 41) (y := 1) rfl rfl rfl rfl (gv_Ci rfl) rfl ?_
        refine gv_goto (pc' := 11) rfl rfl ?_
        exact gv_weak (ih _ _ _ _ _ e) (gv_S1 rfl (gv_S1 rfl (gv_S1 rfl gv_S0)))
      rw [if_neg c8] at e
      refine gv_cmT (pc' := 44) rfl (gv_geT2 c8) rfl ?_
      refine gv_ildn (pc' := 45) rfl rfl rfl ?_
      cases e
      exact gv_retI rfl rfl
    rw [if_neg c2] at e
    refine gv_cmT (pc' := 44) rfl (gv_geT2 c2) rfl ?_
    refine gv_ildn (pc' := 45) rfl rfl rfl ?_
    cases e
    exact gv_retI rfl rfl
def cT_orderedPlace (l0 : Option Nat) (l1 : Int32) (h : gx_H) : Option Int32 :=
  if l1 < 0 then (
    (gv_gI h l0 2 5).bind fun v2 =>
    some v2) else
  cT_orderedPlace_11 1000000000000000 l0 l1 (0 : Int32) h
theorem cT_orderedPlace_ok {xs : Option (List Int32)} {l0 : Option Nat} {l1 : Int32} {h : gx_H} {r : Int32} (e : cT_orderedPlace l0 l1 h = some r) : gv_V xs 0 48 0 [(0, gv_u l0), (1, .int l1)] [] h (.returned (some (.int r))) h := by
  unfold cT_orderedPlace at e
  refine gv_ildn (pc' := 1) rfl rfl rfl ?_
  by_cases c1 : l1 < 0
  · rw [if_pos c1] at e
    refine gv_ifF (pc' := 4) rfl (gv_geF c1) rfl rfl ?_
    refine gv_rldn (pc' := 5) rfl rfl rfl ?_
    obtain ⟨v2, qv2, e⟩ := gv_bind e
    refine gv_fI (pc' := 8) rfl rfl qv2 rfl ?_
    cases e
    exact gv_retI rfl rfl
  rw [if_neg c1] at e
  refine gv_ifT (pc' := 9) rfl (gv_geT c1) rfl ?_
  refine gv_ic (pc' := 10) (x := 0) rfl rfl rfl ?_
  refine gv_istn (pc' := 11) rfl rfl (gv_Ci rfl) rfl ?_
  exact gv_weak (cT_orderedPlace_11_ok 1000000000000000 _ _ _ _ _ e) (gv_S1 rfl (gv_S1 rfl (gv_S1 rfl gv_S0)))
def cT_openGap_5 : Nat → Option Nat → Int32 → Int32 → gx_H → Option gx_H
  | 0, _, _, _, _ => none
  | n + 1, l0, l1, l2, h =>
    if l1 < l2 then (
      (gv_gR h l0 2 0).bind fun v2 =>
      (gv_gR h l0 2 0).bind fun v3 =>
      (gv_lI h v3 (l2 - (1 : Int32))).bind fun v4 =>
      (gv_wI h v2 l2 v4).bind fun h5 =>
      (gv_gR h5 l0 2 1).bind fun v6 =>
      (gv_gR h5 l0 2 1).bind fun v7 =>
      (gv_lI h5 v7 (l2 - (1 : Int32))).bind fun v8 =>
      (gv_wI h5 v6 l2 v8).bind fun h9 =>
      (gv_gR h9 l0 2 2).bind fun v10 =>
      (gv_lI h9 v10 (l2 - (1 : Int32))).bind fun v11 =>
      (gv_gR h9 l0 2 3).bind fun v12 =>
      (gv_lI h9 v12 (l2 - (1 : Int32))).bind fun v13 =>
      (gv_is h9 l0 2).bind fun i14 =>
      (cT_setValue l0 l2 v11 v13 h9).bind fun h16 =>
      cT_openGap_5 n l0 l1 (l2 + -1) h16) else
    (gv_gI h l0 2 5).bind fun v17 =>
    (gv_pV h l0 2 5 (.int (v17 + (1 : Int32)))).bind fun h18 =>
    some h18
theorem cT_openGap_5_ok {xs : Option (List Int32)} : ∀ (n : Nat) (l0 : Option Nat) (l1 : Int32) (l2 : Int32) (h : gx_H) (r : gx_H), cT_openGap_5 n l0 l1 l2 h = some r → gv_V xs 1 49 5 [(0, gv_u l0), (1, .int l1), (2, .int l2)] [] h (.returned none) r := by
  intro n
  induction n with
  | zero => intro l0 l1 l2 h r e; cases e
  | succ n ih =>
    intro l0 l1 l2 h r e
    rw [cT_openGap_5] at e
    refine gv_ildn (pc' := 6) rfl rfl rfl ?_
    refine gv_ildn (pc' := 7) rfl rfl rfl ?_
    by_cases c1 : l1 < l2
    · rw [if_pos c1] at e
      refine gv_cmF (pc' := 10) rfl (gv_leF2 c1) rfl rfl ?_
      refine gv_rldn (pc' := 11) rfl rfl rfl ?_
      obtain ⟨v2, qv2, e⟩ := gv_bind e
      refine gv_fR (pc' := 14) rfl rfl qv2 rfl ?_
      refine gv_ildn (pc' := 15) rfl rfl rfl ?_
      refine gv_rldn (pc' := 16) rfl rfl rfl ?_
      obtain ⟨v3, qv3, e⟩ := gv_bind e
      refine gv_fR (pc' := 19) rfl rfl qv3 rfl ?_
      refine gv_ildn (pc' := 20) rfl rfl rfl ?_
      refine gv_ic (pc' := 21) (x := 1) rfl rfl rfl ?_
      refine gv_isub (pc' := 22) rfl rfl ?_
      obtain ⟨v4, qv4, e⟩ := gv_bind e
      refine gv_iald (pc' := 23) rfl qv4 rfl ?_
      obtain ⟨h5, qh5, e⟩ := gv_bind e
      refine gv_iast (pc' := 24) rfl qh5 rfl ?_
      refine gv_rldn (pc' := 25) rfl rfl rfl ?_
      obtain ⟨v6, qv6, e⟩ := gv_bind e
      refine gv_fR (pc' := 28) rfl rfl qv6 rfl ?_
      refine gv_ildn (pc' := 29) rfl rfl rfl ?_
      refine gv_rldn (pc' := 30) rfl rfl rfl ?_
      obtain ⟨v7, qv7, e⟩ := gv_bind e
      refine gv_fR (pc' := 33) rfl rfl qv7 rfl ?_
      refine gv_ildn (pc' := 34) rfl rfl rfl ?_
      refine gv_ic (pc' := 35) (x := 1) rfl rfl rfl ?_
      refine gv_isub (pc' := 36) rfl rfl ?_
      obtain ⟨v8, qv8, e⟩ := gv_bind e
      refine gv_iald (pc' := 37) rfl qv8 rfl ?_
      obtain ⟨h9, qh9, e⟩ := gv_bind e
      refine gv_iast (pc' := 38) rfl qh9 rfl ?_
      refine gv_rldn (pc' := 39) rfl rfl rfl ?_
      refine gv_ildn (pc' := 40) rfl rfl rfl ?_
      refine gv_rldn (pc' := 41) rfl rfl rfl ?_
      obtain ⟨v10, qv10, e⟩ := gv_bind e
      refine gv_fR (pc' := 44) rfl rfl qv10 rfl ?_
      refine gv_ildn (pc' := 45) rfl rfl rfl ?_
      refine gv_ic (pc' := 46) (x := 1) rfl rfl rfl ?_
      refine gv_isub (pc' := 47) rfl rfl ?_
      obtain ⟨v11, qv11, e⟩ := gv_bind e
      refine gv_iald (pc' := 48) rfl qv11 rfl ?_
      refine gv_rldn (pc' := 49) rfl rfl rfl ?_
      obtain ⟨v12, qv12, e⟩ := gv_bind e
      refine gv_fR (pc' := 52) rfl rfl qv12 rfl ?_
      refine gv_ildn (pc' := 53) rfl rfl rfl ?_
      refine gv_ic (pc' := 54) (x := 1) rfl rfl rfl ?_
      refine gv_isub (pc' := 55) rfl rfl ?_
      obtain ⟨v13, qv13, e⟩ := gv_bind e
      refine gv_iald (pc' := 56) rfl qv13 rfl ?_
      obtain ⟨i14, qi14, e⟩ := gv_bind e
      obtain ⟨h16, qv15, e⟩ := gv_bind e
      refine gv_vS (jc := 44) (n := 3) (rest := []) (stk := []) (pc' := 59) rfl rfl rfl rfl rfl rfl rfl rfl rfl (gv_zR (gv_zI (gv_zI (gv_zI gv_z0)))) rfl (gv_aR (gv_aI (gv_aI (gv_aI gv_a0)))) (Nat.le_of_ble_eq_true rfl) qi14 (cT_setValue_ok qv15) rfl rfl ?_
      refine gv_inc (pc' := 62) (y := -1) rfl rfl rfl rfl (gv_Ci rfl) rfl ?_
      refine gv_goto (pc' := 5) rfl rfl ?_
      exact gv_weak (ih _ _ _ _ _ e) (gv_S1 rfl (gv_S1 rfl (gv_S1 rfl gv_S0)))
    rw [if_neg c1] at e
    refine gv_cmT (pc' := 65) rfl (gv_leT2 c1) rfl ?_
    refine gv_rldn (pc' := 66) rfl rfl rfl ?_
    refine gv_dup (pc' := 67) rfl (gv_u_cat _) rfl ?_
    obtain ⟨v17, qv17, e⟩ := gv_bind e
    refine gv_fI (pc' := 70) rfl rfl qv17 rfl ?_
    refine gv_ic (pc' := 71) (x := 1) rfl rfl rfl ?_
    refine gv_iadd (pc' := 72) rfl rfl ?_
    obtain ⟨h18, qh18, e⟩ := gv_bind e
    refine gv_pI (pc' := 75) rfl rfl rfl qh18 rfl ?_
    cases e
    exact gv_retV rfl rfl
def cT_openGap (l0 : Option Nat) (l1 : Int32) (h : gx_H) : Option gx_H :=
  (gv_gI h l0 2 5).bind fun v1 =>
  cT_openGap_5 1000000000000000 l0 l1 v1 h
theorem cT_openGap_ok {xs : Option (List Int32)} {l0 : Option Nat} {l1 : Int32} {h : gx_H} {r : gx_H} (e : cT_openGap l0 l1 h = some r) : gv_V xs 1 49 0 [(0, gv_u l0), (1, .int l1)] [] h (.returned none) r := by
  unfold cT_openGap at e
  refine gv_rldn (pc' := 1) rfl rfl rfl ?_
  obtain ⟨v1, qv1, e⟩ := gv_bind e
  refine gv_fI (pc' := 4) rfl rfl qv1 rfl ?_
  refine gv_istn (pc' := 5) rfl rfl (gv_Ci rfl) rfl ?_
  exact gv_weak (cT_openGap_5_ok 1000000000000000 _ _ _ _ _ e) (gv_S1 rfl (gv_S1 rfl (gv_S1 rfl gv_S0)))
def cT_setProperty_54 (l0 : Option Nat) (l2 : Int32) (l3 : Int32) (l4 : Int32) (h : gx_H) : Option (Int32 × gx_H) :=
  (gv_is h l0 2).bind fun i1 =>
  (cT_setValue l0 l4 l2 l3 h).bind fun h3 =>
  some ((1 : Int32), h3)
theorem cT_setProperty_54_ok {xs : Option (List Int32)} {l0 : Option Nat} {l2 : Int32} {l3 : Int32} {l4 : Int32} {h : gx_H} {r : (Int32 × gx_H)} (e : cT_setProperty_54 l0 l2 l3 l4 h = some r) : gv_V xs 2 46 54 [(0, gv_u l0), (2, .int l2), (3, .int l3), (4, .int l4)] [] h (.returned (some (.int r.1))) r.2 := by
  unfold cT_setProperty_54 at e
  refine gv_rldn (pc' := 55) rfl rfl rfl ?_
  refine gv_ild (pc' := 57) rfl rfl rfl ?_
  refine gv_ildn (pc' := 58) rfl rfl rfl ?_
  refine gv_ildn (pc' := 59) rfl rfl rfl ?_
  obtain ⟨i1, qi1, e⟩ := gv_bind e
  obtain ⟨h3, qv2, e⟩ := gv_bind e
  refine gv_vS (jc := 44) (n := 3) (rest := []) (stk := []) (pc' := 62) rfl rfl rfl rfl rfl rfl rfl rfl rfl (gv_zR (gv_zI (gv_zI (gv_zI gv_z0)))) rfl (gv_aR (gv_aI (gv_aI (gv_aI gv_a0)))) (Nat.le_of_ble_eq_true rfl) qi1 (cT_setValue_ok qv2) rfl rfl ?_
  refine gv_ic (pc' := 63) (x := 1) rfl rfl rfl ?_
  cases e
  exact gv_retZ rfl rfl (by decide)
def cT_setProperty (l0 : Option Nat) (l1 : Int32) (l2 : Int32) (l3 : Int32) (h : gx_H) : Option (Int32 × gx_H) :=
  (gv_is h l0 2).bind fun i1 =>
  (cT_indexOfKey l0 (4 : Int32) l1 h).bind fun v2 =>
  if v2 = (-1 : Int32) then (
    (gv_gI h l0 2 5).bind fun v4 =>
    if v4 < (6 : Int32) then (
      (gv_is h l0 2).bind fun i6 =>
      (cT_orderedPlace l0 l1 h).bind fun v7 =>
      (gv_is h l0 2).bind fun i8 =>
      (cT_openGap l0 v7 h).bind fun h10 =>
      (gv_gR h10 l0 2 0).bind fun v11 =>
      (gv_wI h10 v11 v7 (4 : Int32)).bind fun h12 =>
      (gv_gR h12 l0 2 1).bind fun v13 =>
      (gv_wI h12 v13 v7 l1).bind fun h14 =>
      cT_setProperty_54 l0 l2 l3 v7 h14) else
    some ((0 : Int32), h)) else
  cT_setProperty_54 l0 l2 l3 v2 h
theorem cT_setProperty_ok {xs : Option (List Int32)} {l0 : Option Nat} {l1 : Int32} {l2 : Int32} {l3 : Int32} {h : gx_H} {r : (Int32 × gx_H)} (e : cT_setProperty l0 l1 l2 l3 h = some r) : gv_V xs 2 46 0 [(0, gv_u l0), (1, .int l1), (2, .int l2), (3, .int l3)] [] h (.returned (some (.int r.1))) r.2 := by
  unfold cT_setProperty at e
  refine gv_rldn (pc' := 1) rfl rfl rfl ?_
  refine gv_ic (pc' := 2) (x := 4) rfl rfl rfl ?_
  refine gv_ildn (pc' := 3) rfl rfl rfl ?_
  obtain ⟨i1, qi1, e⟩ := gv_bind e
  obtain ⟨v2, qv2, e⟩ := gv_bind e
  refine gv_vS (jc := 47) (n := 2) (rest := []) (stk := [.int v2]) (pc' := 6) rfl rfl rfl rfl rfl rfl rfl rfl rfl (gv_zR (gv_zI (gv_zI gv_z0))) rfl (gv_aR (gv_aI (gv_aI gv_a0))) (Nat.le_of_ble_eq_true rfl) qi1 (cT_indexOfKey_ok qv2) rfl rfl ?_
  refine gv_ist (pc' := 8) rfl rfl (gv_Ci rfl) rfl ?_
  refine gv_ild (pc' := 10) rfl rfl rfl ?_
  refine gv_ic (pc' := 11) (x := -1) rfl rfl rfl ?_
  by_cases c3 : v2 = (-1 : Int32)
  · rw [if_pos c3] at e
    refine gv_cmF (pc' := 14) rfl (gv_neF2 c3) rfl rfl ?_
    refine gv_rldn (pc' := 15) rfl rfl rfl ?_
    obtain ⟨v4, qv4, e⟩ := gv_bind e
    refine gv_fI (pc' := 18) rfl rfl qv4 rfl ?_
    refine gv_bp (pc' := 20) (x := 6) rfl rfl rfl ?_
    by_cases c5 : v4 < (6 : Int32)
    · rw [if_pos c5] at e
      refine gv_cmT (pc' := 25) rfl (gv_ltT2 c5) rfl ?_
      refine gv_rldn (pc' := 26) rfl rfl rfl ?_
      refine gv_ildn (pc' := 27) rfl rfl rfl ?_
      obtain ⟨i6, qi6, e⟩ := gv_bind e
      obtain ⟨v7, qv7, e⟩ := gv_bind e
      refine gv_vS (jc := 48) (n := 1) (rest := []) (stk := [.int v7]) (pc' := 30) rfl rfl rfl rfl rfl rfl rfl rfl rfl (gv_zR (gv_zI gv_z0)) rfl (gv_aR (gv_aI gv_a0)) (Nat.le_of_ble_eq_true rfl) qi6 (cT_orderedPlace_ok qv7) rfl rfl ?_
      refine gv_ist (pc' := 32) rfl rfl (gv_Ci rfl) rfl ?_
      refine gv_rldn (pc' := 33) rfl rfl rfl ?_
      refine gv_ild (pc' := 35) rfl rfl rfl ?_
      obtain ⟨i8, qi8, e⟩ := gv_bind e
      obtain ⟨h10, qv9, e⟩ := gv_bind e
      refine gv_vS (jc := 49) (n := 1) (rest := []) (stk := []) (pc' := 38) rfl rfl rfl rfl rfl rfl rfl rfl rfl (gv_zR (gv_zI gv_z0)) rfl (gv_aR (gv_aI gv_a0)) (Nat.le_of_ble_eq_true rfl) qi8 (cT_openGap_ok qv9) rfl rfl ?_
      refine gv_rldn (pc' := 39) rfl rfl rfl ?_
      obtain ⟨v11, qv11, e⟩ := gv_bind e
      refine gv_fR (pc' := 42) rfl rfl qv11 rfl ?_
      refine gv_ild (pc' := 44) rfl rfl rfl ?_
      refine gv_ic (pc' := 45) (x := 4) rfl rfl rfl ?_
      obtain ⟨h12, qh12, e⟩ := gv_bind e
      refine gv_iast (pc' := 46) rfl qh12 rfl ?_
      refine gv_rldn (pc' := 47) rfl rfl rfl ?_
      obtain ⟨v13, qv13, e⟩ := gv_bind e
      refine gv_fR (pc' := 50) rfl rfl qv13 rfl ?_
      refine gv_ild (pc' := 52) rfl rfl rfl ?_
      refine gv_ildn (pc' := 53) rfl rfl rfl ?_
      obtain ⟨h14, qh14, e⟩ := gv_bind e
      refine gv_iast (pc' := 54) rfl qh14 rfl ?_
      exact gv_weak (cT_setProperty_54_ok e) (gv_S1 rfl (gv_S1 rfl (gv_S1 rfl (gv_S1 rfl gv_S0))))
    rw [if_neg c5] at e
    refine gv_cmF (pc' := 23) rfl (gv_ltF2 c5) rfl rfl ?_
    refine gv_ic (pc' := 24) (x := 0) rfl rfl rfl ?_
    cases e
    exact gv_retZ rfl rfl (by decide)
  rw [if_neg c3] at e
  refine gv_cmT (pc' := 54) rfl (gv_neT2 c3) rfl ?_
  exact gv_weak (cT_setProperty_54_ok e) (gv_S1 rfl (gv_S1 rfl (gv_S1 rfl (gv_S1 rfl gv_S0))))
def cT_dropProperty_16 : Nat → Option Nat → Int32 → gx_H → Option (Int32 × gx_H)
  | 0, _, _, _ => none
  | n + 1, l0, l3, h =>
    (gv_gI h l0 2 5).bind fun v1 =>
    if (l3 + (1 : Int32)) < v1 then (
      (gv_gR h l0 2 1).bind fun v3 =>
      (gv_gR h l0 2 1).bind fun v4 =>
      (gv_lI h v4 (l3 + (1 : Int32))).bind fun v5 =>
      (gv_wI h v3 l3 v5).bind fun h6 =>
      (gv_gR h6 l0 2 2).bind fun v7 =>
      (gv_lI h6 v7 (l3 + (1 : Int32))).bind fun v8 =>
      (gv_gR h6 l0 2 3).bind fun v9 =>
      (gv_lI h6 v9 (l3 + (1 : Int32))).bind fun v10 =>
      (gv_is h6 l0 2).bind fun i11 =>
      (cT_setValue l0 l3 v8 v10 h6).bind fun h13 =>
      cT_dropProperty_16 n l0 (l3 + 1) h13) else
    (gv_gI h l0 2 5).bind fun v14 =>
    (gv_pV h l0 2 5 (.int (v14 - (1 : Int32)))).bind fun h15 =>
    some ((1 : Int32), h15)
theorem cT_dropProperty_16_ok {xs : Option (List Int32)} : ∀ (n : Nat) (l0 : Option Nat) (l3 : Int32) (h : gx_H) (r : (Int32 × gx_H)), cT_dropProperty_16 n l0 l3 h = some r → gv_V xs 1 52 16 [(0, gv_u l0), (3, .int l3)] [] h (.returned (some (.int r.1))) r.2 := by
  intro n
  induction n with
  | zero => intro l0 l3 h r e; cases e
  | succ n ih =>
    intro l0 l3 h r e
    rw [cT_dropProperty_16] at e
    refine gv_ildn (pc' := 17) rfl rfl rfl ?_
    refine gv_ic (pc' := 18) (x := 1) rfl rfl rfl ?_
    refine gv_iadd (pc' := 19) rfl rfl ?_
    refine gv_rldn (pc' := 20) rfl rfl rfl ?_
    obtain ⟨v1, qv1, e⟩ := gv_bind e
    refine gv_fI (pc' := 23) rfl rfl qv1 rfl ?_
    by_cases c2 : (l3 + (1 : Int32)) < v1
    · rw [if_pos c2] at e
      refine gv_cmF (pc' := 26) rfl (gv_geF2 c2) rfl rfl ?_
      refine gv_rldn (pc' := 27) rfl rfl rfl ?_
      obtain ⟨v3, qv3, e⟩ := gv_bind e
      refine gv_fR (pc' := 30) rfl rfl qv3 rfl ?_
      refine gv_ildn (pc' := 31) rfl rfl rfl ?_
      refine gv_rldn (pc' := 32) rfl rfl rfl ?_
      obtain ⟨v4, qv4, e⟩ := gv_bind e
      refine gv_fR (pc' := 35) rfl rfl qv4 rfl ?_
      refine gv_ildn (pc' := 36) rfl rfl rfl ?_
      refine gv_ic (pc' := 37) (x := 1) rfl rfl rfl ?_
      refine gv_iadd (pc' := 38) rfl rfl ?_
      obtain ⟨v5, qv5, e⟩ := gv_bind e
      refine gv_iald (pc' := 39) rfl qv5 rfl ?_
      obtain ⟨h6, qh6, e⟩ := gv_bind e
      refine gv_iast (pc' := 40) rfl qh6 rfl ?_
      refine gv_rldn (pc' := 41) rfl rfl rfl ?_
      refine gv_ildn (pc' := 42) rfl rfl rfl ?_
      refine gv_rldn (pc' := 43) rfl rfl rfl ?_
      obtain ⟨v7, qv7, e⟩ := gv_bind e
      refine gv_fR (pc' := 46) rfl rfl qv7 rfl ?_
      refine gv_ildn (pc' := 47) rfl rfl rfl ?_
      refine gv_ic (pc' := 48) (x := 1) rfl rfl rfl ?_
      refine gv_iadd (pc' := 49) rfl rfl ?_
      obtain ⟨v8, qv8, e⟩ := gv_bind e
      refine gv_iald (pc' := 50) rfl qv8 rfl ?_
      refine gv_rldn (pc' := 51) rfl rfl rfl ?_
      obtain ⟨v9, qv9, e⟩ := gv_bind e
      refine gv_fR (pc' := 54) rfl rfl qv9 rfl ?_
      refine gv_ildn (pc' := 55) rfl rfl rfl ?_
      refine gv_ic (pc' := 56) (x := 1) rfl rfl rfl ?_
      refine gv_iadd (pc' := 57) rfl rfl ?_
      obtain ⟨v10, qv10, e⟩ := gv_bind e
      refine gv_iald (pc' := 58) rfl qv10 rfl ?_
      obtain ⟨i11, qi11, e⟩ := gv_bind e
      obtain ⟨h13, qv12, e⟩ := gv_bind e
      refine gv_vS (jc := 44) (n := 3) (rest := []) (stk := []) (pc' := 61) rfl rfl rfl rfl rfl rfl rfl rfl rfl (gv_zR (gv_zI (gv_zI (gv_zI gv_z0)))) rfl (gv_aR (gv_aI (gv_aI (gv_aI gv_a0)))) (Nat.le_of_ble_eq_true rfl) qi11 (cT_setValue_ok qv12) rfl rfl ?_
      refine gv_inc (pc' := 64) (y := 1) rfl rfl rfl rfl (gv_Cn rfl) rfl ?_
      refine gv_goto (pc' := 16) rfl rfl ?_
      exact gv_weak (ih _ _ _ _ e) (gv_S1 rfl (gv_S1 rfl gv_S0))
    rw [if_neg c2] at e
    refine gv_cmT (pc' := 67) rfl (gv_geT2 c2) rfl ?_
    refine gv_rldn (pc' := 68) rfl rfl rfl ?_
    refine gv_dup (pc' := 69) rfl (gv_u_cat _) rfl ?_
    obtain ⟨v14, qv14, e⟩ := gv_bind e
    refine gv_fI (pc' := 72) rfl rfl qv14 rfl ?_
    refine gv_ic (pc' := 73) (x := 1) rfl rfl rfl ?_
    refine gv_isub (pc' := 74) rfl rfl ?_
    obtain ⟨h15, qh15, e⟩ := gv_bind e
    refine gv_pI (pc' := 77) rfl rfl rfl qh15 rfl ?_
    refine gv_ic (pc' := 78) (x := 1) rfl rfl rfl ?_
    cases e
    exact gv_retZ rfl rfl (by decide)
def cT_dropProperty (l0 : Option Nat) (l1 : Int32) (h : gx_H) : Option (Int32 × gx_H) :=
  (gv_is h l0 2).bind fun i1 =>
  (cT_indexOfKey l0 (4 : Int32) l1 h).bind fun v2 =>
  if v2 = (-1 : Int32) then (
    some ((0 : Int32), h)) else
  cT_dropProperty_16 1000000000000000 l0 v2 h
theorem cT_dropProperty_ok {xs : Option (List Int32)} {l0 : Option Nat} {l1 : Int32} {h : gx_H} {r : (Int32 × gx_H)} (e : cT_dropProperty l0 l1 h = some r) : gv_V xs 1 52 0 [(0, gv_u l0), (1, .int l1)] [] h (.returned (some (.int r.1))) r.2 := by
  unfold cT_dropProperty at e
  refine gv_rldn (pc' := 1) rfl rfl rfl ?_
  refine gv_ic (pc' := 2) (x := 4) rfl rfl rfl ?_
  refine gv_ildn (pc' := 3) rfl rfl rfl ?_
  obtain ⟨i1, qi1, e⟩ := gv_bind e
  obtain ⟨v2, qv2, e⟩ := gv_bind e
  refine gv_vS (jc := 47) (n := 2) (rest := []) (stk := [.int v2]) (pc' := 6) rfl rfl rfl rfl rfl rfl rfl rfl rfl (gv_zR (gv_zI (gv_zI gv_z0))) rfl (gv_aR (gv_aI (gv_aI gv_a0))) (Nat.le_of_ble_eq_true rfl) qi1 (cT_indexOfKey_ok qv2) rfl rfl ?_
  refine gv_istn (pc' := 7) rfl rfl (gv_Ci rfl) rfl ?_
  refine gv_ildn (pc' := 8) rfl rfl rfl ?_
  refine gv_ic (pc' := 9) (x := -1) rfl rfl rfl ?_
  by_cases c3 : v2 = (-1 : Int32)
  · rw [if_pos c3] at e
    refine gv_cmF (pc' := 12) rfl (gv_neF2 c3) rfl rfl ?_
    refine gv_ic (pc' := 13) (x := 0) rfl rfl rfl ?_
    cases e
    exact gv_retZ rfl rfl (by decide)
  rw [if_neg c3] at e
  refine gv_cmT (pc' := 14) rfl (gv_neT2 c3) rfl ?_
  refine gv_ildn (pc' := 15) rfl rfl rfl ?_
  refine gv_istn (pc' := 16) rfl rfl (gv_Ci rfl) rfl ?_
  exact gv_weak (cT_dropProperty_16_ok 1000000000000000 _ _ _ _ e) (gv_S1 rfl (gv_S1 rfl gv_S0))
def cT_makeHole (l0 : Option Nat) (l1 : Int32) (h : gx_H) : Option (Int32 × gx_H) :=
  if l1 < 0 then (
    some ((0 : Int32), h)) else
  (gv_gI h l0 2 5).bind fun v2 =>
  if l1 < v2 then (
    (gv_is h l0 2).bind fun i4 =>
    (cT_setValue l0 l1 (-1 : Int32) (0 : Int32) h).bind fun h6 =>
    some ((1 : Int32), h6)) else
  some ((0 : Int32), h)
theorem cT_makeHole_ok {xs : Option (List Int32)} {l0 : Option Nat} {l1 : Int32} {h : gx_H} {r : (Int32 × gx_H)} (e : cT_makeHole l0 l1 h = some r) : gv_V xs 1 53 0 [(0, gv_u l0), (1, .int l1)] [] h (.returned (some (.int r.1))) r.2 := by
  unfold cT_makeHole at e
  refine gv_ildn (pc' := 1) rfl rfl rfl ?_
  by_cases c1 : l1 < 0
  · rw [if_pos c1] at e
    refine gv_ifT (pc' := 12) rfl (gv_ltT c1) rfl ?_
    refine gv_ic (pc' := 13) (x := 0) rfl rfl rfl ?_
    cases e
    exact gv_retZ rfl rfl (by decide)
  rw [if_neg c1] at e
  refine gv_ifF (pc' := 4) rfl (gv_ltF c1) rfl rfl ?_
  refine gv_ildn (pc' := 5) rfl rfl rfl ?_
  refine gv_rldn (pc' := 6) rfl rfl rfl ?_
  obtain ⟨v2, qv2, e⟩ := gv_bind e
  refine gv_fI (pc' := 9) rfl rfl qv2 rfl ?_
  by_cases c3 : l1 < v2
  · rw [if_pos c3] at e
    refine gv_cmT (pc' := 14) rfl (gv_ltT2 c3) rfl ?_
    refine gv_rldn (pc' := 15) rfl rfl rfl ?_
    refine gv_ildn (pc' := 16) rfl rfl rfl ?_
    refine gv_ic (pc' := 17) (x := -1) rfl rfl rfl ?_
    refine gv_ic (pc' := 18) (x := 0) rfl rfl rfl ?_
    obtain ⟨i4, qi4, e⟩ := gv_bind e
    obtain ⟨h6, qv5, e⟩ := gv_bind e
    refine gv_vS (jc := 44) (n := 3) (rest := []) (stk := []) (pc' := 21) rfl rfl rfl rfl rfl rfl rfl rfl rfl (gv_zR (gv_zI (gv_zI (gv_zI gv_z0)))) rfl (gv_aR (gv_aI (gv_aI (gv_aI gv_a0)))) (Nat.le_of_ble_eq_true rfl) qi4 (cT_setValue_ok qv5) rfl rfl ?_
    refine gv_ic (pc' := 22) (x := 1) rfl rfl rfl ?_
    cases e
    exact gv_retZ rfl rfl (by decide)
  rw [if_neg c3] at e
  refine gv_cmF (pc' := 12) rfl (gv_ltF2 c3) rfl rfl ?_
  refine gv_ic (pc' := 13) (x := 0) rfl rfl rfl ?_
  cases e
  exact gv_retZ rfl rfl (by decide)
def cT_setEntry_56 (l0 : Option Nat) (l3 : Int32) (l4 : Int32) (l5 : Int32) (h : gx_H) : Option (Int32 × gx_H) :=
  (gv_is h l0 2).bind fun i1 =>
  (cT_setValue l0 l5 l3 l4 h).bind fun h3 =>
  some ((1 : Int32), h3)
theorem cT_setEntry_56_ok {xs : Option (List Int32)} {l0 : Option Nat} {l3 : Int32} {l4 : Int32} {l5 : Int32} {h : gx_H} {r : (Int32 × gx_H)} (e : cT_setEntry_56 l0 l3 l4 l5 h = some r) : gv_V xs 1 56 56 [(0, gv_u l0), (3, .int l3), (4, .int l4), (5, .int l5)] [] h (.returned (some (.int r.1))) r.2 := by
  unfold cT_setEntry_56 at e
  refine gv_rldn (pc' := 57) rfl rfl rfl ?_
  refine gv_ild (pc' := 59) rfl rfl rfl ?_
  refine gv_ildn (pc' := 60) rfl rfl rfl ?_
  refine gv_ild (pc' := 62) rfl rfl rfl ?_
  obtain ⟨i1, qi1, e⟩ := gv_bind e
  obtain ⟨h3, qv2, e⟩ := gv_bind e
  refine gv_vS (jc := 44) (n := 3) (rest := []) (stk := []) (pc' := 65) rfl rfl rfl rfl rfl rfl rfl rfl rfl (gv_zR (gv_zI (gv_zI (gv_zI gv_z0)))) rfl (gv_aR (gv_aI (gv_aI (gv_aI gv_a0)))) (Nat.le_of_ble_eq_true rfl) qi1 (cT_setValue_ok qv2) rfl rfl ?_
  refine gv_ic (pc' := 66) (x := 1) rfl rfl rfl ?_
  cases e
  exact gv_retZ rfl rfl (by decide)
def cT_setEntry (l0 : Option Nat) (l1 : Int32) (l2 : Int32) (l3 : Int32) (l4 : Int32) (h : gx_H) : Option (Int32 × gx_H) :=
  (gv_is h l0 2).bind fun i1 =>
  (cT_indexOfKey l0 l1 l2 h).bind fun v2 =>
  if v2 = (-1 : Int32) then (
    (gv_gI h l0 2 5).bind fun v4 =>
    if v4 < (4 : Int32) then (
      (gv_gI h l0 2 5).bind fun v6 =>
      (gv_gR h l0 2 0).bind fun v7 =>
      (gv_wI h v7 v6 l1).bind fun h8 =>
      (gv_gR h8 l0 2 1).bind fun v9 =>
      (gv_wI h8 v9 v6 l2).bind fun h10 =>
      (gv_gI h10 l0 2 5).bind fun v11 =>
      (gv_pV h10 l0 2 5 (.int (v11 + (1 : Int32)))).bind fun h12 =>
      cT_setEntry_56 l0 l3 l4 v6 h12) else
    some ((0 : Int32), h)) else
  cT_setEntry_56 l0 l3 l4 v2 h
theorem cT_setEntry_ok {xs : Option (List Int32)} {l0 : Option Nat} {l1 : Int32} {l2 : Int32} {l3 : Int32} {l4 : Int32} {h : gx_H} {r : (Int32 × gx_H)} (e : cT_setEntry l0 l1 l2 l3 l4 h = some r) : gv_V xs 1 56 0 [(0, gv_u l0), (1, .int l1), (2, .int l2), (3, .int l3), (4, .int l4)] [] h (.returned (some (.int r.1))) r.2 := by
  unfold cT_setEntry at e
  refine gv_rldn (pc' := 1) rfl rfl rfl ?_
  refine gv_ildn (pc' := 2) rfl rfl rfl ?_
  refine gv_ildn (pc' := 3) rfl rfl rfl ?_
  obtain ⟨i1, qi1, e⟩ := gv_bind e
  obtain ⟨v2, qv2, e⟩ := gv_bind e
  refine gv_vS (jc := 47) (n := 2) (rest := []) (stk := [.int v2]) (pc' := 6) rfl rfl rfl rfl rfl rfl rfl rfl rfl (gv_zR (gv_zI (gv_zI gv_z0))) rfl (gv_aR (gv_aI (gv_aI gv_a0))) (Nat.le_of_ble_eq_true rfl) qi1 (cT_indexOfKey_ok qv2) rfl rfl ?_
  refine gv_ist (pc' := 8) rfl rfl (gv_Ci rfl) rfl ?_
  refine gv_ild (pc' := 10) rfl rfl rfl ?_
  refine gv_ic (pc' := 11) (x := -1) rfl rfl rfl ?_
  by_cases c3 : v2 = (-1 : Int32)
  · rw [if_pos c3] at e
    refine gv_cmF (pc' := 14) rfl (gv_neF2 c3) rfl rfl ?_
    refine gv_rldn (pc' := 15) rfl rfl rfl ?_
    obtain ⟨v4, qv4, e⟩ := gv_bind e
    refine gv_fI (pc' := 18) rfl rfl qv4 rfl ?_
    refine gv_ic (pc' := 19) (x := 4) rfl rfl rfl ?_
    by_cases c5 : v4 < (4 : Int32)
    · rw [if_pos c5] at e
      refine gv_cmT (pc' := 24) rfl (gv_ltT2 c5) rfl ?_
      refine gv_rldn (pc' := 25) rfl rfl rfl ?_
      obtain ⟨v6, qv6, e⟩ := gv_bind e
      refine gv_fI (pc' := 28) rfl rfl qv6 rfl ?_
      refine gv_ist (pc' := 30) rfl rfl (gv_Ci rfl) rfl ?_
      refine gv_rldn (pc' := 31) rfl rfl rfl ?_
      obtain ⟨v7, qv7, e⟩ := gv_bind e
      refine gv_fR (pc' := 34) rfl rfl qv7 rfl ?_
      refine gv_ild (pc' := 36) rfl rfl rfl ?_
      refine gv_ildn (pc' := 37) rfl rfl rfl ?_
      obtain ⟨h8, qh8, e⟩ := gv_bind e
      refine gv_iast (pc' := 38) rfl qh8 rfl ?_
      refine gv_rldn (pc' := 39) rfl rfl rfl ?_
      obtain ⟨v9, qv9, e⟩ := gv_bind e
      refine gv_fR (pc' := 42) rfl rfl qv9 rfl ?_
      refine gv_ild (pc' := 44) rfl rfl rfl ?_
      refine gv_ildn (pc' := 45) rfl rfl rfl ?_
      obtain ⟨h10, qh10, e⟩ := gv_bind e
      refine gv_iast (pc' := 46) rfl qh10 rfl ?_
      refine gv_rldn (pc' := 47) rfl rfl rfl ?_
      refine gv_dup (pc' := 48) rfl (gv_u_cat _) rfl ?_
      obtain ⟨v11, qv11, e⟩ := gv_bind e
      refine gv_fI (pc' := 51) rfl rfl qv11 rfl ?_
      refine gv_ic (pc' := 52) (x := 1) rfl rfl rfl ?_
      refine gv_iadd (pc' := 53) rfl rfl ?_
      obtain ⟨h12, qh12, e⟩ := gv_bind e
      refine gv_pI (pc' := 56) rfl rfl rfl qh12 rfl ?_
      exact gv_weak (cT_setEntry_56_ok e) (gv_S1 rfl (gv_S1 rfl (gv_S1 rfl (gv_S1 rfl gv_S0))))
    rw [if_neg c5] at e
    refine gv_cmF (pc' := 22) rfl (gv_ltF2 c5) rfl rfl ?_
    refine gv_ic (pc' := 23) (x := 0) rfl rfl rfl ?_
    cases e
    exact gv_retZ rfl rfl (by decide)
  rw [if_neg c3] at e
  refine gv_cmT (pc' := 56) rfl (gv_neT2 c3) rfl ?_
  exact gv_weak (cT_setEntry_56_ok e) (gv_S1 rfl (gv_S1 rfl (gv_S1 rfl (gv_S1 rfl gv_S0))))
def cT_hasMember_32 (rec2 : Option Nat → Int32 → Int32 → Int32 → gx_H → Option Int32) (l0 : Option Nat) (l1 : Int32) (l2 : Int32) (l3 : Int32) (h : gx_H) : Option Int32 :=
  rec2 l0 l1 l2 (l3 + 1) h
theorem cT_hasMember_32_ok {xs : Option (List Int32)} {rec2 : Option Nat → Int32 → Int32 → Int32 → gx_H → Option Int32} (hrec2 : ∀ (l0 : Option Nat) (l1 : Int32) (l2 : Int32) (l3 : Int32) (h : gx_H) (r : Int32), rec2 l0 l1 l2 l3 h = some r → gv_V xs 0 59 2 [(0, gv_u l0), (1, .int l1), (2, .int l2), (3, .int l3)] [] h (.returned (some (.int r))) h) {l0 : Option Nat} {l1 : Int32} {l2 : Int32} {l3 : Int32} {h : gx_H} {r : Int32} (e : cT_hasMember_32 rec2 l0 l1 l2 l3 h = some r) : gv_V xs 0 59 32 [(0, gv_u l0), (1, .int l1), (2, .int l2), (3, .int l3)] [] h (.returned (some (.int r))) h := by
  unfold cT_hasMember_32 at e
  refine gv_inc (pc' := 35) (y := 1) rfl rfl rfl rfl (gv_Ci rfl) rfl ?_
  refine gv_goto (pc' := 2) rfl rfl ?_
  exact gv_weak (hrec2 _ _ _ _ _ _ e) (gv_S1 rfl (gv_S1 rfl (gv_S1 rfl (gv_S1 rfl gv_S0))))
def cT_hasMember_2 : Nat → Option Nat → Int32 → Int32 → Int32 → gx_H → Option Int32
  | 0, _, _, _, _, _ => none
  | n + 1, l0, l1, l2, l3, h =>
    (gv_gI h l0 2 5).bind fun v1 =>
    if l3 < v1 then (
      (gv_gR h l0 2 2).bind fun v3 =>
      (gv_lI h v3 l3).bind fun v4 =>
      if v4 = l1 then (
        (gv_gR h l0 2 3).bind fun v6 =>
        (gv_lI h v6 l3).bind fun v7 =>
        if v7 = l2 then (
          some (1 : Int32)) else
        cT_hasMember_32 (cT_hasMember_2 n) l0 l1 l2 l3 h) else
      cT_hasMember_32 (cT_hasMember_2 n) l0 l1 l2 l3 h) else
    some (0 : Int32)
theorem cT_hasMember_2_ok {xs : Option (List Int32)} : ∀ (n : Nat) (l0 : Option Nat) (l1 : Int32) (l2 : Int32) (l3 : Int32) (h : gx_H) (r : Int32), cT_hasMember_2 n l0 l1 l2 l3 h = some r → gv_V xs 0 59 2 [(0, gv_u l0), (1, .int l1), (2, .int l2), (3, .int l3)] [] h (.returned (some (.int r))) h := by
  intro n
  induction n with
  | zero => intro l0 l1 l2 l3 h r e; cases e
  | succ n ih =>
    intro l0 l1 l2 l3 h r e
    rw [cT_hasMember_2] at e
    refine gv_ildn (pc' := 3) rfl rfl rfl ?_
    refine gv_rldn (pc' := 4) rfl rfl rfl ?_
    obtain ⟨v1, qv1, e⟩ := gv_bind e
    refine gv_fI (pc' := 7) rfl rfl qv1 rfl ?_
    by_cases c2 : l3 < v1
    · rw [if_pos c2] at e
      refine gv_cmF (pc' := 10) rfl (gv_geF2 c2) rfl rfl ?_
      refine gv_rldn (pc' := 11) rfl rfl rfl ?_
      obtain ⟨v3, qv3, e⟩ := gv_bind e
      refine gv_fR (pc' := 14) rfl rfl qv3 rfl ?_
      refine gv_ildn (pc' := 15) rfl rfl rfl ?_
      obtain ⟨v4, qv4, e⟩ := gv_bind e
      refine gv_iald (pc' := 16) rfl qv4 rfl ?_
      refine gv_ildn (pc' := 17) rfl rfl rfl ?_
      by_cases c5 : v4 = l1
      · rw [if_pos c5] at e
        refine gv_cmF (pc' := 20) rfl (gv_neF2 c5) rfl rfl ?_
        refine gv_rldn (pc' := 21) rfl rfl rfl ?_
        obtain ⟨v6, qv6, e⟩ := gv_bind e
        refine gv_fR (pc' := 24) rfl rfl qv6 rfl ?_
        refine gv_ildn (pc' := 25) rfl rfl rfl ?_
        obtain ⟨v7, qv7, e⟩ := gv_bind e
        refine gv_iald (pc' := 26) rfl qv7 rfl ?_
        refine gv_ildn (pc' := 27) rfl rfl rfl ?_
        by_cases c8 : v7 = l2
        · rw [if_pos c8] at e
          refine gv_cmF (pc' := 30) rfl (gv_neF2 c8) rfl rfl ?_
          refine gv_ic (pc' := 31) (x := 1) rfl rfl rfl ?_
          cases e
          exact gv_retZ rfl rfl (by decide)
        rw [if_neg c8] at e
        refine gv_cmT (pc' := 32) rfl (gv_neT2 c8) rfl ?_
        exact gv_weak (cT_hasMember_32_ok ih e) (gv_S1 rfl (gv_S1 rfl (gv_S1 rfl (gv_S1 rfl gv_S0))))
      rw [if_neg c5] at e
      refine gv_cmT (pc' := 32) rfl (gv_neT2 c5) rfl ?_
      exact gv_weak (cT_hasMember_32_ok ih e) (gv_S1 rfl (gv_S1 rfl (gv_S1 rfl (gv_S1 rfl gv_S0))))
    rw [if_neg c2] at e
    refine gv_cmT (pc' := 38) rfl (gv_geT2 c2) rfl ?_
    refine gv_ic (pc' := 39) (x := 0) rfl rfl rfl ?_
    cases e
    exact gv_retZ rfl rfl (by decide)
def cT_hasMember (l0 : Option Nat) (l1 : Int32) (l2 : Int32) (h : gx_H) : Option Int32 :=
  cT_hasMember_2 1000000000000000 l0 l1 l2 (0 : Int32) h
theorem cT_hasMember_ok {xs : Option (List Int32)} {l0 : Option Nat} {l1 : Int32} {l2 : Int32} {h : gx_H} {r : Int32} (e : cT_hasMember l0 l1 l2 h = some r) : gv_V xs 0 59 0 [(0, gv_u l0), (1, .int l1), (2, .int l2)] [] h (.returned (some (.int r))) h := by
  unfold cT_hasMember at e
  refine gv_ic (pc' := 1) (x := 0) rfl rfl rfl ?_
  refine gv_istn (pc' := 2) rfl rfl (gv_Ci rfl) rfl ?_
  exact gv_weak (cT_hasMember_2_ok 1000000000000000 _ _ _ _ _ _ e) (gv_S1 rfl (gv_S1 rfl (gv_S1 rfl (gv_S1 rfl gv_S0))))
def cT_appendMember (l0 : Option Nat) (l1 : Int32) (l2 : Int32) (h : gx_H) : Option (Int32 × gx_H) :=
  (gv_gI h l0 2 5).bind fun v1 =>
  if v1 < (5 : Int32) then (
    (gv_gI h l0 2 5).bind fun v3 =>
    (gv_is h l0 2).bind fun i4 =>
    (cT_setValue l0 v3 l1 l2 h).bind fun h6 =>
    (gv_gI h6 l0 2 5).bind fun v7 =>
    (gv_pV h6 l0 2 5 (.int (v7 + (1 : Int32)))).bind fun h8 =>
    some ((1 : Int32), h8)) else
  some ((0 : Int32), h)
theorem cT_appendMember_ok {xs : Option (List Int32)} {l0 : Option Nat} {l1 : Int32} {l2 : Int32} {h : gx_H} {r : (Int32 × gx_H)} (e : cT_appendMember l0 l1 l2 h = some r) : gv_V xs 1 60 0 [(0, gv_u l0), (1, .int l1), (2, .int l2)] [] h (.returned (some (.int r.1))) r.2 := by
  unfold cT_appendMember at e
  refine gv_rldn (pc' := 1) rfl rfl rfl ?_
  obtain ⟨v1, qv1, e⟩ := gv_bind e
  refine gv_fI (pc' := 4) rfl rfl qv1 rfl ?_
  refine gv_ic (pc' := 5) (x := 5) rfl rfl rfl ?_
  by_cases c2 : v1 < (5 : Int32)
  · rw [if_pos c2] at e
    refine gv_cmT (pc' := 10) rfl (gv_ltT2 c2) rfl ?_
    refine gv_rldn (pc' := 11) rfl rfl rfl ?_
    refine gv_rldn (pc' := 12) rfl rfl rfl ?_
    obtain ⟨v3, qv3, e⟩ := gv_bind e
    refine gv_fI (pc' := 15) rfl rfl qv3 rfl ?_
    refine gv_ildn (pc' := 16) rfl rfl rfl ?_
    refine gv_ildn (pc' := 17) rfl rfl rfl ?_
    obtain ⟨i4, qi4, e⟩ := gv_bind e
    obtain ⟨h6, qv5, e⟩ := gv_bind e
    refine gv_vS (jc := 44) (n := 3) (rest := []) (stk := []) (pc' := 20) rfl rfl rfl rfl rfl rfl rfl rfl rfl (gv_zR (gv_zI (gv_zI (gv_zI gv_z0)))) rfl (gv_aR (gv_aI (gv_aI (gv_aI gv_a0)))) (Nat.le_of_ble_eq_true rfl) qi4 (cT_setValue_ok qv5) rfl rfl ?_
    refine gv_rldn (pc' := 21) rfl rfl rfl ?_
    refine gv_dup (pc' := 22) rfl (gv_u_cat _) rfl ?_
    obtain ⟨v7, qv7, e⟩ := gv_bind e
    refine gv_fI (pc' := 25) rfl rfl qv7 rfl ?_
    refine gv_ic (pc' := 26) (x := 1) rfl rfl rfl ?_
    refine gv_iadd (pc' := 27) rfl rfl ?_
    obtain ⟨h8, qh8, e⟩ := gv_bind e
    refine gv_pI (pc' := 30) rfl rfl rfl qh8 rfl ?_
    refine gv_ic (pc' := 31) (x := 1) rfl rfl rfl ?_
    cases e
    exact gv_retZ rfl rfl (by decide)
  rw [if_neg c2] at e
  refine gv_cmF (pc' := 8) rfl (gv_ltF2 c2) rfl rfl ?_
  refine gv_ic (pc' := 9) (x := 0) rfl rfl rfl ?_
  cases e
  exact gv_retZ rfl rfl (by decide)
def cT_hasPart (l0 : Option Nat) (l1 : Int32) (l2 : Int32) (h : gx_H) : Option Int32 :=
  if l2 < 0 then (
    some (0 : Int32)) else
  if (3 : Int32) < l2 then (
    some (0 : Int32)) else
  if l1 < 0 then (
    some (0 : Int32)) else
  (gv_gI h l0 2 4).bind fun v4 =>
  if v4 = (5 : Int32) then (
    if l1 = 0 then (
      some (1 : Int32)) else
    some (0 : Int32)) else
  (gv_gI h l0 2 4).bind fun v7 =>
  if v7 = (6 : Int32) then (
    if l1 = 0 then (
      if l2 = 0 then (
        some (1 : Int32)) else
      some (0 : Int32)) else
    some (0 : Int32)) else
  (gv_gI h l0 2 6).bind fun v11 =>
  if v11 = 0 then (
    (gv_gI h l0 2 5).bind fun v13 =>
    if l1 < v13 then (
      if l2 < (3 : Int32) then (
        some (1 : Int32)) else
      (gv_gI h l0 2 4).bind fun v16 =>
      if v16 = (2 : Int32) then (
        some (1 : Int32)) else
      some (0 : Int32)) else
    some (0 : Int32)) else
  some (0 : Int32)
theorem cT_hasPart_ok {xs : Option (List Int32)} {l0 : Option Nat} {l1 : Int32} {l2 : Int32} {h : gx_H} {r : Int32} (e : cT_hasPart l0 l1 l2 h = some r) : gv_V xs 0 63 0 [(0, gv_u l0), (1, .int l1), (2, .int l2)] [] h (.returned (some (.int r))) h := by
  unfold cT_hasPart at e
  refine gv_ildn (pc' := 1) rfl rfl rfl ?_
  by_cases c1 : l2 < 0
  · rw [if_pos c1] at e
    refine gv_ifT (pc' := 13) rfl (gv_ltT c1) rfl ?_
    refine gv_ic (pc' := 14) (x := 0) rfl rfl rfl ?_
    cases e
    exact gv_retZ rfl rfl (by decide)
  rw [if_neg c1] at e
  refine gv_ifF (pc' := 4) rfl (gv_ltF c1) rfl rfl ?_
  refine gv_ildn (pc' := 5) rfl rfl rfl ?_
  refine gv_ic (pc' := 6) (x := 3) rfl rfl rfl ?_
  by_cases c2 : (3 : Int32) < l2
  · rw [if_pos c2] at e
    refine gv_cmT (pc' := 13) rfl (gv_gtT2 c2) rfl ?_
    refine gv_ic (pc' := 14) (x := 0) rfl rfl rfl ?_
    cases e
    exact gv_retZ rfl rfl (by decide)
  rw [if_neg c2] at e
  refine gv_cmF (pc' := 9) rfl (gv_gtF2 c2) rfl rfl ?_
  refine gv_ildn (pc' := 10) rfl rfl rfl ?_
  by_cases c3 : l1 < 0
  · rw [if_pos c3] at e
    refine gv_ifF (pc' := 13) rfl (gv_geF c3) rfl rfl ?_
    refine gv_ic (pc' := 14) (x := 0) rfl rfl rfl ?_
    cases e
    exact gv_retZ rfl rfl (by decide)
  rw [if_neg c3] at e
  refine gv_ifT (pc' := 15) rfl (gv_geT c3) rfl ?_
  refine gv_rldn (pc' := 16) rfl rfl rfl ?_
  obtain ⟨v4, qv4, e⟩ := gv_bind e
  refine gv_fI (pc' := 19) rfl rfl qv4 rfl ?_
  refine gv_ic (pc' := 20) (x := 5) rfl rfl rfl ?_
  by_cases c5 : v4 = (5 : Int32)
  · rw [if_pos c5] at e
    refine gv_cmF (pc' := 23) rfl (gv_neF2 c5) rfl rfl ?_
    refine gv_ildn (pc' := 24) rfl rfl rfl ?_
    by_cases c6 : l1 = 0
    · rw [if_pos c6] at e
      refine gv_ifF (pc' := 27) rfl (gv_neF c6) rfl rfl ?_
      refine gv_ic (pc' := 28) (x := 1) rfl rfl rfl ?_
      refine gv_goto (pc' := 32) rfl rfl ?_
      cases e
      exact gv_retZ rfl rfl (by decide)
    rw [if_neg c6] at e
    refine gv_ifT (pc' := 31) rfl (gv_neT c6) rfl ?_
    refine gv_ic (pc' := 32) (x := 0) rfl rfl rfl ?_
    cases e
    exact gv_retZ rfl rfl (by decide)
  rw [if_neg c5] at e
  refine gv_cmT (pc' := 33) rfl (gv_neT2 c5) rfl ?_
  refine gv_rldn (pc' := 34) rfl rfl rfl ?_
  obtain ⟨v7, qv7, e⟩ := gv_bind e
  refine gv_fI (pc' := 37) rfl rfl qv7 rfl ?_
  refine gv_bp (pc' := 39) (x := 6) rfl rfl rfl ?_
  by_cases c8 : v7 = (6 : Int32)
  · rw [if_pos c8] at e
    refine gv_cmF (pc' := 42) rfl (gv_neF2 c8) rfl rfl ?_
    refine gv_ildn (pc' := 43) rfl rfl rfl ?_
    by_cases c9 : l1 = 0
    · rw [if_pos c9] at e
      refine gv_ifF (pc' := 46) rfl (gv_neF c9) rfl rfl ?_
      refine gv_ildn (pc' := 47) rfl rfl rfl ?_
      by_cases c10 : l2 = 0
      · rw [if_pos c10] at e
        refine gv_ifF (pc' := 50) rfl (gv_neF c10) rfl rfl ?_
        refine gv_ic (pc' := 51) (x := 1) rfl rfl rfl ?_
        refine gv_goto (pc' := 55) rfl rfl ?_
        cases e
        exact gv_retZ rfl rfl (by decide)
      rw [if_neg c10] at e
      refine gv_ifT (pc' := 54) rfl (gv_neT c10) rfl ?_
      refine gv_ic (pc' := 55) (x := 0) rfl rfl rfl ?_
      cases e
      exact gv_retZ rfl rfl (by decide)
    rw [if_neg c9] at e
    refine gv_ifT (pc' := 54) rfl (gv_neT c9) rfl ?_
    refine gv_ic (pc' := 55) (x := 0) rfl rfl rfl ?_
    cases e
    exact gv_retZ rfl rfl (by decide)
  rw [if_neg c8] at e
  refine gv_cmT (pc' := 56) rfl (gv_neT2 c8) rfl ?_
  refine gv_rldn (pc' := 57) rfl rfl rfl ?_
  obtain ⟨v11, qv11, e⟩ := gv_bind e
  refine gv_fI (pc' := 60) rfl rfl qv11 rfl ?_
  by_cases c12 : v11 = 0
  · rw [if_pos c12] at e
    refine gv_ifF (pc' := 63) rfl (gv_neF c12) rfl rfl ?_
    refine gv_ildn (pc' := 64) rfl rfl rfl ?_
    refine gv_rldn (pc' := 65) rfl rfl rfl ?_
    obtain ⟨v13, qv13, e⟩ := gv_bind e
    refine gv_fI (pc' := 68) rfl rfl qv13 rfl ?_
    by_cases c14 : l1 < v13
    · rw [if_pos c14] at e
      refine gv_cmF (pc' := 71) rfl (gv_geF2 c14) rfl rfl ?_
      refine gv_ildn (pc' := 72) rfl rfl rfl ?_
      refine gv_ic (pc' := 73) (x := 3) rfl rfl rfl ?_
      by_cases c15 : l2 < (3 : Int32)
      · rw [if_pos c15] at e
        refine gv_cmT (pc' := 84) rfl (gv_ltT2 c15) rfl ?_
        refine gv_ic (pc' := 85) (x := 1) rfl rfl rfl ?_
        refine gv_goto (pc' := 89) rfl rfl ?_
        cases e
        exact gv_retZ rfl rfl (by decide)
      rw [if_neg c15] at e
      refine gv_cmF (pc' := 76) rfl (gv_ltF2 c15) rfl rfl ?_
      refine gv_rldn (pc' := 77) rfl rfl rfl ?_
      obtain ⟨v16, qv16, e⟩ := gv_bind e
      refine gv_fI (pc' := 80) rfl rfl qv16 rfl ?_
      refine gv_ic (pc' := 81) (x := 2) rfl rfl rfl ?_
      by_cases c17 : v16 = (2 : Int32)
      · rw [if_pos c17] at e
        refine gv_cmF (pc' := 84) rfl (gv_neF2 c17) rfl rfl ?_
        refine gv_ic (pc' := 85) (x := 1) rfl rfl rfl ?_
        refine gv_goto (pc' := 89) rfl rfl ?_
        cases e
        exact gv_retZ rfl rfl (by decide)
      rw [if_neg c17] at e
      refine gv_cmT (pc' := 88) rfl (gv_neT2 c17) rfl ?_
      refine gv_ic (pc' := 89) (x := 0) rfl rfl rfl ?_
      cases e
      exact gv_retZ rfl rfl (by decide)
    rw [if_neg c14] at e
    refine gv_cmT (pc' := 88) rfl (gv_geT2 c14) rfl ?_
    refine gv_ic (pc' := 89) (x := 0) rfl rfl rfl ?_
    cases e
    exact gv_retZ rfl rfl (by decide)
  rw [if_neg c12] at e
  refine gv_ifT (pc' := 88) rfl (gv_neT c12) rfl ?_
  refine gv_ic (pc' := 89) (x := 0) rfl rfl rfl ?_
  cases e
  exact gv_retZ rfl rfl (by decide)
def cT_viewPart (l0 : Option Nat) (l1 : Int32) (h : gx_H) : Option Int64 :=
  if l1 = (0 : Int32) then (
    (gv_gI h l0 2 7).bind fun v2 =>
    some (Int32.toInt64 v2)) else
  if l1 = (1 : Int32) then (
    (gv_gI h l0 2 8).bind fun v4 =>
    some (Int32.toInt64 v4)) else
  if l1 = (2 : Int32) then (
    (gv_gI h l0 2 9).bind fun v6 =>
    some (Int32.toInt64 v6)) else
  (gv_gI h l0 2 5).bind fun v7 =>
  some (Int32.toInt64 v7)
theorem cT_viewPart_ok {xs : Option (List Int32)} {l0 : Option Nat} {l1 : Int32} {h : gx_H} {r : Int64} (e : cT_viewPart l0 l1 h = some r) : gv_V xs 0 65 0 [(0, gv_u l0), (1, .int l1)] [] h (.returned (some (.long r))) h := by
  unfold cT_viewPart at e
  refine gv_ildn (pc' := 1) rfl rfl rfl ?_
  by_cases c1 : l1 = (0 : Int32)
  · rw [if_pos c1] at e
    refine gv_sw (pc' := 28) (off := 27) rfl (by rw [c1]; rfl) rfl ?_
    refine gv_rldn (pc' := 29) rfl rfl rfl ?_
    obtain ⟨v2, qv2, e⟩ := gv_bind e
    refine gv_fI (pc' := 32) rfl rfl qv2 rfl ?_
    refine gv_i2l (pc' := 33) rfl rfl ?_
    cases e
    exact gv_retJ rfl rfl
  rw [if_neg c1] at e
  by_cases c3 : l1 = (1 : Int32)
  · rw [if_pos c3] at e
    refine gv_sw (pc' := 34) (off := 33) rfl (by rw [c3]; rfl) rfl ?_
    refine gv_rldn (pc' := 35) rfl rfl rfl ?_
    obtain ⟨v4, qv4, e⟩ := gv_bind e
    refine gv_fI (pc' := 38) rfl rfl qv4 rfl ?_
    refine gv_i2l (pc' := 39) rfl rfl ?_
    cases e
    exact gv_retJ rfl rfl
  rw [if_neg c3] at e
  by_cases c5 : l1 = (2 : Int32)
  · rw [if_pos c5] at e
    refine gv_sw (pc' := 40) (off := 39) rfl (by rw [c5]; rfl) rfl ?_
    refine gv_rldn (pc' := 41) rfl rfl rfl ?_
    obtain ⟨v6, qv6, e⟩ := gv_bind e
    refine gv_fI (pc' := 44) rfl rfl qv6 rfl ?_
    refine gv_i2l (pc' := 45) rfl rfl ?_
    cases e
    exact gv_retJ rfl rfl
  rw [if_neg c5] at e
  refine gv_sw (pc' := 46) (off := 45) rfl (gv_tabd (gv_N1 c1 (gv_N1 c3 (gv_N1 c5 gv_N0))) (by decide)) rfl ?_
  refine gv_rldn (pc' := 47) rfl rfl rfl ?_
  obtain ⟨v7, qv7, e⟩ := gv_bind e
  refine gv_fI (pc' := 50) rfl rfl qv7 rfl ?_
  refine gv_i2l (pc' := 51) rfl rfl ?_
  cases e
  exact gv_retJ rfl rfl
def cT_bytePart (l0 : Option Nat) (l1 : Int32) (l2 : Int32) (h : gx_H) : Option Int64 :=
  if l2 = 0 then (
    some (Int32.toInt64 l1)) else
  if l2 = (1 : Int32) then (
    some (4 : Int64)) else
  (gv_gJ h l0 2 10).bind fun v3 =>
  (cG_byteOf v3 l1).bind fun v4 =>
  some (Int32.toInt64 v4)
theorem cT_bytePart_ok {xs : Option (List Int32)} {l0 : Option Nat} {l1 : Int32} {l2 : Int32} {h : gx_H} {r : Int64} (e : cT_bytePart l0 l1 l2 h = some r) : gv_V xs 1 66 0 [(0, gv_u l0), (1, .int l1), (2, .int l2)] [] h (.returned (some (.long r))) h := by
  unfold cT_bytePart at e
  refine gv_ildn (pc' := 1) rfl rfl rfl ?_
  by_cases c1 : l2 = 0
  · rw [if_pos c1] at e
    refine gv_ifF (pc' := 4) rfl (gv_neF c1) rfl rfl ?_
    refine gv_ildn (pc' := 5) rfl rfl rfl ?_
    refine gv_i2l (pc' := 6) rfl rfl ?_
    cases e
    exact gv_retJ rfl rfl
  rw [if_neg c1] at e
  refine gv_ifT (pc' := 7) rfl (gv_neT c1) rfl ?_
  refine gv_ildn (pc' := 8) rfl rfl rfl ?_
  refine gv_ic (pc' := 9) (x := 1) rfl rfl rfl ?_
  by_cases c2 : l2 = (1 : Int32)
  · rw [if_pos c2] at e
    refine gv_cmF (pc' := 12) rfl (gv_neF2 c2) rfl rfl ?_
    refine gv_ld (pc' := 15) (x := 4) rfl rfl rfl ?_
    refine gv_goto (pc' := 27) rfl rfl ?_
    cases e
    exact gv_retJ rfl rfl
  rw [if_neg c2] at e
  refine gv_cmT (pc' := 18) rfl (gv_neT2 c2) rfl ?_
  refine gv_rldn (pc' := 19) rfl rfl rfl ?_
  obtain ⟨v3, qv3, e⟩ := gv_bind e
  refine gv_fJ (pc' := 22) rfl rfl qv3 rfl ?_
  refine gv_ildn (pc' := 23) rfl rfl rfl ?_
  obtain ⟨v4, qv4, e⟩ := gv_bind e
  refine gv_sS (jc := 18) (n := 2) (rest := []) (stk := [.int v4]) (pc' := 26) rfl rfl rfl rfl rfl rfl rfl rfl rfl (gv_zJ (gv_zI gv_z0)) rfl (gv_aJ (gv_aI gv_a0)) (Nat.le_of_ble_eq_true rfl) (cG_byteOf_ok qv4) rfl rfl ?_
  refine gv_i2l (pc' := 27) rfl rfl ?_
  cases e
  exact gv_retJ rfl rfl
def cT_valuePart (l0 : Option Nat) (l1 : Int32) (l2 : Int32) (h : gx_H) : Option Int64 :=
  if l2 = (0 : Int32) then (
    (gv_gI h l0 2 4).bind fun v2 =>
    if v2 = 0 then (
      (gv_gR h l0 2 1).bind fun v4 =>
      (gv_lI h v4 l1).bind fun v5 =>
      some (Int32.toInt64 v5)) else
    (gv_gI h l0 2 4).bind fun v6 =>
    if v6 = (2 : Int32) then (
      (gv_gR h l0 2 1).bind fun v8 =>
      (gv_lI h v8 l1).bind fun v9 =>
      some (Int32.toInt64 v9)) else
    some (Int32.toInt64 l1)) else
  if l2 = (1 : Int32) then (
    (gv_gR h l0 2 2).bind fun v11 =>
    (gv_lI h v11 l1).bind fun v12 =>
    some (Int32.toInt64 v12)) else
  if l2 = (2 : Int32) then (
    (gv_gR h l0 2 3).bind fun v14 =>
    (gv_lI h v14 l1).bind fun v15 =>
    some (Int32.toInt64 v15)) else
  (gv_gR h l0 2 0).bind fun v16 =>
  (gv_lI h v16 l1).bind fun v17 =>
  some (Int32.toInt64 v17)
theorem cT_valuePart_ok {xs : Option (List Int32)} {l0 : Option Nat} {l1 : Int32} {l2 : Int32} {h : gx_H} {r : Int64} (e : cT_valuePart l0 l1 l2 h = some r) : gv_V xs 0 67 0 [(0, gv_u l0), (1, .int l1), (2, .int l2)] [] h (.returned (some (.long r))) h := by
  unfold cT_valuePart at e
  refine gv_ildn (pc' := 1) rfl rfl rfl ?_
  by_cases c1 : l2 = (0 : Int32)
  · rw [if_pos c1] at e
    refine gv_sw (pc' := 28) (off := 27) rfl (by rw [c1]; rfl) rfl ?_
    refine gv_rldn (pc' := 29) rfl rfl rfl ?_
    obtain ⟨v2, qv2, e⟩ := gv_bind e
    refine gv_fI (pc' := 32) rfl rfl qv2 rfl ?_
    by_cases c3 : v2 = 0
    · rw [if_pos c3] at e
      refine gv_ifT (pc' := 43) rfl (gv_eqT c3) rfl ?_
      refine gv_rldn (pc' := 44) rfl rfl rfl ?_
      obtain ⟨v4, qv4, e⟩ := gv_bind e
      refine gv_fR (pc' := 47) rfl rfl qv4 rfl ?_
      refine gv_ildn (pc' := 48) rfl rfl rfl ?_
      obtain ⟨v5, qv5, e⟩ := gv_bind e
      refine gv_iald (pc' := 49) rfl qv5 rfl ?_
      refine gv_i2l (pc' := 50) rfl rfl ?_
      refine gv_goto (pc' := 55) rfl rfl ?_
      cases e
      exact gv_retJ rfl rfl
    rw [if_neg c3] at e
    refine gv_ifF (pc' := 35) rfl (gv_eqF c3) rfl rfl ?_
    refine gv_rldn (pc' := 36) rfl rfl rfl ?_
    obtain ⟨v6, qv6, e⟩ := gv_bind e
    refine gv_fI (pc' := 39) rfl rfl qv6 rfl ?_
    refine gv_ic (pc' := 40) (x := 2) rfl rfl rfl ?_
    by_cases c7 : v6 = (2 : Int32)
    · rw [if_pos c7] at e
      refine gv_cmF (pc' := 43) rfl (gv_neF2 c7) rfl rfl ?_
      refine gv_rldn (pc' := 44) rfl rfl rfl ?_
      obtain ⟨v8, qv8, e⟩ := gv_bind e
      refine gv_fR (pc' := 47) rfl rfl qv8 rfl ?_
      refine gv_ildn (pc' := 48) rfl rfl rfl ?_
      obtain ⟨v9, qv9, e⟩ := gv_bind e
      refine gv_iald (pc' := 49) rfl qv9 rfl ?_
      refine gv_i2l (pc' := 50) rfl rfl ?_
      refine gv_goto (pc' := 55) rfl rfl ?_
      cases e
      exact gv_retJ rfl rfl
    rw [if_neg c7] at e
    refine gv_cmT (pc' := 53) rfl (gv_neT2 c7) rfl ?_
    refine gv_ildn (pc' := 54) rfl rfl rfl ?_
    refine gv_i2l (pc' := 55) rfl rfl ?_
    cases e
    exact gv_retJ rfl rfl
  rw [if_neg c1] at e
  by_cases c10 : l2 = (1 : Int32)
  · rw [if_pos c10] at e
    refine gv_sw (pc' := 56) (off := 55) rfl (by rw [c10]; rfl) rfl ?_
    refine gv_rldn (pc' := 57) rfl rfl rfl ?_
    obtain ⟨v11, qv11, e⟩ := gv_bind e
    refine gv_fR (pc' := 60) rfl rfl qv11 rfl ?_
    refine gv_ildn (pc' := 61) rfl rfl rfl ?_
    obtain ⟨v12, qv12, e⟩ := gv_bind e
    refine gv_iald (pc' := 62) rfl qv12 rfl ?_
    refine gv_i2l (pc' := 63) rfl rfl ?_
    cases e
    exact gv_retJ rfl rfl
  rw [if_neg c10] at e
  by_cases c13 : l2 = (2 : Int32)
  · rw [if_pos c13] at e
    refine gv_sw (pc' := 64) (off := 63) rfl (by rw [c13]; rfl) rfl ?_
    refine gv_rldn (pc' := 65) rfl rfl rfl ?_
    obtain ⟨v14, qv14, e⟩ := gv_bind e
    refine gv_fR (pc' := 68) rfl rfl qv14 rfl ?_
    refine gv_ildn (pc' := 69) rfl rfl rfl ?_
    obtain ⟨v15, qv15, e⟩ := gv_bind e
    refine gv_iald (pc' := 70) rfl qv15 rfl ?_
    refine gv_i2l (pc' := 71) rfl rfl ?_
    cases e
    exact gv_retJ rfl rfl
  rw [if_neg c13] at e
  refine gv_sw (pc' := 72) (off := 71) rfl (gv_tabd (gv_N1 c1 (gv_N1 c10 (gv_N1 c13 gv_N0))) (by decide)) rfl ?_
  refine gv_rldn (pc' := 73) rfl rfl rfl ?_
  obtain ⟨v16, qv16, e⟩ := gv_bind e
  refine gv_fR (pc' := 76) rfl rfl qv16 rfl ?_
  refine gv_ildn (pc' := 77) rfl rfl rfl ?_
  obtain ⟨v17, qv17, e⟩ := gv_bind e
  refine gv_iald (pc' := 78) rfl qv17 rfl ?_
  refine gv_i2l (pc' := 79) rfl rfl ?_
  cases e
  exact gv_retJ rfl rfl
def cT_part (l0 : Option Nat) (l1 : Int32) (l2 : Int32) (h : gx_H) : Option Int64 :=
  (gv_gI h l0 2 4).bind fun v1 =>
  if v1 = (4 : Int32) then (
    (gv_is h l0 2).bind fun i3 =>
    (cT_bytePart l0 l1 l2 h).bind fun v4 =>
    some v4) else
  if v1 = (5 : Int32) then (
    (gv_is h l0 2).bind fun i6 =>
    (cT_viewPart l0 l2 h).bind fun v7 =>
    some v7) else
  if v1 = (6 : Int32) then (
    (gv_gJ h l0 2 10).bind fun v9 =>
    some v9) else
  (gv_is h l0 2).bind fun i10 =>
  (cT_valuePart l0 l1 l2 h).bind fun v11 =>
  some v11
theorem cT_part_ok {xs : Option (List Int32)} {l0 : Option Nat} {l1 : Int32} {l2 : Int32} {h : gx_H} {r : Int64} (e : cT_part l0 l1 l2 h = some r) : gv_V xs 2 64 0 [(0, gv_u l0), (1, .int l1), (2, .int l2)] [] h (.returned (some (.long r))) h := by
  unfold cT_part at e
  refine gv_rldn (pc' := 1) rfl rfl rfl ?_
  obtain ⟨v1, qv1, e⟩ := gv_bind e
  refine gv_fI (pc' := 4) rfl rfl qv1 rfl ?_
  by_cases c2 : v1 = (4 : Int32)
  · rw [if_pos c2] at e
    refine gv_sw (pc' := 43) (off := 39) rfl (by rw [c2]; rfl) rfl ?_
    refine gv_rldn (pc' := 44) rfl rfl rfl ?_
    refine gv_ildn (pc' := 45) rfl rfl rfl ?_
    refine gv_ildn (pc' := 46) rfl rfl rfl ?_
    obtain ⟨i3, qi3, e⟩ := gv_bind e
    obtain ⟨v4, qv4, e⟩ := gv_bind e
    refine gv_vS (jc := 66) (n := 2) (rest := []) (stk := [.long v4]) (pc' := 49) rfl rfl rfl rfl rfl rfl rfl rfl rfl (gv_zR (gv_zI (gv_zI gv_z0))) rfl (gv_aR (gv_aI (gv_aI gv_a0))) (Nat.le_of_ble_eq_true rfl) qi3 (cT_bytePart_ok qv4) rfl rfl ?_
    cases e
    exact gv_retJ rfl rfl
  rw [if_neg c2] at e
  by_cases c5 : v1 = (5 : Int32)
  · rw [if_pos c5] at e
    refine gv_sw (pc' := 32) (off := 28) rfl (by rw [c5]; rfl) rfl ?_
    refine gv_rldn (pc' := 33) rfl rfl rfl ?_
    refine gv_ildn (pc' := 34) rfl rfl rfl ?_
    obtain ⟨i6, qi6, e⟩ := gv_bind e
    obtain ⟨v7, qv7, e⟩ := gv_bind e
    refine gv_vS (jc := 65) (n := 1) (rest := []) (stk := [.long v7]) (pc' := 37) rfl rfl rfl rfl rfl rfl rfl rfl rfl (gv_zR (gv_zI gv_z0)) rfl (gv_aR (gv_aI gv_a0)) (Nat.le_of_ble_eq_true rfl) qi6 (cT_viewPart_ok qv7) rfl rfl ?_
    cases e
    exact gv_retJ rfl rfl
  rw [if_neg c5] at e
  by_cases c8 : v1 = (6 : Int32)
  · rw [if_pos c8] at e
    refine gv_sw (pc' := 38) (off := 34) rfl (by rw [c8]; rfl) rfl ?_
    refine gv_rldn (pc' := 39) rfl rfl rfl ?_
    obtain ⟨v9, qv9, e⟩ := gv_bind e
    refine gv_fJ (pc' := 42) rfl rfl qv9 rfl ?_
    cases e
    exact gv_retJ rfl rfl
  rw [if_neg c8] at e
  refine gv_sw (pc' := 50) (off := 46) rfl (gv_tabd (gv_N1 c2 (gv_N1 c5 (gv_N1 c8 gv_N0))) (by decide)) rfl ?_
  refine gv_rldn (pc' := 51) rfl rfl rfl ?_
  refine gv_ildn (pc' := 52) rfl rfl rfl ?_
  refine gv_ildn (pc' := 53) rfl rfl rfl ?_
  obtain ⟨i10, qi10, e⟩ := gv_bind e
  obtain ⟨v11, qv11, e⟩ := gv_bind e
  refine gv_vS (jc := 67) (n := 2) (rest := []) (stk := [.long v11]) (pc' := 56) rfl rfl rfl rfl rfl rfl rfl rfl rfl (gv_zR (gv_zI (gv_zI gv_z0))) rfl (gv_aR (gv_aI (gv_aI gv_a0))) (Nat.le_of_ble_eq_true rfl) qi10 (cT_valuePart_ok qv11) rfl rfl ?_
  cases e
  exact gv_retJ rfl rfl
def cH_appendPassed (l0 : Option Nat) (l1 : Int32) (h : gx_H) : Option (Int32 × gx_H) :=
  (gv_gI h l0 4 1).bind fun v1 =>
  if v1 < (4 : Int32) then (
    (gv_gR h l0 4 0).bind fun v3 =>
    (gv_gI h l0 4 1).bind fun v4 =>
    (gv_wI h v3 v4 l1).bind fun h5 =>
    (gv_gI h5 l0 4 1).bind fun v6 =>
    (gv_pV h5 l0 4 1 (.int (v6 + (1 : Int32)))).bind fun h7 =>
    some ((1 : Int32), h7)) else
  some ((0 : Int32), h)
theorem cH_appendPassed_ok {xs : Option (List Int32)} {l0 : Option Nat} {l1 : Int32} {h : gx_H} {r : (Int32 × gx_H)} (e : cH_appendPassed l0 l1 h = some r) : gv_V xs 0 70 0 [(0, gv_u l0), (1, .int l1)] [] h (.returned (some (.int r.1))) r.2 := by
  unfold cH_appendPassed at e
  refine gv_rldn (pc' := 1) rfl rfl rfl ?_
  obtain ⟨v1, qv1, e⟩ := gv_bind e
  refine gv_fI (pc' := 4) rfl rfl qv1 rfl ?_
  refine gv_ic (pc' := 5) (x := 4) rfl rfl rfl ?_
  by_cases c2 : v1 < (4 : Int32)
  · rw [if_pos c2] at e
    refine gv_cmT (pc' := 10) rfl (gv_ltT2 c2) rfl ?_
    refine gv_rldn (pc' := 11) rfl rfl rfl ?_
    obtain ⟨v3, qv3, e⟩ := gv_bind e
    refine gv_fR (pc' := 14) rfl rfl qv3 rfl ?_
    refine gv_rldn (pc' := 15) rfl rfl rfl ?_
    obtain ⟨v4, qv4, e⟩ := gv_bind e
    refine gv_fI (pc' := 18) rfl rfl qv4 rfl ?_
    refine gv_ildn (pc' := 19) rfl rfl rfl ?_
    obtain ⟨h5, qh5, e⟩ := gv_bind e
    refine gv_iast (pc' := 20) rfl qh5 rfl ?_
    refine gv_rldn (pc' := 21) rfl rfl rfl ?_
    refine gv_dup (pc' := 22) rfl (gv_u_cat _) rfl ?_
    obtain ⟨v6, qv6, e⟩ := gv_bind e
    refine gv_fI (pc' := 25) rfl rfl qv6 rfl ?_
    refine gv_ic (pc' := 26) (x := 1) rfl rfl rfl ?_
    refine gv_iadd (pc' := 27) rfl rfl ?_
    obtain ⟨h7, qh7, e⟩ := gv_bind e
    refine gv_pI (pc' := 30) rfl rfl rfl qh7 rfl ?_
    refine gv_ic (pc' := 31) (x := 1) rfl rfl rfl ?_
    cases e
    exact gv_retZ rfl rfl (by decide)
  rw [if_neg c2] at e
  refine gv_cmF (pc' := 8) rfl (gv_ltF2 c2) rfl rfl ?_
  refine gv_ic (pc' := 9) (x := 0) rfl rfl rfl ?_
  cases e
  exact gv_retZ rfl rfl (by decide)
def cH_areFreeBuffers_2 : Nat → Option Nat → Option Nat → Int32 → gx_H → Option Int32
  | 0, _, _, _, _ => none
  | n + 1, l0, l1, l2, h =>
    (gv_gI h l0 4 1).bind fun v1 =>
    if l2 < v1 then (
      (gv_gR h l0 4 0).bind fun v3 =>
      (gv_lI h v3 l2).bind fun v4 =>
      (gv_is h l1 1).bind fun i5 =>
      (cS_isFreeBuffer l1 v4 h).bind fun v6 =>
      if v6 = 0 then (
        some (0 : Int32)) else
      cH_areFreeBuffers_2 n l0 l1 (l2 + 1) h) else
    some (1 : Int32)
theorem cH_areFreeBuffers_2_ok {xs : Option (List Int32)} : ∀ (n : Nat) (l0 : Option Nat) (l1 : Option Nat) (l2 : Int32) (h : gx_H) (r : Int32), cH_areFreeBuffers_2 n l0 l1 l2 h = some r → gv_V xs 2 74 2 [(0, gv_u l0), (1, gv_u l1), (2, .int l2)] [] h (.returned (some (.int r))) h := by
  intro n
  induction n with
  | zero => intro l0 l1 l2 h r e; cases e
  | succ n ih =>
    intro l0 l1 l2 h r e
    rw [cH_areFreeBuffers_2] at e
    refine gv_ildn (pc' := 3) rfl rfl rfl ?_
    refine gv_rldn (pc' := 4) rfl rfl rfl ?_
    obtain ⟨v1, qv1, e⟩ := gv_bind e
    refine gv_fI (pc' := 7) rfl rfl qv1 rfl ?_
    by_cases c2 : l2 < v1
    · rw [if_pos c2] at e
      refine gv_cmF (pc' := 10) rfl (gv_geF2 c2) rfl rfl ?_
      refine gv_rldn (pc' := 11) rfl rfl rfl ?_
      refine gv_rldn (pc' := 12) rfl rfl rfl ?_
      obtain ⟨v3, qv3, e⟩ := gv_bind e
      refine gv_fR (pc' := 15) rfl rfl qv3 rfl ?_
      refine gv_ildn (pc' := 16) rfl rfl rfl ?_
      obtain ⟨v4, qv4, e⟩ := gv_bind e
      refine gv_iald (pc' := 17) rfl qv4 rfl ?_
      obtain ⟨i5, qi5, e⟩ := gv_bind e
      obtain ⟨v6, qv6, e⟩ := gv_bind e
      refine gv_vS (jc := 9) (n := 1) (rest := []) (stk := [.int v6]) (pc' := 20) rfl rfl rfl rfl rfl rfl rfl rfl rfl (gv_zR (gv_zI gv_z0)) rfl (gv_aR (gv_aI gv_a0)) (Nat.le_of_ble_eq_true rfl) qi5 (cS_isFreeBuffer_ok qv6) rfl rfl ?_
      by_cases c7 : v6 = 0
      · rw [if_pos c7] at e
        refine gv_ifF (pc' := 23) rfl (gv_neF c7) rfl rfl ?_
        refine gv_ic (pc' := 24) (x := 0) rfl rfl rfl ?_
        cases e
        exact gv_retZ rfl rfl (by decide)
      rw [if_neg c7] at e
      refine gv_ifT (pc' := 25) rfl (gv_neT c7) rfl ?_
      refine gv_inc (pc' := 28) (y := 1) rfl rfl rfl rfl (gv_Cr rfl) rfl ?_
      refine gv_goto (pc' := 2) rfl rfl ?_
      exact gv_weak (ih _ _ _ _ _ e) (gv_S1 rfl (gv_S1 rfl (gv_S1 rfl gv_S0)))
    rw [if_neg c2] at e
    refine gv_cmT (pc' := 31) rfl (gv_geT2 c2) rfl ?_
    refine gv_ic (pc' := 32) (x := 1) rfl rfl rfl ?_
    cases e
    exact gv_retZ rfl rfl (by decide)
def cH_areFreeBuffers (l0 : Option Nat) (l1 : Option Nat) (h : gx_H) : Option Int32 :=
  cH_areFreeBuffers_2 1000000000000000 l0 l1 (0 : Int32) h
theorem cH_areFreeBuffers_ok {xs : Option (List Int32)} {l0 : Option Nat} {l1 : Option Nat} {h : gx_H} {r : Int32} (e : cH_areFreeBuffers l0 l1 h = some r) : gv_V xs 2 74 0 [(0, gv_u l0), (1, gv_u l1)] [] h (.returned (some (.int r))) h := by
  unfold cH_areFreeBuffers at e
  refine gv_ic (pc' := 1) (x := 0) rfl rfl rfl ?_
  refine gv_istn (pc' := 2) rfl rfl (gv_Cr rfl) rfl ?_
  exact gv_weak (cH_areFreeBuffers_2_ok 1000000000000000 _ _ _ _ _ e) (gv_S1 rfl (gv_S1 rfl (gv_S1 rfl gv_S0)))
def cH_placeOf_2 : Nat → Option Nat → Int32 → Int32 → gx_H → Option Int32
  | 0, _, _, _, _ => none
  | n + 1, l0, l1, l2, h =>
    (gv_gI h l0 4 1).bind fun v1 =>
    if l2 < v1 then (
      (gv_gR h l0 4 0).bind fun v3 =>
      (gv_lI h v3 l2).bind fun v4 =>
      if v4 = l1 then (
        some l2) else
      cH_placeOf_2 n l0 l1 (l2 + 1) h) else
    some (-1 : Int32)
theorem cH_placeOf_2_ok {xs : Option (List Int32)} : ∀ (n : Nat) (l0 : Option Nat) (l1 : Int32) (l2 : Int32) (h : gx_H) (r : Int32), cH_placeOf_2 n l0 l1 l2 h = some r → gv_V xs 0 76 2 [(0, gv_u l0), (1, .int l1), (2, .int l2)] [] h (.returned (some (.int r))) h := by
  intro n
  induction n with
  | zero => intro l0 l1 l2 h r e; cases e
  | succ n ih =>
    intro l0 l1 l2 h r e
    rw [cH_placeOf_2] at e
    refine gv_ildn (pc' := 3) rfl rfl rfl ?_
    refine gv_rldn (pc' := 4) rfl rfl rfl ?_
    obtain ⟨v1, qv1, e⟩ := gv_bind e
    refine gv_fI (pc' := 7) rfl rfl qv1 rfl ?_
    by_cases c2 : l2 < v1
    · rw [if_pos c2] at e
      refine gv_cmF (pc' := 10) rfl (gv_geF2 c2) rfl rfl ?_
      refine gv_rldn (pc' := 11) rfl rfl rfl ?_
      obtain ⟨v3, qv3, e⟩ := gv_bind e
      refine gv_fR (pc' := 14) rfl rfl qv3 rfl ?_
      refine gv_ildn (pc' := 15) rfl rfl rfl ?_
      obtain ⟨v4, qv4, e⟩ := gv_bind e
      refine gv_iald (pc' := 16) rfl qv4 rfl ?_
      refine gv_ildn (pc' := 17) rfl rfl rfl ?_
      by_cases c5 : v4 = l1
      · rw [if_pos c5] at e
        refine gv_cmF (pc' := 20) rfl (gv_neF2 c5) rfl rfl ?_
        refine gv_ildn (pc' := 21) rfl rfl rfl ?_
        cases e
        exact gv_retI rfl rfl
      rw [if_neg c5] at e
      refine gv_cmT (pc' := 22) rfl (gv_neT2 c5) rfl ?_
      refine gv_inc (pc' := 25) (y := 1) rfl rfl rfl rfl (gv_Ci rfl) rfl ?_
      refine gv_goto (pc' := 2) rfl rfl ?_
      exact gv_weak (ih _ _ _ _ _ e) (gv_S1 rfl (gv_S1 rfl (gv_S1 rfl gv_S0)))
    rw [if_neg c2] at e
    refine gv_cmT (pc' := 28) rfl (gv_geT2 c2) rfl ?_
    refine gv_ic (pc' := 29) (x := -1) rfl rfl rfl ?_
    cases e
    exact gv_retI rfl rfl
def cH_placeOf (l0 : Option Nat) (l1 : Int32) (h : gx_H) : Option Int32 :=
  cH_placeOf_2 1000000000000000 l0 l1 (0 : Int32) h
theorem cH_placeOf_ok {xs : Option (List Int32)} {l0 : Option Nat} {l1 : Int32} {h : gx_H} {r : Int32} (e : cH_placeOf l0 l1 h = some r) : gv_V xs 0 76 0 [(0, gv_u l0), (1, .int l1)] [] h (.returned (some (.int r))) h := by
  unfold cH_placeOf at e
  refine gv_ic (pc' := 1) (x := 0) rfl rfl rfl ?_
  refine gv_istn (pc' := 2) rfl rfl (gv_Ci rfl) rfl ?_
  exact gv_weak (cH_placeOf_2_ok 1000000000000000 _ _ _ _ _ e) (gv_S1 rfl (gv_S1 rfl (gv_S1 rfl gv_S0)))
def cH_noneTwice_2 : Nat → Option Nat → Int32 → gx_H → Option Int32
  | 0, _, _, _ => none
  | n + 1, l0, l1, h =>
    (gv_gI h l0 4 1).bind fun v1 =>
    if l1 < v1 then (
      (gv_gR h l0 4 0).bind fun v3 =>
      (gv_lI h v3 l1).bind fun v4 =>
      (gv_is h l0 4).bind fun i5 =>
      (cH_placeOf l0 v4 h).bind fun v6 =>
      if v6 = l1 then (
        cH_noneTwice_2 n l0 (l1 + 1) h) else
      some (0 : Int32)) else
    some (1 : Int32)
theorem cH_noneTwice_2_ok {xs : Option (List Int32)} : ∀ (n : Nat) (l0 : Option Nat) (l1 : Int32) (h : gx_H) (r : Int32), cH_noneTwice_2 n l0 l1 h = some r → gv_V xs 1 75 2 [(0, gv_u l0), (1, .int l1)] [] h (.returned (some (.int r))) h := by
  intro n
  induction n with
  | zero => intro l0 l1 h r e; cases e
  | succ n ih =>
    intro l0 l1 h r e
    rw [cH_noneTwice_2] at e
    refine gv_ildn (pc' := 3) rfl rfl rfl ?_
    refine gv_rldn (pc' := 4) rfl rfl rfl ?_
    obtain ⟨v1, qv1, e⟩ := gv_bind e
    refine gv_fI (pc' := 7) rfl rfl qv1 rfl ?_
    by_cases c2 : l1 < v1
    · rw [if_pos c2] at e
      refine gv_cmF (pc' := 10) rfl (gv_geF2 c2) rfl rfl ?_
      refine gv_rldn (pc' := 11) rfl rfl rfl ?_
      refine gv_rldn (pc' := 12) rfl rfl rfl ?_
      obtain ⟨v3, qv3, e⟩ := gv_bind e
      refine gv_fR (pc' := 15) rfl rfl qv3 rfl ?_
      refine gv_ildn (pc' := 16) rfl rfl rfl ?_
      obtain ⟨v4, qv4, e⟩ := gv_bind e
      refine gv_iald (pc' := 17) rfl qv4 rfl ?_
      obtain ⟨i5, qi5, e⟩ := gv_bind e
      obtain ⟨v6, qv6, e⟩ := gv_bind e
      refine gv_vS (jc := 76) (n := 1) (rest := []) (stk := [.int v6]) (pc' := 20) rfl rfl rfl rfl rfl rfl rfl rfl rfl (gv_zR (gv_zI gv_z0)) rfl (gv_aR (gv_aI gv_a0)) (Nat.le_of_ble_eq_true rfl) qi5 (cH_placeOf_ok qv6) rfl rfl ?_
      refine gv_ildn (pc' := 21) rfl rfl rfl ?_
      by_cases c7 : v6 = l1
      · rw [if_pos c7] at e
        refine gv_cmT (pc' := 26) rfl (gv_eqT2 c7) rfl ?_
        refine gv_inc (pc' := 29) (y := 1) rfl rfl rfl rfl (gv_Cr rfl) rfl ?_
        refine gv_goto (pc' := 2) rfl rfl ?_
        exact gv_weak (ih _ _ _ _ e) (gv_S1 rfl (gv_S1 rfl gv_S0))
      rw [if_neg c7] at e
      refine gv_cmF (pc' := 24) rfl (gv_eqF2 c7) rfl rfl ?_
      refine gv_ic (pc' := 25) (x := 0) rfl rfl rfl ?_
      cases e
      exact gv_retZ rfl rfl (by decide)
    rw [if_neg c2] at e
    refine gv_cmT (pc' := 32) rfl (gv_geT2 c2) rfl ?_
    refine gv_ic (pc' := 33) (x := 1) rfl rfl rfl ?_
    cases e
    exact gv_retZ rfl rfl (by decide)
def cH_noneTwice (l0 : Option Nat) (h : gx_H) : Option Int32 :=
  cH_noneTwice_2 1000000000000000 l0 (0 : Int32) h
theorem cH_noneTwice_ok {xs : Option (List Int32)} {l0 : Option Nat} {h : gx_H} {r : Int32} (e : cH_noneTwice l0 h = some r) : gv_V xs 1 75 0 [(0, gv_u l0)] [] h (.returned (some (.int r))) h := by
  unfold cH_noneTwice at e
  refine gv_ic (pc' := 1) (x := 0) rfl rfl rfl ?_
  refine gv_istn (pc' := 2) rfl rfl (gv_Cr rfl) rfl ?_
  exact gv_weak (cH_noneTwice_2_ok 1000000000000000 _ _ _ _ e) (gv_S1 rfl (gv_S1 rfl gv_S0))
def jM_floorDiv (l0 : Int32) (l1 : Int32) : Option Int32 :=
  if l1 = 0 then none else
  if (l0 ^^^ l1) < 0 then (
    if ((l0 / l1) * l1) = l0 then (
      some (l0 / l1)) else
    some ((l0 / l1) - (1 : Int32))) else
  some (l0 / l1)
theorem jM_floorDiv_ok {xs : Option (List Int32)} {l0 : Int32} {l1 : Int32} {h : gx_H} {r : Int32} (e : jM_floorDiv l0 l1 = some r) : gv_V xs 0 87 0 [(0, .int l0), (1, .int l1)] [] h (.returned (some (.int r))) h := by
  unfold jM_floorDiv at e
  refine gv_ildn (pc' := 1) rfl rfl rfl ?_
  refine gv_ildn (pc' := 2) rfl rfl rfl ?_
  by_cases c1 : l1 = 0
  · rw [if_pos c1] at e; cases e
  rw [if_neg c1] at e
  refine gv_idiv (pc' := 3) rfl c1 rfl ?_
  refine gv_istn (pc' := 4) rfl rfl (gv_Ci rfl) rfl ?_
  refine gv_ildn (pc' := 5) rfl rfl rfl ?_
  refine gv_ildn (pc' := 6) rfl rfl rfl ?_
  refine gv_ixor (pc' := 7) rfl rfl ?_
  by_cases c2 : (l0 ^^^ l1) < 0
  · rw [if_pos c2] at e
    refine gv_ifF (pc' := 10) rfl (gv_geF c2) rfl rfl ?_
    refine gv_ildn (pc' := 11) rfl rfl rfl ?_
    refine gv_ildn (pc' := 12) rfl rfl rfl ?_
    refine gv_imul (pc' := 13) rfl rfl ?_
    refine gv_ildn (pc' := 14) rfl rfl rfl ?_
    by_cases c3 : ((l0 / l1) * l1) = l0
    · rw [if_pos c3] at e
      refine gv_cmT (pc' := 21) rfl (gv_eqT2 c3) rfl ?_
      refine gv_ildn (pc' := 22) rfl rfl rfl ?_
      cases e
      exact gv_retI rfl rfl
    rw [if_neg c3] at e
    refine gv_cmF (pc' := 17) rfl (gv_eqF2 c3) rfl rfl ?_
    refine gv_ildn (pc' := 18) rfl rfl rfl ?_
    refine gv_ic (pc' := 19) (x := 1) rfl rfl rfl ?_
    refine gv_isub (pc' := 20) rfl rfl ?_
    cases e
    exact gv_retI rfl rfl
  rw [if_neg c2] at e
  refine gv_ifT (pc' := 21) rfl (gv_geT c2) rfl ?_
  refine gv_ildn (pc' := 22) rfl rfl rfl ?_
  cases e
  exact gv_retI rfl rfl
def jM_floorMod (l0 : Int32) (l1 : Int32) : Option Int32 :=
  if l1 = 0 then none else
  if (l0 ^^^ l1) < 0 then (
    if (l0 - l0 / l1 * l1) = 0 then (
      some (l0 - l0 / l1 * l1)) else
    some ((l0 - l0 / l1 * l1) + l1)) else
  some (l0 - l0 / l1 * l1)
theorem jM_floorMod_ok {xs : Option (List Int32)} {l0 : Int32} {l1 : Int32} {h : gx_H} {r : Int32} (e : jM_floorMod l0 l1 = some r) : gv_V xs 0 88 0 [(0, .int l0), (1, .int l1)] [] h (.returned (some (.int r))) h := by
  unfold jM_floorMod at e
  refine gv_ildn (pc' := 1) rfl rfl rfl ?_
  refine gv_ildn (pc' := 2) rfl rfl rfl ?_
  by_cases c1 : l1 = 0
  · rw [if_pos c1] at e; cases e
  rw [if_neg c1] at e
  refine gv_irem (pc' := 3) rfl c1 rfl ?_
  refine gv_istn (pc' := 4) rfl rfl (gv_Ci rfl) rfl ?_
  refine gv_ildn (pc' := 5) rfl rfl rfl ?_
  refine gv_ildn (pc' := 6) rfl rfl rfl ?_
  refine gv_ixor (pc' := 7) rfl rfl ?_
  by_cases c2 : (l0 ^^^ l1) < 0
  · rw [if_pos c2] at e
    refine gv_ifF (pc' := 10) rfl (gv_geF c2) rfl rfl ?_
    refine gv_ildn (pc' := 11) rfl rfl rfl ?_
    by_cases c3 : (l0 - l0 / l1 * l1) = 0
    · rw [if_pos c3] at e
      refine gv_ifT (pc' := 18) rfl (gv_eqT c3) rfl ?_
      refine gv_ildn (pc' := 19) rfl rfl rfl ?_
      cases e
      exact gv_retI rfl rfl
    rw [if_neg c3] at e
    refine gv_ifF (pc' := 14) rfl (gv_eqF c3) rfl rfl ?_
    refine gv_ildn (pc' := 15) rfl rfl rfl ?_
    refine gv_ildn (pc' := 16) rfl rfl rfl ?_
    refine gv_iadd (pc' := 17) rfl rfl ?_
    cases e
    exact gv_retI rfl rfl
  rw [if_neg c2] at e
  refine gv_ifT (pc' := 18) rfl (gv_geT c2) rfl ?_
  refine gv_ildn (pc' := 19) rfl rfl rfl ?_
  cases e
  exact gv_retI rfl rfl
def cH_handOver_50 (rec2 : Option Nat → Option Nat → Int32 → gx_H → Option gx_H) (l0 : Option Nat) (l1 : Option Nat) (l2 : Int32) (h : gx_H) : Option gx_H :=
  rec2 l0 l1 (l2 + 1) h
theorem cH_handOver_50_ok {xs : Option (List Int32)} {rec2 : Option Nat → Option Nat → Int32 → gx_H → Option gx_H} (hrec2 : ∀ (l0 : Option Nat) (l1 : Option Nat) (l2 : Int32) (h : gx_H) (r : gx_H), rec2 l0 l1 l2 h = some r → gv_V xs 1 95 2 [(0, gv_u l0), (1, gv_u l1), (2, .int l2)] [] h (.returned none) r) {l0 : Option Nat} {l1 : Option Nat} {l2 : Int32} {h : gx_H} {r : gx_H} (e : cH_handOver_50 rec2 l0 l1 l2 h = some r) : gv_V xs 1 95 50 [(0, gv_u l0), (1, gv_u l1), (2, .int l2)] [] h (.returned none) r := by
  unfold cH_handOver_50 at e
  refine gv_inc (pc' := 53) (y := 1) rfl rfl rfl rfl (gv_Cr rfl) rfl ?_
  refine gv_goto (pc' := 2) rfl rfl ?_
  exact gv_weak (hrec2 _ _ _ _ _ e) (gv_S1 rfl (gv_S1 rfl (gv_S1 rfl gv_S0)))
def cH_handOver_2 : Nat → Option Nat → Option Nat → Int32 → gx_H → Option gx_H
  | 0, _, _, _, _ => none
  | n + 1, l0, l1, l2, h =>
    (gv_gI h l0 4 1).bind fun v1 =>
    if l2 < v1 then (
      (gv_gR h l0 4 0).bind fun v3 =>
      (gv_lI h v3 l2).bind fun v4 =>
      (gv_is h l1 1).bind fun i5 =>
      (cS_thingAt l1 v4 h).bind fun v6 =>
      if v6 = none then (
        cH_handOver_50 (cH_handOver_2 n) l0 l1 l2 h) else
      (gv_gR h l0 4 2).bind fun v8 =>
      (gv_gJ h v6 2 10).bind fun v9 =>
      (gv_wJ h v8 l2 v9).bind fun h10 =>
      (gv_gR h10 l0 4 3).bind fun v11 =>
      (gv_gI h10 v6 2 5).bind fun v12 =>
      (gv_wI h10 v11 l2 v12).bind fun h13 =>
      (gv_pV h13 v6 2 6 (.int (1 : Int32))).bind fun h14 =>
      cH_handOver_50 (cH_handOver_2 n) l0 l1 l2 h14) else
    (gv_gI h l0 4 1).bind fun v15 =>
    (gv_pV h l0 4 4 (.int v15)).bind fun h16 =>
    some h16
theorem cH_handOver_2_ok {xs : Option (List Int32)} : ∀ (n : Nat) (l0 : Option Nat) (l1 : Option Nat) (l2 : Int32) (h : gx_H) (r : gx_H), cH_handOver_2 n l0 l1 l2 h = some r → gv_V xs 1 95 2 [(0, gv_u l0), (1, gv_u l1), (2, .int l2)] [] h (.returned none) r := by
  intro n
  induction n with
  | zero => intro l0 l1 l2 h r e; cases e
  | succ n ih =>
    intro l0 l1 l2 h r e
    rw [cH_handOver_2] at e
    refine gv_ildn (pc' := 3) rfl rfl rfl ?_
    refine gv_rldn (pc' := 4) rfl rfl rfl ?_
    obtain ⟨v1, qv1, e⟩ := gv_bind e
    refine gv_fI (pc' := 7) rfl rfl qv1 rfl ?_
    by_cases c2 : l2 < v1
    · rw [if_pos c2] at e
      refine gv_cmF (pc' := 10) rfl (gv_geF2 c2) rfl rfl ?_
      refine gv_rldn (pc' := 11) rfl rfl rfl ?_
      refine gv_rldn (pc' := 12) rfl rfl rfl ?_
      obtain ⟨v3, qv3, e⟩ := gv_bind e
      refine gv_fR (pc' := 15) rfl rfl qv3 rfl ?_
      refine gv_ildn (pc' := 16) rfl rfl rfl ?_
      obtain ⟨v4, qv4, e⟩ := gv_bind e
      refine gv_iald (pc' := 17) rfl qv4 rfl ?_
      obtain ⟨i5, qi5, e⟩ := gv_bind e
      obtain ⟨v6, qv6, e⟩ := gv_bind e
      refine gv_vS (jc := 10) (n := 1) (rest := []) (stk := [gv_u v6]) (pc' := 20) rfl rfl rfl rfl rfl rfl rfl rfl rfl (gv_zR (gv_zI gv_z0)) rfl (gv_aR (gv_aI gv_a0)) (Nat.le_of_ble_eq_true rfl) qi5 (cS_thingAt_ok qv6) rfl rfl ?_
      refine gv_rstn (pc' := 21) rfl rfl (gv_Ci rfl) rfl ?_
      refine gv_rldn (pc' := 22) rfl rfl rfl ?_
      by_cases c7 : v6 = none
      · rw [if_pos c7] at e
        refine gv_nuT (pc' := 50) rfl c7 rfl ?_
        exact gv_weak (cH_handOver_50_ok ih e) (gv_S1 rfl (gv_S1 rfl (gv_S1 rfl gv_S0)))
      rw [if_neg c7] at e
      refine gv_nuF (pc' := 25) rfl c7 rfl ?_
      refine gv_rldn (pc' := 26) rfl rfl rfl ?_
      obtain ⟨v8, qv8, e⟩ := gv_bind e
      refine gv_fR (pc' := 29) rfl rfl qv8 rfl ?_
      refine gv_ildn (pc' := 30) rfl rfl rfl ?_
      refine gv_rldn (pc' := 31) rfl rfl rfl ?_
      obtain ⟨v9, qv9, e⟩ := gv_bind e
      refine gv_fJ (pc' := 34) rfl rfl qv9 rfl ?_
      obtain ⟨h10, qh10, e⟩ := gv_bind e
      refine gv_last (pc' := 35) rfl qh10 rfl ?_
      refine gv_rldn (pc' := 36) rfl rfl rfl ?_
      obtain ⟨v11, qv11, e⟩ := gv_bind e
      refine gv_fR (pc' := 39) rfl rfl qv11 rfl ?_
      refine gv_ildn (pc' := 40) rfl rfl rfl ?_
      refine gv_rldn (pc' := 41) rfl rfl rfl ?_
      obtain ⟨v12, qv12, e⟩ := gv_bind e
      refine gv_fI (pc' := 44) rfl rfl qv12 rfl ?_
      obtain ⟨h13, qh13, e⟩ := gv_bind e
      refine gv_iast (pc' := 45) rfl qh13 rfl ?_
      refine gv_rldn (pc' := 46) rfl rfl rfl ?_
      refine gv_ic (pc' := 47) (x := 1) rfl rfl rfl ?_
      obtain ⟨h14, qh14, e⟩ := gv_bind e
      refine gv_pZ (pc' := 50) rfl rfl rfl (by decide) qh14 rfl ?_
      exact gv_weak (cH_handOver_50_ok ih e) (gv_S1 rfl (gv_S1 rfl (gv_S1 rfl gv_S0)))
    rw [if_neg c2] at e
    refine gv_cmT (pc' := 56) rfl (gv_geT2 c2) rfl ?_
    refine gv_rldn (pc' := 57) rfl rfl rfl ?_
    refine gv_rldn (pc' := 58) rfl rfl rfl ?_
    obtain ⟨v15, qv15, e⟩ := gv_bind e
    refine gv_fI (pc' := 61) rfl rfl qv15 rfl ?_
    obtain ⟨h16, qh16, e⟩ := gv_bind e
    refine gv_pI (pc' := 64) rfl rfl rfl qh16 rfl ?_
    cases e
    exact gv_retV rfl rfl
def cH_handOver (l0 : Option Nat) (l1 : Option Nat) (h : gx_H) : Option gx_H :=
  cH_handOver_2 1000000000000000 l0 l1 (0 : Int32) h
theorem cH_handOver_ok {xs : Option (List Int32)} {l0 : Option Nat} {l1 : Option Nat} {h : gx_H} {r : gx_H} (e : cH_handOver l0 l1 h = some r) : gv_V xs 1 95 0 [(0, gv_u l0), (1, gv_u l1)] [] h (.returned none) r := by
  unfold cH_handOver at e
  refine gv_ic (pc' := 1) (x := 0) rfl rfl rfl ?_
  refine gv_istn (pc' := 2) rfl rfl (gv_Cr rfl) rfl ?_
  exact gv_weak (cH_handOver_2_ok 1000000000000000 _ _ _ _ _ e) (gv_S1 rfl (gv_S1 rfl (gv_S1 rfl gv_S0)))
def cB_becomeLike (l0 : Option Nat) (l1 : Option Nat) (h : gx_H) : Option gx_H :=
  (gv_gR h l1 3 0).bind fun v1 =>
  (gv_gR h l0 3 0).bind fun v2 =>
  (gv_gI h l1 3 1).bind fun v3 =>
  (gv_cp h v1 (0 : Int32) v2 (0 : Int32) v3).bind fun h4 =>
  (gv_gI h4 l1 3 1).bind fun v5 =>
  (gv_pV h4 l0 3 1 (.int v5)).bind fun h6 =>
  some h6
theorem cB_becomeLike_ok {xs : Option (List Int32)} {l0 : Option Nat} {l1 : Option Nat} {h : gx_H} {r : gx_H} (e : cB_becomeLike l0 l1 h = some r) : gv_V xs 0 96 0 [(0, gv_u l0), (1, gv_u l1)] [] h (.returned none) r := by
  unfold cB_becomeLike at e
  refine gv_rldn (pc' := 1) rfl rfl rfl ?_
  obtain ⟨v1, qv1, e⟩ := gv_bind e
  refine gv_fR (pc' := 4) rfl rfl qv1 rfl ?_
  refine gv_ic (pc' := 5) (x := 0) rfl rfl rfl ?_
  refine gv_rldn (pc' := 6) rfl rfl rfl ?_
  obtain ⟨v2, qv2, e⟩ := gv_bind e
  refine gv_fR (pc' := 9) rfl rfl qv2 rfl ?_
  refine gv_ic (pc' := 10) (x := 0) rfl rfl rfl ?_
  refine gv_rldn (pc' := 11) rfl rfl rfl ?_
  obtain ⟨v3, qv3, e⟩ := gv_bind e
  refine gv_fI (pc' := 14) rfl rfl qv3 rfl ?_
  obtain ⟨h4, qh4, e⟩ := gv_bind e
  refine gv_acp (pc' := 17) rfl rfl rfl qh4 rfl ?_
  refine gv_rldn (pc' := 18) rfl rfl rfl ?_
  refine gv_rldn (pc' := 19) rfl rfl rfl ?_
  obtain ⟨v5, qv5, e⟩ := gv_bind e
  refine gv_fI (pc' := 22) rfl rfl qv5 rfl ?_
  obtain ⟨h6, qh6, e⟩ := gv_bind e
  refine gv_pI (pc' := 25) rfl rfl rfl qh6 rfl ?_
  cases e
  exact gv_retV rfl rfl
end
section
/-! by program: the methods as functions, and that the small machine does what they say -/
def cW_writeByte (l0 : Option Nat) (l1 : Int32) (h : gx_H) : Option gx_H :=
  (gv_gI h l0 5 4).bind fun v1 =>
  if v1 = 0 then (
    (gv_gR h l0 5 0).bind fun v3 =>
    (gv_is h v3 3).bind fun i4 =>
    (cB_append v3 l1 h).bind fun r7 =>
    if r7.1 = 0 then (
      (gv_pV r7.2 l0 5 4 (.int (1 : Int32))).bind fun h9 =>
      some h9) else
    some r7.2) else
  some h
theorem cW_writeByte_ok {xs : Option (List Int32)} {l0 : Option Nat} {l1 : Int32} {h : gx_H} {r : gx_H} (e : cW_writeByte l0 l1 h = some r) : gv_V xs 1 77 0 [(0, gv_u l0), (1, .int l1)] [] h (.returned none) r := by
  unfold cW_writeByte at e
  refine gv_rldn (pc' := 1) rfl rfl rfl ?_
  obtain ⟨v1, qv1, e⟩ := gv_bind e
  refine gv_fI (pc' := 4) rfl rfl qv1 rfl ?_
  by_cases c2 : v1 = 0
  · rw [if_pos c2] at e
    refine gv_ifF (pc' := 7) rfl (gv_neF c2) rfl rfl ?_
    refine gv_rldn (pc' := 8) rfl rfl rfl ?_
    obtain ⟨v3, qv3, e⟩ := gv_bind e
    refine gv_fR (pc' := 11) rfl rfl qv3 rfl ?_
    refine gv_ildn (pc' := 12) rfl rfl rfl ?_
    obtain ⟨i4, qi4, e⟩ := gv_bind e
    obtain ⟨⟨v5, h6⟩, qv5, e⟩ := gv_bind e
    refine gv_vS (jc := 19) (n := 1) (rest := []) (stk := [.int v5]) (pc' := 15) rfl rfl rfl rfl rfl rfl rfl rfl rfl (gv_zR (gv_zI gv_z0)) rfl (gv_aR (gv_aI gv_a0)) (Nat.le_of_ble_eq_true rfl) qi4 (cB_append_ok qv5) rfl rfl ?_
    by_cases c8 : v5 = 0
    · rw [if_pos c8] at e
      refine gv_ifF (pc' := 18) rfl (gv_neF c8) rfl rfl ?_
      refine gv_rldn (pc' := 19) rfl rfl rfl ?_
      refine gv_ic (pc' := 20) (x := 1) rfl rfl rfl ?_
      obtain ⟨h9, qh9, e⟩ := gv_bind e
      refine gv_pI (pc' := 23) rfl rfl rfl qh9 rfl ?_
      cases e
      exact gv_retV rfl rfl
    rw [if_neg c8] at e
    refine gv_ifT (pc' := 23) rfl (gv_neT c8) rfl ?_
    cases e
    exact gv_retV rfl rfl
  rw [if_neg c2] at e
  refine gv_ifT (pc' := 23) rfl (gv_neT c2) rfl ?_
  cases e
  exact gv_retV rfl rfl
def cW_writeLengthy_46 (l0 : Option Nat) (l3 : Int64) (h : gx_H) : Option gx_H :=
  (gv_is h l0 5).bind fun i1 =>
  (cW_writeByte l0 (Int64.toInt32 l3) h).bind fun h3 =>
  some h3
theorem cW_writeLengthy_46_ok {xs : Option (List Int32)} {l0 : Option Nat} {l3 : Int64} {h : gx_H} {r : gx_H} (e : cW_writeLengthy_46 l0 l3 h = some r) : gv_V xs 2 80 46 [(0, gv_u l0), (3, .long l3)] [] h (.returned none) r := by
  unfold cW_writeLengthy_46 at e
  refine gv_rldn (pc' := 47) rfl rfl rfl ?_
  refine gv_jldn (pc' := 48) rfl rfl rfl ?_
  refine gv_l2i (pc' := 49) rfl rfl ?_
  obtain ⟨i1, qi1, e⟩ := gv_bind e
  obtain ⟨h3, qv2, e⟩ := gv_bind e
  refine gv_vS (jc := 77) (n := 1) (rest := []) (stk := []) (pc' := 52) rfl rfl rfl rfl rfl rfl rfl rfl rfl (gv_zR (gv_zI gv_z0)) rfl (gv_aR (gv_aI gv_a0)) (Nat.le_of_ble_eq_true rfl) qi1 (cW_writeByte_ok qv2) rfl rfl ?_
  cases e
  exact gv_retV rfl rfl
def cW_writeLengthy_5 : Nat → Option Nat → Int64 → Int32 → gx_H → Option gx_H
  | 0, _, _, _, _ => none
  | n + 1, l0, l3, l5, h =>
    if l5 < (10 : Int32) then (
      if ((Int64.toUInt64 l3 >>> ((Int32.toInt64 (7 : Int32)).toUInt64 &&& Int64.toUInt64 63)).toInt64) = (0 : Int64) then (
        cW_writeLengthy_46 l0 l3 h) else
      (gv_is h l0 5).bind fun i3 =>
      (cW_writeByte l0 ((Int64.toInt32 (l3 &&& (127 : Int64))) + (128 : Int32)) h).bind fun h5 =>
      cW_writeLengthy_5 n l0 ((Int64.toUInt64 l3 >>> ((Int32.toInt64 (7 : Int32)).toUInt64 &&& Int64.toUInt64 63)).toInt64) (l5 + 1) h5) else
    cW_writeLengthy_46 l0 l3 h
theorem cW_writeLengthy_5_ok {xs : Option (List Int32)} : ∀ (n : Nat) (l0 : Option Nat) (l3 : Int64) (l5 : Int32) (h : gx_H) (r : gx_H), cW_writeLengthy_5 n l0 l3 l5 h = some r → gv_V xs 2 80 5 [(0, gv_u l0), (3, .long l3), (5, .int l5)] [] h (.returned none) r := by
  intro n
  induction n with
  | zero => intro l0 l3 l5 h r e; cases e
  | succ n ih =>
    intro l0 l3 l5 h r e
    rw [cW_writeLengthy_5] at e
    refine gv_ild (pc' := 7) rfl rfl rfl ?_
    refine gv_bp (pc' := 9) (x := 10) rfl rfl rfl ?_
    by_cases c1 : l5 < (10 : Int32)
    · rw [if_pos c1] at e
      refine gv_cmF (pc' := 12) rfl (gv_geF2 c1) rfl rfl ?_
      refine gv_jldn (pc' := 13) rfl rfl rfl ?_
      refine gv_bp (pc' := 15) (x := 7) rfl rfl rfl ?_
      refine gv_lushr (pc' := 16) rfl rfl ?_
      refine gv_lc (pc' := 17) (x := 0) rfl rfl rfl ?_
      refine gv_lcmp (pc' := 18) rfl rfl ?_
      by_cases c2 : ((Int64.toUInt64 l3 >>> ((Int32.toInt64 (7 : Int32)).toUInt64 &&& Int64.toUInt64 63)).toInt64) = (0 : Int64)
      · rw [if_pos c2] at e
        refine gv_ifT (pc' := 46) rfl (gv_eqTL c2) rfl ?_
        exact gv_weak (cW_writeLengthy_46_ok e) (gv_S1 rfl (gv_S1 rfl gv_S0))
      rw [if_neg c2] at e
      refine gv_ifF (pc' := 21) rfl (gv_eqFL c2) rfl rfl ?_
      refine gv_rldn (pc' := 22) rfl rfl rfl ?_
      refine gv_jldn (pc' := 23) rfl rfl rfl ?_
      refine gv_ld (pc' := 26) (x := 127) rfl rfl rfl ?_
      refine gv_land (pc' := 27) rfl rfl ?_
      refine gv_l2i (pc' := 28) rfl rfl ?_
      refine gv_sp (pc' := 31) (x := 128) rfl rfl rfl ?_
      refine gv_iadd (pc' := 32) rfl rfl ?_
      obtain ⟨i3, qi3, e⟩ := gv_bind e
      obtain ⟨h5, qv4, e⟩ := gv_bind e
      refine gv_vS (jc := 77) (n := 1) (rest := []) (stk := []) (pc' := 35) rfl rfl rfl rfl rfl rfl rfl rfl rfl (gv_zR (gv_zI gv_z0)) rfl (gv_aR (gv_aI gv_a0)) (Nat.le_of_ble_eq_true rfl) qi3 (cW_writeByte_ok qv4) rfl rfl ?_
      refine gv_jldn (pc' := 36) rfl rfl rfl ?_
      refine gv_bp (pc' := 38) (x := 7) rfl rfl rfl ?_
      refine gv_lushr (pc' := 39) rfl rfl ?_
      refine gv_jstn (pc' := 40) rfl rfl (gv_Cn rfl) rfl rfl ?_
      refine gv_inc (pc' := 43) (y := 1) rfl rfl rfl rfl (gv_Cn rfl) rfl ?_
      refine gv_goto (pc' := 5) rfl rfl ?_
      exact gv_weak (ih _ _ _ _ _ e) (gv_S1 rfl (gv_S1 rfl (gv_S1 rfl gv_S0)))
    rw [if_neg c1] at e
    refine gv_cmT (pc' := 46) rfl (gv_geT2 c1) rfl ?_
    exact gv_weak (cW_writeLengthy_46_ok e) (gv_S1 rfl (gv_S1 rfl gv_S0))
def cW_writeLengthy (l0 : Option Nat) (l1 : Int64) (h : gx_H) : Option gx_H :=
  cW_writeLengthy_5 1000000000000000 l0 l1 (1 : Int32) h
theorem cW_writeLengthy_ok {xs : Option (List Int32)} {l0 : Option Nat} {l1 : Int64} {h : gx_H} {r : gx_H} (e : cW_writeLengthy l0 l1 h = some r) : gv_V xs 2 80 0 [(0, gv_u l0), (1, .long l1)] [] h (.returned none) r := by
  unfold cW_writeLengthy at e
  refine gv_jldn (pc' := 1) rfl rfl rfl ?_
  refine gv_jstn (pc' := 2) rfl rfl (gv_Cn rfl) rfl rfl ?_
  refine gv_ic (pc' := 3) (x := 1) rfl rfl rfl ?_
  refine gv_ist (pc' := 5) rfl rfl (gv_Cn rfl) rfl ?_
  exact gv_weak (cW_writeLengthy_5_ok 1000000000000000 _ _ _ _ _ e) (gv_S1 rfl (gv_S1 rfl (gv_S1 rfl gv_S0)))
def cW_givePlace (l0 : Option Nat) (l1 : Int32) (h : gx_H) : Option gx_H :=
  (gv_gR h l0 5 1).bind fun v1 =>
  (gv_gI h l0 5 2).bind fun v2 =>
  (gv_wI h v1 l1 v2).bind fun h3 =>
  (gv_gI h3 l0 5 2).bind fun v4 =>
  (gv_pV h3 l0 5 2 (.int (v4 + (1 : Int32)))).bind fun h5 =>
  some h5
theorem cW_givePlace_ok {xs : Option (List Int32)} {l0 : Option Nat} {l1 : Int32} {h : gx_H} {r : gx_H} (e : cW_givePlace l0 l1 h = some r) : gv_V xs 0 82 0 [(0, gv_u l0), (1, .int l1)] [] h (.returned none) r := by
  unfold cW_givePlace at e
  refine gv_rldn (pc' := 1) rfl rfl rfl ?_
  obtain ⟨v1, qv1, e⟩ := gv_bind e
  refine gv_fR (pc' := 4) rfl rfl qv1 rfl ?_
  refine gv_ildn (pc' := 5) rfl rfl rfl ?_
  refine gv_rldn (pc' := 6) rfl rfl rfl ?_
  obtain ⟨v2, qv2, e⟩ := gv_bind e
  refine gv_fI (pc' := 9) rfl rfl qv2 rfl ?_
  obtain ⟨h3, qh3, e⟩ := gv_bind e
  refine gv_iast (pc' := 10) rfl qh3 rfl ?_
  refine gv_rldn (pc' := 11) rfl rfl rfl ?_
  refine gv_dup (pc' := 12) rfl (gv_u_cat _) rfl ?_
  obtain ⟨v4, qv4, e⟩ := gv_bind e
  refine gv_fI (pc' := 15) rfl rfl qv4 rfl ?_
  refine gv_ic (pc' := 16) (x := 1) rfl rfl rfl ?_
  refine gv_iadd (pc' := 17) rfl rfl ?_
  obtain ⟨h5, qh5, e⟩ := gv_bind e
  refine gv_pI (pc' := 20) rfl rfl rfl qh5 rfl ?_
  cases e
  exact gv_retV rfl rfl
def cW_runGetter (l0 : Option Nat) (l1 : Option Nat) (l2 : Option Nat) (l3 : Int32) (h : gx_H) : Option gx_H :=
  (jM_floorDiv l3 (8 : Int32)).bind fun v1 =>
  (jM_floorMod l3 (8 : Int32)).bind fun v2 =>
  if v2 = (1 : Int32) then (
    (gv_pV h l0 5 4 (.int (2 : Int32))).bind fun h4 =>
    some h4) else
  if v2 = (2 : Int32) then (
    (gv_is h l2 2).bind fun i6 =>
    (cT_dropProperty l2 v1 h).bind fun r9 =>
    some r9.2) else
  if v2 = (3 : Int32) then (
    (gv_is h l2 2).bind fun i11 =>
    (cT_indexOfKey l2 (4 : Int32) v1 h).bind fun v12 =>
    if v12 = (-1 : Int32) then (
      (gv_is h l2 2).bind fun i14 =>
      (cT_setProperty l2 v1 (4 : Int32) (7 : Int32) h).bind fun r17 =>
      some r17.2) else
    some h) else
  if v2 = (4 : Int32) then (
    (gv_is h l1 1).bind fun i19 =>
    (cS_detachBuffer l1 v1 h).bind fun r22 =>
    some r22.2) else
  some h
theorem cW_runGetter_ok {xs : Option (List Int32)} {l0 : Option Nat} {l1 : Option Nat} {l2 : Option Nat} {l3 : Int32} {h : gx_H} {r : gx_H} (e : cW_runGetter l0 l1 l2 l3 h = some r) : gv_V xs 3 86 0 [(0, gv_u l0), (1, gv_u l1), (2, gv_u l2), (3, .int l3)] [] h (.returned none) r := by
  unfold cW_runGetter at e
  refine gv_ildn (pc' := 1) rfl rfl rfl ?_
  refine gv_bp (pc' := 3) (x := 8) rfl rfl rfl ?_
  obtain ⟨v1, qv1, e⟩ := gv_bind e
  refine gv_sS (jc := 87) (n := 2) (rest := []) (stk := [.int v1]) (pc' := 6) rfl rfl rfl rfl rfl rfl rfl rfl rfl (gv_zI (gv_zI gv_z0)) rfl (gv_aI (gv_aI gv_a0)) (Nat.le_of_ble_eq_true rfl) (jM_floorDiv_ok qv1) rfl rfl ?_
  refine gv_ist (pc' := 8) rfl rfl (gv_Ci rfl) rfl ?_
  refine gv_ildn (pc' := 9) rfl rfl rfl ?_
  refine gv_bp (pc' := 11) (x := 8) rfl rfl rfl ?_
  obtain ⟨v2, qv2, e⟩ := gv_bind e
  refine gv_sS (jc := 88) (n := 2) (rest := []) (stk := [.int v2]) (pc' := 14) rfl rfl rfl rfl rfl rfl rfl rfl rfl (gv_zI (gv_zI gv_z0)) rfl (gv_aI (gv_aI gv_a0)) (Nat.le_of_ble_eq_true rfl) (jM_floorMod_ok qv2) rfl rfl ?_
  by_cases c3 : v2 = (1 : Int32)
  · rw [if_pos c3] at e
    refine gv_sw (pc' := 44) (off := 30) rfl (by rw [c3]; rfl) rfl ?_
    refine gv_rldn (pc' := 45) rfl rfl rfl ?_
    refine gv_ic (pc' := 46) (x := 2) rfl rfl rfl ?_
    obtain ⟨h4, qh4, e⟩ := gv_bind e
    refine gv_pI (pc' := 49) rfl rfl rfl qh4 rfl ?_
    refine gv_goto (pc' := 96) rfl rfl ?_
    cases e
    exact gv_retV rfl rfl
  rw [if_neg c3] at e
  by_cases c5 : v2 = (2 : Int32)
  · rw [if_pos c5] at e
    refine gv_sw (pc' := 52) (off := 38) rfl (by rw [c5]; rfl) rfl ?_
    refine gv_rldn (pc' := 53) rfl rfl rfl ?_
    refine gv_ild (pc' := 55) rfl rfl rfl ?_
    obtain ⟨i6, qi6, e⟩ := gv_bind e
    obtain ⟨⟨v7, h8⟩, qv7, e⟩ := gv_bind e
    refine gv_vS (jc := 52) (n := 1) (rest := []) (stk := [.int v7]) (pc' := 58) rfl rfl rfl rfl rfl rfl rfl rfl rfl (gv_zR (gv_zI gv_z0)) rfl (gv_aR (gv_aI gv_a0)) (Nat.le_of_ble_eq_true rfl) qi6 (cT_dropProperty_ok qv7) rfl rfl ?_
    refine gv_pop (pc' := 59) rfl rfl rfl ?_
    refine gv_goto (pc' := 96) rfl rfl ?_
    cases e
    exact gv_retV rfl rfl
  rw [if_neg c5] at e
  by_cases c10 : v2 = (3 : Int32)
  · rw [if_pos c10] at e
    refine gv_sw (pc' := 62) (off := 48) rfl (by rw [c10]; rfl) rfl ?_
    refine gv_rldn (pc' := 63) rfl rfl rfl ?_
    refine gv_ic (pc' := 64) (x := 4) rfl rfl rfl ?_
    refine gv_ild (pc' := 66) rfl rfl rfl ?_
    obtain ⟨i11, qi11, e⟩ := gv_bind e
    obtain ⟨v12, qv12, e⟩ := gv_bind e
    refine gv_vS (jc := 47) (n := 2) (rest := []) (stk := [.int v12]) (pc' := 69) rfl rfl rfl rfl rfl rfl rfl rfl rfl (gv_zR (gv_zI (gv_zI gv_z0))) rfl (gv_aR (gv_aI (gv_aI gv_a0))) (Nat.le_of_ble_eq_true rfl) qi11 (cT_indexOfKey_ok qv12) rfl rfl ?_
    refine gv_ic (pc' := 70) (x := -1) rfl rfl rfl ?_
    by_cases c13 : v12 = (-1 : Int32)
    · rw [if_pos c13] at e
      refine gv_cmF (pc' := 73) rfl (gv_neF2 c13) rfl rfl ?_
      refine gv_rldn (pc' := 74) rfl rfl rfl ?_
      refine gv_ild (pc' := 76) rfl rfl rfl ?_
      refine gv_ic (pc' := 77) (x := 4) rfl rfl rfl ?_
      refine gv_bp (pc' := 79) (x := 7) rfl rfl rfl ?_
      obtain ⟨i14, qi14, e⟩ := gv_bind e
      obtain ⟨⟨v15, h16⟩, qv15, e⟩ := gv_bind e
      refine gv_vS (jc := 46) (n := 3) (rest := []) (stk := [.int v15]) (pc' := 82) rfl rfl rfl rfl rfl rfl rfl rfl rfl (gv_zR (gv_zI (gv_zI (gv_zI gv_z0)))) rfl (gv_aR (gv_aI (gv_aI (gv_aI gv_a0)))) (Nat.le_of_ble_eq_true rfl) qi14 (cT_setProperty_ok qv15) rfl rfl ?_
      refine gv_pop (pc' := 83) rfl rfl rfl ?_
      refine gv_goto (pc' := 96) rfl rfl ?_
      cases e
      exact gv_retV rfl rfl
    rw [if_neg c13] at e
    refine gv_cmT (pc' := 96) rfl (gv_neT2 c13) rfl ?_
    cases e
    exact gv_retV rfl rfl
  rw [if_neg c10] at e
  by_cases c18 : v2 = (4 : Int32)
  · rw [if_pos c18] at e
    refine gv_sw (pc' := 86) (off := 72) rfl (by rw [c18]; rfl) rfl ?_
    refine gv_rldn (pc' := 87) rfl rfl rfl ?_
    refine gv_ild (pc' := 89) rfl rfl rfl ?_
    obtain ⟨i19, qi19, e⟩ := gv_bind e
    obtain ⟨⟨v20, h21⟩, qv20, e⟩ := gv_bind e
    refine gv_vS (jc := 8) (n := 1) (rest := []) (stk := [.int v20]) (pc' := 92) rfl rfl rfl rfl rfl rfl rfl rfl rfl (gv_zR (gv_zI gv_z0)) rfl (gv_aR (gv_aI gv_a0)) (Nat.le_of_ble_eq_true rfl) qi19 (cS_detachBuffer_ok qv20) rfl rfl ?_
    refine gv_pop (pc' := 93) rfl rfl rfl ?_
    refine gv_goto (pc' := 96) rfl rfl ?_
    cases e
    exact gv_retV rfl rfl
  rw [if_neg c18] at e
  refine gv_sw (pc' := 96) (off := 82) rfl (gv_tabd (gv_N1 c3 (gv_N1 c5 (gv_N1 c10 (gv_N1 c18 gv_N0)))) (by decide)) rfl ?_
  cases e
  exact gv_retV rfl rfl
def cW_writeZigzag (l0 : Option Nat) (l1 : Int64) (h : gx_H) : Option gx_H :=
  (gv_is h l0 5).bind fun i1 =>
  (cW_writeLengthy l0 ((l1 <<< (Int32.toInt64 (1 : Int32) &&& 63)) ^^^ (l1 >>> (Int32.toInt64 (63 : Int32) &&& 63))) h).bind fun h3 =>
  some h3
theorem cW_writeZigzag_ok {xs : Option (List Int32)} {l0 : Option Nat} {l1 : Int64} {h : gx_H} {r : gx_H} (e : cW_writeZigzag l0 l1 h = some r) : gv_V xs 3 89 0 [(0, gv_u l0), (1, .long l1)] [] h (.returned none) r := by
  unfold cW_writeZigzag at e
  refine gv_rldn (pc' := 1) rfl rfl rfl ?_
  refine gv_jldn (pc' := 2) rfl rfl rfl ?_
  refine gv_ic (pc' := 3) (x := 1) rfl rfl rfl ?_
  refine gv_lshl (pc' := 4) rfl rfl ?_
  refine gv_jldn (pc' := 5) rfl rfl rfl ?_
  refine gv_bp (pc' := 7) (x := 63) rfl rfl rfl ?_
  refine gv_lshr (pc' := 8) rfl rfl ?_
  refine gv_lxor (pc' := 9) rfl rfl ?_
  obtain ⟨i1, qi1, e⟩ := gv_bind e
  obtain ⟨h3, qv2, e⟩ := gv_bind e
  refine gv_vS (jc := 80) (n := 1) (rest := []) (stk := []) (pc' := 12) rfl rfl rfl rfl rfl rfl rfl rfl rfl (gv_zR (gv_zJ gv_z0)) rfl (gv_aR (gv_aJ gv_a0)) (Nat.le_of_ble_eq_true rfl) qi1 (cW_writeLengthy_ok qv2) rfl rfl ?_
  cases e
  exact gv_retV rfl rfl
def cW_writeWord_8 : Nat → Option Nat → Int64 → Int32 → Int32 → gx_H → Option gx_H
  | 0, _, _, _, _, _ => none
  | n + 1, l0, l1, l3, l4, h =>
    if l4 < l3 then (
      (cG_byteOf l1 l4).bind fun v2 =>
      (gv_is h l0 5).bind fun i3 =>
      (cW_writeByte l0 v2 h).bind fun h5 =>
      cW_writeWord_8 n l0 l1 l3 (l4 + 1) h5) else
    some h
theorem cW_writeWord_8_ok {xs : Option (List Int32)} : ∀ (n : Nat) (l0 : Option Nat) (l1 : Int64) (l3 : Int32) (l4 : Int32) (h : gx_H) (r : gx_H), cW_writeWord_8 n l0 l1 l3 l4 h = some r → gv_V xs 2 93 8 [(0, gv_u l0), (1, .long l1), (3, .int l3), (4, .int l4)] [] h (.returned none) r := by
  intro n
  induction n with
  | zero => intro l0 l1 l3 l4 h r e; cases e
  | succ n ih =>
    intro l0 l1 l3 l4 h r e
    rw [cW_writeWord_8] at e
    refine gv_ild (pc' := 10) rfl rfl rfl ?_
    refine gv_ildn (pc' := 11) rfl rfl rfl ?_
    by_cases c1 : l4 < l3
    · rw [if_pos c1] at e
      refine gv_cmF (pc' := 14) rfl (gv_geF2 c1) rfl rfl ?_
      refine gv_rldn (pc' := 15) rfl rfl rfl ?_
      refine gv_jldn (pc' := 16) rfl rfl rfl ?_
      refine gv_ild (pc' := 18) rfl rfl rfl ?_
      obtain ⟨v2, qv2, e⟩ := gv_bind e
      refine gv_sS (jc := 18) (n := 2) (rest := [gv_u l0]) (stk := [.int v2, gv_u l0]) (pc' := 21) rfl rfl rfl rfl rfl rfl rfl rfl rfl (gv_zJ (gv_zI gv_z0)) rfl (gv_aJ (gv_aI gv_a0)) (Nat.le_of_ble_eq_true rfl) (cG_byteOf_ok qv2) rfl rfl ?_
      obtain ⟨i3, qi3, e⟩ := gv_bind e
      obtain ⟨h5, qv4, e⟩ := gv_bind e
      refine gv_vS (jc := 77) (n := 1) (rest := []) (stk := []) (pc' := 24) rfl rfl rfl rfl rfl rfl rfl rfl rfl (gv_zR (gv_zI gv_z0)) rfl (gv_aR (gv_aI gv_a0)) (Nat.le_of_ble_eq_true rfl) qi3 (cW_writeByte_ok qv4) rfl rfl ?_
      refine gv_inc (pc' := 27) (y := 1) rfl rfl rfl rfl (gv_Ci rfl) rfl ?_
      refine gv_goto (pc' := 8) rfl rfl ?_
      exact gv_weak (ih _ _ _ _ _ _ e) (gv_S1 rfl (gv_S1 rfl (gv_S1 rfl (gv_S1 rfl gv_S0))))
    rw [if_neg c1] at e
    refine gv_cmT (pc' := 30) rfl (gv_geT2 c1) rfl ?_
    cases e
    exact gv_retV rfl rfl
def cW_writeWord (l0 : Option Nat) (l1 : Int64) (l3 : Int32) (h : gx_H) : Option gx_H :=
  (gv_is h l0 5).bind fun i1 =>
  (cW_writeByte l0 l3 h).bind fun h3 =>
  cW_writeWord_8 1000000000000000 l0 l1 l3 (0 : Int32) h3
theorem cW_writeWord_ok {xs : Option (List Int32)} {l0 : Option Nat} {l1 : Int64} {l3 : Int32} {h : gx_H} {r : gx_H} (e : cW_writeWord l0 l1 l3 h = some r) : gv_V xs 2 93 0 [(0, gv_u l0), (1, .long l1), (3, .int l3)] [] h (.returned none) r := by
  unfold cW_writeWord at e
  refine gv_rldn (pc' := 1) rfl rfl rfl ?_
  refine gv_ildn (pc' := 2) rfl rfl rfl ?_
  obtain ⟨i1, qi1, e⟩ := gv_bind e
  obtain ⟨h3, qv2, e⟩ := gv_bind e
  refine gv_vS (jc := 77) (n := 1) (rest := []) (stk := []) (pc' := 5) rfl rfl rfl rfl rfl rfl rfl rfl rfl (gv_zR (gv_zI gv_z0)) rfl (gv_aR (gv_aI gv_a0)) (Nat.le_of_ble_eq_true rfl) qi1 (cW_writeByte_ok qv2) rfl rfl ?_
  refine gv_ic (pc' := 6) (x := 0) rfl rfl rfl ?_
  refine gv_ist (pc' := 8) rfl rfl (gv_Ci rfl) rfl ?_
  exact gv_weak (cW_writeWord_8_ok 1000000000000000 _ _ _ _ _ _ e) (gv_S1 rfl (gv_S1 rfl (gv_S1 rfl (gv_S1 rfl gv_S0))))
def cW_textLength_2 : Nat → Int32 → Int32 → Option Int32
  | 0, _, _ => none
  | n + 1, l0, l1 =>
    if l1 < (4 : Int32) then (
      (cG_byteOf (Int32.toInt64 l0) l1).bind fun v2 =>
      if v2 = 0 then (
        some l1) else
      cW_textLength_2 n l0 (l1 + 1)) else
    some l1
theorem cW_textLength_2_ok {xs : Option (List Int32)} : ∀ (n : Nat) (l0 : Int32) (l1 : Int32) (h : gx_H) (r : Int32), cW_textLength_2 n l0 l1 = some r → gv_V xs 1 94 2 [(0, .int l0), (1, .int l1)] [] h (.returned (some (.int r))) h := by
  intro n
  induction n with
  | zero => intro l0 l1 h r e; cases e
  | succ n ih =>
    intro l0 l1 h r e
    rw [cW_textLength_2] at e
    refine gv_ildn (pc' := 3) rfl rfl rfl ?_
    refine gv_ic (pc' := 4) (x := 4) rfl rfl rfl ?_
    by_cases c1 : l1 < (4 : Int32)
    · rw [if_pos c1] at e
      refine gv_cmF (pc' := 7) rfl (gv_geF2 c1) rfl rfl ?_
      refine gv_ildn (pc' := 8) rfl rfl rfl ?_
      refine gv_i2l (pc' := 9) rfl rfl ?_
      refine gv_ildn (pc' := 10) rfl rfl rfl ?_
      obtain ⟨v2, qv2, e⟩ := gv_bind e
      refine gv_sS (jc := 18) (n := 2) (rest := []) (stk := [.int v2]) (pc' := 13) rfl rfl rfl rfl rfl rfl rfl rfl rfl (gv_zJ (gv_zI gv_z0)) rfl (gv_aJ (gv_aI gv_a0)) (Nat.le_of_ble_eq_true rfl) (cG_byteOf_ok qv2) rfl rfl ?_
      by_cases c3 : v2 = 0
      · rw [if_pos c3] at e
        refine gv_ifT (pc' := 22) rfl (gv_eqT c3) rfl ?_
        refine gv_ildn (pc' := 23) rfl rfl rfl ?_
        cases e
        exact gv_retI rfl rfl
      rw [if_neg c3] at e
      refine gv_ifF (pc' := 16) rfl (gv_eqF c3) rfl rfl ?_
      refine gv_inc (pc' := 19) (y := 1) rfl rfl rfl rfl (gv_Ci rfl) rfl ?_
      refine gv_goto (pc' := 2) rfl rfl ?_
      exact gv_weak (ih _ _ _ _ e) (gv_S1 rfl (gv_S1 rfl gv_S0))
    rw [if_neg c1] at e
    refine gv_cmT (pc' := 22) rfl (gv_geT2 c1) rfl ?_
    refine gv_ildn (pc' := 23) rfl rfl rfl ?_
    cases e
    exact gv_retI rfl rfl
def cW_textLength (l0 : Int32) : Option Int32 :=
  cW_textLength_2 1000000000000000 l0 (0 : Int32)
theorem cW_textLength_ok {xs : Option (List Int32)} {l0 : Int32} {h : gx_H} {r : Int32} (e : cW_textLength l0 = some r) : gv_V xs 1 94 0 [(0, .int l0)] [] h (.returned (some (.int r))) h := by
  unfold cW_textLength at e
  refine gv_ic (pc' := 1) (x := 0) rfl rfl rfl ?_
  refine gv_istn (pc' := 2) rfl rfl (gv_Ci rfl) rfl ?_
  exact gv_weak (cW_textLength_2_ok 1000000000000000 _ _ _ _ e) (gv_S1 rfl (gv_S1 rfl gv_S0))
def cW_writeView (W : Option Nat → Option Nat → Option Nat → Int32 → Int32 → Int32 → gx_H → Option gx_H) (l0 : Option Nat) (l1 : Option Nat) (l2 : Option Nat) (l3 : Option Nat) (l4 : Int32) (h : gx_H) : Option gx_H :=
  (gv_is h l0 5).bind fun i1 =>
  (cW_writeByte l0 (13 : Int32) h).bind fun h3 =>
  (gv_gI h3 l3 2 8).bind fun v4 =>
  (gv_is h3 l0 5).bind fun i5 =>
  (cW_writeByte l0 v4 h3).bind fun h7 =>
  (gv_gI h7 l3 2 9).bind fun v8 =>
  (gv_is h7 l0 5).bind fun i9 =>
  (cW_writeByte l0 v8 h7).bind fun h11 =>
  (gv_gI h11 l3 2 5).bind fun v12 =>
  (gv_is h11 l0 5).bind fun i13 =>
  (cW_writeByte l0 v12 h11).bind fun h15 =>
  (gv_gI h15 l3 2 7).bind fun v16 =>
  (gv_is h15 l0 5).bind fun i17 =>
  (W l0 l1 l2 (6 : Int32) v16 (l4 + (1 : Int32)) h15).bind fun h19 =>
  some h19
theorem cW_writeView_ok {xs : Option (List Int32)} {D : Nat} (hD : 12 ≤ D) {W : Option Nat → Option Nat → Option Nat → Int32 → Int32 → Int32 → gx_H → Option gx_H} (hW : ∀ (l0 : Option Nat) (l1 : Option Nat) (l2 : Option Nat) (l3 : Int32) (l4 : Int32) (l5 : Int32) (h : gx_H) (r : gx_H), W l0 l1 l2 l3 l4 l5 h = some r → gv_V xs D 78 0 [(0, gv_u l0), (1, gv_u l1), (2, gv_u l2), (3, .int l3), (4, .int l4), (5, .int l5)] [] h (.returned none) r) {l0 : Option Nat} {l1 : Option Nat} {l2 : Option Nat} {l3 : Option Nat} {l4 : Int32} {h : gx_H} {r : gx_H} (e : cW_writeView W l0 l1 l2 l3 l4 h = some r) : gv_V xs (D + 1) 81 0 [(0, gv_u l0), (1, gv_u l1), (2, gv_u l2), (3, gv_u l3), (4, .int l4)] [] h (.returned none) r := by
  unfold cW_writeView at e
  refine gv_rldn (pc' := 1) rfl rfl rfl ?_
  refine gv_bp (pc' := 3) (x := 13) rfl rfl rfl ?_
  obtain ⟨i1, qi1, e⟩ := gv_bind e
  obtain ⟨h3, qv2, e⟩ := gv_bind e
  refine gv_vS (jc := 77) (n := 1) (rest := []) (stk := []) (pc' := 6) rfl rfl rfl rfl rfl rfl rfl rfl rfl (gv_zR (gv_zI gv_z0)) rfl (gv_aR (gv_aI gv_a0)) (by omega) qi1 (cW_writeByte_ok qv2) rfl rfl ?_
  refine gv_rldn (pc' := 7) rfl rfl rfl ?_
  refine gv_rldn (pc' := 8) rfl rfl rfl ?_
  obtain ⟨v4, qv4, e⟩ := gv_bind e
  refine gv_fI (pc' := 11) rfl rfl qv4 rfl ?_
  obtain ⟨i5, qi5, e⟩ := gv_bind e
  obtain ⟨h7, qv6, e⟩ := gv_bind e
  refine gv_vS (jc := 77) (n := 1) (rest := []) (stk := []) (pc' := 14) rfl rfl rfl rfl rfl rfl rfl rfl rfl (gv_zR (gv_zI gv_z0)) rfl (gv_aR (gv_aI gv_a0)) (by omega) qi5 (cW_writeByte_ok qv6) rfl rfl ?_
  refine gv_rldn (pc' := 15) rfl rfl rfl ?_
  refine gv_rldn (pc' := 16) rfl rfl rfl ?_
  obtain ⟨v8, qv8, e⟩ := gv_bind e
  refine gv_fI (pc' := 19) rfl rfl qv8 rfl ?_
  obtain ⟨i9, qi9, e⟩ := gv_bind e
  obtain ⟨h11, qv10, e⟩ := gv_bind e
  refine gv_vS (jc := 77) (n := 1) (rest := []) (stk := []) (pc' := 22) rfl rfl rfl rfl rfl rfl rfl rfl rfl (gv_zR (gv_zI gv_z0)) rfl (gv_aR (gv_aI gv_a0)) (by omega) qi9 (cW_writeByte_ok qv10) rfl rfl ?_
  refine gv_rldn (pc' := 23) rfl rfl rfl ?_
  refine gv_rldn (pc' := 24) rfl rfl rfl ?_
  obtain ⟨v12, qv12, e⟩ := gv_bind e
  refine gv_fI (pc' := 27) rfl rfl qv12 rfl ?_
  obtain ⟨i13, qi13, e⟩ := gv_bind e
  obtain ⟨h15, qv14, e⟩ := gv_bind e
  refine gv_vS (jc := 77) (n := 1) (rest := []) (stk := []) (pc' := 30) rfl rfl rfl rfl rfl rfl rfl rfl rfl (gv_zR (gv_zI gv_z0)) rfl (gv_aR (gv_aI gv_a0)) (by omega) qi13 (cW_writeByte_ok qv14) rfl rfl ?_
  refine gv_rldn (pc' := 31) rfl rfl rfl ?_
  refine gv_rldn (pc' := 32) rfl rfl rfl ?_
  refine gv_rldn (pc' := 33) rfl rfl rfl ?_
  refine gv_bp (pc' := 35) (x := 6) rfl rfl rfl ?_
  refine gv_rldn (pc' := 36) rfl rfl rfl ?_
  obtain ⟨v16, qv16, e⟩ := gv_bind e
  refine gv_fI (pc' := 39) rfl rfl qv16 rfl ?_
  refine gv_ild (pc' := 41) rfl rfl rfl ?_
  refine gv_ic (pc' := 42) (x := 1) rfl rfl rfl ?_
  refine gv_iadd (pc' := 43) rfl rfl ?_
  obtain ⟨i17, qi17, e⟩ := gv_bind e
  obtain ⟨h19, qv18, e⟩ := gv_bind e
  refine gv_vS (jc := 78) (n := 5) (rest := []) (stk := []) (pc' := 46) rfl rfl rfl rfl rfl rfl rfl rfl rfl (gv_zR (gv_zR (gv_zR (gv_zI (gv_zI (gv_zI gv_z0)))))) rfl (gv_aR (gv_aR (gv_aR (gv_aI (gv_aI (gv_aI gv_a0)))))) (by omega) qi17 (hW _ _ _ _ _ _ _ _ qv18) rfl rfl ?_
  cases e
  exact gv_retV rfl rfl
def cW_writeProperty_54 (W : Option Nat → Option Nat → Option Nat → Int32 → Int32 → Int32 → gx_H → Option gx_H) (l0 : Option Nat) (l1 : Option Nat) (l2 : Option Nat) (l5 : Int32) (l6 : Int32) (l7 : Int32) (l8 : Int32) (h : gx_H) : Option gx_H :=
  (gv_is h l0 5).bind fun i1 =>
  (cW_writeByte l0 (1 : Int32) h).bind fun h3 =>
  (gv_is h3 l0 5).bind fun i4 =>
  (cW_writeZigzag l0 (Int32.toInt64 l6) h3).bind fun h6 =>
  (gv_is h6 l0 5).bind fun i7 =>
  (W l0 l1 l2 l7 l8 (l5 + (1 : Int32)) h6).bind fun h9 =>
  some h9
theorem cW_writeProperty_54_ok {xs : Option (List Int32)} {D : Nat} (hD : 12 ≤ D) {W : Option Nat → Option Nat → Option Nat → Int32 → Int32 → Int32 → gx_H → Option gx_H} (hW : ∀ (l0 : Option Nat) (l1 : Option Nat) (l2 : Option Nat) (l3 : Int32) (l4 : Int32) (l5 : Int32) (h : gx_H) (r : gx_H), W l0 l1 l2 l3 l4 l5 h = some r → gv_V xs D 78 0 [(0, gv_u l0), (1, gv_u l1), (2, gv_u l2), (3, .int l3), (4, .int l4), (5, .int l5)] [] h (.returned none) r) {l0 : Option Nat} {l1 : Option Nat} {l2 : Option Nat} {l5 : Int32} {l6 : Int32} {l7 : Int32} {l8 : Int32} {h : gx_H} {r : gx_H} (e : cW_writeProperty_54 W l0 l1 l2 l5 l6 l7 l8 h = some r) : gv_V xs (D + 1) 85 54 [(0, gv_u l0), (1, gv_u l1), (2, gv_u l2), (5, .int l5), (6, .int l6), (7, .int l7), (8, .int l8)] [] h (.returned none) r := by
  unfold cW_writeProperty_54 at e
  refine gv_rldn (pc' := 55) rfl rfl rfl ?_
  refine gv_ic (pc' := 56) (x := 1) rfl rfl rfl ?_
  obtain ⟨i1, qi1, e⟩ := gv_bind e
  obtain ⟨h3, qv2, e⟩ := gv_bind e
  refine gv_vS (jc := 77) (n := 1) (rest := []) (stk := []) (pc' := 59) rfl rfl rfl rfl rfl rfl rfl rfl rfl (gv_zR (gv_zI gv_z0)) rfl (gv_aR (gv_aI gv_a0)) (by omega) qi1 (cW_writeByte_ok qv2) rfl rfl ?_
  refine gv_rldn (pc' := 60) rfl rfl rfl ?_
  refine gv_ild (pc' := 62) rfl rfl rfl ?_
  refine gv_i2l (pc' := 63) rfl rfl ?_
  obtain ⟨i4, qi4, e⟩ := gv_bind e
  obtain ⟨h6, qv5, e⟩ := gv_bind e
  refine gv_vS (jc := 89) (n := 1) (rest := []) (stk := []) (pc' := 66) rfl rfl rfl rfl rfl rfl rfl rfl rfl (gv_zR (gv_zJ gv_z0)) rfl (gv_aR (gv_aJ gv_a0)) (by omega) qi4 (cW_writeZigzag_ok qv5) rfl rfl ?_
  refine gv_rldn (pc' := 67) rfl rfl rfl ?_
  refine gv_rldn (pc' := 68) rfl rfl rfl ?_
  refine gv_rldn (pc' := 69) rfl rfl rfl ?_
  refine gv_ild (pc' := 71) rfl rfl rfl ?_
  refine gv_ild (pc' := 73) rfl rfl rfl ?_
  refine gv_ild (pc' := 75) rfl rfl rfl ?_
  refine gv_ic (pc' := 76) (x := 1) rfl rfl rfl ?_
  refine gv_iadd (pc' := 77) rfl rfl ?_
  obtain ⟨i7, qi7, e⟩ := gv_bind e
  obtain ⟨h9, qv8, e⟩ := gv_bind e
  refine gv_vS (jc := 78) (n := 5) (rest := []) (stk := []) (pc' := 80) rfl rfl rfl rfl rfl rfl rfl rfl rfl (gv_zR (gv_zR (gv_zR (gv_zI (gv_zI (gv_zI gv_z0)))))) rfl (gv_aR (gv_aR (gv_aR (gv_aI (gv_aI (gv_aI gv_a0)))))) (by omega) qi7 (hW _ _ _ _ _ _ _ _ qv8) rfl rfl ?_
  cases e
  exact gv_retV rfl rfl
def cW_writeProperty (W : Option Nat → Option Nat → Option Nat → Int32 → Int32 → Int32 → gx_H → Option gx_H) (l0 : Option Nat) (l1 : Option Nat) (l2 : Option Nat) (l3 : Option Nat) (l4 : Int32) (l5 : Int32) (h : gx_H) : Option gx_H :=
  (gv_gR h l3 2 1).bind fun v1 =>
  (gv_lI h v1 l4).bind fun v2 =>
  (gv_gR h l3 2 2).bind fun v3 =>
  (gv_lI h v3 l4).bind fun v4 =>
  (gv_gR h l3 2 3).bind fun v5 =>
  (gv_lI h v5 l4).bind fun v6 =>
  if v4 = (8 : Int32) then (
    (gv_is h l0 5).bind fun i8 =>
    (cW_runGetter l0 l1 l3 v6 h).bind fun h10 =>
    (jM_floorDiv v6 (8 : Int32)).bind fun v11 =>
    cW_writeProperty_54 W l0 l1 l2 l5 v2 (4 : Int32) v11 h10) else
  cW_writeProperty_54 W l0 l1 l2 l5 v2 v4 v6 h
theorem cW_writeProperty_ok {xs : Option (List Int32)} {D : Nat} (hD : 12 ≤ D) {W : Option Nat → Option Nat → Option Nat → Int32 → Int32 → Int32 → gx_H → Option gx_H} (hW : ∀ (l0 : Option Nat) (l1 : Option Nat) (l2 : Option Nat) (l3 : Int32) (l4 : Int32) (l5 : Int32) (h : gx_H) (r : gx_H), W l0 l1 l2 l3 l4 l5 h = some r → gv_V xs D 78 0 [(0, gv_u l0), (1, gv_u l1), (2, gv_u l2), (3, .int l3), (4, .int l4), (5, .int l5)] [] h (.returned none) r) {l0 : Option Nat} {l1 : Option Nat} {l2 : Option Nat} {l3 : Option Nat} {l4 : Int32} {l5 : Int32} {h : gx_H} {r : gx_H} (e : cW_writeProperty W l0 l1 l2 l3 l4 l5 h = some r) : gv_V xs (D + 1) 85 0 [(0, gv_u l0), (1, gv_u l1), (2, gv_u l2), (3, gv_u l3), (4, .int l4), (5, .int l5)] [] h (.returned none) r := by
  unfold cW_writeProperty at e
  refine gv_rldn (pc' := 1) rfl rfl rfl ?_
  obtain ⟨v1, qv1, e⟩ := gv_bind e
  refine gv_fR (pc' := 4) rfl rfl qv1 rfl ?_
  refine gv_ild (pc' := 6) rfl rfl rfl ?_
  obtain ⟨v2, qv2, e⟩ := gv_bind e
  refine gv_iald (pc' := 7) rfl qv2 rfl ?_
  refine gv_ist (pc' := 9) rfl rfl (gv_Ci rfl) rfl ?_
  refine gv_rldn (pc' := 10) rfl rfl rfl ?_
  obtain ⟨v3, qv3, e⟩ := gv_bind e
  refine gv_fR (pc' := 13) rfl rfl qv3 rfl ?_
  refine gv_ild (pc' := 15) rfl rfl rfl ?_
  obtain ⟨v4, qv4, e⟩ := gv_bind e
  refine gv_iald (pc' := 16) rfl qv4 rfl ?_
  refine gv_ist (pc' := 18) rfl rfl (gv_Ci rfl) rfl ?_
  refine gv_rldn (pc' := 19) rfl rfl rfl ?_
  obtain ⟨v5, qv5, e⟩ := gv_bind e
  refine gv_fR (pc' := 22) rfl rfl qv5 rfl ?_
  refine gv_ild (pc' := 24) rfl rfl rfl ?_
  obtain ⟨v6, qv6, e⟩ := gv_bind e
  refine gv_iald (pc' := 25) rfl qv6 rfl ?_
  refine gv_ist (pc' := 27) rfl rfl (gv_Ci rfl) rfl ?_
  refine gv_ild (pc' := 29) rfl rfl rfl ?_
  refine gv_bp (pc' := 31) (x := 8) rfl rfl rfl ?_
  by_cases c7 : v4 = (8 : Int32)
  · rw [if_pos c7] at e
    refine gv_cmF (pc' := 34) rfl (gv_neF2 c7) rfl rfl ?_
    refine gv_rldn (pc' := 35) rfl rfl rfl ?_
    refine gv_rldn (pc' := 36) rfl rfl rfl ?_
    refine gv_rldn (pc' := 37) rfl rfl rfl ?_
    refine gv_ild (pc' := 39) rfl rfl rfl ?_
    obtain ⟨i8, qi8, e⟩ := gv_bind e
    obtain ⟨h10, qv9, e⟩ := gv_bind e
    refine gv_vS (jc := 86) (n := 3) (rest := []) (stk := []) (pc' := 42) rfl rfl rfl rfl rfl rfl rfl rfl rfl (gv_zR (gv_zR (gv_zR (gv_zI gv_z0)))) rfl (gv_aR (gv_aR (gv_aR (gv_aI gv_a0)))) (by omega) qi8 (cW_runGetter_ok qv9) rfl rfl ?_
    refine gv_ic (pc' := 43) (x := 4) rfl rfl rfl ?_
    refine gv_ist (pc' := 45) rfl rfl (gv_Ci rfl) rfl ?_
    refine gv_ild (pc' := 47) rfl rfl rfl ?_
    refine gv_bp (pc' := 49) (x := 8) rfl rfl rfl ?_
    obtain ⟨v11, qv11, e⟩ := gv_bind e
    refine gv_sS (jc := 87) (n := 2) (rest := []) (stk := [.int v11]) (pc' := 52) rfl rfl rfl rfl rfl rfl rfl rfl rfl (gv_zI (gv_zI gv_z0)) rfl (gv_aI (gv_aI gv_a0)) (by omega) (jM_floorDiv_ok qv11) rfl rfl ?_
    refine gv_ist (pc' := 54) rfl rfl (gv_Ci rfl) rfl ?_
    exact gv_weak (cW_writeProperty_54_ok hD hW e) (gv_S1 rfl (gv_S1 rfl (gv_S1 rfl (gv_S1 rfl (gv_S1 rfl (gv_S1 rfl (gv_S1 rfl gv_S0)))))))
  rw [if_neg c7] at e
  refine gv_cmT (pc' := 54) rfl (gv_neT2 c7) rfl ?_
  exact gv_weak (cW_writeProperty_54_ok hD hW e) (gv_S1 rfl (gv_S1 rfl (gv_S1 rfl (gv_S1 rfl (gv_S1 rfl (gv_S1 rfl (gv_S1 rfl gv_S0)))))))
def cW_writeRecord_80 (W : Option Nat → Option Nat → Option Nat → Int32 → Int32 → Int32 → gx_H → Option gx_H) (l0 : Option Nat) (h : gx_H) : Option gx_H :=
  (gv_is h l0 5).bind fun i1 =>
  (cW_writeByte l0 (0 : Int32) h).bind fun h3 =>
  some h3
theorem cW_writeRecord_80_ok {xs : Option (List Int32)} {D : Nat} (hD : 12 ≤ D) {W : Option Nat → Option Nat → Option Nat → Int32 → Int32 → Int32 → gx_H → Option gx_H} (hW : ∀ (l0 : Option Nat) (l1 : Option Nat) (l2 : Option Nat) (l3 : Int32) (l4 : Int32) (l5 : Int32) (h : gx_H) (r : gx_H), W l0 l1 l2 l3 l4 l5 h = some r → gv_V xs D 78 0 [(0, gv_u l0), (1, gv_u l1), (2, gv_u l2), (3, .int l3), (4, .int l4), (5, .int l5)] [] h (.returned none) r) {l0 : Option Nat} {h : gx_H} {r : gx_H} (e : cW_writeRecord_80 W l0 h = some r) : gv_V xs (D + 2) 84 80 [(0, gv_u l0)] [] h (.returned none) r := by
  unfold cW_writeRecord_80 at e
  refine gv_rldn (pc' := 81) rfl rfl rfl ?_
  refine gv_ic (pc' := 82) (x := 0) rfl rfl rfl ?_
  obtain ⟨i1, qi1, e⟩ := gv_bind e
  obtain ⟨h3, qv2, e⟩ := gv_bind e
  refine gv_vS (jc := 77) (n := 1) (rest := []) (stk := []) (pc' := 85) rfl rfl rfl rfl rfl rfl rfl rfl rfl (gv_zR (gv_zI gv_z0)) rfl (gv_aR (gv_aI gv_a0)) (by omega) qi1 (cW_writeByte_ok qv2) rfl rfl ?_
  cases e
  exact gv_retV rfl rfl
def cW_writeRecord_74 (W : Option Nat → Option Nat → Option Nat → Int32 → Int32 → Int32 → gx_H → Option gx_H) (rec31 : Option Nat → Option Nat → Option Nat → Option Nat → Int32 → Int32 → Option Nat → Int32 → gx_H → Option gx_H) (l0 : Option Nat) (l1 : Option Nat) (l2 : Option Nat) (l3 : Option Nat) (l4 : Int32) (l5 : Int32) (l6 : Option Nat) (l7 : Int32) (h : gx_H) : Option gx_H :=
  rec31 l0 l1 l2 l3 l4 l5 l6 (l7 + 1) h
theorem cW_writeRecord_74_ok {xs : Option (List Int32)} {D : Nat} (hD : 12 ≤ D) {W : Option Nat → Option Nat → Option Nat → Int32 → Int32 → Int32 → gx_H → Option gx_H} (hW : ∀ (l0 : Option Nat) (l1 : Option Nat) (l2 : Option Nat) (l3 : Int32) (l4 : Int32) (l5 : Int32) (h : gx_H) (r : gx_H), W l0 l1 l2 l3 l4 l5 h = some r → gv_V xs D 78 0 [(0, gv_u l0), (1, gv_u l1), (2, gv_u l2), (3, .int l3), (4, .int l4), (5, .int l5)] [] h (.returned none) r) {rec31 : Option Nat → Option Nat → Option Nat → Option Nat → Int32 → Int32 → Option Nat → Int32 → gx_H → Option gx_H} (hrec31 : ∀ (l0 : Option Nat) (l1 : Option Nat) (l2 : Option Nat) (l3 : Option Nat) (l4 : Int32) (l5 : Int32) (l6 : Option Nat) (l7 : Int32) (h : gx_H) (r : gx_H), rec31 l0 l1 l2 l3 l4 l5 l6 l7 h = some r → gv_V xs (D + 2) 84 31 [(0, gv_u l0), (1, gv_u l1), (2, gv_u l2), (3, gv_u l3), (4, .int l4), (5, .int l5), (6, gv_u l6), (7, .int l7)] [] h (.returned none) r) {l0 : Option Nat} {l1 : Option Nat} {l2 : Option Nat} {l3 : Option Nat} {l4 : Int32} {l5 : Int32} {l6 : Option Nat} {l7 : Int32} {h : gx_H} {r : gx_H} (e : cW_writeRecord_74 W rec31 l0 l1 l2 l3 l4 l5 l6 l7 h = some r) : gv_V xs (D + 2) 84 74 [(0, gv_u l0), (1, gv_u l1), (2, gv_u l2), (3, gv_u l3), (4, .int l4), (5, .int l5), (6, gv_u l6), (7, .int l7)] [] h (.returned none) r := by
  unfold cW_writeRecord_74 at e
  refine gv_inc (pc' := 77) (y := 1) rfl rfl rfl rfl (gv_Cr rfl) rfl ?_
  refine gv_goto (pc' := 31) rfl rfl ?_
  exact gv_weak (hrec31 _ _ _ _ _ _ _ _ _ _ e) (gv_S1 rfl (gv_S1 rfl (gv_S1 rfl (gv_S1 rfl (gv_S1 rfl (gv_S1 rfl (gv_S1 rfl (gv_S1 rfl gv_S0))))))))
def cW_writeRecord_31 (W : Option Nat → Option Nat → Option Nat → Int32 → Int32 → Int32 → gx_H → Option gx_H) : Nat → Option Nat → Option Nat → Option Nat → Option Nat → Int32 → Int32 → Option Nat → Int32 → gx_H → Option gx_H
  | 0, _, _, _, _, _, _, _, _, _ => none
  | n + 1, l0, l1, l2, l3, l4, l5, l6, l7, h =>
    if l7 < l5 then (
      (gv_gI h l0 5 4).bind fun v2 =>
      if v2 = 0 then (
        (gv_lI h l6 l7).bind fun v4 =>
        (gv_is h l3 2).bind fun i5 =>
        (cT_indexOfKey l3 (4 : Int32) v4 h).bind fun v6 =>
        if v6 = (-1 : Int32) then (
          cW_writeRecord_74 W (cW_writeRecord_31 W n) l0 l1 l2 l3 l4 l5 l6 l7 h) else
        (gv_is h l0 5).bind fun i8 =>
        (cW_writeProperty W l0 l1 l2 l3 v6 l4 h).bind fun h10 =>
        cW_writeRecord_74 W (cW_writeRecord_31 W n) l0 l1 l2 l3 l4 l5 l6 l7 h10) else
      cW_writeRecord_80 W l0 h) else
    cW_writeRecord_80 W l0 h
theorem cW_writeRecord_31_ok {xs : Option (List Int32)} {D : Nat} (hD : 12 ≤ D) {W : Option Nat → Option Nat → Option Nat → Int32 → Int32 → Int32 → gx_H → Option gx_H} (hW : ∀ (l0 : Option Nat) (l1 : Option Nat) (l2 : Option Nat) (l3 : Int32) (l4 : Int32) (l5 : Int32) (h : gx_H) (r : gx_H), W l0 l1 l2 l3 l4 l5 h = some r → gv_V xs D 78 0 [(0, gv_u l0), (1, gv_u l1), (2, gv_u l2), (3, .int l3), (4, .int l4), (5, .int l5)] [] h (.returned none) r) : ∀ (n : Nat) (l0 : Option Nat) (l1 : Option Nat) (l2 : Option Nat) (l3 : Option Nat) (l4 : Int32) (l5 : Int32) (l6 : Option Nat) (l7 : Int32) (h : gx_H) (r : gx_H), cW_writeRecord_31 W n l0 l1 l2 l3 l4 l5 l6 l7 h = some r → gv_V xs (D + 2) 84 31 [(0, gv_u l0), (1, gv_u l1), (2, gv_u l2), (3, gv_u l3), (4, .int l4), (5, .int l5), (6, gv_u l6), (7, .int l7)] [] h (.returned none) r := by
  intro n
  induction n with
  | zero => intro l0 l1 l2 l3 l4 l5 l6 l7 h r e; cases e
  | succ n ih =>
    intro l0 l1 l2 l3 l4 l5 l6 l7 h r e
    rw [cW_writeRecord_31] at e
    refine gv_ild (pc' := 33) rfl rfl rfl ?_
    refine gv_ild (pc' := 35) rfl rfl rfl ?_
    by_cases c1 : l7 < l5
    · rw [if_pos c1] at e
      refine gv_cmF (pc' := 38) rfl (gv_geF2 c1) rfl rfl ?_
      refine gv_rldn (pc' := 39) rfl rfl rfl ?_
      obtain ⟨v2, qv2, e⟩ := gv_bind e
      refine gv_fI (pc' := 42) rfl rfl qv2 rfl ?_
      by_cases c3 : v2 = 0
      · rw [if_pos c3] at e
        refine gv_ifF (pc' := 45) rfl (gv_neF c3) rfl rfl ?_
        refine gv_rldn (pc' := 46) rfl rfl rfl ?_
        refine gv_ic (pc' := 47) (x := 4) rfl rfl rfl ?_
        refine gv_rld (pc' := 49) rfl rfl rfl ?_
        refine gv_ild (pc' := 51) rfl rfl rfl ?_
        obtain ⟨v4, qv4, e⟩ := gv_bind e
        refine gv_iald (pc' := 52) rfl qv4 rfl ?_
        obtain ⟨i5, qi5, e⟩ := gv_bind e
        obtain ⟨v6, qv6, e⟩ := gv_bind e
        refine gv_vS (jc := 47) (n := 2) (rest := []) (stk := [.int v6]) (pc' := 55) rfl rfl rfl rfl rfl rfl rfl rfl rfl (gv_zR (gv_zI (gv_zI gv_z0))) rfl (gv_aR (gv_aI (gv_aI gv_a0))) (by omega) qi5 (cT_indexOfKey_ok qv6) rfl rfl ?_
        refine gv_ist (pc' := 57) rfl rfl (gv_Ci rfl) rfl ?_
        refine gv_ild (pc' := 59) rfl rfl rfl ?_
        refine gv_ic (pc' := 60) (x := -1) rfl rfl rfl ?_
        by_cases c7 : v6 = (-1 : Int32)
        · rw [if_pos c7] at e
          refine gv_cmT (pc' := 74) rfl (gv_eqT2 c7) rfl ?_
          exact gv_weak (cW_writeRecord_74_ok hD hW ih e) (gv_S1 rfl (gv_S1 rfl (gv_S1 rfl (gv_S1 rfl (gv_S1 rfl (gv_S1 rfl (gv_S1 rfl (gv_S1 rfl gv_S0))))))))
        rw [if_neg c7] at e
        refine gv_cmF (pc' := 63) rfl (gv_eqF2 c7) rfl rfl ?_
        refine gv_rldn (pc' := 64) rfl rfl rfl ?_
        refine gv_rldn (pc' := 65) rfl rfl rfl ?_
        refine gv_rldn (pc' := 66) rfl rfl rfl ?_
        refine gv_rldn (pc' := 67) rfl rfl rfl ?_
        refine gv_ild (pc' := 69) rfl rfl rfl ?_
        refine gv_ild (pc' := 71) rfl rfl rfl ?_
        obtain ⟨i8, qi8, e⟩ := gv_bind e
        obtain ⟨h10, qv9, e⟩ := gv_bind e
        refine gv_vS (jc := 85) (n := 5) (rest := []) (stk := []) (pc' := 74) rfl rfl rfl rfl rfl rfl rfl rfl rfl (gv_zR (gv_zR (gv_zR (gv_zR (gv_zI (gv_zI gv_z0)))))) rfl (gv_aR (gv_aR (gv_aR (gv_aR (gv_aI (gv_aI gv_a0)))))) (by omega) qi8 (cW_writeProperty_ok hD hW qv9) rfl rfl ?_
        exact gv_weak (cW_writeRecord_74_ok hD hW ih e) (gv_S1 rfl (gv_S1 rfl (gv_S1 rfl (gv_S1 rfl (gv_S1 rfl (gv_S1 rfl (gv_S1 rfl (gv_S1 rfl gv_S0))))))))
      rw [if_neg c3] at e
      refine gv_ifT (pc' := 80) rfl (gv_neT c3) rfl ?_
      exact gv_weak (cW_writeRecord_80_ok hD hW e) (gv_S1 rfl gv_S0)
    rw [if_neg c1] at e
    refine gv_cmT (pc' := 80) rfl (gv_geT2 c1) rfl ?_
    exact gv_weak (cW_writeRecord_80_ok hD hW e) (gv_S1 rfl gv_S0)
def cW_writeRecord (W : Option Nat → Option Nat → Option Nat → Int32 → Int32 → Int32 → gx_H → Option gx_H) (l0 : Option Nat) (l1 : Option Nat) (l2 : Option Nat) (l3 : Option Nat) (l4 : Int32) (h : gx_H) : Option gx_H :=
  (gv_gI h l3 2 5).bind fun v1 =>
  (gv_gR h l0 5 3).bind fun v2 =>
  (gv_lA h v2 l4).bind fun v3 =>
  (gv_gR h l3 2 1).bind fun v4 =>
  (gv_cp h v4 (0 : Int32) v3 (0 : Int32) v1).bind fun h5 =>
  cW_writeRecord_31 W 1000000000000000 l0 l1 l2 l3 l4 v1 v3 (0 : Int32) h5
theorem cW_writeRecord_ok {xs : Option (List Int32)} {D : Nat} (hD : 12 ≤ D) {W : Option Nat → Option Nat → Option Nat → Int32 → Int32 → Int32 → gx_H → Option gx_H} (hW : ∀ (l0 : Option Nat) (l1 : Option Nat) (l2 : Option Nat) (l3 : Int32) (l4 : Int32) (l5 : Int32) (h : gx_H) (r : gx_H), W l0 l1 l2 l3 l4 l5 h = some r → gv_V xs D 78 0 [(0, gv_u l0), (1, gv_u l1), (2, gv_u l2), (3, .int l3), (4, .int l4), (5, .int l5)] [] h (.returned none) r) {l0 : Option Nat} {l1 : Option Nat} {l2 : Option Nat} {l3 : Option Nat} {l4 : Int32} {h : gx_H} {r : gx_H} (e : cW_writeRecord W l0 l1 l2 l3 l4 h = some r) : gv_V xs (D + 2) 84 0 [(0, gv_u l0), (1, gv_u l1), (2, gv_u l2), (3, gv_u l3), (4, .int l4)] [] h (.returned none) r := by
  unfold cW_writeRecord at e
  refine gv_rldn (pc' := 1) rfl rfl rfl ?_
  obtain ⟨v1, qv1, e⟩ := gv_bind e
  refine gv_fI (pc' := 4) rfl rfl qv1 rfl ?_
  refine gv_ist (pc' := 6) rfl rfl (gv_Ci rfl) rfl ?_
  refine gv_rldn (pc' := 7) rfl rfl rfl ?_
  obtain ⟨v2, qv2, e⟩ := gv_bind e
  refine gv_fR (pc' := 10) rfl rfl qv2 rfl ?_
  refine gv_ild (pc' := 12) rfl rfl rfl ?_
  obtain ⟨v3, qv3, e⟩ := gv_bind e
  refine gv_aaA (pc' := 13) rfl qv3 rfl ?_
  refine gv_rst (pc' := 15) rfl rfl (gv_Ci rfl) rfl ?_
  refine gv_rldn (pc' := 16) rfl rfl rfl ?_
  obtain ⟨v4, qv4, e⟩ := gv_bind e
  refine gv_fR (pc' := 19) rfl rfl qv4 rfl ?_
  refine gv_ic (pc' := 20) (x := 0) rfl rfl rfl ?_
  refine gv_rld (pc' := 22) rfl rfl rfl ?_
  refine gv_ic (pc' := 23) (x := 0) rfl rfl rfl ?_
  refine gv_ild (pc' := 25) rfl rfl rfl ?_
  obtain ⟨h5, qh5, e⟩ := gv_bind e
  refine gv_acp (pc' := 28) rfl rfl rfl qh5 rfl ?_
  refine gv_ic (pc' := 29) (x := 0) rfl rfl rfl ?_
  refine gv_ist (pc' := 31) rfl rfl (gv_Cr rfl) rfl ?_
  exact gv_weak (cW_writeRecord_31_ok hD hW 1000000000000000 _ _ _ _ _ _ _ _ _ _ e) (gv_S1 rfl (gv_S1 rfl (gv_S1 rfl (gv_S1 rfl (gv_S1 rfl (gv_S1 rfl (gv_S1 rfl (gv_S1 rfl gv_S0))))))))
def cW_writeList_68 (W : Option Nat → Option Nat → Option Nat → Int32 → Int32 → Int32 → gx_H → Option gx_H) (rec11 : Option Nat → Option Nat → Option Nat → Option Nat → Int32 → Int32 → gx_H → Option gx_H) (l0 : Option Nat) (l1 : Option Nat) (l2 : Option Nat) (l3 : Option Nat) (l4 : Int32) (l5 : Int32) (h : gx_H) : Option gx_H :=
  rec11 l0 l1 l2 l3 l4 (l5 + 1) h
theorem cW_writeList_68_ok {xs : Option (List Int32)} {D : Nat} (hD : 12 ≤ D) {W : Option Nat → Option Nat → Option Nat → Int32 → Int32 → Int32 → gx_H → Option gx_H} (hW : ∀ (l0 : Option Nat) (l1 : Option Nat) (l2 : Option Nat) (l3 : Int32) (l4 : Int32) (l5 : Int32) (h : gx_H) (r : gx_H), W l0 l1 l2 l3 l4 l5 h = some r → gv_V xs D 78 0 [(0, gv_u l0), (1, gv_u l1), (2, gv_u l2), (3, .int l3), (4, .int l4), (5, .int l5)] [] h (.returned none) r) {rec11 : Option Nat → Option Nat → Option Nat → Option Nat → Int32 → Int32 → gx_H → Option gx_H} (hrec11 : ∀ (l0 : Option Nat) (l1 : Option Nat) (l2 : Option Nat) (l3 : Option Nat) (l4 : Int32) (l5 : Int32) (h : gx_H) (r : gx_H), rec11 l0 l1 l2 l3 l4 l5 h = some r → gv_V xs (D + 1) 90 11 [(0, gv_u l0), (1, gv_u l1), (2, gv_u l2), (3, gv_u l3), (4, .int l4), (5, .int l5)] [] h (.returned none) r) {l0 : Option Nat} {l1 : Option Nat} {l2 : Option Nat} {l3 : Option Nat} {l4 : Int32} {l5 : Int32} {h : gx_H} {r : gx_H} (e : cW_writeList_68 W rec11 l0 l1 l2 l3 l4 l5 h = some r) : gv_V xs (D + 1) 90 68 [(0, gv_u l0), (1, gv_u l1), (2, gv_u l2), (3, gv_u l3), (4, .int l4), (5, .int l5)] [] h (.returned none) r := by
  unfold cW_writeList_68 at e
  refine gv_inc (pc' := 71) (y := 1) rfl rfl rfl rfl (gv_Ci rfl) rfl ?_
  refine gv_goto (pc' := 11) rfl rfl ?_
  exact gv_weak (hrec11 _ _ _ _ _ _ _ _ e) (gv_S1 rfl (gv_S1 rfl (gv_S1 rfl (gv_S1 rfl (gv_S1 rfl (gv_S1 rfl gv_S0))))))
def cW_writeList_11 (W : Option Nat → Option Nat → Option Nat → Int32 → Int32 → Int32 → gx_H → Option gx_H) : Nat → Option Nat → Option Nat → Option Nat → Option Nat → Int32 → Int32 → gx_H → Option gx_H
  | 0, _, _, _, _, _, _, _ => none
  | n + 1, l0, l1, l2, l3, l4, l5, h =>
    (gv_gI h l3 2 5).bind fun v1 =>
    if l5 < v1 then (
      (gv_gR h l3 2 2).bind fun v3 =>
      (gv_lI h v3 l5).bind fun v4 =>
      if v4 = (-1 : Int32) then (
        (gv_is h l0 5).bind fun i6 =>
        (cW_writeByte l0 (0 : Int32) h).bind fun h8 =>
        cW_writeList_68 W (cW_writeList_11 W n) l0 l1 l2 l3 l4 l5 h8) else
      (gv_is h l0 5).bind fun i9 =>
      (cW_writeByte l0 (1 : Int32) h).bind fun h11 =>
      (gv_gR h11 l3 2 2).bind fun v12 =>
      (gv_lI h11 v12 l5).bind fun v13 =>
      (gv_gR h11 l3 2 3).bind fun v14 =>
      (gv_lI h11 v14 l5).bind fun v15 =>
      (gv_is h11 l0 5).bind fun i16 =>
      (W l0 l1 l2 v13 v15 (l4 + (1 : Int32)) h11).bind fun h18 =>
      cW_writeList_68 W (cW_writeList_11 W n) l0 l1 l2 l3 l4 l5 h18) else
    some h
theorem cW_writeList_11_ok {xs : Option (List Int32)} {D : Nat} (hD : 12 ≤ D) {W : Option Nat → Option Nat → Option Nat → Int32 → Int32 → Int32 → gx_H → Option gx_H} (hW : ∀ (l0 : Option Nat) (l1 : Option Nat) (l2 : Option Nat) (l3 : Int32) (l4 : Int32) (l5 : Int32) (h : gx_H) (r : gx_H), W l0 l1 l2 l3 l4 l5 h = some r → gv_V xs D 78 0 [(0, gv_u l0), (1, gv_u l1), (2, gv_u l2), (3, .int l3), (4, .int l4), (5, .int l5)] [] h (.returned none) r) : ∀ (n : Nat) (l0 : Option Nat) (l1 : Option Nat) (l2 : Option Nat) (l3 : Option Nat) (l4 : Int32) (l5 : Int32) (h : gx_H) (r : gx_H), cW_writeList_11 W n l0 l1 l2 l3 l4 l5 h = some r → gv_V xs (D + 1) 90 11 [(0, gv_u l0), (1, gv_u l1), (2, gv_u l2), (3, gv_u l3), (4, .int l4), (5, .int l5)] [] h (.returned none) r := by
  intro n
  induction n with
  | zero => intro l0 l1 l2 l3 l4 l5 h r e; cases e
  | succ n ih =>
    intro l0 l1 l2 l3 l4 l5 h r e
    rw [cW_writeList_11] at e
    refine gv_ild (pc' := 13) rfl rfl rfl ?_
    refine gv_rldn (pc' := 14) rfl rfl rfl ?_
    obtain ⟨v1, qv1, e⟩ := gv_bind e
    refine gv_fI (pc' := 17) rfl rfl qv1 rfl ?_
    by_cases c2 : l5 < v1
    · rw [if_pos c2] at e
      refine gv_cmF (pc' := 20) rfl (gv_geF2 c2) rfl rfl ?_
      refine gv_rldn (pc' := 21) rfl rfl rfl ?_
      obtain ⟨v3, qv3, e⟩ := gv_bind e
      refine gv_fR (pc' := 24) rfl rfl qv3 rfl ?_
      refine gv_ild (pc' := 26) rfl rfl rfl ?_
      obtain ⟨v4, qv4, e⟩ := gv_bind e
      refine gv_iald (pc' := 27) rfl qv4 rfl ?_
      refine gv_ic (pc' := 28) (x := -1) rfl rfl rfl ?_
      by_cases c5 : v4 = (-1 : Int32)
      · rw [if_pos c5] at e
        refine gv_cmF (pc' := 31) rfl (gv_neF2 c5) rfl rfl ?_
        refine gv_rldn (pc' := 32) rfl rfl rfl ?_
        refine gv_ic (pc' := 33) (x := 0) rfl rfl rfl ?_
        obtain ⟨i6, qi6, e⟩ := gv_bind e
        obtain ⟨h8, qv7, e⟩ := gv_bind e
        refine gv_vS (jc := 77) (n := 1) (rest := []) (stk := []) (pc' := 36) rfl rfl rfl rfl rfl rfl rfl rfl rfl (gv_zR (gv_zI gv_z0)) rfl (gv_aR (gv_aI gv_a0)) (by omega) qi6 (cW_writeByte_ok qv7) rfl rfl ?_
        refine gv_goto (pc' := 68) rfl rfl ?_
        exact gv_weak (cW_writeList_68_ok hD hW ih e) (gv_S1 rfl (gv_S1 rfl (gv_S1 rfl (gv_S1 rfl (gv_S1 rfl (gv_S1 rfl gv_S0))))))
      rw [if_neg c5] at e
      refine gv_cmT (pc' := 39) rfl (gv_neT2 c5) rfl ?_
      refine gv_rldn (pc' := 40) rfl rfl rfl ?_
      refine gv_ic (pc' := 41) (x := 1) rfl rfl rfl ?_
      obtain ⟨i9, qi9, e⟩ := gv_bind e
      obtain ⟨h11, qv10, e⟩ := gv_bind e
      refine gv_vS (jc := 77) (n := 1) (rest := []) (stk := []) (pc' := 44) rfl rfl rfl rfl rfl rfl rfl rfl rfl (gv_zR (gv_zI gv_z0)) rfl (gv_aR (gv_aI gv_a0)) (by omega) qi9 (cW_writeByte_ok qv10) rfl rfl ?_
      refine gv_rldn (pc' := 45) rfl rfl rfl ?_
      refine gv_rldn (pc' := 46) rfl rfl rfl ?_
      refine gv_rldn (pc' := 47) rfl rfl rfl ?_
      refine gv_rldn (pc' := 48) rfl rfl rfl ?_
      obtain ⟨v12, qv12, e⟩ := gv_bind e
      refine gv_fR (pc' := 51) rfl rfl qv12 rfl ?_
      refine gv_ild (pc' := 53) rfl rfl rfl ?_
      obtain ⟨v13, qv13, e⟩ := gv_bind e
      refine gv_iald (pc' := 54) rfl qv13 rfl ?_
      refine gv_rldn (pc' := 55) rfl rfl rfl ?_
      obtain ⟨v14, qv14, e⟩ := gv_bind e
      refine gv_fR (pc' := 58) rfl rfl qv14 rfl ?_
      refine gv_ild (pc' := 60) rfl rfl rfl ?_
      obtain ⟨v15, qv15, e⟩ := gv_bind e
      refine gv_iald (pc' := 61) rfl qv15 rfl ?_
      refine gv_ild (pc' := 63) rfl rfl rfl ?_
      refine gv_ic (pc' := 64) (x := 1) rfl rfl rfl ?_
      refine gv_iadd (pc' := 65) rfl rfl ?_
      obtain ⟨i16, qi16, e⟩ := gv_bind e
      obtain ⟨h18, qv17, e⟩ := gv_bind e
      refine gv_vS (jc := 78) (n := 5) (rest := []) (stk := []) (pc' := 68) rfl rfl rfl rfl rfl rfl rfl rfl rfl (gv_zR (gv_zR (gv_zR (gv_zI (gv_zI (gv_zI gv_z0)))))) rfl (gv_aR (gv_aR (gv_aR (gv_aI (gv_aI (gv_aI gv_a0)))))) (by omega) qi16 (hW _ _ _ _ _ _ _ _ qv17) rfl rfl ?_
      exact gv_weak (cW_writeList_68_ok hD hW ih e) (gv_S1 rfl (gv_S1 rfl (gv_S1 rfl (gv_S1 rfl (gv_S1 rfl (gv_S1 rfl gv_S0))))))
    rw [if_neg c2] at e
    refine gv_cmT (pc' := 74) rfl (gv_geT2 c2) rfl ?_
    cases e
    exact gv_retV rfl rfl
def cW_writeList (W : Option Nat → Option Nat → Option Nat → Int32 → Int32 → Int32 → gx_H → Option gx_H) (l0 : Option Nat) (l1 : Option Nat) (l2 : Option Nat) (l3 : Option Nat) (l4 : Int32) (h : gx_H) : Option gx_H :=
  (gv_gI h l3 2 5).bind fun v1 =>
  (gv_is h l0 5).bind fun i2 =>
  (cW_writeByte l0 v1 h).bind fun h4 =>
  cW_writeList_11 W 1000000000000000 l0 l1 l2 l3 l4 (0 : Int32) h4
theorem cW_writeList_ok {xs : Option (List Int32)} {D : Nat} (hD : 12 ≤ D) {W : Option Nat → Option Nat → Option Nat → Int32 → Int32 → Int32 → gx_H → Option gx_H} (hW : ∀ (l0 : Option Nat) (l1 : Option Nat) (l2 : Option Nat) (l3 : Int32) (l4 : Int32) (l5 : Int32) (h : gx_H) (r : gx_H), W l0 l1 l2 l3 l4 l5 h = some r → gv_V xs D 78 0 [(0, gv_u l0), (1, gv_u l1), (2, gv_u l2), (3, .int l3), (4, .int l4), (5, .int l5)] [] h (.returned none) r) {l0 : Option Nat} {l1 : Option Nat} {l2 : Option Nat} {l3 : Option Nat} {l4 : Int32} {h : gx_H} {r : gx_H} (e : cW_writeList W l0 l1 l2 l3 l4 h = some r) : gv_V xs (D + 1) 90 0 [(0, gv_u l0), (1, gv_u l1), (2, gv_u l2), (3, gv_u l3), (4, .int l4)] [] h (.returned none) r := by
  unfold cW_writeList at e
  refine gv_rldn (pc' := 1) rfl rfl rfl ?_
  refine gv_rldn (pc' := 2) rfl rfl rfl ?_
  obtain ⟨v1, qv1, e⟩ := gv_bind e
  refine gv_fI (pc' := 5) rfl rfl qv1 rfl ?_
  obtain ⟨i2, qi2, e⟩ := gv_bind e
  obtain ⟨h4, qv3, e⟩ := gv_bind e
  refine gv_vS (jc := 77) (n := 1) (rest := []) (stk := []) (pc' := 8) rfl rfl rfl rfl rfl rfl rfl rfl rfl (gv_zR (gv_zI gv_z0)) rfl (gv_aR (gv_aI gv_a0)) (by omega) qi2 (cW_writeByte_ok qv3) rfl rfl ?_
  refine gv_ic (pc' := 9) (x := 0) rfl rfl rfl ?_
  refine gv_ist (pc' := 11) rfl rfl (gv_Ci rfl) rfl ?_
  exact gv_weak (cW_writeList_11_ok hD hW 1000000000000000 _ _ _ _ _ _ _ _ e) (gv_S1 rfl (gv_S1 rfl (gv_S1 rfl (gv_S1 rfl (gv_S1 rfl (gv_S1 rfl gv_S0))))))
def cW_writeMap_11 (W : Option Nat → Option Nat → Option Nat → Int32 → Int32 → Int32 → gx_H → Option gx_H) : Nat → Option Nat → Option Nat → Option Nat → Option Nat → Int32 → Int32 → gx_H → Option gx_H
  | 0, _, _, _, _, _, _, _ => none
  | n + 1, l0, l1, l2, l3, l4, l5, h =>
    (gv_gI h l3 2 5).bind fun v1 =>
    if l5 < v1 then (
      (gv_gR h l3 2 0).bind fun v3 =>
      (gv_lI h v3 l5).bind fun v4 =>
      (gv_gR h l3 2 1).bind fun v5 =>
      (gv_lI h v5 l5).bind fun v6 =>
      (gv_is h l0 5).bind fun i7 =>
      (W l0 l1 l2 v4 v6 (l4 + (1 : Int32)) h).bind fun h9 =>
      (gv_gR h9 l3 2 2).bind fun v10 =>
      (gv_lI h9 v10 l5).bind fun v11 =>
      (gv_gR h9 l3 2 3).bind fun v12 =>
      (gv_lI h9 v12 l5).bind fun v13 =>
      (gv_is h9 l0 5).bind fun i14 =>
      (W l0 l1 l2 v11 v13 (l4 + (1 : Int32)) h9).bind fun h16 =>
      cW_writeMap_11 W n l0 l1 l2 l3 l4 (l5 + 1) h16) else
    some h
theorem cW_writeMap_11_ok {xs : Option (List Int32)} {D : Nat} (hD : 12 ≤ D) {W : Option Nat → Option Nat → Option Nat → Int32 → Int32 → Int32 → gx_H → Option gx_H} (hW : ∀ (l0 : Option Nat) (l1 : Option Nat) (l2 : Option Nat) (l3 : Int32) (l4 : Int32) (l5 : Int32) (h : gx_H) (r : gx_H), W l0 l1 l2 l3 l4 l5 h = some r → gv_V xs D 78 0 [(0, gv_u l0), (1, gv_u l1), (2, gv_u l2), (3, .int l3), (4, .int l4), (5, .int l5)] [] h (.returned none) r) : ∀ (n : Nat) (l0 : Option Nat) (l1 : Option Nat) (l2 : Option Nat) (l3 : Option Nat) (l4 : Int32) (l5 : Int32) (h : gx_H) (r : gx_H), cW_writeMap_11 W n l0 l1 l2 l3 l4 l5 h = some r → gv_V xs (D + 1) 91 11 [(0, gv_u l0), (1, gv_u l1), (2, gv_u l2), (3, gv_u l3), (4, .int l4), (5, .int l5)] [] h (.returned none) r := by
  intro n
  induction n with
  | zero => intro l0 l1 l2 l3 l4 l5 h r e; cases e
  | succ n ih =>
    intro l0 l1 l2 l3 l4 l5 h r e
    rw [cW_writeMap_11] at e
    refine gv_ild (pc' := 13) rfl rfl rfl ?_
    refine gv_rldn (pc' := 14) rfl rfl rfl ?_
    obtain ⟨v1, qv1, e⟩ := gv_bind e
    refine gv_fI (pc' := 17) rfl rfl qv1 rfl ?_
    by_cases c2 : l5 < v1
    · rw [if_pos c2] at e
      refine gv_cmF (pc' := 20) rfl (gv_geF2 c2) rfl rfl ?_
      refine gv_rldn (pc' := 21) rfl rfl rfl ?_
      refine gv_rldn (pc' := 22) rfl rfl rfl ?_
      refine gv_rldn (pc' := 23) rfl rfl rfl ?_
      refine gv_rldn (pc' := 24) rfl rfl rfl ?_
      obtain ⟨v3, qv3, e⟩ := gv_bind e
      refine gv_fR (pc' := 27) rfl rfl qv3 rfl ?_
      refine gv_ild (pc' := 29) rfl rfl rfl ?_
      obtain ⟨v4, qv4, e⟩ := gv_bind e
      refine gv_iald (pc' := 30) rfl qv4 rfl ?_
      refine gv_rldn (pc' := 31) rfl rfl rfl ?_
      obtain ⟨v5, qv5, e⟩ := gv_bind e
      refine gv_fR (pc' := 34) rfl rfl qv5 rfl ?_
      refine gv_ild (pc' := 36) rfl rfl rfl ?_
      obtain ⟨v6, qv6, e⟩ := gv_bind e
      refine gv_iald (pc' := 37) rfl qv6 rfl ?_
      refine gv_ild (pc' := 39) rfl rfl rfl ?_
      refine gv_ic (pc' := 40) (x := 1) rfl rfl rfl ?_
      refine gv_iadd (pc' := 41) rfl rfl ?_
      obtain ⟨i7, qi7, e⟩ := gv_bind e
      obtain ⟨h9, qv8, e⟩ := gv_bind e
      refine gv_vS (jc := 78) (n := 5) (rest := []) (stk := []) (pc' := 44) rfl rfl rfl rfl rfl rfl rfl rfl rfl (gv_zR (gv_zR (gv_zR (gv_zI (gv_zI (gv_zI gv_z0)))))) rfl (gv_aR (gv_aR (gv_aR (gv_aI (gv_aI (gv_aI gv_a0)))))) (by omega) qi7 (hW _ _ _ _ _ _ _ _ qv8) rfl rfl ?_
      refine gv_rldn (pc' := 45) rfl rfl rfl ?_
      refine gv_rldn (pc' := 46) rfl rfl rfl ?_
      refine gv_rldn (pc' := 47) rfl rfl rfl ?_
      refine gv_rldn (pc' := 48) rfl rfl rfl ?_
      obtain ⟨v10, qv10, e⟩ := gv_bind e
      refine gv_fR (pc' := 51) rfl rfl qv10 rfl ?_
      refine gv_ild (pc' := 53) rfl rfl rfl ?_
      obtain ⟨v11, qv11, e⟩ := gv_bind e
      refine gv_iald (pc' := 54) rfl qv11 rfl ?_
      refine gv_rldn (pc' := 55) rfl rfl rfl ?_
      obtain ⟨v12, qv12, e⟩ := gv_bind e
      refine gv_fR (pc' := 58) rfl rfl qv12 rfl ?_
      refine gv_ild (pc' := 60) rfl rfl rfl ?_
      obtain ⟨v13, qv13, e⟩ := gv_bind e
      refine gv_iald (pc' := 61) rfl qv13 rfl ?_
      refine gv_ild (pc' := 63) rfl rfl rfl ?_
      refine gv_ic (pc' := 64) (x := 1) rfl rfl rfl ?_
      refine gv_iadd (pc' := 65) rfl rfl ?_
      obtain ⟨i14, qi14, e⟩ := gv_bind e
      obtain ⟨h16, qv15, e⟩ := gv_bind e
      refine gv_vS (jc := 78) (n := 5) (rest := []) (stk := []) (pc' := 68) rfl rfl rfl rfl rfl rfl rfl rfl rfl (gv_zR (gv_zR (gv_zR (gv_zI (gv_zI (gv_zI gv_z0)))))) rfl (gv_aR (gv_aR (gv_aR (gv_aI (gv_aI (gv_aI gv_a0)))))) (by omega) qi14 (hW _ _ _ _ _ _ _ _ qv15) rfl rfl ?_
      refine gv_inc (pc' := 71) (y := 1) rfl rfl rfl rfl (gv_Ci rfl) rfl ?_
      refine gv_goto (pc' := 11) rfl rfl ?_
      exact gv_weak (ih _ _ _ _ _ _ _ _ e) (gv_S1 rfl (gv_S1 rfl (gv_S1 rfl (gv_S1 rfl (gv_S1 rfl (gv_S1 rfl gv_S0))))))
    rw [if_neg c2] at e
    refine gv_cmT (pc' := 74) rfl (gv_geT2 c2) rfl ?_
    cases e
    exact gv_retV rfl rfl
def cW_writeMap (W : Option Nat → Option Nat → Option Nat → Int32 → Int32 → Int32 → gx_H → Option gx_H) (l0 : Option Nat) (l1 : Option Nat) (l2 : Option Nat) (l3 : Option Nat) (l4 : Int32) (h : gx_H) : Option gx_H :=
  (gv_gI h l3 2 5).bind fun v1 =>
  (gv_is h l0 5).bind fun i2 =>
  (cW_writeByte l0 v1 h).bind fun h4 =>
  cW_writeMap_11 W 1000000000000000 l0 l1 l2 l3 l4 (0 : Int32) h4
theorem cW_writeMap_ok {xs : Option (List Int32)} {D : Nat} (hD : 12 ≤ D) {W : Option Nat → Option Nat → Option Nat → Int32 → Int32 → Int32 → gx_H → Option gx_H} (hW : ∀ (l0 : Option Nat) (l1 : Option Nat) (l2 : Option Nat) (l3 : Int32) (l4 : Int32) (l5 : Int32) (h : gx_H) (r : gx_H), W l0 l1 l2 l3 l4 l5 h = some r → gv_V xs D 78 0 [(0, gv_u l0), (1, gv_u l1), (2, gv_u l2), (3, .int l3), (4, .int l4), (5, .int l5)] [] h (.returned none) r) {l0 : Option Nat} {l1 : Option Nat} {l2 : Option Nat} {l3 : Option Nat} {l4 : Int32} {h : gx_H} {r : gx_H} (e : cW_writeMap W l0 l1 l2 l3 l4 h = some r) : gv_V xs (D + 1) 91 0 [(0, gv_u l0), (1, gv_u l1), (2, gv_u l2), (3, gv_u l3), (4, .int l4)] [] h (.returned none) r := by
  unfold cW_writeMap at e
  refine gv_rldn (pc' := 1) rfl rfl rfl ?_
  refine gv_rldn (pc' := 2) rfl rfl rfl ?_
  obtain ⟨v1, qv1, e⟩ := gv_bind e
  refine gv_fI (pc' := 5) rfl rfl qv1 rfl ?_
  obtain ⟨i2, qi2, e⟩ := gv_bind e
  obtain ⟨h4, qv3, e⟩ := gv_bind e
  refine gv_vS (jc := 77) (n := 1) (rest := []) (stk := []) (pc' := 8) rfl rfl rfl rfl rfl rfl rfl rfl rfl (gv_zR (gv_zI gv_z0)) rfl (gv_aR (gv_aI gv_a0)) (by omega) qi2 (cW_writeByte_ok qv3) rfl rfl ?_
  refine gv_ic (pc' := 9) (x := 0) rfl rfl rfl ?_
  refine gv_ist (pc' := 11) rfl rfl (gv_Ci rfl) rfl ?_
  exact gv_weak (cW_writeMap_11_ok hD hW 1000000000000000 _ _ _ _ _ _ _ _ e) (gv_S1 rfl (gv_S1 rfl (gv_S1 rfl (gv_S1 rfl (gv_S1 rfl (gv_S1 rfl gv_S0))))))
def cW_writeSet_11 (W : Option Nat → Option Nat → Option Nat → Int32 → Int32 → Int32 → gx_H → Option gx_H) : Nat → Option Nat → Option Nat → Option Nat → Option Nat → Int32 → Int32 → gx_H → Option gx_H
  | 0, _, _, _, _, _, _, _ => none
  | n + 1, l0, l1, l2, l3, l4, l5, h =>
    (gv_gI h l3 2 5).bind fun v1 =>
    if l5 < v1 then (
      (gv_gR h l3 2 2).bind fun v3 =>
      (gv_lI h v3 l5).bind fun v4 =>
      (gv_gR h l3 2 3).bind fun v5 =>
      (gv_lI h v5 l5).bind fun v6 =>
      (gv_is h l0 5).bind fun i7 =>
      (W l0 l1 l2 v4 v6 (l4 + (1 : Int32)) h).bind fun h9 =>
      cW_writeSet_11 W n l0 l1 l2 l3 l4 (l5 + 1) h9) else
    some h
theorem cW_writeSet_11_ok {xs : Option (List Int32)} {D : Nat} (hD : 12 ≤ D) {W : Option Nat → Option Nat → Option Nat → Int32 → Int32 → Int32 → gx_H → Option gx_H} (hW : ∀ (l0 : Option Nat) (l1 : Option Nat) (l2 : Option Nat) (l3 : Int32) (l4 : Int32) (l5 : Int32) (h : gx_H) (r : gx_H), W l0 l1 l2 l3 l4 l5 h = some r → gv_V xs D 78 0 [(0, gv_u l0), (1, gv_u l1), (2, gv_u l2), (3, .int l3), (4, .int l4), (5, .int l5)] [] h (.returned none) r) : ∀ (n : Nat) (l0 : Option Nat) (l1 : Option Nat) (l2 : Option Nat) (l3 : Option Nat) (l4 : Int32) (l5 : Int32) (h : gx_H) (r : gx_H), cW_writeSet_11 W n l0 l1 l2 l3 l4 l5 h = some r → gv_V xs (D + 1) 92 11 [(0, gv_u l0), (1, gv_u l1), (2, gv_u l2), (3, gv_u l3), (4, .int l4), (5, .int l5)] [] h (.returned none) r := by
  intro n
  induction n with
  | zero => intro l0 l1 l2 l3 l4 l5 h r e; cases e
  | succ n ih =>
    intro l0 l1 l2 l3 l4 l5 h r e
    rw [cW_writeSet_11] at e
    refine gv_ild (pc' := 13) rfl rfl rfl ?_
    refine gv_rldn (pc' := 14) rfl rfl rfl ?_
    obtain ⟨v1, qv1, e⟩ := gv_bind e
    refine gv_fI (pc' := 17) rfl rfl qv1 rfl ?_
    by_cases c2 : l5 < v1
    · rw [if_pos c2] at e
      refine gv_cmF (pc' := 20) rfl (gv_geF2 c2) rfl rfl ?_
      refine gv_rldn (pc' := 21) rfl rfl rfl ?_
      refine gv_rldn (pc' := 22) rfl rfl rfl ?_
      refine gv_rldn (pc' := 23) rfl rfl rfl ?_
      refine gv_rldn (pc' := 24) rfl rfl rfl ?_
      obtain ⟨v3, qv3, e⟩ := gv_bind e
      refine gv_fR (pc' := 27) rfl rfl qv3 rfl ?_
      refine gv_ild (pc' := 29) rfl rfl rfl ?_
      obtain ⟨v4, qv4, e⟩ := gv_bind e
      refine gv_iald (pc' := 30) rfl qv4 rfl ?_
      refine gv_rldn (pc' := 31) rfl rfl rfl ?_
      obtain ⟨v5, qv5, e⟩ := gv_bind e
      refine gv_fR (pc' := 34) rfl rfl qv5 rfl ?_
      refine gv_ild (pc' := 36) rfl rfl rfl ?_
      obtain ⟨v6, qv6, e⟩ := gv_bind e
      refine gv_iald (pc' := 37) rfl qv6 rfl ?_
      refine gv_ild (pc' := 39) rfl rfl rfl ?_
      refine gv_ic (pc' := 40) (x := 1) rfl rfl rfl ?_
      refine gv_iadd (pc' := 41) rfl rfl ?_
      obtain ⟨i7, qi7, e⟩ := gv_bind e
      obtain ⟨h9, qv8, e⟩ := gv_bind e
      refine gv_vS (jc := 78) (n := 5) (rest := []) (stk := []) (pc' := 44) rfl rfl rfl rfl rfl rfl rfl rfl rfl (gv_zR (gv_zR (gv_zR (gv_zI (gv_zI (gv_zI gv_z0)))))) rfl (gv_aR (gv_aR (gv_aR (gv_aI (gv_aI (gv_aI gv_a0)))))) (by omega) qi7 (hW _ _ _ _ _ _ _ _ qv8) rfl rfl ?_
      refine gv_inc (pc' := 47) (y := 1) rfl rfl rfl rfl (gv_Ci rfl) rfl ?_
      refine gv_goto (pc' := 11) rfl rfl ?_
      exact gv_weak (ih _ _ _ _ _ _ _ _ e) (gv_S1 rfl (gv_S1 rfl (gv_S1 rfl (gv_S1 rfl (gv_S1 rfl (gv_S1 rfl gv_S0))))))
    rw [if_neg c2] at e
    refine gv_cmT (pc' := 50) rfl (gv_geT2 c2) rfl ?_
    cases e
    exact gv_retV rfl rfl
def cW_writeSet (W : Option Nat → Option Nat → Option Nat → Int32 → Int32 → Int32 → gx_H → Option gx_H) (l0 : Option Nat) (l1 : Option Nat) (l2 : Option Nat) (l3 : Option Nat) (l4 : Int32) (h : gx_H) : Option gx_H :=
  (gv_gI h l3 2 5).bind fun v1 =>
  (gv_is h l0 5).bind fun i2 =>
  (cW_writeByte l0 v1 h).bind fun h4 =>
  cW_writeSet_11 W 1000000000000000 l0 l1 l2 l3 l4 (0 : Int32) h4
theorem cW_writeSet_ok {xs : Option (List Int32)} {D : Nat} (hD : 12 ≤ D) {W : Option Nat → Option Nat → Option Nat → Int32 → Int32 → Int32 → gx_H → Option gx_H} (hW : ∀ (l0 : Option Nat) (l1 : Option Nat) (l2 : Option Nat) (l3 : Int32) (l4 : Int32) (l5 : Int32) (h : gx_H) (r : gx_H), W l0 l1 l2 l3 l4 l5 h = some r → gv_V xs D 78 0 [(0, gv_u l0), (1, gv_u l1), (2, gv_u l2), (3, .int l3), (4, .int l4), (5, .int l5)] [] h (.returned none) r) {l0 : Option Nat} {l1 : Option Nat} {l2 : Option Nat} {l3 : Option Nat} {l4 : Int32} {h : gx_H} {r : gx_H} (e : cW_writeSet W l0 l1 l2 l3 l4 h = some r) : gv_V xs (D + 1) 92 0 [(0, gv_u l0), (1, gv_u l1), (2, gv_u l2), (3, gv_u l3), (4, .int l4)] [] h (.returned none) r := by
  unfold cW_writeSet at e
  refine gv_rldn (pc' := 1) rfl rfl rfl ?_
  refine gv_rldn (pc' := 2) rfl rfl rfl ?_
  obtain ⟨v1, qv1, e⟩ := gv_bind e
  refine gv_fI (pc' := 5) rfl rfl qv1 rfl ?_
  obtain ⟨i2, qi2, e⟩ := gv_bind e
  obtain ⟨h4, qv3, e⟩ := gv_bind e
  refine gv_vS (jc := 77) (n := 1) (rest := []) (stk := []) (pc' := 8) rfl rfl rfl rfl rfl rfl rfl rfl rfl (gv_zR (gv_zI gv_z0)) rfl (gv_aR (gv_aI gv_a0)) (by omega) qi2 (cW_writeByte_ok qv3) rfl rfl ?_
  refine gv_ic (pc' := 9) (x := 0) rfl rfl rfl ?_
  refine gv_ist (pc' := 11) rfl rfl (gv_Ci rfl) rfl ?_
  exact gv_weak (cW_writeSet_11_ok hD hW 1000000000000000 _ _ _ _ _ _ _ _ e) (gv_S1 rfl (gv_S1 rfl (gv_S1 rfl (gv_S1 rfl (gv_S1 rfl (gv_S1 rfl gv_S0))))))
def cW_writeParts (W : Option Nat → Option Nat → Option Nat → Int32 → Int32 → Int32 → gx_H → Option gx_H) (l0 : Option Nat) (l1 : Option Nat) (l2 : Option Nat) (l3 : Option Nat) (l4 : Int32) (h : gx_H) : Option gx_H :=
  (gv_gI h l3 2 4).bind fun v1 =>
  (gv_is h l0 5).bind fun i2 =>
  (cW_writeByte l0 ((8 : Int32) + v1) h).bind fun h4 =>
  (gv_gI h4 l3 2 4).bind fun v5 =>
  if v5 = (0 : Int32) then (
    (gv_is h4 l0 5).bind fun i7 =>
    (cW_writeRecord W l0 l1 l2 l3 l4 h4).bind fun h9 =>
    some h9) else
  if v5 = (1 : Int32) then (
    (gv_is h4 l0 5).bind fun i11 =>
    (cW_writeList W l0 l1 l2 l3 l4 h4).bind fun h13 =>
    some h13) else
  if v5 = (2 : Int32) then (
    (gv_is h4 l0 5).bind fun i15 =>
    (cW_writeMap W l0 l1 l2 l3 l4 h4).bind fun h17 =>
    some h17) else
  if v5 = (3 : Int32) then (
    (gv_is h4 l0 5).bind fun i19 =>
    (cW_writeSet W l0 l1 l2 l3 l4 h4).bind fun h21 =>
    some h21) else
  if v5 = (4 : Int32) then (
    (gv_gJ h4 l3 2 10).bind fun v23 =>
    (gv_gI h4 l3 2 5).bind fun v24 =>
    (gv_is h4 l0 5).bind fun i25 =>
    (cW_writeWord l0 v23 v24 h4).bind fun h27 =>
    some h27) else
  (gv_gJ h4 l3 2 10).bind fun v28 =>
  (gv_is h4 l0 5).bind fun i29 =>
  (cW_writeZigzag l0 v28 h4).bind fun h31 =>
  some h31
theorem cW_writeParts_ok {xs : Option (List Int32)} {D : Nat} (hD : 12 ≤ D) {W : Option Nat → Option Nat → Option Nat → Int32 → Int32 → Int32 → gx_H → Option gx_H} (hW : ∀ (l0 : Option Nat) (l1 : Option Nat) (l2 : Option Nat) (l3 : Int32) (l4 : Int32) (l5 : Int32) (h : gx_H) (r : gx_H), W l0 l1 l2 l3 l4 l5 h = some r → gv_V xs D 78 0 [(0, gv_u l0), (1, gv_u l1), (2, gv_u l2), (3, .int l3), (4, .int l4), (5, .int l5)] [] h (.returned none) r) {l0 : Option Nat} {l1 : Option Nat} {l2 : Option Nat} {l3 : Option Nat} {l4 : Int32} {h : gx_H} {r : gx_H} (e : cW_writeParts W l0 l1 l2 l3 l4 h = some r) : gv_V xs (D + 3) 83 0 [(0, gv_u l0), (1, gv_u l1), (2, gv_u l2), (3, gv_u l3), (4, .int l4)] [] h (.returned none) r := by
  unfold cW_writeParts at e
  refine gv_rldn (pc' := 1) rfl rfl rfl ?_
  refine gv_bp (pc' := 3) (x := 8) rfl rfl rfl ?_
  refine gv_rldn (pc' := 4) rfl rfl rfl ?_
  obtain ⟨v1, qv1, e⟩ := gv_bind e
  refine gv_fI (pc' := 7) rfl rfl qv1 rfl ?_
  refine gv_iadd (pc' := 8) rfl rfl ?_
  obtain ⟨i2, qi2, e⟩ := gv_bind e
  obtain ⟨h4, qv3, e⟩ := gv_bind e
  refine gv_vS (jc := 77) (n := 1) (rest := []) (stk := []) (pc' := 11) rfl rfl rfl rfl rfl rfl rfl rfl rfl (gv_zR (gv_zI gv_z0)) rfl (gv_aR (gv_aI gv_a0)) (by omega) qi2 (cW_writeByte_ok qv3) rfl rfl ?_
  refine gv_rldn (pc' := 12) rfl rfl rfl ?_
  obtain ⟨v5, qv5, e⟩ := gv_bind e
  refine gv_fI (pc' := 15) rfl rfl qv5 rfl ?_
  by_cases c6 : v5 = (0 : Int32)
  · rw [if_pos c6] at e
    refine gv_sw (pc' := 48) (off := 33) rfl (by rw [c6]; rfl) rfl ?_
    refine gv_rldn (pc' := 49) rfl rfl rfl ?_
    refine gv_rldn (pc' := 50) rfl rfl rfl ?_
    refine gv_rldn (pc' := 51) rfl rfl rfl ?_
    refine gv_rldn (pc' := 52) rfl rfl rfl ?_
    refine gv_ild (pc' := 54) rfl rfl rfl ?_
    obtain ⟨i7, qi7, e⟩ := gv_bind e
    obtain ⟨h9, qv8, e⟩ := gv_bind e
    refine gv_vS (jc := 84) (n := 4) (rest := []) (stk := []) (pc' := 57) rfl rfl rfl rfl rfl rfl rfl rfl rfl (gv_zR (gv_zR (gv_zR (gv_zR (gv_zI gv_z0))))) rfl (gv_aR (gv_aR (gv_aR (gv_aR (gv_aI gv_a0))))) (by omega) qi7 (cW_writeRecord_ok hD hW qv8) rfl rfl ?_
    refine gv_goto (pc' := 119) rfl rfl ?_
    cases e
    exact gv_retV rfl rfl
  rw [if_neg c6] at e
  by_cases c10 : v5 = (1 : Int32)
  · rw [if_pos c10] at e
    refine gv_sw (pc' := 60) (off := 45) rfl (by rw [c10]; rfl) rfl ?_
    refine gv_rldn (pc' := 61) rfl rfl rfl ?_
    refine gv_rldn (pc' := 62) rfl rfl rfl ?_
    refine gv_rldn (pc' := 63) rfl rfl rfl ?_
    refine gv_rldn (pc' := 64) rfl rfl rfl ?_
    refine gv_ild (pc' := 66) rfl rfl rfl ?_
    obtain ⟨i11, qi11, e⟩ := gv_bind e
    obtain ⟨h13, qv12, e⟩ := gv_bind e
    refine gv_vS (jc := 90) (n := 4) (rest := []) (stk := []) (pc' := 69) rfl rfl rfl rfl rfl rfl rfl rfl rfl (gv_zR (gv_zR (gv_zR (gv_zR (gv_zI gv_z0))))) rfl (gv_aR (gv_aR (gv_aR (gv_aR (gv_aI gv_a0))))) (by omega) qi11 (cW_writeList_ok hD hW qv12) rfl rfl ?_
    refine gv_goto (pc' := 119) rfl rfl ?_
    cases e
    exact gv_retV rfl rfl
  rw [if_neg c10] at e
  by_cases c14 : v5 = (2 : Int32)
  · rw [if_pos c14] at e
    refine gv_sw (pc' := 72) (off := 57) rfl (by rw [c14]; rfl) rfl ?_
    refine gv_rldn (pc' := 73) rfl rfl rfl ?_
    refine gv_rldn (pc' := 74) rfl rfl rfl ?_
    refine gv_rldn (pc' := 75) rfl rfl rfl ?_
    refine gv_rldn (pc' := 76) rfl rfl rfl ?_
    refine gv_ild (pc' := 78) rfl rfl rfl ?_
    obtain ⟨i15, qi15, e⟩ := gv_bind e
    obtain ⟨h17, qv16, e⟩ := gv_bind e
    refine gv_vS (jc := 91) (n := 4) (rest := []) (stk := []) (pc' := 81) rfl rfl rfl rfl rfl rfl rfl rfl rfl (gv_zR (gv_zR (gv_zR (gv_zR (gv_zI gv_z0))))) rfl (gv_aR (gv_aR (gv_aR (gv_aR (gv_aI gv_a0))))) (by omega) qi15 (cW_writeMap_ok hD hW qv16) rfl rfl ?_
    refine gv_goto (pc' := 119) rfl rfl ?_
    cases e
    exact gv_retV rfl rfl
  rw [if_neg c14] at e
  by_cases c18 : v5 = (3 : Int32)
  · rw [if_pos c18] at e
    refine gv_sw (pc' := 84) (off := 69) rfl (by rw [c18]; rfl) rfl ?_
    refine gv_rldn (pc' := 85) rfl rfl rfl ?_
    refine gv_rldn (pc' := 86) rfl rfl rfl ?_
    refine gv_rldn (pc' := 87) rfl rfl rfl ?_
    refine gv_rldn (pc' := 88) rfl rfl rfl ?_
    refine gv_ild (pc' := 90) rfl rfl rfl ?_
    obtain ⟨i19, qi19, e⟩ := gv_bind e
    obtain ⟨h21, qv20, e⟩ := gv_bind e
    refine gv_vS (jc := 92) (n := 4) (rest := []) (stk := []) (pc' := 93) rfl rfl rfl rfl rfl rfl rfl rfl rfl (gv_zR (gv_zR (gv_zR (gv_zR (gv_zI gv_z0))))) rfl (gv_aR (gv_aR (gv_aR (gv_aR (gv_aI gv_a0))))) (by omega) qi19 (cW_writeSet_ok hD hW qv20) rfl rfl ?_
    refine gv_goto (pc' := 119) rfl rfl ?_
    cases e
    exact gv_retV rfl rfl
  rw [if_neg c18] at e
  by_cases c22 : v5 = (4 : Int32)
  · rw [if_pos c22] at e
    refine gv_sw (pc' := 96) (off := 81) rfl (by rw [c22]; rfl) rfl ?_
    refine gv_rldn (pc' := 97) rfl rfl rfl ?_
    refine gv_rldn (pc' := 98) rfl rfl rfl ?_
    obtain ⟨v23, qv23, e⟩ := gv_bind e
    refine gv_fJ (pc' := 101) rfl rfl qv23 rfl ?_
    refine gv_rldn (pc' := 102) rfl rfl rfl ?_
    obtain ⟨v24, qv24, e⟩ := gv_bind e
    refine gv_fI (pc' := 105) rfl rfl qv24 rfl ?_
    obtain ⟨i25, qi25, e⟩ := gv_bind e
    obtain ⟨h27, qv26, e⟩ := gv_bind e
    refine gv_vS (jc := 93) (n := 2) (rest := []) (stk := []) (pc' := 108) rfl rfl rfl rfl rfl rfl rfl rfl rfl (gv_zR (gv_zJ (gv_zI gv_z0))) rfl (gv_aR (gv_aJ (gv_aI gv_a0))) (by omega) qi25 (cW_writeWord_ok qv26) rfl rfl ?_
    refine gv_goto (pc' := 119) rfl rfl ?_
    cases e
    exact gv_retV rfl rfl
  rw [if_neg c22] at e
  refine gv_sw (pc' := 111) (off := 96) rfl (gv_tabd (gv_N1 c6 (gv_N1 c10 (gv_N1 c14 (gv_N1 c18 (gv_N1 c22 gv_N0))))) (by decide)) rfl ?_
  refine gv_rldn (pc' := 112) rfl rfl rfl ?_
  refine gv_rldn (pc' := 113) rfl rfl rfl ?_
  obtain ⟨v28, qv28, e⟩ := gv_bind e
  refine gv_fJ (pc' := 116) rfl rfl qv28 rfl ?_
  obtain ⟨i29, qi29, e⟩ := gv_bind e
  obtain ⟨h31, qv30, e⟩ := gv_bind e
  refine gv_vS (jc := 89) (n := 1) (rest := []) (stk := []) (pc' := 119) rfl rfl rfl rfl rfl rfl rfl rfl rfl (gv_zR (gv_zJ gv_z0)) rfl (gv_aR (gv_aJ gv_a0)) (by omega) qi29 (cW_writeZigzag_ok qv30) rfl rfl ?_
  cases e
  exact gv_retV rfl rfl
def cW_writeObject (W : Option Nat → Option Nat → Option Nat → Int32 → Int32 → Int32 → gx_H → Option gx_H) (l0 : Option Nat) (l1 : Option Nat) (l2 : Option Nat) (l3 : Int32) (l4 : Int32) (h : gx_H) : Option gx_H :=
  (gv_is h l1 1).bind fun i1 =>
  (cS_thingAt l1 l3 h).bind fun v2 =>
  if v2 = none then (
    (gv_pV h l0 5 4 (.int (1 : Int32))).bind fun h4 =>
    some h4) else
  (gv_gR h l0 5 1).bind fun v5 =>
  (gv_lI h v5 l3).bind fun v6 =>
  if v6 = (-1 : Int32) then (
    (gv_is h l2 4).bind fun i8 =>
    (cH_placeOf l2 l3 h).bind fun v9 =>
    if v9 = (-1 : Int32) then (
      (gv_gI h v2 2 4).bind fun v11 =>
      if v11 = (7 : Int32) then (
        (gv_pV h l0 5 4 (.int (1 : Int32))).bind fun h13 =>
        some h13) else
      (gv_gI h v2 2 6).bind fun v14 =>
      if v14 = 0 then (
        (gv_gI h v2 2 4).bind fun v16 =>
        if v16 = (5 : Int32) then (
          (gv_is h l0 5).bind fun i18 =>
          (cW_writeView W l0 l1 l2 v2 l4 h).bind fun h20 =>
          (gv_is h20 l0 5).bind fun i21 =>
          (cW_givePlace l0 l3 h20).bind fun h23 =>
          some h23) else
        (gv_is h l0 5).bind fun i24 =>
        (cW_givePlace l0 l3 h).bind fun h26 =>
        (gv_is h26 l0 5).bind fun i27 =>
        (cW_writeParts W l0 l1 l2 v2 l4 h26).bind fun h29 =>
        some h29) else
      (gv_pV h l0 5 4 (.int (1 : Int32))).bind fun h30 =>
      some h30) else
    (gv_is h l0 5).bind fun i31 =>
    (cW_writeByte l0 (7 : Int32) h).bind fun h33 =>
    (gv_is h33 l2 4).bind fun i34 =>
    (cH_placeOf l2 l3 h33).bind fun v35 =>
    (gv_is h33 l0 5).bind fun i36 =>
    (cW_writeLengthy l0 (Int32.toInt64 v35) h33).bind fun h38 =>
    some h38) else
  (gv_is h l0 5).bind fun i39 =>
  (cW_writeByte l0 (6 : Int32) h).bind fun h41 =>
  (gv_gR h41 l0 5 1).bind fun v42 =>
  (gv_lI h41 v42 l3).bind fun v43 =>
  (gv_is h41 l0 5).bind fun i44 =>
  (cW_writeLengthy l0 (Int32.toInt64 v43) h41).bind fun h46 =>
  some h46
theorem cW_writeObject_ok {xs : Option (List Int32)} {D : Nat} (hD : 12 ≤ D) {W : Option Nat → Option Nat → Option Nat → Int32 → Int32 → Int32 → gx_H → Option gx_H} (hW : ∀ (l0 : Option Nat) (l1 : Option Nat) (l2 : Option Nat) (l3 : Int32) (l4 : Int32) (l5 : Int32) (h : gx_H) (r : gx_H), W l0 l1 l2 l3 l4 l5 h = some r → gv_V xs D 78 0 [(0, gv_u l0), (1, gv_u l1), (2, gv_u l2), (3, .int l3), (4, .int l4), (5, .int l5)] [] h (.returned none) r) {l0 : Option Nat} {l1 : Option Nat} {l2 : Option Nat} {l3 : Int32} {l4 : Int32} {h : gx_H} {r : gx_H} (e : cW_writeObject W l0 l1 l2 l3 l4 h = some r) : gv_V xs (D + 4) 79 0 [(0, gv_u l0), (1, gv_u l1), (2, gv_u l2), (3, .int l3), (4, .int l4)] [] h (.returned none) r := by
  unfold cW_writeObject at e
  refine gv_rldn (pc' := 1) rfl rfl rfl ?_
  refine gv_ildn (pc' := 2) rfl rfl rfl ?_
  obtain ⟨i1, qi1, e⟩ := gv_bind e
  obtain ⟨v2, qv2, e⟩ := gv_bind e
  refine gv_vS (jc := 10) (n := 1) (rest := []) (stk := [gv_u v2]) (pc' := 5) rfl rfl rfl rfl rfl rfl rfl rfl rfl (gv_zR (gv_zI gv_z0)) rfl (gv_aR (gv_aI gv_a0)) (by omega) qi1 (cS_thingAt_ok qv2) rfl rfl ?_
  refine gv_rst (pc' := 7) rfl rfl (gv_Ci rfl) rfl ?_
  refine gv_rld (pc' := 9) rfl rfl rfl ?_
  by_cases c3 : v2 = none
  · rw [if_pos c3] at e
    refine gv_nnF (pc' := 12) rfl c3 rfl ?_
    refine gv_rldn (pc' := 13) rfl rfl rfl ?_
    refine gv_ic (pc' := 14) (x := 1) rfl rfl rfl ?_
    obtain ⟨h4, qh4, e⟩ := gv_bind e
    refine gv_pI (pc' := 17) rfl rfl rfl qh4 rfl ?_
    refine gv_goto (pc' := 146) rfl rfl ?_
    cases e
    exact gv_retV rfl rfl
  rw [if_neg c3] at e
  refine gv_nnT (pc' := 20) rfl c3 rfl ?_
  refine gv_rldn (pc' := 21) rfl rfl rfl ?_
  obtain ⟨v5, qv5, e⟩ := gv_bind e
  refine gv_fR (pc' := 24) rfl rfl qv5 rfl ?_
  refine gv_ildn (pc' := 25) rfl rfl rfl ?_
  obtain ⟨v6, qv6, e⟩ := gv_bind e
  refine gv_iald (pc' := 26) rfl qv6 rfl ?_
  refine gv_ic (pc' := 27) (x := -1) rfl rfl rfl ?_
  by_cases c7 : v6 = (-1 : Int32)
  · rw [if_pos c7] at e
    refine gv_cmT (pc' := 50) rfl (gv_eqT2 c7) rfl ?_
    refine gv_rldn (pc' := 51) rfl rfl rfl ?_
    refine gv_ildn (pc' := 52) rfl rfl rfl ?_
    obtain ⟨i8, qi8, e⟩ := gv_bind e
    obtain ⟨v9, qv9, e⟩ := gv_bind e
    refine gv_vS (jc := 76) (n := 1) (rest := []) (stk := [.int v9]) (pc' := 55) rfl rfl rfl rfl rfl rfl rfl rfl rfl (gv_zR (gv_zI gv_z0)) rfl (gv_aR (gv_aI gv_a0)) (by omega) qi8 (cH_placeOf_ok qv9) rfl rfl ?_
    refine gv_ic (pc' := 56) (x := -1) rfl rfl rfl ?_
    by_cases c10 : v9 = (-1 : Int32)
    · rw [if_pos c10] at e
      refine gv_cmT (pc' := 78) rfl (gv_eqT2 c10) rfl ?_
      refine gv_rld (pc' := 80) rfl rfl rfl ?_
      obtain ⟨v11, qv11, e⟩ := gv_bind e
      refine gv_fI (pc' := 83) rfl rfl qv11 rfl ?_
      refine gv_bp (pc' := 85) (x := 7) rfl rfl rfl ?_
      by_cases c12 : v11 = (7 : Int32)
      · rw [if_pos c12] at e
        refine gv_cmT (pc' := 96) rfl (gv_eqT2 c12) rfl ?_
        refine gv_rldn (pc' := 97) rfl rfl rfl ?_
        refine gv_ic (pc' := 98) (x := 1) rfl rfl rfl ?_
        obtain ⟨h13, qh13, e⟩ := gv_bind e
        refine gv_pI (pc' := 101) rfl rfl rfl qh13 rfl ?_
        refine gv_goto (pc' := 146) rfl rfl ?_
        cases e
        exact gv_retV rfl rfl
      rw [if_neg c12] at e
      refine gv_cmF (pc' := 88) rfl (gv_eqF2 c12) rfl rfl ?_
      refine gv_rld (pc' := 90) rfl rfl rfl ?_
      obtain ⟨v14, qv14, e⟩ := gv_bind e
      refine gv_fI (pc' := 93) rfl rfl qv14 rfl ?_
      by_cases c15 : v14 = 0
      · rw [if_pos c15] at e
        refine gv_ifT (pc' := 104) rfl (gv_eqT c15) rfl ?_
        refine gv_rld (pc' := 106) rfl rfl rfl ?_
        obtain ⟨v16, qv16, e⟩ := gv_bind e
        refine gv_fI (pc' := 109) rfl rfl qv16 rfl ?_
        refine gv_ic (pc' := 110) (x := 5) rfl rfl rfl ?_
        by_cases c17 : v16 = (5 : Int32)
        · rw [if_pos c17] at e
          refine gv_cmF (pc' := 113) rfl (gv_neF2 c17) rfl rfl ?_
          refine gv_rldn (pc' := 114) rfl rfl rfl ?_
          refine gv_rldn (pc' := 115) rfl rfl rfl ?_
          refine gv_rldn (pc' := 116) rfl rfl rfl ?_
          refine gv_rld (pc' := 118) rfl rfl rfl ?_
          refine gv_ild (pc' := 120) rfl rfl rfl ?_
          obtain ⟨i18, qi18, e⟩ := gv_bind e
          obtain ⟨h20, qv19, e⟩ := gv_bind e
          refine gv_vS (jc := 81) (n := 4) (rest := []) (stk := []) (pc' := 123) rfl rfl rfl rfl rfl rfl rfl rfl rfl (gv_zR (gv_zR (gv_zR (gv_zR (gv_zI gv_z0))))) rfl (gv_aR (gv_aR (gv_aR (gv_aR (gv_aI gv_a0))))) (by omega) qi18 (cW_writeView_ok hD hW qv19) rfl rfl ?_
          refine gv_rldn (pc' := 124) rfl rfl rfl ?_
          refine gv_ildn (pc' := 125) rfl rfl rfl ?_
          obtain ⟨i21, qi21, e⟩ := gv_bind e
          obtain ⟨h23, qv22, e⟩ := gv_bind e
          refine gv_vS (jc := 82) (n := 1) (rest := []) (stk := []) (pc' := 128) rfl rfl rfl rfl rfl rfl rfl rfl rfl (gv_zR (gv_zI gv_z0)) rfl (gv_aR (gv_aI gv_a0)) (by omega) qi21 (cW_givePlace_ok qv22) rfl rfl ?_
          refine gv_goto (pc' := 146) rfl rfl ?_
          cases e
          exact gv_retV rfl rfl
        rw [if_neg c17] at e
        refine gv_cmT (pc' := 131) rfl (gv_neT2 c17) rfl ?_
        refine gv_rldn (pc' := 132) rfl rfl rfl ?_
        refine gv_ildn (pc' := 133) rfl rfl rfl ?_
        obtain ⟨i24, qi24, e⟩ := gv_bind e
        obtain ⟨h26, qv25, e⟩ := gv_bind e
        refine gv_vS (jc := 82) (n := 1) (rest := []) (stk := []) (pc' := 136) rfl rfl rfl rfl rfl rfl rfl rfl rfl (gv_zR (gv_zI gv_z0)) rfl (gv_aR (gv_aI gv_a0)) (by omega) qi24 (cW_givePlace_ok qv25) rfl rfl ?_
        refine gv_rldn (pc' := 137) rfl rfl rfl ?_
        refine gv_rldn (pc' := 138) rfl rfl rfl ?_
        refine gv_rldn (pc' := 139) rfl rfl rfl ?_
        refine gv_rld (pc' := 141) rfl rfl rfl ?_
        refine gv_ild (pc' := 143) rfl rfl rfl ?_
        obtain ⟨i27, qi27, e⟩ := gv_bind e
        obtain ⟨h29, qv28, e⟩ := gv_bind e
        refine gv_vS (jc := 83) (n := 4) (rest := []) (stk := []) (pc' := 146) rfl rfl rfl rfl rfl rfl rfl rfl rfl (gv_zR (gv_zR (gv_zR (gv_zR (gv_zI gv_z0))))) rfl (gv_aR (gv_aR (gv_aR (gv_aR (gv_aI gv_a0))))) (by omega) qi27 (cW_writeParts_ok hD hW qv28) rfl rfl ?_
        cases e
        exact gv_retV rfl rfl
      rw [if_neg c15] at e
      refine gv_ifF (pc' := 96) rfl (gv_eqF c15) rfl rfl ?_
      refine gv_rldn (pc' := 97) rfl rfl rfl ?_
      refine gv_ic (pc' := 98) (x := 1) rfl rfl rfl ?_
      obtain ⟨h30, qh30, e⟩ := gv_bind e
      refine gv_pI (pc' := 101) rfl rfl rfl qh30 rfl ?_
      refine gv_goto (pc' := 146) rfl rfl ?_
      cases e
      exact gv_retV rfl rfl
    rw [if_neg c10] at e
    refine gv_cmF (pc' := 59) rfl (gv_eqF2 c10) rfl rfl ?_
    refine gv_rldn (pc' := 60) rfl rfl rfl ?_
    refine gv_bp (pc' := 62) (x := 7) rfl rfl rfl ?_
    obtain ⟨i31, qi31, e⟩ := gv_bind e
    obtain ⟨h33, qv32, e⟩ := gv_bind e
    refine gv_vS (jc := 77) (n := 1) (rest := []) (stk := []) (pc' := 65) rfl rfl rfl rfl rfl rfl rfl rfl rfl (gv_zR (gv_zI gv_z0)) rfl (gv_aR (gv_aI gv_a0)) (by omega) qi31 (cW_writeByte_ok qv32) rfl rfl ?_
    refine gv_rldn (pc' := 66) rfl rfl rfl ?_
    refine gv_rldn (pc' := 67) rfl rfl rfl ?_
    refine gv_ildn (pc' := 68) rfl rfl rfl ?_
    obtain ⟨i34, qi34, e⟩ := gv_bind e
    obtain ⟨v35, qv35, e⟩ := gv_bind e
    refine gv_vS (jc := 76) (n := 1) (rest := [gv_u l0]) (stk := [.int v35, gv_u l0]) (pc' := 71) rfl rfl rfl rfl rfl rfl rfl rfl rfl (gv_zR (gv_zI gv_z0)) rfl (gv_aR (gv_aI gv_a0)) (by omega) qi34 (cH_placeOf_ok qv35) rfl rfl ?_
    refine gv_i2l (pc' := 72) rfl rfl ?_
    obtain ⟨i36, qi36, e⟩ := gv_bind e
    obtain ⟨h38, qv37, e⟩ := gv_bind e
    refine gv_vS (jc := 80) (n := 1) (rest := []) (stk := []) (pc' := 75) rfl rfl rfl rfl rfl rfl rfl rfl rfl (gv_zR (gv_zJ gv_z0)) rfl (gv_aR (gv_aJ gv_a0)) (by omega) qi36 (cW_writeLengthy_ok qv37) rfl rfl ?_
    refine gv_goto (pc' := 146) rfl rfl ?_
    cases e
    exact gv_retV rfl rfl
  rw [if_neg c7] at e
  refine gv_cmF (pc' := 30) rfl (gv_eqF2 c7) rfl rfl ?_
  refine gv_rldn (pc' := 31) rfl rfl rfl ?_
  refine gv_bp (pc' := 33) (x := 6) rfl rfl rfl ?_
  obtain ⟨i39, qi39, e⟩ := gv_bind e
  obtain ⟨h41, qv40, e⟩ := gv_bind e
  refine gv_vS (jc := 77) (n := 1) (rest := []) (stk := []) (pc' := 36) rfl rfl rfl rfl rfl rfl rfl rfl rfl (gv_zR (gv_zI gv_z0)) rfl (gv_aR (gv_aI gv_a0)) (by omega) qi39 (cW_writeByte_ok qv40) rfl rfl ?_
  refine gv_rldn (pc' := 37) rfl rfl rfl ?_
  refine gv_rldn (pc' := 38) rfl rfl rfl ?_
  obtain ⟨v42, qv42, e⟩ := gv_bind e
  refine gv_fR (pc' := 41) rfl rfl qv42 rfl ?_
  refine gv_ildn (pc' := 42) rfl rfl rfl ?_
  obtain ⟨v43, qv43, e⟩ := gv_bind e
  refine gv_iald (pc' := 43) rfl qv43 rfl ?_
  refine gv_i2l (pc' := 44) rfl rfl ?_
  obtain ⟨i44, qi44, e⟩ := gv_bind e
  obtain ⟨h46, qv45, e⟩ := gv_bind e
  refine gv_vS (jc := 80) (n := 1) (rest := []) (stk := []) (pc' := 47) rfl rfl rfl rfl rfl rfl rfl rfl rfl (gv_zR (gv_zJ gv_z0)) rfl (gv_aR (gv_aJ gv_a0)) (by omega) qi44 (cW_writeLengthy_ok qv45) rfl rfl ?_
  refine gv_goto (pc' := 146) rfl rfl ?_
  cases e
  exact gv_retV rfl rfl
def cW_writeValue : Nat → Option Nat → Option Nat → Option Nat → Int32 → Int32 → Int32 → gx_H → Option gx_H
  | 0, _, _, _, _, _, _, _ => none
  | n + 1, l0, l1, l2, l3, l4, l5, h =>
    (gv_gI h l0 5 4).bind fun v1 =>
    if v1 = 0 then (
      if (12 : Int32) < l5 then (
        (gv_pV h l0 5 4 (.int (1 : Int32))).bind fun h4 =>
        some h4) else
      if l3 = (7 : Int32) then (
        (gv_pV h l0 5 4 (.int (1 : Int32))).bind fun h6 =>
        some h6) else
      if l3 = (6 : Int32) then (
        (gv_is h l0 5).bind fun i8 =>
        (cW_writeObject (cW_writeValue n) l0 l1 l2 l4 l5 h).bind fun h10 =>
        some h10) else
      (gv_is h l0 5).bind fun i11 =>
      (cW_writeByte l0 l3 h).bind fun h13 =>
      if l3 = (4 : Int32) then (
        (gv_is h13 l0 5).bind fun i15 =>
        (cW_writeZigzag l0 (Int32.toInt64 l4) h13).bind fun h17 =>
        some h17) else
      if l3 = (5 : Int32) then (
        (cW_textLength l4).bind fun v19 =>
        (gv_is h13 l0 5).bind fun i20 =>
        (cW_writeWord l0 (Int32.toInt64 l4) v19 h13).bind fun h22 =>
        some h22) else
      some h13) else
    some h
theorem cW_writeValue_ok {xs : Option (List Int32)} : ∀ (n : Nat) (l0 : Option Nat) (l1 : Option Nat) (l2 : Option Nat) (l3 : Int32) (l4 : Int32) (l5 : Int32) (h : gx_H) (r : gx_H), cW_writeValue n l0 l1 l2 l3 l4 l5 h = some r → gv_V xs (12 + 5 * n) 78 0 [(0, gv_u l0), (1, gv_u l1), (2, gv_u l2), (3, .int l3), (4, .int l4), (5, .int l5)] [] h (.returned none) r := by
  intro n
  induction n with
  | zero => intro l0 l1 l2 l3 l4 l5 h r e; cases e
  | succ n hW =>
    intro l0 l1 l2 l3 l4 l5 h r e
    have hD : 12 ≤ 12 + 5 * n := by omega
    have hK : 12 + 5 * (n + 1) = 12 + 5 * n + 5 := by omega
    rw [hK]
    rw [cW_writeValue] at e
    refine gv_rldn (pc' := 1) rfl rfl rfl ?_
    obtain ⟨v1, qv1, e⟩ := gv_bind e
    refine gv_fI (pc' := 4) rfl rfl qv1 rfl ?_
    by_cases c2 : v1 = 0
    · rw [if_pos c2] at e
      refine gv_ifT (pc' := 8) rfl (gv_eqT c2) rfl ?_
      refine gv_ild (pc' := 10) rfl rfl rfl ?_
      refine gv_bp (pc' := 12) (x := 12) rfl rfl rfl ?_
      by_cases c3 : (12 : Int32) < l5
      · rw [if_pos c3] at e
        refine gv_cmT (pc' := 21) rfl (gv_gtT2 c3) rfl ?_
        refine gv_rldn (pc' := 22) rfl rfl rfl ?_
        refine gv_ic (pc' := 23) (x := 1) rfl rfl rfl ?_
        obtain ⟨h4, qh4, e⟩ := gv_bind e
        refine gv_pI (pc' := 26) rfl rfl rfl qh4 rfl ?_
        cases e
        exact gv_retV rfl rfl
      rw [if_neg c3] at e
      refine gv_cmF (pc' := 15) rfl (gv_gtF2 c3) rfl rfl ?_
      refine gv_ildn (pc' := 16) rfl rfl rfl ?_
      refine gv_bp (pc' := 18) (x := 7) rfl rfl rfl ?_
      by_cases c5 : l3 = (7 : Int32)
      · rw [if_pos c5] at e
        refine gv_cmF (pc' := 21) rfl (gv_neF2 c5) rfl rfl ?_
        refine gv_rldn (pc' := 22) rfl rfl rfl ?_
        refine gv_ic (pc' := 23) (x := 1) rfl rfl rfl ?_
        obtain ⟨h6, qh6, e⟩ := gv_bind e
        refine gv_pI (pc' := 26) rfl rfl rfl qh6 rfl ?_
        cases e
        exact gv_retV rfl rfl
      rw [if_neg c5] at e
      refine gv_cmT (pc' := 27) rfl (gv_neT2 c5) rfl ?_
      refine gv_ildn (pc' := 28) rfl rfl rfl ?_
      refine gv_bp (pc' := 30) (x := 6) rfl rfl rfl ?_
      by_cases c7 : l3 = (6 : Int32)
      · rw [if_pos c7] at e
        refine gv_cmF (pc' := 33) rfl (gv_neF2 c7) rfl rfl ?_
        refine gv_rldn (pc' := 34) rfl rfl rfl ?_
        refine gv_rldn (pc' := 35) rfl rfl rfl ?_
        refine gv_rldn (pc' := 36) rfl rfl rfl ?_
        refine gv_ild (pc' := 38) rfl rfl rfl ?_
        refine gv_ild (pc' := 40) rfl rfl rfl ?_
        obtain ⟨i8, qi8, e⟩ := gv_bind e
        obtain ⟨h10, qv9, e⟩ := gv_bind e
        refine gv_vS (jc := 79) (n := 4) (rest := []) (stk := []) (pc' := 43) rfl rfl rfl rfl rfl rfl rfl rfl rfl (gv_zR (gv_zR (gv_zR (gv_zI (gv_zI gv_z0))))) rfl (gv_aR (gv_aR (gv_aR (gv_aI (gv_aI gv_a0))))) (by omega) qi8 (cW_writeObject_ok hD hW qv9) rfl rfl ?_
        cases e
        exact gv_retV rfl rfl
      rw [if_neg c7] at e
      refine gv_cmT (pc' := 44) rfl (gv_neT2 c7) rfl ?_
      refine gv_rldn (pc' := 45) rfl rfl rfl ?_
      refine gv_ildn (pc' := 46) rfl rfl rfl ?_
      obtain ⟨i11, qi11, e⟩ := gv_bind e
      obtain ⟨h13, qv12, e⟩ := gv_bind e
      refine gv_vS (jc := 77) (n := 1) (rest := []) (stk := []) (pc' := 49) rfl rfl rfl rfl rfl rfl rfl rfl rfl (gv_zR (gv_zI gv_z0)) rfl (gv_aR (gv_aI gv_a0)) (by omega) qi11 (cW_writeByte_ok qv12) rfl rfl ?_
      refine gv_ildn (pc' := 50) rfl rfl rfl ?_
      refine gv_ic (pc' := 51) (x := 4) rfl rfl rfl ?_
      by_cases c14 : l3 = (4 : Int32)
      · rw [if_pos c14] at e
        refine gv_cmF (pc' := 54) rfl (gv_neF2 c14) rfl rfl ?_
        refine gv_rldn (pc' := 55) rfl rfl rfl ?_
        refine gv_ild (pc' := 57) rfl rfl rfl ?_
        refine gv_i2l (pc' := 58) rfl rfl ?_
        obtain ⟨i15, qi15, e⟩ := gv_bind e
        obtain ⟨h17, qv16, e⟩ := gv_bind e
        refine gv_vS (jc := 89) (n := 1) (rest := []) (stk := []) (pc' := 61) rfl rfl rfl rfl rfl rfl rfl rfl rfl (gv_zR (gv_zJ gv_z0)) rfl (gv_aR (gv_aJ gv_a0)) (by omega) qi15 (cW_writeZigzag_ok qv16) rfl rfl ?_
        refine gv_goto (pc' := 81) rfl rfl ?_
        cases e
        exact gv_retV rfl rfl
      rw [if_neg c14] at e
      refine gv_cmT (pc' := 64) rfl (gv_neT2 c14) rfl ?_
      refine gv_ildn (pc' := 65) rfl rfl rfl ?_
      refine gv_ic (pc' := 66) (x := 5) rfl rfl rfl ?_
      by_cases c18 : l3 = (5 : Int32)
      · rw [if_pos c18] at e
        refine gv_cmF (pc' := 69) rfl (gv_neF2 c18) rfl rfl ?_
        refine gv_rldn (pc' := 70) rfl rfl rfl ?_
        refine gv_ild (pc' := 72) rfl rfl rfl ?_
        refine gv_i2l (pc' := 73) rfl rfl ?_
        refine gv_ild (pc' := 75) rfl rfl rfl ?_
        obtain ⟨v19, qv19, e⟩ := gv_bind e
        refine gv_sS (jc := 94) (n := 1) (rest := [.long (Int32.toInt64 l4), gv_u l0]) (stk := [.int v19, .long (Int32.toInt64 l4), gv_u l0]) (pc' := 78) rfl rfl rfl rfl rfl rfl rfl rfl rfl (gv_zI gv_z0) rfl (gv_aI gv_a0) (by omega) (cW_textLength_ok qv19) rfl rfl ?_
        obtain ⟨i20, qi20, e⟩ := gv_bind e
        obtain ⟨h22, qv21, e⟩ := gv_bind e
        refine gv_vS (jc := 93) (n := 2) (rest := []) (stk := []) (pc' := 81) rfl rfl rfl rfl rfl rfl rfl rfl rfl (gv_zR (gv_zJ (gv_zI gv_z0))) rfl (gv_aR (gv_aJ (gv_aI gv_a0))) (by omega) qi20 (cW_writeWord_ok qv21) rfl rfl ?_
        cases e
        exact gv_retV rfl rfl
      rw [if_neg c18] at e
      refine gv_cmT (pc' := 81) rfl (gv_neT2 c18) rfl ?_
      cases e
      exact gv_retV rfl rfl
    rw [if_neg c2] at e
    refine gv_ifF (pc' := 7) rfl (gv_eqF c2) rfl rfl ?_
    cases e
    exact gv_retV rfl rfl
def cW_run_80 (l0 : Option Nat) (l1 : Option Nat) (l2 : Option Nat) (l3 : Int32) (l4 : Int32) (s0 : Option Nat) (s1 : Int32) (h : gx_H) : Option (Int32 × gx_H) :=
  (gv_pV h s0 5 4 (.int s1)).bind fun h1 =>
  (gv_is h1 l0 5).bind fun i2 =>
  (cW_writeByte l0 (15 : Int32) h1).bind fun h4 =>
  (gv_is h4 l0 5).bind fun i5 =>
  (cW_writeValue 20 l0 l1 l2 l3 l4 (1 : Int32) h4).bind fun h7 =>
  (gv_gI h7 l0 5 4).bind fun v8 =>
  if v8 = 0 then (
    (gv_is h7 l2 4).bind fun i10 =>
    (cH_areFreeBuffers l2 l1 h7).bind fun v11 =>
    if v11 = 0 then (
      (gv_pV h7 l0 5 4 (.int (1 : Int32))).bind fun h13 =>
      (gv_gI h13 l0 5 4).bind fun v14 =>
      some (v14, h13)) else
    (gv_gI h7 l0 5 4).bind fun v15 =>
    some (v15, h7)) else
  (gv_gI h7 l0 5 4).bind fun v16 =>
  some (v16, h7)
theorem cW_run_80_ok {xs : Option (List Int32)} {l0 : Option Nat} {l1 : Option Nat} {l2 : Option Nat} {l3 : Int32} {l4 : Int32} {s0 : Option Nat} {s1 : Int32} {h : gx_H} {r : (Int32 × gx_H)} (e : cW_run_80 l0 l1 l2 l3 l4 s0 s1 h = some r) : gv_V xs 113 73 80 [(0, gv_u l0), (1, gv_u l1), (2, gv_u l2), (3, .int l3), (4, .int l4)] [.int s1, gv_u s0] h (.returned (some (.int r.1))) r.2 := by
  unfold cW_run_80 at e
  obtain ⟨h1, qh1, e⟩ := gv_bind e
  refine gv_pI (pc' := 83) rfl rfl rfl qh1 rfl ?_
  refine gv_rldn (pc' := 84) rfl rfl rfl ?_
  refine gv_bp (pc' := 86) (x := 15) rfl rfl rfl ?_
  obtain ⟨i2, qi2, e⟩ := gv_bind e
  obtain ⟨h4, qv3, e⟩ := gv_bind e
  refine gv_vS (jc := 77) (n := 1) (rest := []) (stk := []) (pc' := 89) rfl rfl rfl rfl rfl rfl rfl rfl rfl (gv_zR (gv_zI gv_z0)) rfl (gv_aR (gv_aI gv_a0)) (Nat.le_of_ble_eq_true rfl) qi2 (cW_writeByte_ok qv3) rfl rfl ?_
  refine gv_rldn (pc' := 90) rfl rfl rfl ?_
  refine gv_rldn (pc' := 91) rfl rfl rfl ?_
  refine gv_rldn (pc' := 92) rfl rfl rfl ?_
  refine gv_ildn (pc' := 93) rfl rfl rfl ?_
  refine gv_ild (pc' := 95) rfl rfl rfl ?_
  refine gv_ic (pc' := 96) (x := 1) rfl rfl rfl ?_
  obtain ⟨i5, qi5, e⟩ := gv_bind e
  obtain ⟨h7, qv6, e⟩ := gv_bind e
  refine gv_vS (jc := 78) (n := 5) (rest := []) (stk := []) (pc' := 99) rfl rfl rfl rfl rfl rfl rfl rfl rfl (gv_zR (gv_zR (gv_zR (gv_zI (gv_zI (gv_zI gv_z0)))))) rfl (gv_aR (gv_aR (gv_aR (gv_aI (gv_aI (gv_aI gv_a0)))))) (by omega) qi5 (cW_writeValue_ok 20 _ _ _ _ _ _ _ _ qv6) rfl rfl ?_
  refine gv_rldn (pc' := 100) rfl rfl rfl ?_
  obtain ⟨v8, qv8, e⟩ := gv_bind e
  refine gv_fI (pc' := 103) rfl rfl qv8 rfl ?_
  by_cases c9 : v8 = 0
  · rw [if_pos c9] at e
    refine gv_ifF (pc' := 106) rfl (gv_neF c9) rfl rfl ?_
    refine gv_rldn (pc' := 107) rfl rfl rfl ?_
    refine gv_rldn (pc' := 108) rfl rfl rfl ?_
    obtain ⟨i10, qi10, e⟩ := gv_bind e
    obtain ⟨v11, qv11, e⟩ := gv_bind e
    refine gv_vS (jc := 74) (n := 1) (rest := []) (stk := [.int v11]) (pc' := 111) rfl rfl rfl rfl rfl rfl rfl rfl rfl (gv_zR (gv_zR gv_z0)) rfl (gv_aR (gv_aR gv_a0)) (Nat.le_of_ble_eq_true rfl) qi10 (cH_areFreeBuffers_ok qv11) rfl rfl ?_
    by_cases c12 : v11 = 0
    · rw [if_pos c12] at e
      refine gv_ifF (pc' := 114) rfl (gv_neF c12) rfl rfl ?_
      refine gv_rldn (pc' := 115) rfl rfl rfl ?_
      refine gv_ic (pc' := 116) (x := 1) rfl rfl rfl ?_
      obtain ⟨h13, qh13, e⟩ := gv_bind e
      refine gv_pI (pc' := 119) rfl rfl rfl qh13 rfl ?_
      refine gv_rldn (pc' := 120) rfl rfl rfl ?_
      obtain ⟨v14, qv14, e⟩ := gv_bind e
      refine gv_fI (pc' := 123) rfl rfl qv14 rfl ?_
      cases e
      exact gv_retI rfl rfl
    rw [if_neg c12] at e
    refine gv_ifT (pc' := 119) rfl (gv_neT c12) rfl ?_
    refine gv_rldn (pc' := 120) rfl rfl rfl ?_
    obtain ⟨v15, qv15, e⟩ := gv_bind e
    refine gv_fI (pc' := 123) rfl rfl qv15 rfl ?_
    cases e
    exact gv_retI rfl rfl
  rw [if_neg c9] at e
  refine gv_ifT (pc' := 119) rfl (gv_neT c9) rfl ?_
  refine gv_rldn (pc' := 120) rfl rfl rfl ?_
  obtain ⟨v16, qv16, e⟩ := gv_bind e
  refine gv_fI (pc' := 123) rfl rfl qv16 rfl ?_
  cases e
  exact gv_retI rfl rfl
def cW_run_67 (l0 : Option Nat) (l1 : Option Nat) (l2 : Option Nat) (l3 : Int32) (l4 : Int32) (s0 : Int32) (h : gx_H) : Option (Int32 × gx_H) :=
  if s0 = 0 then (
    cW_run_80 l0 l1 l2 l3 l4 l0 (1 : Int32) h) else
  cW_run_80 l0 l1 l2 l3 l4 l0 (0 : Int32) h
theorem cW_run_67_ok {xs : Option (List Int32)} {l0 : Option Nat} {l1 : Option Nat} {l2 : Option Nat} {l3 : Int32} {l4 : Int32} {s0 : Int32} {h : gx_H} {r : (Int32 × gx_H)} (e : cW_run_67 l0 l1 l2 l3 l4 s0 h = some r) : gv_V xs 113 73 67 [(0, gv_u l0), (1, gv_u l1), (2, gv_u l2), (3, .int l3), (4, .int l4)] [.int s0] h (.returned (some (.int r.1))) r.2 := by
  unfold cW_run_67 at e
  refine gv_ist (pc' := 69) rfl rfl (gv_Ci rfl) rfl ?_
  refine gv_rldn (pc' := 70) rfl rfl rfl ?_
  refine gv_ild (pc' := 72) rfl rfl rfl ?_
  by_cases c1 : s0 = 0
  · rw [if_pos c1] at e
    refine gv_ifT (pc' := 79) rfl (gv_eqT c1) rfl ?_
    refine gv_ic (pc' := 80) (x := 1) rfl rfl rfl ?_
    exact gv_weak (cW_run_80_ok e) (gv_S1 rfl (gv_S1 rfl (gv_S1 rfl (gv_S1 rfl (gv_S1 rfl gv_S0)))))
  rw [if_neg c1] at e
  refine gv_ifF (pc' := 75) rfl (gv_eqF c1) rfl rfl ?_
  refine gv_ic (pc' := 76) (x := 0) rfl rfl rfl ?_
  refine gv_goto (pc' := 80) rfl rfl ?_
  exact gv_weak (cW_run_80_ok e) (gv_S1 rfl (gv_S1 rfl (gv_S1 rfl (gv_S1 rfl (gv_S1 rfl gv_S0)))))
def cW_run_66 (l0 : Option Nat) (l1 : Option Nat) (l2 : Option Nat) (l3 : Int32) (l4 : Int32) (h : gx_H) : Option (Int32 × gx_H) :=
  cW_run_67 l0 l1 l2 l3 l4 (0 : Int32) h
theorem cW_run_66_ok {xs : Option (List Int32)} {l0 : Option Nat} {l1 : Option Nat} {l2 : Option Nat} {l3 : Int32} {l4 : Int32} {h : gx_H} {r : (Int32 × gx_H)} (e : cW_run_66 l0 l1 l2 l3 l4 h = some r) : gv_V xs 113 73 66 [(0, gv_u l0), (1, gv_u l1), (2, gv_u l2), (3, .int l3), (4, .int l4)] [] h (.returned (some (.int r.1))) r.2 := by
  unfold cW_run_66 at e
  refine gv_ic (pc' := 67) (x := 0) rfl rfl rfl ?_
  exact gv_weak (cW_run_67_ok e) (gv_S1 rfl (gv_S1 rfl (gv_S1 rfl (gv_S1 rfl (gv_S1 rfl gv_S0)))))
def cW_run_16 : Nat → Option Nat → Option Nat → Option Nat → Int32 → Int32 → Int32 → gx_H → Option (Int32 × gx_H)
  | 0, _, _, _, _, _, _, _ => none
  | n + 1, l0, l1, l2, l3, l4, l5, h =>
    if l5 < (32 : Int32) then (
      (gv_gR h l0 5 1).bind fun v2 =>
      (gv_wI h v2 l5 (-1 : Int32)).bind fun h3 =>
      cW_run_16 n l0 l1 l2 l3 l4 (l5 + 1) h3) else
    (gv_is h l1 1).bind fun i4 =>
    (cS_isValue l1 l3 l4 h).bind fun v5 =>
    if v5 = 0 then (
      cW_run_66 l0 l1 l2 l3 l4 h) else
    (gv_is h l2 4).bind fun i7 =>
    (cH_areFreeBuffers l2 l1 h).bind fun v8 =>
    if v8 = 0 then (
      cW_run_66 l0 l1 l2 l3 l4 h) else
    (gv_is h l2 4).bind fun i10 =>
    (cH_noneTwice l2 h).bind fun v11 =>
    if v11 = 0 then (
      cW_run_66 l0 l1 l2 l3 l4 h) else
    cW_run_67 l0 l1 l2 l3 l4 (1 : Int32) h
theorem cW_run_16_ok {xs : Option (List Int32)} : ∀ (n : Nat) (l0 : Option Nat) (l1 : Option Nat) (l2 : Option Nat) (l3 : Int32) (l4 : Int32) (l5 : Int32) (h : gx_H) (r : (Int32 × gx_H)), cW_run_16 n l0 l1 l2 l3 l4 l5 h = some r → gv_V xs 113 73 16 [(0, gv_u l0), (1, gv_u l1), (2, gv_u l2), (3, .int l3), (4, .int l4), (5, .int l5)] [] h (.returned (some (.int r.1))) r.2 := by
  intro n
  induction n with
  | zero => intro l0 l1 l2 l3 l4 l5 h r e; cases e
  | succ n ih =>
    intro l0 l1 l2 l3 l4 l5 h r e
    rw [cW_run_16] at e
    refine gv_ild (pc' := 18) rfl rfl rfl ?_
    refine gv_bp (pc' := 20) (x := 32) rfl rfl rfl ?_
    by_cases c1 : l5 < (32 : Int32)
    · rw [if_pos c1] at e
      refine gv_cmF (pc' := 23) rfl (gv_geF2 c1) rfl rfl ?_
      refine gv_rldn (pc' := 24) rfl rfl rfl ?_
      obtain ⟨v2, qv2, e⟩ := gv_bind e
      refine gv_fR (pc' := 27) rfl rfl qv2 rfl ?_
      refine gv_ild (pc' := 29) rfl rfl rfl ?_
      refine gv_ic (pc' := 30) (x := -1) rfl rfl rfl ?_
      obtain ⟨h3, qh3, e⟩ := gv_bind e
      refine gv_iast (pc' := 31) rfl qh3 rfl ?_
      refine gv_inc (pc' := 34) (y := 1) rfl rfl rfl rfl (gv_Ci rfl) rfl ?_
      refine gv_goto (pc' := 16) rfl rfl ?_
      exact gv_weak (ih _ _ _ _ _ _ _ _ e) (gv_S1 rfl (gv_S1 rfl (gv_S1 rfl (gv_S1 rfl (gv_S1 rfl (gv_S1 rfl gv_S0))))))
    rw [if_neg c1] at e
    refine gv_cmT (pc' := 37) rfl (gv_geT2 c1) rfl ?_
    refine gv_rldn (pc' := 38) rfl rfl rfl ?_
    refine gv_ildn (pc' := 39) rfl rfl rfl ?_
    refine gv_ild (pc' := 41) rfl rfl rfl ?_
    obtain ⟨i4, qi4, e⟩ := gv_bind e
    obtain ⟨v5, qv5, e⟩ := gv_bind e
    refine gv_vS (jc := 40) (n := 2) (rest := []) (stk := [.int v5]) (pc' := 44) rfl rfl rfl rfl rfl rfl rfl rfl rfl (gv_zR (gv_zI (gv_zI gv_z0))) rfl (gv_aR (gv_aI (gv_aI gv_a0))) (Nat.le_of_ble_eq_true rfl) qi4 (cS_isValue_ok qv5) rfl rfl ?_
    by_cases c6 : v5 = 0
    · rw [if_pos c6] at e
      refine gv_ifT (pc' := 66) rfl (gv_eqT c6) rfl ?_
      exact gv_weak (cW_run_66_ok e) (gv_S1 rfl (gv_S1 rfl (gv_S1 rfl (gv_S1 rfl (gv_S1 rfl gv_S0)))))
    rw [if_neg c6] at e
    refine gv_ifF (pc' := 47) rfl (gv_eqF c6) rfl rfl ?_
    refine gv_rldn (pc' := 48) rfl rfl rfl ?_
    refine gv_rldn (pc' := 49) rfl rfl rfl ?_
    obtain ⟨i7, qi7, e⟩ := gv_bind e
    obtain ⟨v8, qv8, e⟩ := gv_bind e
    refine gv_vS (jc := 74) (n := 1) (rest := []) (stk := [.int v8]) (pc' := 52) rfl rfl rfl rfl rfl rfl rfl rfl rfl (gv_zR (gv_zR gv_z0)) rfl (gv_aR (gv_aR gv_a0)) (Nat.le_of_ble_eq_true rfl) qi7 (cH_areFreeBuffers_ok qv8) rfl rfl ?_
    by_cases c9 : v8 = 0
    · rw [if_pos c9] at e
      refine gv_ifT (pc' := 66) rfl (gv_eqT c9) rfl ?_
      exact gv_weak (cW_run_66_ok e) (gv_S1 rfl (gv_S1 rfl (gv_S1 rfl (gv_S1 rfl (gv_S1 rfl gv_S0)))))
    rw [if_neg c9] at e
    refine gv_ifF (pc' := 55) rfl (gv_eqF c9) rfl rfl ?_
    refine gv_rldn (pc' := 56) rfl rfl rfl ?_
    obtain ⟨i10, qi10, e⟩ := gv_bind e
    obtain ⟨v11, qv11, e⟩ := gv_bind e
    refine gv_vS (jc := 75) (n := 0) (rest := []) (stk := [.int v11]) (pc' := 59) rfl rfl rfl rfl rfl rfl rfl rfl rfl (gv_zR gv_z0) rfl (gv_aR gv_a0) (Nat.le_of_ble_eq_true rfl) qi10 (cH_noneTwice_ok qv11) rfl rfl ?_
    by_cases c12 : v11 = 0
    · rw [if_pos c12] at e
      refine gv_ifT (pc' := 66) rfl (gv_eqT c12) rfl ?_
      exact gv_weak (cW_run_66_ok e) (gv_S1 rfl (gv_S1 rfl (gv_S1 rfl (gv_S1 rfl (gv_S1 rfl gv_S0)))))
    rw [if_neg c12] at e
    refine gv_ifF (pc' := 62) rfl (gv_eqF c12) rfl rfl ?_
    refine gv_ic (pc' := 63) (x := 1) rfl rfl rfl ?_
    refine gv_goto (pc' := 67) rfl rfl ?_
    exact gv_weak (cW_run_67_ok e) (gv_S1 rfl (gv_S1 rfl (gv_S1 rfl (gv_S1 rfl (gv_S1 rfl gv_S0)))))
def cW_run (l0 : Option Nat) (l1 : Option Nat) (l2 : Option Nat) (l3 : Int32) (l4 : Int32) (h : gx_H) : Option (Int32 × gx_H) :=
  (gv_gR h l0 5 0).bind fun v1 =>
  (gv_pV h v1 3 1 (.int (0 : Int32))).bind fun h2 =>
  (gv_pV h2 l0 5 2 (.int (0 : Int32))).bind fun h3 =>
  cW_run_16 1000000000000000 l0 l1 l2 l3 l4 (0 : Int32) h3
theorem cW_run_ok {xs : Option (List Int32)} {l0 : Option Nat} {l1 : Option Nat} {l2 : Option Nat} {l3 : Int32} {l4 : Int32} {h : gx_H} {r : (Int32 × gx_H)} (e : cW_run l0 l1 l2 l3 l4 h = some r) : gv_V xs 113 73 0 [(0, gv_u l0), (1, gv_u l1), (2, gv_u l2), (3, .int l3), (4, .int l4)] [] h (.returned (some (.int r.1))) r.2 := by
  unfold cW_run at e
  refine gv_rldn (pc' := 1) rfl rfl rfl ?_
  obtain ⟨v1, qv1, e⟩ := gv_bind e
  refine gv_fR (pc' := 4) rfl rfl qv1 rfl ?_
  refine gv_ic (pc' := 5) (x := 0) rfl rfl rfl ?_
  obtain ⟨h2, qh2, e⟩ := gv_bind e
  refine gv_pI (pc' := 8) rfl rfl rfl qh2 rfl ?_
  refine gv_rldn (pc' := 9) rfl rfl rfl ?_
  refine gv_ic (pc' := 10) (x := 0) rfl rfl rfl ?_
  obtain ⟨h3, qh3, e⟩ := gv_bind e
  refine gv_pI (pc' := 13) rfl rfl rfl qh3 rfl ?_
  refine gv_ic (pc' := 14) (x := 0) rfl rfl rfl ?_
  refine gv_ist (pc' := 16) rfl rfl (gv_Ci rfl) rfl ?_
  exact gv_weak (cW_run_16_ok 1000000000000000 _ _ _ _ _ _ _ _ e) (gv_S1 rfl (gv_S1 rfl (gv_S1 rfl (gv_S1 rfl (gv_S1 rfl (gv_S1 rfl gv_S0))))))
def cR_beginThing_16 (l1 : Option Nat) (l3 : Int32) (h : gx_H) : Option ((Option Nat) × gx_H) :=
  (gv_is h l1 1).bind fun i1 =>
  (cS_thingAt l1 l3 h).bind fun v2 =>
  some (v2, h)
theorem cR_beginThing_16_ok {xs : Option (List Int32)} {l1 : Option Nat} {l3 : Int32} {h : gx_H} {r : ((Option Nat) × gx_H)} (e : cR_beginThing_16 l1 l3 h = some r) : gv_V xs 2 101 16 [(1, gv_u l1), (3, .int l3)] [] h (.returned (some (gv_u r.1))) r.2 := by
  unfold cR_beginThing_16 at e
  refine gv_rldn (pc' := 17) rfl rfl rfl ?_
  refine gv_ildn (pc' := 18) rfl rfl rfl ?_
  obtain ⟨i1, qi1, e⟩ := gv_bind e
  obtain ⟨v2, qv2, e⟩ := gv_bind e
  refine gv_vS (jc := 10) (n := 1) (rest := []) (stk := [gv_u v2]) (pc' := 21) rfl rfl rfl rfl rfl rfl rfl rfl rfl (gv_zR (gv_zI gv_z0)) rfl (gv_aR (gv_aI gv_a0)) (Nat.le_of_ble_eq_true rfl) qi1 (cS_thingAt_ok qv2) rfl rfl ?_
  cases e
  exact gv_retR rfl rfl
def cR_beginThing (l0 : Option Nat) (l1 : Option Nat) (l2 : Int32) (h : gx_H) : Option ((Option Nat) × gx_H) :=
  (gv_is h l1 1).bind fun i1 =>
  (cS_begin l1 l2 h).bind fun r4 =>
  if r4.1 = (-1 : Int32) then (
    (gv_pV r4.2 l0 6 1 (.int (1 : Int32))).bind fun h6 =>
    cR_beginThing_16 l1 r4.1 h6) else
  cR_beginThing_16 l1 r4.1 r4.2
theorem cR_beginThing_ok {xs : Option (List Int32)} {l0 : Option Nat} {l1 : Option Nat} {l2 : Int32} {h : gx_H} {r : ((Option Nat) × gx_H)} (e : cR_beginThing l0 l1 l2 h = some r) : gv_V xs 2 101 0 [(0, gv_u l0), (1, gv_u l1), (2, .int l2)] [] h (.returned (some (gv_u r.1))) r.2 := by
  unfold cR_beginThing at e
  refine gv_rldn (pc' := 1) rfl rfl rfl ?_
  refine gv_ildn (pc' := 2) rfl rfl rfl ?_
  obtain ⟨i1, qi1, e⟩ := gv_bind e
  obtain ⟨⟨v2, h3⟩, qv2, e⟩ := gv_bind e
  refine gv_vS (jc := 26) (n := 1) (rest := []) (stk := [.int v2]) (pc' := 5) rfl rfl rfl rfl rfl rfl rfl rfl rfl (gv_zR (gv_zI gv_z0)) rfl (gv_aR (gv_aI gv_a0)) (Nat.le_of_ble_eq_true rfl) qi1 (cS_begin_ok qv2) rfl rfl ?_
  refine gv_istn (pc' := 6) rfl rfl (gv_Ci rfl) rfl ?_
  refine gv_ildn (pc' := 7) rfl rfl rfl ?_
  refine gv_ic (pc' := 8) (x := -1) rfl rfl rfl ?_
  by_cases c5 : v2 = (-1 : Int32)
  · rw [if_pos c5] at e
    refine gv_cmF (pc' := 11) rfl (gv_neF2 c5) rfl rfl ?_
    refine gv_rldn (pc' := 12) rfl rfl rfl ?_
    refine gv_ic (pc' := 13) (x := 1) rfl rfl rfl ?_
    obtain ⟨h6, qh6, e⟩ := gv_bind e
    refine gv_pZ (pc' := 16) rfl rfl rfl (by decide) qh6 rfl ?_
    exact gv_weak (cR_beginThing_16_ok e) (gv_S1 rfl (gv_S1 rfl gv_S0))
  rw [if_neg c5] at e
  refine gv_cmT (pc' := 16) rfl (gv_neT2 c5) rfl ?_
  exact gv_weak (cR_beginThing_16_ok e) (gv_S1 rfl (gv_S1 rfl gv_S0))
def cR_makeHanded_56 (rec18 : Option Nat → Option Nat → Option Nat → Int32 → gx_H → Option gx_H) (l0 : Option Nat) (l1 : Option Nat) (l2 : Option Nat) (l3 : Int32) (h : gx_H) : Option gx_H :=
  rec18 l0 l1 l2 (l3 + 1) h
theorem cR_makeHanded_56_ok {xs : Option (List Int32)} {rec18 : Option Nat → Option Nat → Option Nat → Int32 → gx_H → Option gx_H} (hrec18 : ∀ (l0 : Option Nat) (l1 : Option Nat) (l2 : Option Nat) (l3 : Int32) (h : gx_H) (r : gx_H), rec18 l0 l1 l2 l3 h = some r → gv_V xs 3 100 18 [(0, gv_u l0), (1, gv_u l1), (2, gv_u l2), (3, .int l3)] [] h (.returned none) r) {l0 : Option Nat} {l1 : Option Nat} {l2 : Option Nat} {l3 : Int32} {h : gx_H} {r : gx_H} (e : cR_makeHanded_56 rec18 l0 l1 l2 l3 h = some r) : gv_V xs 3 100 56 [(0, gv_u l0), (1, gv_u l1), (2, gv_u l2), (3, .int l3)] [] h (.returned none) r := by
  unfold cR_makeHanded_56 at e
  refine gv_inc (pc' := 59) (y := 1) rfl rfl rfl rfl (gv_Cr rfl) rfl ?_
  refine gv_goto (pc' := 18) rfl rfl ?_
  exact gv_weak (hrec18 _ _ _ _ _ _ e) (gv_S1 rfl (gv_S1 rfl (gv_S1 rfl (gv_S1 rfl gv_S0))))
def cR_makeHanded_18 : Nat → Option Nat → Option Nat → Option Nat → Int32 → gx_H → Option gx_H
  | 0, _, _, _, _, _ => none
  | n + 1, l0, l1, l2, l3, h =>
    (gv_gI h l0 6 5).bind fun v1 =>
    if l3 < v1 then (
      (gv_is h l0 6).bind fun i3 =>
      (cR_beginThing l0 l1 (4 : Int32) h).bind fun r6 =>
      if r6.1 = none then (
        cR_makeHanded_56 (cR_makeHanded_18 n) l0 l1 l2 l3 r6.2) else
      (gv_gR r6.2 l2 4 2).bind fun v8 =>
      (gv_lJ r6.2 v8 l3).bind fun v9 =>
      (gv_gR r6.2 l2 4 3).bind fun v10 =>
      (gv_lI r6.2 v10 l3).bind fun v11 =>
      (gv_is r6.2 r6.1 2).bind fun i12 =>
      (cT_holdBytes r6.1 v9 v11 r6.2).bind fun h14 =>
      cR_makeHanded_56 (cR_makeHanded_18 n) l0 l1 l2 l3 h14) else
    (gv_gI h l1 1 1).bind fun v15 =>
    (gv_pV h l0 6 6 (.int v15)).bind fun h16 =>
    some h16
theorem cR_makeHanded_18_ok {xs : Option (List Int32)} : ∀ (n : Nat) (l0 : Option Nat) (l1 : Option Nat) (l2 : Option Nat) (l3 : Int32) (h : gx_H) (r : gx_H), cR_makeHanded_18 n l0 l1 l2 l3 h = some r → gv_V xs 3 100 18 [(0, gv_u l0), (1, gv_u l1), (2, gv_u l2), (3, .int l3)] [] h (.returned none) r := by
  intro n
  induction n with
  | zero => intro l0 l1 l2 l3 h r e; cases e
  | succ n ih =>
    intro l0 l1 l2 l3 h r e
    rw [cR_makeHanded_18] at e
    refine gv_ildn (pc' := 19) rfl rfl rfl ?_
    refine gv_rldn (pc' := 20) rfl rfl rfl ?_
    obtain ⟨v1, qv1, e⟩ := gv_bind e
    refine gv_fI (pc' := 23) rfl rfl qv1 rfl ?_
    by_cases c2 : l3 < v1
    · rw [if_pos c2] at e
      refine gv_cmF (pc' := 26) rfl (gv_geF2 c2) rfl rfl ?_
      refine gv_rldn (pc' := 27) rfl rfl rfl ?_
      refine gv_rldn (pc' := 28) rfl rfl rfl ?_
      refine gv_ic (pc' := 29) (x := 4) rfl rfl rfl ?_
      obtain ⟨i3, qi3, e⟩ := gv_bind e
      obtain ⟨⟨v4, h5⟩, qv4, e⟩ := gv_bind e
      refine gv_vS (jc := 101) (n := 2) (rest := []) (stk := [gv_u v4]) (pc' := 32) rfl rfl rfl rfl rfl rfl rfl rfl rfl (gv_zR (gv_zR (gv_zI gv_z0))) rfl (gv_aR (gv_aR (gv_aI gv_a0))) (Nat.le_of_ble_eq_true rfl) qi3 (cR_beginThing_ok qv4) rfl rfl ?_
      refine gv_rst (pc' := 34) rfl rfl (gv_Ci rfl) rfl ?_
      refine gv_rld (pc' := 36) rfl rfl rfl ?_
      by_cases c7 : v4 = none
      · rw [if_pos c7] at e
        refine gv_nuT (pc' := 56) rfl c7 rfl ?_
        exact gv_weak (cR_makeHanded_56_ok ih e) (gv_S1 rfl (gv_S1 rfl (gv_S1 rfl (gv_S1 rfl gv_S0))))
      rw [if_neg c7] at e
      refine gv_nuF (pc' := 39) rfl c7 rfl ?_
      refine gv_rld (pc' := 41) rfl rfl rfl ?_
      refine gv_rldn (pc' := 42) rfl rfl rfl ?_
      obtain ⟨v8, qv8, e⟩ := gv_bind e
      refine gv_fR (pc' := 45) rfl rfl qv8 rfl ?_
      refine gv_ildn (pc' := 46) rfl rfl rfl ?_
      obtain ⟨v9, qv9, e⟩ := gv_bind e
      refine gv_lald (pc' := 47) rfl qv9 rfl ?_
      refine gv_rldn (pc' := 48) rfl rfl rfl ?_
      obtain ⟨v10, qv10, e⟩ := gv_bind e
      refine gv_fR (pc' := 51) rfl rfl qv10 rfl ?_
      refine gv_ildn (pc' := 52) rfl rfl rfl ?_
      obtain ⟨v11, qv11, e⟩ := gv_bind e
      refine gv_iald (pc' := 53) rfl qv11 rfl ?_
      obtain ⟨i12, qi12, e⟩ := gv_bind e
      obtain ⟨h14, qv13, e⟩ := gv_bind e
      refine gv_vS (jc := 30) (n := 2) (rest := []) (stk := []) (pc' := 56) rfl rfl rfl rfl rfl rfl rfl rfl rfl (gv_zR (gv_zJ (gv_zI gv_z0))) rfl (gv_aR (gv_aJ (gv_aI gv_a0))) (Nat.le_of_ble_eq_true rfl) qi12 (cT_holdBytes_ok qv13) rfl rfl ?_
      exact gv_weak (cR_makeHanded_56_ok ih e) (gv_S1 rfl (gv_S1 rfl (gv_S1 rfl (gv_S1 rfl gv_S0))))
    rw [if_neg c2] at e
    refine gv_cmT (pc' := 62) rfl (gv_geT2 c2) rfl ?_
    refine gv_rldn (pc' := 63) rfl rfl rfl ?_
    refine gv_rldn (pc' := 64) rfl rfl rfl ?_
    obtain ⟨v15, qv15, e⟩ := gv_bind e
    refine gv_fI (pc' := 67) rfl rfl qv15 rfl ?_
    obtain ⟨h16, qh16, e⟩ := gv_bind e
    refine gv_pI (pc' := 70) rfl rfl rfl qh16 rfl ?_
    cases e
    exact gv_retV rfl rfl
def cR_makeHanded (l0 : Option Nat) (l1 : Option Nat) (l2 : Option Nat) (h : gx_H) : Option gx_H :=
  (gv_gI h l1 1 1).bind fun v1 =>
  (gv_pV h l0 6 4 (.int v1)).bind fun h2 =>
  (gv_gI h2 l2 4 4).bind fun v3 =>
  (gv_pV h2 l0 6 5 (.int v3)).bind fun h4 =>
  cR_makeHanded_18 1000000000000000 l0 l1 l2 (0 : Int32) h4
theorem cR_makeHanded_ok {xs : Option (List Int32)} {l0 : Option Nat} {l1 : Option Nat} {l2 : Option Nat} {h : gx_H} {r : gx_H} (e : cR_makeHanded l0 l1 l2 h = some r) : gv_V xs 3 100 0 [(0, gv_u l0), (1, gv_u l1), (2, gv_u l2)] [] h (.returned none) r := by
  unfold cR_makeHanded at e
  refine gv_rldn (pc' := 1) rfl rfl rfl ?_
  refine gv_rldn (pc' := 2) rfl rfl rfl ?_
  obtain ⟨v1, qv1, e⟩ := gv_bind e
  refine gv_fI (pc' := 5) rfl rfl qv1 rfl ?_
  obtain ⟨h2, qh2, e⟩ := gv_bind e
  refine gv_pI (pc' := 8) rfl rfl rfl qh2 rfl ?_
  refine gv_rldn (pc' := 9) rfl rfl rfl ?_
  refine gv_rldn (pc' := 10) rfl rfl rfl ?_
  obtain ⟨v3, qv3, e⟩ := gv_bind e
  refine gv_fI (pc' := 13) rfl rfl qv3 rfl ?_
  obtain ⟨h4, qh4, e⟩ := gv_bind e
  refine gv_pI (pc' := 16) rfl rfl rfl qh4 rfl ?_
  refine gv_ic (pc' := 17) (x := 0) rfl rfl rfl ?_
  refine gv_istn (pc' := 18) rfl rfl (gv_Cr rfl) rfl ?_
  exact gv_weak (cR_makeHanded_18_ok 1000000000000000 _ _ _ _ _ _ e) (gv_S1 rfl (gv_S1 rfl (gv_S1 rfl (gv_S1 rfl gv_S0))))
def cR_nextByte (l0 : Option Nat) (l1 : Option Nat) (h : gx_H) : Option (Int32 × gx_H) :=
  (gv_gI h l0 6 1).bind fun v1 =>
  if v1 = 0 then (
    (gv_gI h l0 6 0).bind fun v3 =>
    (gv_gI h l1 3 1).bind fun v4 =>
    if v3 < v4 then (
      (gv_gI h l0 6 0).bind fun v6 =>
      (gv_pV h l0 6 0 (.int (v6 + (1 : Int32)))).bind fun h7 =>
      (gv_gR h7 l1 3 0).bind fun v8 =>
      (gv_gI h7 l0 6 0).bind fun v9 =>
      (gv_lI h7 v8 (v9 - (1 : Int32))).bind fun v10 =>
      some (v10, h7)) else
    (gv_pV h l0 6 1 (.int (1 : Int32))).bind fun h11 =>
    some ((0 : Int32), h11)) else
  (gv_pV h l0 6 1 (.int (1 : Int32))).bind fun h12 =>
  some ((0 : Int32), h12)
theorem cR_nextByte_ok {xs : Option (List Int32)} {l0 : Option Nat} {l1 : Option Nat} {h : gx_H} {r : (Int32 × gx_H)} (e : cR_nextByte l0 l1 h = some r) : gv_V xs 0 102 0 [(0, gv_u l0), (1, gv_u l1)] [] h (.returned (some (.int r.1))) r.2 := by
  unfold cR_nextByte at e
  refine gv_rldn (pc' := 1) rfl rfl rfl ?_
  obtain ⟨v1, qv1, e⟩ := gv_bind e
  refine gv_fI (pc' := 4) rfl rfl qv1 rfl ?_
  by_cases c2 : v1 = 0
  · rw [if_pos c2] at e
    refine gv_ifF (pc' := 7) rfl (gv_neF c2) rfl rfl ?_
    refine gv_rldn (pc' := 8) rfl rfl rfl ?_
    obtain ⟨v3, qv3, e⟩ := gv_bind e
    refine gv_fI (pc' := 11) rfl rfl qv3 rfl ?_
    refine gv_rldn (pc' := 12) rfl rfl rfl ?_
    obtain ⟨v4, qv4, e⟩ := gv_bind e
    refine gv_fI (pc' := 15) rfl rfl qv4 rfl ?_
    by_cases c5 : v3 < v4
    · rw [if_pos c5] at e
      refine gv_cmT (pc' := 25) rfl (gv_ltT2 c5) rfl ?_
      refine gv_rldn (pc' := 26) rfl rfl rfl ?_
      refine gv_dup (pc' := 27) rfl (gv_u_cat _) rfl ?_
      obtain ⟨v6, qv6, e⟩ := gv_bind e
      refine gv_fI (pc' := 30) rfl rfl qv6 rfl ?_
      refine gv_ic (pc' := 31) (x := 1) rfl rfl rfl ?_
      refine gv_iadd (pc' := 32) rfl rfl ?_
      obtain ⟨h7, qh7, e⟩ := gv_bind e
      refine gv_pI (pc' := 35) rfl rfl rfl qh7 rfl ?_
      refine gv_rldn (pc' := 36) rfl rfl rfl ?_
      obtain ⟨v8, qv8, e⟩ := gv_bind e
      refine gv_fR (pc' := 39) rfl rfl qv8 rfl ?_
      refine gv_rldn (pc' := 40) rfl rfl rfl ?_
      obtain ⟨v9, qv9, e⟩ := gv_bind e
      refine gv_fI (pc' := 43) rfl rfl qv9 rfl ?_
      refine gv_ic (pc' := 44) (x := 1) rfl rfl rfl ?_
      refine gv_isub (pc' := 45) rfl rfl ?_
      obtain ⟨v10, qv10, e⟩ := gv_bind e
      refine gv_iald (pc' := 46) rfl qv10 rfl ?_
      cases e
      exact gv_retI rfl rfl
    rw [if_neg c5] at e
    refine gv_cmF (pc' := 18) rfl (gv_ltF2 c5) rfl rfl ?_
    refine gv_rldn (pc' := 19) rfl rfl rfl ?_
    refine gv_ic (pc' := 20) (x := 1) rfl rfl rfl ?_
    obtain ⟨h11, qh11, e⟩ := gv_bind e
    refine gv_pZ (pc' := 23) rfl rfl rfl (by decide) qh11 rfl ?_
    refine gv_ic (pc' := 24) (x := 0) rfl rfl rfl ?_
    cases e
    exact gv_retI rfl rfl
  rw [if_neg c2] at e
  refine gv_ifT (pc' := 18) rfl (gv_neT c2) rfl ?_
  refine gv_rldn (pc' := 19) rfl rfl rfl ?_
  refine gv_ic (pc' := 20) (x := 1) rfl rfl rfl ?_
  obtain ⟨h12, qh12, e⟩ := gv_bind e
  refine gv_pZ (pc' := 23) rfl rfl rfl (by decide) qh12 rfl ?_
  refine gv_ic (pc' := 24) (x := 0) rfl rfl rfl ?_
  cases e
  exact gv_retI rfl rfl
def cR_nextUpTo (l0 : Option Nat) (l1 : Option Nat) (l2 : Int32) (h : gx_H) : Option (Int32 × gx_H) :=
  (gv_is h l0 6).bind fun i1 =>
  (cR_nextByte l0 l1 h).bind fun r4 =>
  if l2 < r4.1 then (
    (gv_pV r4.2 l0 6 1 (.int (1 : Int32))).bind fun h6 =>
    some ((0 : Int32), h6)) else
  some (r4.1, r4.2)
theorem cR_nextUpTo_ok {xs : Option (List Int32)} {l0 : Option Nat} {l1 : Option Nat} {l2 : Int32} {h : gx_H} {r : (Int32 × gx_H)} (e : cR_nextUpTo l0 l1 l2 h = some r) : gv_V xs 1 104 0 [(0, gv_u l0), (1, gv_u l1), (2, .int l2)] [] h (.returned (some (.int r.1))) r.2 := by
  unfold cR_nextUpTo at e
  refine gv_rldn (pc' := 1) rfl rfl rfl ?_
  refine gv_rldn (pc' := 2) rfl rfl rfl ?_
  obtain ⟨i1, qi1, e⟩ := gv_bind e
  obtain ⟨⟨v2, h3⟩, qv2, e⟩ := gv_bind e
  refine gv_vS (jc := 102) (n := 1) (rest := []) (stk := [.int v2]) (pc' := 5) rfl rfl rfl rfl rfl rfl rfl rfl rfl (gv_zR (gv_zR gv_z0)) rfl (gv_aR (gv_aR gv_a0)) (Nat.le_of_ble_eq_true rfl) qi1 (cR_nextByte_ok qv2) rfl rfl ?_
  refine gv_istn (pc' := 6) rfl rfl (gv_Ci rfl) rfl ?_
  refine gv_ildn (pc' := 7) rfl rfl rfl ?_
  refine gv_ildn (pc' := 8) rfl rfl rfl ?_
  by_cases c5 : l2 < v2
  · rw [if_pos c5] at e
    refine gv_cmF (pc' := 11) rfl (gv_leF2 c5) rfl rfl ?_
    refine gv_rldn (pc' := 12) rfl rfl rfl ?_
    refine gv_ic (pc' := 13) (x := 1) rfl rfl rfl ?_
    obtain ⟨h6, qh6, e⟩ := gv_bind e
    refine gv_pZ (pc' := 16) rfl rfl rfl (by decide) qh6 rfl ?_
    refine gv_ic (pc' := 17) (x := 0) rfl rfl rfl ?_
    cases e
    exact gv_retI rfl rfl
  rw [if_neg c5] at e
  refine gv_cmT (pc' := 18) rfl (gv_leT2 c5) rfl ?_
  refine gv_ildn (pc' := 19) rfl rfl rfl ?_
  cases e
  exact gv_retI rfl rfl
def cR_nextLengthy_77 (l0 : Option Nat) (l2 : Int64) (l6 : Int32) (s0 : Int32) (h : gx_H) : Option (Int64 × gx_H) :=
  (gv_gI h l0 6 1).bind fun v1 =>
  if v1 = 0 then (
    if l6 = 0 then (
      if s0 = 0 then (
        (gv_pV h l0 6 1 (.int (0 : Int32))).bind fun h5 =>
        some (l2, h5)) else
      (gv_pV h l0 6 1 (.int (1 : Int32))).bind fun h6 =>
      some (l2, h6)) else
    (gv_pV h l0 6 1 (.int (1 : Int32))).bind fun h7 =>
    some (l2, h7)) else
  (gv_pV h l0 6 1 (.int (1 : Int32))).bind fun h8 =>
  some (l2, h8)
theorem cR_nextLengthy_77_ok {xs : Option (List Int32)} {l0 : Option Nat} {l2 : Int64} {l6 : Int32} {s0 : Int32} {h : gx_H} {r : (Int64 × gx_H)} (e : cR_nextLengthy_77 l0 l2 l6 s0 h = some r) : gv_V xs 1 107 77 [(0, gv_u l0), (2, .long l2), (6, .int l6)] [.int s0] h (.returned (some (.long r.1))) r.2 := by
  unfold cR_nextLengthy_77 at e
  refine gv_ist (pc' := 79) rfl rfl (gv_Ci rfl) rfl ?_
  refine gv_rldn (pc' := 80) rfl rfl rfl ?_
  refine gv_rldn (pc' := 81) rfl rfl rfl ?_
  obtain ⟨v1, qv1, e⟩ := gv_bind e
  refine gv_fI (pc' := 84) rfl rfl qv1 rfl ?_
  by_cases c2 : v1 = 0
  · rw [if_pos c2] at e
    refine gv_ifF (pc' := 87) rfl (gv_neF c2) rfl rfl ?_
    refine gv_ild (pc' := 89) rfl rfl rfl ?_
    by_cases c3 : l6 = 0
    · rw [if_pos c3] at e
      refine gv_ifF (pc' := 92) rfl (gv_neF c3) rfl rfl ?_
      refine gv_ild (pc' := 94) rfl rfl rfl ?_
      by_cases c4 : s0 = 0
      · rw [if_pos c4] at e
        refine gv_ifT (pc' := 101) rfl (gv_eqT c4) rfl ?_
        refine gv_ic (pc' := 102) (x := 0) rfl rfl rfl ?_
        obtain ⟨h5, qh5, e⟩ := gv_bind e
        refine gv_pZ (pc' := 105) rfl rfl rfl (by decide) qh5 rfl ?_
        refine gv_jldn (pc' := 106) rfl rfl rfl ?_
        cases e
        exact gv_retJ rfl rfl
      rw [if_neg c4] at e
      refine gv_ifF (pc' := 97) rfl (gv_eqF c4) rfl rfl ?_
      refine gv_ic (pc' := 98) (x := 1) rfl rfl rfl ?_
      refine gv_goto (pc' := 102) rfl rfl ?_
      obtain ⟨h6, qh6, e⟩ := gv_bind e
      refine gv_pZ (pc' := 105) rfl rfl rfl (by decide) qh6 rfl ?_
      refine gv_jldn (pc' := 106) rfl rfl rfl ?_
      cases e
      exact gv_retJ rfl rfl
    rw [if_neg c3] at e
    refine gv_ifT (pc' := 97) rfl (gv_neT c3) rfl ?_
    refine gv_ic (pc' := 98) (x := 1) rfl rfl rfl ?_
    refine gv_goto (pc' := 102) rfl rfl ?_
    obtain ⟨h7, qh7, e⟩ := gv_bind e
    refine gv_pZ (pc' := 105) rfl rfl rfl (by decide) qh7 rfl ?_
    refine gv_jldn (pc' := 106) rfl rfl rfl ?_
    cases e
    exact gv_retJ rfl rfl
  rw [if_neg c2] at e
  refine gv_ifT (pc' := 97) rfl (gv_neT c2) rfl ?_
  refine gv_ic (pc' := 98) (x := 1) rfl rfl rfl ?_
  refine gv_goto (pc' := 102) rfl rfl ?_
  obtain ⟨h8, qh8, e⟩ := gv_bind e
  refine gv_pZ (pc' := 105) rfl rfl rfl (by decide) qh8 rfl ?_
  refine gv_jldn (pc' := 106) rfl rfl rfl ?_
  cases e
  exact gv_retJ rfl rfl
def cR_nextLengthy_76 (l0 : Option Nat) (l2 : Int64) (l6 : Int32) (h : gx_H) : Option (Int64 × gx_H) :=
  cR_nextLengthy_77 l0 l2 l6 (0 : Int32) h
theorem cR_nextLengthy_76_ok {xs : Option (List Int32)} {l0 : Option Nat} {l2 : Int64} {l6 : Int32} {h : gx_H} {r : (Int64 × gx_H)} (e : cR_nextLengthy_76 l0 l2 l6 h = some r) : gv_V xs 1 107 76 [(0, gv_u l0), (2, .long l2), (6, .int l6)] [] h (.returned (some (.long r.1))) r.2 := by
  unfold cR_nextLengthy_76 at e
  refine gv_ic (pc' := 77) (x := 0) rfl rfl rfl ?_
  exact gv_weak (cR_nextLengthy_77_ok e) (gv_S1 rfl (gv_S1 rfl (gv_S1 rfl gv_S0)))
def cR_nextLengthy_57 (l0 : Option Nat) (l2 : Int64) (l4 : Int32) (l5 : Int32) (s0 : Int32) (h : gx_H) : Option (Int64 × gx_H) :=
  if l4 = (9 : Int32) then (
    if (1 : Int32) < l5 then (
      cR_nextLengthy_77 l0 l2 s0 (1 : Int32) h) else
    cR_nextLengthy_76 l0 l2 s0 h) else
  cR_nextLengthy_76 l0 l2 s0 h
theorem cR_nextLengthy_57_ok {xs : Option (List Int32)} {l0 : Option Nat} {l2 : Int64} {l4 : Int32} {l5 : Int32} {s0 : Int32} {h : gx_H} {r : (Int64 × gx_H)} (e : cR_nextLengthy_57 l0 l2 l4 l5 s0 h = some r) : gv_V xs 1 107 57 [(0, gv_u l0), (2, .long l2), (4, .int l4), (5, .int l5)] [.int s0] h (.returned (some (.long r.1))) r.2 := by
  unfold cR_nextLengthy_57 at e
  refine gv_ist (pc' := 59) rfl rfl (gv_Ci rfl) rfl ?_
  refine gv_ild (pc' := 61) rfl rfl rfl ?_
  refine gv_bp (pc' := 63) (x := 9) rfl rfl rfl ?_
  by_cases c1 : l4 = (9 : Int32)
  · rw [if_pos c1] at e
    refine gv_cmF (pc' := 66) rfl (gv_neF2 c1) rfl rfl ?_
    refine gv_ild (pc' := 68) rfl rfl rfl ?_
    refine gv_ic (pc' := 69) (x := 1) rfl rfl rfl ?_
    by_cases c2 : (1 : Int32) < l5
    · rw [if_pos c2] at e
      refine gv_cmF (pc' := 72) rfl (gv_leF2 c2) rfl rfl ?_
      refine gv_ic (pc' := 73) (x := 1) rfl rfl rfl ?_
      refine gv_goto (pc' := 77) rfl rfl ?_
      exact gv_weak (cR_nextLengthy_77_ok e) (gv_S1 rfl (gv_S1 rfl (gv_S1 rfl gv_S0)))
    rw [if_neg c2] at e
    refine gv_cmT (pc' := 76) rfl (gv_leT2 c2) rfl ?_
    exact gv_weak (cR_nextLengthy_76_ok e) (gv_S1 rfl (gv_S1 rfl (gv_S1 rfl gv_S0)))
  rw [if_neg c1] at e
  refine gv_cmT (pc' := 76) rfl (gv_neT2 c1) rfl ?_
  exact gv_weak (cR_nextLengthy_76_ok e) (gv_S1 rfl (gv_S1 rfl (gv_S1 rfl gv_S0)))
def cR_nextLengthy_56 (l0 : Option Nat) (l2 : Int64) (l4 : Int32) (l5 : Int32) (h : gx_H) : Option (Int64 × gx_H) :=
  cR_nextLengthy_57 l0 l2 l4 l5 (0 : Int32) h
theorem cR_nextLengthy_56_ok {xs : Option (List Int32)} {l0 : Option Nat} {l2 : Int64} {l4 : Int32} {l5 : Int32} {h : gx_H} {r : (Int64 × gx_H)} (e : cR_nextLengthy_56 l0 l2 l4 l5 h = some r) : gv_V xs 1 107 56 [(0, gv_u l0), (2, .long l2), (4, .int l4), (5, .int l5)] [] h (.returned (some (.long r.1))) r.2 := by
  unfold cR_nextLengthy_56 at e
  refine gv_ic (pc' := 57) (x := 0) rfl rfl rfl ?_
  exact gv_weak (cR_nextLengthy_57_ok e) (gv_S1 rfl (gv_S1 rfl (gv_S1 rfl (gv_S1 rfl gv_S0))))
def cR_nextLengthy_5 : Nat → Option Nat → Option Nat → Int64 → Int32 → gx_H → Option (Int64 × gx_H)
  | 0, _, _, _, _, _ => none
  | n + 1, l0, l1, l2, l4, h =>
    if l4 < (10 : Int32) then (
      (gv_is h l0 6).bind fun i2 =>
      (cR_nextByte l0 l1 h).bind fun r5 =>
      if r5.1 < (128 : Int32) then (
        if 0 < l4 then (
          if r5.1 = 0 then (
            cR_nextLengthy_57 l0 (l2 ||| ((Int32.toInt64 (r5.1 &&& (127 : Int32))) <<< (Int32.toInt64 ((7 : Int32) * l4) &&& 63))) l4 r5.1 (1 : Int32) r5.2) else
          cR_nextLengthy_56 l0 (l2 ||| ((Int32.toInt64 (r5.1 &&& (127 : Int32))) <<< (Int32.toInt64 ((7 : Int32) * l4) &&& 63))) l4 r5.1 r5.2) else
        cR_nextLengthy_56 l0 (l2 ||| ((Int32.toInt64 (r5.1 &&& (127 : Int32))) <<< (Int32.toInt64 ((7 : Int32) * l4) &&& 63))) l4 r5.1 r5.2) else
      cR_nextLengthy_5 n l0 l1 (l2 ||| ((Int32.toInt64 (r5.1 &&& (127 : Int32))) <<< (Int32.toInt64 ((7 : Int32) * l4) &&& 63))) (l4 + 1) r5.2) else
    (gv_pV h l0 6 1 (.int (1 : Int32))).bind fun h9 =>
    some (l2, h9)
theorem cR_nextLengthy_5_ok {xs : Option (List Int32)} : ∀ (n : Nat) (l0 : Option Nat) (l1 : Option Nat) (l2 : Int64) (l4 : Int32) (h : gx_H) (r : (Int64 × gx_H)), cR_nextLengthy_5 n l0 l1 l2 l4 h = some r → gv_V xs 1 107 5 [(0, gv_u l0), (1, gv_u l1), (2, .long l2), (4, .int l4)] [] h (.returned (some (.long r.1))) r.2 := by
  intro n
  induction n with
  | zero => intro l0 l1 l2 l4 h r e; cases e
  | succ n ih =>
    intro l0 l1 l2 l4 h r e
    rw [cR_nextLengthy_5] at e
    refine gv_ild (pc' := 7) rfl rfl rfl ?_
    refine gv_bp (pc' := 9) (x := 10) rfl rfl rfl ?_
    by_cases c1 : l4 < (10 : Int32)
    · rw [if_pos c1] at e
      refine gv_cmF (pc' := 12) rfl (gv_geF2 c1) rfl rfl ?_
      refine gv_rldn (pc' := 13) rfl rfl rfl ?_
      refine gv_rldn (pc' := 14) rfl rfl rfl ?_
      obtain ⟨i2, qi2, e⟩ := gv_bind e
      obtain ⟨⟨v3, h4⟩, qv3, e⟩ := gv_bind e
      refine gv_vS (jc := 102) (n := 1) (rest := []) (stk := [.int v3]) (pc' := 17) rfl rfl rfl rfl rfl rfl rfl rfl rfl (gv_zR (gv_zR gv_z0)) rfl (gv_aR (gv_aR gv_a0)) (Nat.le_of_ble_eq_true rfl) qi2 (cR_nextByte_ok qv3) rfl rfl ?_
      refine gv_ist (pc' := 19) rfl rfl (gv_Ci rfl) rfl ?_
      refine gv_jldn (pc' := 20) rfl rfl rfl ?_
      refine gv_ild (pc' := 22) rfl rfl rfl ?_
      refine gv_bp (pc' := 24) (x := 127) rfl rfl rfl ?_
      refine gv_iand (pc' := 25) rfl rfl ?_
      refine gv_i2l (pc' := 26) rfl rfl ?_
      refine gv_bp (pc' := 28) (x := 7) rfl rfl rfl ?_
      refine gv_ild (pc' := 30) rfl rfl rfl ?_
      refine gv_imul (pc' := 31) rfl rfl ?_
      refine gv_lshl (pc' := 32) rfl rfl ?_
      refine gv_lor (pc' := 33) rfl rfl ?_
      refine gv_jstn (pc' := 34) rfl rfl (gv_Cr rfl) rfl rfl ?_
      refine gv_ild (pc' := 36) rfl rfl rfl ?_
      refine gv_sp (pc' := 39) (x := 128) rfl rfl rfl ?_
      by_cases c6 : v3 < (128 : Int32)
      · rw [if_pos c6] at e
        refine gv_cmF (pc' := 42) rfl (gv_geF2 c6) rfl rfl ?_
        refine gv_ild (pc' := 44) rfl rfl rfl ?_
        by_cases c7 : 0 < l4
        · rw [if_pos c7] at e
          refine gv_ifF (pc' := 47) rfl (gv_leF c7) rfl rfl ?_
          refine gv_ild (pc' := 49) rfl rfl rfl ?_
          by_cases c8 : v3 = 0
          · rw [if_pos c8] at e
            refine gv_ifF (pc' := 52) rfl (gv_neF c8) rfl rfl ?_
            refine gv_ic (pc' := 53) (x := 1) rfl rfl rfl ?_
            refine gv_goto (pc' := 57) rfl rfl ?_
            exact gv_weak (cR_nextLengthy_57_ok e) (gv_S1 rfl (gv_S1 rfl (gv_S1 rfl (gv_S1 rfl gv_S0))))
          rw [if_neg c8] at e
          refine gv_ifT (pc' := 56) rfl (gv_neT c8) rfl ?_
          exact gv_weak (cR_nextLengthy_56_ok e) (gv_S1 rfl (gv_S1 rfl (gv_S1 rfl (gv_S1 rfl gv_S0))))
        rw [if_neg c7] at e
        refine gv_ifT (pc' := 56) rfl (gv_leT c7) rfl ?_
        exact gv_weak (cR_nextLengthy_56_ok e) (gv_S1 rfl (gv_S1 rfl (gv_S1 rfl (gv_S1 rfl gv_S0))))
      rw [if_neg c6] at e
      refine gv_cmT (pc' := 107) rfl (gv_geT2 c6) rfl ?_
      refine gv_inc (pc' := 110) (y := 1) rfl rfl rfl rfl (gv_Cn rfl) rfl ?_
      refine gv_goto (pc' := 5) rfl rfl ?_
      exact gv_weak (ih _ _ _ _ _ _ e) (gv_S1 rfl (gv_S1 rfl (gv_S1 rfl (gv_S1 rfl gv_S0))))
    rw [if_neg c1] at e
    refine gv_cmT (pc' := 113) rfl (gv_geT2 c1) rfl ?_
    refine gv_rldn (pc' := 114) rfl rfl rfl ?_
    refine gv_ic (pc' := 115) (x := 1) rfl rfl rfl ?_
    obtain ⟨h9, qh9, e⟩ := gv_bind e
    refine gv_pZ (pc' := 118) rfl rfl rfl (by decide) qh9 rfl ?_
    refine gv_jldn (pc' := 119) rfl rfl rfl ?_
    cases e
    exact gv_retJ rfl rfl
def cR_nextLengthy (l0 : Option Nat) (l1 : Option Nat) (h : gx_H) : Option (Int64 × gx_H) :=
  cR_nextLengthy_5 1000000000000000 l0 l1 (0 : Int64) (0 : Int32) h
theorem cR_nextLengthy_ok {xs : Option (List Int32)} {l0 : Option Nat} {l1 : Option Nat} {h : gx_H} {r : (Int64 × gx_H)} (e : cR_nextLengthy l0 l1 h = some r) : gv_V xs 1 107 0 [(0, gv_u l0), (1, gv_u l1)] [] h (.returned (some (.long r.1))) r.2 := by
  unfold cR_nextLengthy at e
  refine gv_lc (pc' := 1) (x := 0) rfl rfl rfl ?_
  refine gv_jstn (pc' := 2) rfl rfl (gv_Cr rfl) rfl rfl ?_
  refine gv_ic (pc' := 3) (x := 0) rfl rfl rfl ?_
  refine gv_ist (pc' := 5) rfl rfl (gv_Cn rfl) rfl ?_
  exact gv_weak (cR_nextLengthy_5_ok 1000000000000000 _ _ _ _ _ _ e) (gv_S1 rfl (gv_S1 rfl (gv_S1 rfl (gv_S1 rfl gv_S0))))
def cR_nextZigzag (l0 : Option Nat) (l1 : Option Nat) (h : gx_H) : Option (Int64 × gx_H) :=
  (gv_is h l0 6).bind fun i1 =>
  (cR_nextLengthy l0 l1 h).bind fun r4 =>
  some ((((Int64.toUInt64 r4.1 >>> ((Int32.toInt64 (1 : Int32)).toUInt64 &&& Int64.toUInt64 63)).toInt64) ^^^ (-(r4.1 &&& (1 : Int64)))), r4.2)
theorem cR_nextZigzag_ok {xs : Option (List Int32)} {l0 : Option Nat} {l1 : Option Nat} {h : gx_H} {r : (Int64 × gx_H)} (e : cR_nextZigzag l0 l1 h = some r) : gv_V xs 2 106 0 [(0, gv_u l0), (1, gv_u l1)] [] h (.returned (some (.long r.1))) r.2 := by
  unfold cR_nextZigzag at e
  refine gv_rldn (pc' := 1) rfl rfl rfl ?_
  refine gv_rldn (pc' := 2) rfl rfl rfl ?_
  obtain ⟨i1, qi1, e⟩ := gv_bind e
  obtain ⟨⟨v2, h3⟩, qv2, e⟩ := gv_bind e
  refine gv_vS (jc := 107) (n := 1) (rest := []) (stk := [.long v2]) (pc' := 5) rfl rfl rfl rfl rfl rfl rfl rfl rfl (gv_zR (gv_zR gv_z0)) rfl (gv_aR (gv_aR gv_a0)) (Nat.le_of_ble_eq_true rfl) qi1 (cR_nextLengthy_ok qv2) rfl rfl ?_
  refine gv_jstn (pc' := 6) rfl rfl (gv_Cr rfl) rfl rfl ?_
  refine gv_jldn (pc' := 7) rfl rfl rfl ?_
  refine gv_ic (pc' := 8) (x := 1) rfl rfl rfl ?_
  refine gv_lushr (pc' := 9) rfl rfl ?_
  refine gv_jldn (pc' := 10) rfl rfl rfl ?_
  refine gv_lc (pc' := 11) (x := 1) rfl rfl rfl ?_
  refine gv_land (pc' := 12) rfl rfl ?_
  refine gv_lneg (pc' := 13) rfl rfl ?_
  refine gv_lxor (pc' := 14) rfl rfl ?_
  cases e
  exact gv_retJ rfl rfl
def cR_nextInt (l0 : Option Nat) (l1 : Option Nat) (h : gx_H) : Option (Int32 × gx_H) :=
  (gv_is h l0 6).bind fun i1 =>
  (cR_nextZigzag l0 l1 h).bind fun r4 =>
  if r4.1 = (Int32.toInt64 (Int64.toInt32 r4.1)) then (
    some ((Int64.toInt32 r4.1), r4.2)) else
  (gv_pV r4.2 l0 6 1 (.int (1 : Int32))).bind fun h6 =>
  some ((Int64.toInt32 r4.1), h6)
theorem cR_nextInt_ok {xs : Option (List Int32)} {l0 : Option Nat} {l1 : Option Nat} {h : gx_H} {r : (Int32 × gx_H)} (e : cR_nextInt l0 l1 h = some r) : gv_V xs 3 105 0 [(0, gv_u l0), (1, gv_u l1)] [] h (.returned (some (.int r.1))) r.2 := by
  unfold cR_nextInt at e
  refine gv_rldn (pc' := 1) rfl rfl rfl ?_
  refine gv_rldn (pc' := 2) rfl rfl rfl ?_
  obtain ⟨i1, qi1, e⟩ := gv_bind e
  obtain ⟨⟨v2, h3⟩, qv2, e⟩ := gv_bind e
  refine gv_vS (jc := 106) (n := 1) (rest := []) (stk := [.long v2]) (pc' := 5) rfl rfl rfl rfl rfl rfl rfl rfl rfl (gv_zR (gv_zR gv_z0)) rfl (gv_aR (gv_aR gv_a0)) (Nat.le_of_ble_eq_true rfl) qi1 (cR_nextZigzag_ok qv2) rfl rfl ?_
  refine gv_jstn (pc' := 6) rfl rfl (gv_Cr rfl) rfl rfl ?_
  refine gv_jldn (pc' := 7) rfl rfl rfl ?_
  refine gv_jldn (pc' := 8) rfl rfl rfl ?_
  refine gv_l2i (pc' := 9) rfl rfl ?_
  refine gv_i2l (pc' := 10) rfl rfl ?_
  refine gv_lcmp (pc' := 11) rfl rfl ?_
  by_cases c5 : v2 = (Int32.toInt64 (Int64.toInt32 v2))
  · rw [if_pos c5] at e
    refine gv_ifT (pc' := 19) rfl (gv_eqTL c5) rfl ?_
    refine gv_jldn (pc' := 20) rfl rfl rfl ?_
    refine gv_l2i (pc' := 21) rfl rfl ?_
    cases e
    exact gv_retI rfl rfl
  rw [if_neg c5] at e
  refine gv_ifF (pc' := 14) rfl (gv_eqFL c5) rfl rfl ?_
  refine gv_rldn (pc' := 15) rfl rfl rfl ?_
  refine gv_ic (pc' := 16) (x := 1) rfl rfl rfl ?_
  obtain ⟨h6, qh6, e⟩ := gv_bind e
  refine gv_pZ (pc' := 19) rfl rfl rfl (by decide) qh6 rfl ?_
  refine gv_jldn (pc' := 20) rfl rfl rfl ?_
  refine gv_l2i (pc' := 21) rfl rfl ?_
  cases e
  exact gv_retI rfl rfl
def cR_settle (l0 : Option Nat) (l1 : Int32) (l2 : Int32) (h : gx_H) : Option gx_H :=
  (gv_pV h l0 6 2 (.int l1)).bind fun h1 =>
  (gv_pV h1 l0 6 3 (.int l2)).bind fun h2 =>
  some h2
theorem cR_settle_ok {xs : Option (List Int32)} {l0 : Option Nat} {l1 : Int32} {l2 : Int32} {h : gx_H} {r : gx_H} (e : cR_settle l0 l1 l2 h = some r) : gv_V xs 0 108 0 [(0, gv_u l0), (1, .int l1), (2, .int l2)] [] h (.returned none) r := by
  unfold cR_settle at e
  refine gv_rldn (pc' := 1) rfl rfl rfl ?_
  refine gv_ildn (pc' := 2) rfl rfl rfl ?_
  obtain ⟨h1, qh1, e⟩ := gv_bind e
  refine gv_pI (pc' := 5) rfl rfl rfl qh1 rfl ?_
  refine gv_rldn (pc' := 6) rfl rfl rfl ?_
  refine gv_ildn (pc' := 7) rfl rfl rfl ?_
  obtain ⟨h2, qh2, e⟩ := gv_bind e
  refine gv_pI (pc' := 10) rfl rfl rfl qh2 rfl ?_
  cases e
  exact gv_retV rfl rfl
def cR_nextWord_5 : Nat → Option Nat → Option Nat → Int32 → Int64 → Int32 → gx_H → Option (Int64 × gx_H)
  | 0, _, _, _, _, _, _ => none
  | n + 1, l0, l1, l2, l3, l5, h =>
    if l5 < l2 then (
      (gv_is h l0 6).bind fun i2 =>
      (cR_nextByte l0 l1 h).bind fun r5 =>
      cR_nextWord_5 n l0 l1 l2 (l3 ||| ((Int32.toInt64 r5.1) <<< (Int32.toInt64 ((8 : Int32) * l5) &&& 63))) (l5 + 1) r5.2) else
    some (l3, h)
theorem cR_nextWord_5_ok {xs : Option (List Int32)} : ∀ (n : Nat) (l0 : Option Nat) (l1 : Option Nat) (l2 : Int32) (l3 : Int64) (l5 : Int32) (h : gx_H) (r : (Int64 × gx_H)), cR_nextWord_5 n l0 l1 l2 l3 l5 h = some r → gv_V xs 1 110 5 [(0, gv_u l0), (1, gv_u l1), (2, .int l2), (3, .long l3), (5, .int l5)] [] h (.returned (some (.long r.1))) r.2 := by
  intro n
  induction n with
  | zero => intro l0 l1 l2 l3 l5 h r e; cases e
  | succ n ih =>
    intro l0 l1 l2 l3 l5 h r e
    rw [cR_nextWord_5] at e
    refine gv_ild (pc' := 7) rfl rfl rfl ?_
    refine gv_ildn (pc' := 8) rfl rfl rfl ?_
    by_cases c1 : l5 < l2
    · rw [if_pos c1] at e
      refine gv_cmF (pc' := 11) rfl (gv_geF2 c1) rfl rfl ?_
      refine gv_jldn (pc' := 12) rfl rfl rfl ?_
      refine gv_rldn (pc' := 13) rfl rfl rfl ?_
      refine gv_rldn (pc' := 14) rfl rfl rfl ?_
      obtain ⟨i2, qi2, e⟩ := gv_bind e
      obtain ⟨⟨v3, h4⟩, qv3, e⟩ := gv_bind e
      refine gv_vS (jc := 102) (n := 1) (rest := [.long l3]) (stk := [.int v3, .long l3]) (pc' := 17) rfl rfl rfl rfl rfl rfl rfl rfl rfl (gv_zR (gv_zR gv_z0)) rfl (gv_aR (gv_aR gv_a0)) (Nat.le_of_ble_eq_true rfl) qi2 (cR_nextByte_ok qv3) rfl rfl ?_
      refine gv_i2l (pc' := 18) rfl rfl ?_
      refine gv_bp (pc' := 20) (x := 8) rfl rfl rfl ?_
      refine gv_ild (pc' := 22) rfl rfl rfl ?_
      refine gv_imul (pc' := 23) rfl rfl ?_
      refine gv_lshl (pc' := 24) rfl rfl ?_
      refine gv_lor (pc' := 25) rfl rfl ?_
      refine gv_jstn (pc' := 26) rfl rfl (gv_Ci rfl) rfl rfl ?_
      refine gv_inc (pc' := 29) (y := 1) rfl rfl rfl rfl (gv_Cn rfl) rfl ?_
      refine gv_goto (pc' := 5) rfl rfl ?_
      exact gv_weak (ih _ _ _ _ _ _ _ e) (gv_S1 rfl (gv_S1 rfl (gv_S1 rfl (gv_S1 rfl (gv_S1 rfl gv_S0)))))
    rw [if_neg c1] at e
    refine gv_cmT (pc' := 32) rfl (gv_geT2 c1) rfl ?_
    refine gv_jldn (pc' := 33) rfl rfl rfl ?_
    cases e
    exact gv_retJ rfl rfl
def cR_nextWord (l0 : Option Nat) (l1 : Option Nat) (l2 : Int32) (h : gx_H) : Option (Int64 × gx_H) :=
  cR_nextWord_5 1000000000000000 l0 l1 l2 (0 : Int64) (0 : Int32) h
theorem cR_nextWord_ok {xs : Option (List Int32)} {l0 : Option Nat} {l1 : Option Nat} {l2 : Int32} {h : gx_H} {r : (Int64 × gx_H)} (e : cR_nextWord l0 l1 l2 h = some r) : gv_V xs 1 110 0 [(0, gv_u l0), (1, gv_u l1), (2, .int l2)] [] h (.returned (some (.long r.1))) r.2 := by
  unfold cR_nextWord at e
  refine gv_lc (pc' := 1) (x := 0) rfl rfl rfl ?_
  refine gv_jstn (pc' := 2) rfl rfl (gv_Ci rfl) rfl rfl ?_
  refine gv_ic (pc' := 3) (x := 0) rfl rfl rfl ?_
  refine gv_ist (pc' := 5) rfl rfl (gv_Cn rfl) rfl ?_
  exact gv_weak (cR_nextWord_5_ok 1000000000000000 _ _ _ _ _ _ _ e) (gv_S1 rfl (gv_S1 rfl (gv_S1 rfl (gv_S1 rfl (gv_S1 rfl gv_S0)))))
def cR_readText_39 (rec18 : Option Nat → Int32 → Int32 → Int32 → gx_H → Option gx_H) (l0 : Option Nat) (l2 : Int32) (l3 : Int32) (l4 : Int32) (h : gx_H) : Option gx_H :=
  rec18 l0 l2 l3 (l4 + 1) h
theorem cR_readText_39_ok {xs : Option (List Int32)} {rec18 : Option Nat → Int32 → Int32 → Int32 → gx_H → Option gx_H} (hrec18 : ∀ (l0 : Option Nat) (l2 : Int32) (l3 : Int32) (l4 : Int32) (h : gx_H) (r : gx_H), rec18 l0 l2 l3 l4 h = some r → gv_V xs 2 109 18 [(0, gv_u l0), (2, .int l2), (3, .int l3), (4, .int l4)] [] h (.returned none) r) {l0 : Option Nat} {l2 : Int32} {l3 : Int32} {l4 : Int32} {h : gx_H} {r : gx_H} (e : cR_readText_39 rec18 l0 l2 l3 l4 h = some r) : gv_V xs 2 109 39 [(0, gv_u l0), (2, .int l2), (3, .int l3), (4, .int l4)] [] h (.returned none) r := by
  unfold cR_readText_39 at e
  refine gv_inc (pc' := 42) (y := 1) rfl rfl rfl rfl (gv_Ci rfl) rfl ?_
  refine gv_goto (pc' := 18) rfl rfl ?_
  exact gv_weak (hrec18 _ _ _ _ _ _ e) (gv_S1 rfl (gv_S1 rfl (gv_S1 rfl (gv_S1 rfl gv_S0))))
def cR_readText_18 : Nat → Option Nat → Int32 → Int32 → Int32 → gx_H → Option gx_H
  | 0, _, _, _, _, _ => none
  | n + 1, l0, l2, l3, l4, h =>
    if l4 < l2 then (
      (cG_byteOf (Int32.toInt64 l3) l4).bind fun v2 =>
      if v2 = 0 then (
        (gv_pV h l0 6 1 (.int (1 : Int32))).bind fun h4 =>
        cR_readText_39 (cR_readText_18 n) l0 l2 l3 l4 h4) else
      cR_readText_39 (cR_readText_18 n) l0 l2 l3 l4 h) else
    (gv_is h l0 6).bind fun i5 =>
    (cR_settle l0 (5 : Int32) l3 h).bind fun h7 =>
    some h7
theorem cR_readText_18_ok {xs : Option (List Int32)} : ∀ (n : Nat) (l0 : Option Nat) (l2 : Int32) (l3 : Int32) (l4 : Int32) (h : gx_H) (r : gx_H), cR_readText_18 n l0 l2 l3 l4 h = some r → gv_V xs 2 109 18 [(0, gv_u l0), (2, .int l2), (3, .int l3), (4, .int l4)] [] h (.returned none) r := by
  intro n
  induction n with
  | zero => intro l0 l2 l3 l4 h r e; cases e
  | succ n ih =>
    intro l0 l2 l3 l4 h r e
    rw [cR_readText_18] at e
    refine gv_ild (pc' := 20) rfl rfl rfl ?_
    refine gv_ildn (pc' := 21) rfl rfl rfl ?_
    by_cases c1 : l4 < l2
    · rw [if_pos c1] at e
      refine gv_cmF (pc' := 24) rfl (gv_geF2 c1) rfl rfl ?_
      refine gv_ildn (pc' := 25) rfl rfl rfl ?_
      refine gv_i2l (pc' := 26) rfl rfl ?_
      refine gv_ild (pc' := 28) rfl rfl rfl ?_
      obtain ⟨v2, qv2, e⟩ := gv_bind e
      refine gv_sS (jc := 18) (n := 2) (rest := []) (stk := [.int v2]) (pc' := 31) rfl rfl rfl rfl rfl rfl rfl rfl rfl (gv_zJ (gv_zI gv_z0)) rfl (gv_aJ (gv_aI gv_a0)) (Nat.le_of_ble_eq_true rfl) (cG_byteOf_ok qv2) rfl rfl ?_
      by_cases c3 : v2 = 0
      · rw [if_pos c3] at e
        refine gv_ifF (pc' := 34) rfl (gv_neF c3) rfl rfl ?_
        refine gv_rldn (pc' := 35) rfl rfl rfl ?_
        refine gv_ic (pc' := 36) (x := 1) rfl rfl rfl ?_
        obtain ⟨h4, qh4, e⟩ := gv_bind e
        refine gv_pZ (pc' := 39) rfl rfl rfl (by decide) qh4 rfl ?_
        exact gv_weak (cR_readText_39_ok ih e) (gv_S1 rfl (gv_S1 rfl (gv_S1 rfl (gv_S1 rfl gv_S0))))
      rw [if_neg c3] at e
      refine gv_ifT (pc' := 39) rfl (gv_neT c3) rfl ?_
      exact gv_weak (cR_readText_39_ok ih e) (gv_S1 rfl (gv_S1 rfl (gv_S1 rfl (gv_S1 rfl gv_S0))))
    rw [if_neg c1] at e
    refine gv_cmT (pc' := 45) rfl (gv_geT2 c1) rfl ?_
    refine gv_rldn (pc' := 46) rfl rfl rfl ?_
    refine gv_ic (pc' := 47) (x := 5) rfl rfl rfl ?_
    refine gv_ildn (pc' := 48) rfl rfl rfl ?_
    obtain ⟨i5, qi5, e⟩ := gv_bind e
    obtain ⟨h7, qv6, e⟩ := gv_bind e
    refine gv_vS (jc := 108) (n := 2) (rest := []) (stk := []) (pc' := 51) rfl rfl rfl rfl rfl rfl rfl rfl rfl (gv_zR (gv_zI (gv_zI gv_z0))) rfl (gv_aR (gv_aI (gv_aI gv_a0))) (Nat.le_of_ble_eq_true rfl) qi5 (cR_settle_ok qv6) rfl rfl ?_
    cases e
    exact gv_retV rfl rfl
def cR_readText (l0 : Option Nat) (l1 : Option Nat) (h : gx_H) : Option gx_H :=
  (gv_is h l0 6).bind fun i1 =>
  (cR_nextUpTo l0 l1 (4 : Int32) h).bind fun r4 =>
  (gv_is r4.2 l0 6).bind fun i5 =>
  (cR_nextWord l0 l1 r4.1 r4.2).bind fun r8 =>
  cR_readText_18 1000000000000000 l0 r4.1 (Int64.toInt32 r8.1) (0 : Int32) r8.2
theorem cR_readText_ok {xs : Option (List Int32)} {l0 : Option Nat} {l1 : Option Nat} {h : gx_H} {r : gx_H} (e : cR_readText l0 l1 h = some r) : gv_V xs 2 109 0 [(0, gv_u l0), (1, gv_u l1)] [] h (.returned none) r := by
  unfold cR_readText at e
  refine gv_rldn (pc' := 1) rfl rfl rfl ?_
  refine gv_rldn (pc' := 2) rfl rfl rfl ?_
  refine gv_ic (pc' := 3) (x := 4) rfl rfl rfl ?_
  obtain ⟨i1, qi1, e⟩ := gv_bind e
  obtain ⟨⟨v2, h3⟩, qv2, e⟩ := gv_bind e
  refine gv_vS (jc := 104) (n := 2) (rest := []) (stk := [.int v2]) (pc' := 6) rfl rfl rfl rfl rfl rfl rfl rfl rfl (gv_zR (gv_zR (gv_zI gv_z0))) rfl (gv_aR (gv_aR (gv_aI gv_a0))) (Nat.le_of_ble_eq_true rfl) qi1 (cR_nextUpTo_ok qv2) rfl rfl ?_
  refine gv_istn (pc' := 7) rfl rfl (gv_Cr rfl) rfl ?_
  refine gv_rldn (pc' := 8) rfl rfl rfl ?_
  refine gv_rldn (pc' := 9) rfl rfl rfl ?_
  refine gv_ildn (pc' := 10) rfl rfl rfl ?_
  obtain ⟨i5, qi5, e⟩ := gv_bind e
  obtain ⟨⟨v6, h7⟩, qv6, e⟩ := gv_bind e
  refine gv_vS (jc := 110) (n := 2) (rest := []) (stk := [.long v6]) (pc' := 13) rfl rfl rfl rfl rfl rfl rfl rfl rfl (gv_zR (gv_zR (gv_zI gv_z0))) rfl (gv_aR (gv_aR (gv_aI gv_a0))) (Nat.le_of_ble_eq_true rfl) qi5 (cR_nextWord_ok qv6) rfl rfl ?_
  refine gv_l2i (pc' := 14) rfl rfl ?_
  refine gv_istn (pc' := 15) rfl rfl (gv_Ci rfl) rfl ?_
  refine gv_ic (pc' := 16) (x := 0) rfl rfl rfl ?_
  refine gv_ist (pc' := 18) rfl rfl (gv_Ci rfl) rfl ?_
  exact gv_weak (cR_readText_18_ok 1000000000000000 _ _ _ _ _ _ e) (gv_S1 rfl (gv_S1 rfl (gv_S1 rfl (gv_S1 rfl gv_S0))))
def cR_readPlace (l0 : Option Nat) (l1 : Option Nat) (l2 : Int32) (l3 : Int32) (h : gx_H) : Option gx_H :=
  (gv_is h l0 6).bind fun i1 =>
  (cR_nextLengthy l0 l1 h).bind fun r4 =>
  if r4.1 < (0 : Int64) then (
    (gv_pV r4.2 l0 6 1 (.int (1 : Int32))).bind fun h6 =>
    some h6) else
  if r4.1 < (Int32.toInt64 l3) then (
    (gv_is r4.2 l0 6).bind fun i8 =>
    (cR_settle l0 (6 : Int32) (l2 + (Int64.toInt32 r4.1)) r4.2).bind fun h10 =>
    some h10) else
  (gv_pV r4.2 l0 6 1 (.int (1 : Int32))).bind fun h11 =>
  some h11
theorem cR_readPlace_ok {xs : Option (List Int32)} {l0 : Option Nat} {l1 : Option Nat} {l2 : Int32} {l3 : Int32} {h : gx_H} {r : gx_H} (e : cR_readPlace l0 l1 l2 l3 h = some r) : gv_V xs 2 111 0 [(0, gv_u l0), (1, gv_u l1), (2, .int l2), (3, .int l3)] [] h (.returned none) r := by
  unfold cR_readPlace at e
  refine gv_rldn (pc' := 1) rfl rfl rfl ?_
  refine gv_rldn (pc' := 2) rfl rfl rfl ?_
  obtain ⟨i1, qi1, e⟩ := gv_bind e
  obtain ⟨⟨v2, h3⟩, qv2, e⟩ := gv_bind e
  refine gv_vS (jc := 107) (n := 1) (rest := []) (stk := [.long v2]) (pc' := 5) rfl rfl rfl rfl rfl rfl rfl rfl rfl (gv_zR (gv_zR gv_z0)) rfl (gv_aR (gv_aR gv_a0)) (Nat.le_of_ble_eq_true rfl) qi1 (cR_nextLengthy_ok qv2) rfl rfl ?_
  refine gv_jst (pc' := 7) rfl rfl (gv_Ci rfl) rfl rfl ?_
  refine gv_jld (pc' := 9) rfl rfl rfl ?_
  refine gv_lc (pc' := 10) (x := 0) rfl rfl rfl ?_
  refine gv_lcmp (pc' := 11) rfl rfl ?_
  by_cases c5 : v2 < (0 : Int64)
  · rw [if_pos c5] at e
    refine gv_ifT (pc' := 22) rfl (gv_ltTL c5) rfl ?_
    refine gv_rldn (pc' := 23) rfl rfl rfl ?_
    refine gv_ic (pc' := 24) (x := 1) rfl rfl rfl ?_
    obtain ⟨h6, qh6, e⟩ := gv_bind e
    refine gv_pZ (pc' := 27) rfl rfl rfl (by decide) qh6 rfl ?_
    cases e
    exact gv_retV rfl rfl
  rw [if_neg c5] at e
  refine gv_ifF (pc' := 14) rfl (gv_ltFL c5) rfl rfl ?_
  refine gv_jld (pc' := 16) rfl rfl rfl ?_
  refine gv_ildn (pc' := 17) rfl rfl rfl ?_
  refine gv_i2l (pc' := 18) rfl rfl ?_
  refine gv_lcmp (pc' := 19) rfl rfl ?_
  by_cases c7 : v2 < (Int32.toInt64 l3)
  · rw [if_pos c7] at e
    refine gv_ifT (pc' := 28) rfl (gv_ltTL c7) rfl ?_
    refine gv_rldn (pc' := 29) rfl rfl rfl ?_
    refine gv_bp (pc' := 31) (x := 6) rfl rfl rfl ?_
    refine gv_ildn (pc' := 32) rfl rfl rfl ?_
    refine gv_jld (pc' := 34) rfl rfl rfl ?_
    refine gv_l2i (pc' := 35) rfl rfl ?_
    refine gv_iadd (pc' := 36) rfl rfl ?_
    obtain ⟨i8, qi8, e⟩ := gv_bind e
    obtain ⟨h10, qv9, e⟩ := gv_bind e
    refine gv_vS (jc := 108) (n := 2) (rest := []) (stk := []) (pc' := 39) rfl rfl rfl rfl rfl rfl rfl rfl rfl (gv_zR (gv_zI (gv_zI gv_z0))) rfl (gv_aR (gv_aI (gv_aI gv_a0))) (Nat.le_of_ble_eq_true rfl) qi8 (cR_settle_ok qv9) rfl rfl ?_
    cases e
    exact gv_retV rfl rfl
  rw [if_neg c7] at e
  refine gv_ifF (pc' := 22) rfl (gv_ltFL c7) rfl rfl ?_
  refine gv_rldn (pc' := 23) rfl rfl rfl ?_
  refine gv_ic (pc' := 24) (x := 1) rfl rfl rfl ?_
  obtain ⟨h11, qh11, e⟩ := gv_bind e
  refine gv_pZ (pc' := 27) rfl rfl rfl (by decide) qh11 rfl ?_
  cases e
  exact gv_retV rfl rfl
def cR_readBuffer (l0 : Option Nat) (l1 : Option Nat) (l2 : Option Nat) (h : gx_H) : Option gx_H :=
  (gv_is h l0 6).bind fun i1 =>
  (cR_nextUpTo l0 l1 (8 : Int32) h).bind fun r4 =>
  (gv_is r4.2 l0 6).bind fun i5 =>
  (cR_nextWord l0 l1 r4.1 r4.2).bind fun r8 =>
  (gv_is r8.2 l2 2).bind fun i9 =>
  (cT_holdBytes l2 r8.1 r4.1 r8.2).bind fun h11 =>
  some h11
theorem cR_readBuffer_ok {xs : Option (List Int32)} {l0 : Option Nat} {l1 : Option Nat} {l2 : Option Nat} {h : gx_H} {r : gx_H} (e : cR_readBuffer l0 l1 l2 h = some r) : gv_V xs 2 118 0 [(0, gv_u l0), (1, gv_u l1), (2, gv_u l2)] [] h (.returned none) r := by
  unfold cR_readBuffer at e
  refine gv_rldn (pc' := 1) rfl rfl rfl ?_
  refine gv_rldn (pc' := 2) rfl rfl rfl ?_
  refine gv_bp (pc' := 4) (x := 8) rfl rfl rfl ?_
  obtain ⟨i1, qi1, e⟩ := gv_bind e
  obtain ⟨⟨v2, h3⟩, qv2, e⟩ := gv_bind e
  refine gv_vS (jc := 104) (n := 2) (rest := []) (stk := [.int v2]) (pc' := 7) rfl rfl rfl rfl rfl rfl rfl rfl rfl (gv_zR (gv_zR (gv_zI gv_z0))) rfl (gv_aR (gv_aR (gv_aI gv_a0))) (Nat.le_of_ble_eq_true rfl) qi1 (cR_nextUpTo_ok qv2) rfl rfl ?_
  refine gv_istn (pc' := 8) rfl rfl (gv_Cr rfl) rfl ?_
  refine gv_rldn (pc' := 9) rfl rfl rfl ?_
  refine gv_rldn (pc' := 10) rfl rfl rfl ?_
  refine gv_rldn (pc' := 11) rfl rfl rfl ?_
  refine gv_ildn (pc' := 12) rfl rfl rfl ?_
  obtain ⟨i5, qi5, e⟩ := gv_bind e
  obtain ⟨⟨v6, h7⟩, qv6, e⟩ := gv_bind e
  refine gv_vS (jc := 110) (n := 2) (rest := [gv_u l2]) (stk := [.long v6, gv_u l2]) (pc' := 15) rfl rfl rfl rfl rfl rfl rfl rfl rfl (gv_zR (gv_zR (gv_zI gv_z0))) rfl (gv_aR (gv_aR (gv_aI gv_a0))) (Nat.le_of_ble_eq_true rfl) qi5 (cR_nextWord_ok qv6) rfl rfl ?_
  refine gv_ildn (pc' := 16) rfl rfl rfl ?_
  obtain ⟨i9, qi9, e⟩ := gv_bind e
  obtain ⟨h11, qv10, e⟩ := gv_bind e
  refine gv_vS (jc := 30) (n := 2) (rest := []) (stk := []) (pc' := 19) rfl rfl rfl rfl rfl rfl rfl rfl rfl (gv_zR (gv_zJ (gv_zI gv_z0))) rfl (gv_aR (gv_aJ (gv_aI gv_a0))) (Nat.le_of_ble_eq_true rfl) qi9 (cT_holdBytes_ok qv10) rfl rfl ?_
  cases e
  exact gv_retV rfl rfl
def cR_readView (W : Option Nat → Option Nat → Option Nat → Int32 → gx_H → Option gx_H) (l0 : Option Nat) (l1 : Option Nat) (l2 : Option Nat) (l3 : Int32) (h : gx_H) : Option gx_H :=
  (gv_is h l0 6).bind fun i1 =>
  (cR_nextByte l0 l2 h).bind fun r4 =>
  (gv_is r4.2 l0 6).bind fun i5 =>
  (cR_nextByte l0 l2 r4.2).bind fun r8 =>
  (gv_is r8.2 l0 6).bind fun i9 =>
  (cR_nextByte l0 l2 r8.2).bind fun r12 =>
  (gv_is r12.2 l0 6).bind fun i13 =>
  (W l0 l1 l2 (l3 + (1 : Int32)) r12.2).bind fun h15 =>
  (gv_gI h15 l0 6 1).bind fun v16 =>
  if v16 = 0 then (
    (gv_gI h15 l0 6 3).bind fun v18 =>
    (gv_is h15 l1 1).bind fun i19 =>
    (cS_thingAt l1 v18 h15).bind fun v20 =>
    (gv_gI h15 l0 6 2).bind fun v21 =>
    if v21 = (6 : Int32) then (
      if v20 = none then (
        (gv_pV h15 l0 6 1 (.int (1 : Int32))).bind fun h24 =>
        some h24) else
      (gv_is h15 v20 2).bind fun i25 =>
      (cT_canBeViewed v20 r4.1 r8.1 r12.1 h15).bind fun v26 =>
      if v26 = 0 then (
        (gv_pV h15 l0 6 1 (.int (1 : Int32))).bind fun h28 =>
        some h28) else
      (gv_is h15 l0 6).bind fun i29 =>
      (cR_beginThing l0 l1 (5 : Int32) h15).bind fun r32 =>
      if r32.1 = none then (
        some r32.2) else
      (gv_is r32.2 r32.1 2).bind fun i34 =>
      (cT_lookAt r32.1 v18 r4.1 r8.1 r12.1 r32.2).bind fun h36 =>
      (gv_gI h36 l1 1 1).bind fun v37 =>
      (gv_is h36 l0 6).bind fun i38 =>
      (cR_settle l0 (6 : Int32) (v37 - (1 : Int32)) h36).bind fun h40 =>
      some h40) else
    (gv_pV h15 l0 6 1 (.int (1 : Int32))).bind fun h41 =>
    some h41) else
  some h15
theorem cR_readView_ok {xs : Option (List Int32)} {D : Nat} (hD : 12 ≤ D) {W : Option Nat → Option Nat → Option Nat → Int32 → gx_H → Option gx_H} (hW : ∀ (l0 : Option Nat) (l1 : Option Nat) (l2 : Option Nat) (l3 : Int32) (h : gx_H) (r : gx_H), W l0 l1 l2 l3 h = some r → gv_V xs D 103 0 [(0, gv_u l0), (1, gv_u l1), (2, gv_u l2), (3, .int l3)] [] h (.returned none) r) {l0 : Option Nat} {l1 : Option Nat} {l2 : Option Nat} {l3 : Int32} {h : gx_H} {r : gx_H} (e : cR_readView W l0 l1 l2 l3 h = some r) : gv_V xs (D + 1) 112 0 [(0, gv_u l0), (1, gv_u l1), (2, gv_u l2), (3, .int l3)] [] h (.returned none) r := by
  unfold cR_readView at e
  refine gv_rldn (pc' := 1) rfl rfl rfl ?_
  refine gv_rldn (pc' := 2) rfl rfl rfl ?_
  obtain ⟨i1, qi1, e⟩ := gv_bind e
  obtain ⟨⟨v2, h3⟩, qv2, e⟩ := gv_bind e
  refine gv_vS (jc := 102) (n := 1) (rest := []) (stk := [.int v2]) (pc' := 5) rfl rfl rfl rfl rfl rfl rfl rfl rfl (gv_zR (gv_zR gv_z0)) rfl (gv_aR (gv_aR gv_a0)) (by omega) qi1 (cR_nextByte_ok qv2) rfl rfl ?_
  refine gv_ist (pc' := 7) rfl rfl (gv_Ci rfl) rfl ?_
  refine gv_rldn (pc' := 8) rfl rfl rfl ?_
  refine gv_rldn (pc' := 9) rfl rfl rfl ?_
  obtain ⟨i5, qi5, e⟩ := gv_bind e
  obtain ⟨⟨v6, h7⟩, qv6, e⟩ := gv_bind e
  refine gv_vS (jc := 102) (n := 1) (rest := []) (stk := [.int v6]) (pc' := 12) rfl rfl rfl rfl rfl rfl rfl rfl rfl (gv_zR (gv_zR gv_z0)) rfl (gv_aR (gv_aR gv_a0)) (by omega) qi5 (cR_nextByte_ok qv6) rfl rfl ?_
  refine gv_ist (pc' := 14) rfl rfl (gv_Ci rfl) rfl ?_
  refine gv_rldn (pc' := 15) rfl rfl rfl ?_
  refine gv_rldn (pc' := 16) rfl rfl rfl ?_
  obtain ⟨i9, qi9, e⟩ := gv_bind e
  obtain ⟨⟨v10, h11⟩, qv10, e⟩ := gv_bind e
  refine gv_vS (jc := 102) (n := 1) (rest := []) (stk := [.int v10]) (pc' := 19) rfl rfl rfl rfl rfl rfl rfl rfl rfl (gv_zR (gv_zR gv_z0)) rfl (gv_aR (gv_aR gv_a0)) (by omega) qi9 (cR_nextByte_ok qv10) rfl rfl ?_
  refine gv_ist (pc' := 21) rfl rfl (gv_Ci rfl) rfl ?_
  refine gv_rldn (pc' := 22) rfl rfl rfl ?_
  refine gv_rldn (pc' := 23) rfl rfl rfl ?_
  refine gv_rldn (pc' := 24) rfl rfl rfl ?_
  refine gv_ildn (pc' := 25) rfl rfl rfl ?_
  refine gv_ic (pc' := 26) (x := 1) rfl rfl rfl ?_
  refine gv_iadd (pc' := 27) rfl rfl ?_
  obtain ⟨i13, qi13, e⟩ := gv_bind e
  obtain ⟨h15, qv14, e⟩ := gv_bind e
  refine gv_vS (jc := 103) (n := 3) (rest := []) (stk := []) (pc' := 30) rfl rfl rfl rfl rfl rfl rfl rfl rfl (gv_zR (gv_zR (gv_zR (gv_zI gv_z0)))) rfl (gv_aR (gv_aR (gv_aR (gv_aI gv_a0)))) (by omega) qi13 (hW _ _ _ _ _ _ qv14) rfl rfl ?_
  refine gv_rldn (pc' := 31) rfl rfl rfl ?_
  obtain ⟨v16, qv16, e⟩ := gv_bind e
  refine gv_fI (pc' := 34) rfl rfl qv16 rfl ?_
  by_cases c17 : v16 = 0
  · rw [if_pos c17] at e
    refine gv_ifT (pc' := 38) rfl (gv_eqT c17) rfl ?_
    refine gv_rldn (pc' := 39) rfl rfl rfl ?_
    obtain ⟨v18, qv18, e⟩ := gv_bind e
    refine gv_fI (pc' := 42) rfl rfl qv18 rfl ?_
    refine gv_ist (pc' := 44) rfl rfl (gv_Ci rfl) rfl ?_
    refine gv_rldn (pc' := 45) rfl rfl rfl ?_
    refine gv_ild (pc' := 47) rfl rfl rfl ?_
    obtain ⟨i19, qi19, e⟩ := gv_bind e
    obtain ⟨v20, qv20, e⟩ := gv_bind e
    refine gv_vS (jc := 10) (n := 1) (rest := []) (stk := [gv_u v20]) (pc' := 50) rfl rfl rfl rfl rfl rfl rfl rfl rfl (gv_zR (gv_zI gv_z0)) rfl (gv_aR (gv_aI gv_a0)) (by omega) qi19 (cS_thingAt_ok qv20) rfl rfl ?_
    refine gv_rst (pc' := 52) rfl rfl (gv_Ci rfl) rfl ?_
    refine gv_rldn (pc' := 53) rfl rfl rfl ?_
    obtain ⟨v21, qv21, e⟩ := gv_bind e
    refine gv_fI (pc' := 56) rfl rfl qv21 rfl ?_
    refine gv_bp (pc' := 58) (x := 6) rfl rfl rfl ?_
    by_cases c22 : v21 = (6 : Int32)
    · rw [if_pos c22] at e
      refine gv_cmF (pc' := 61) rfl (gv_neF2 c22) rfl rfl ?_
      refine gv_rld (pc' := 63) rfl rfl rfl ?_
      by_cases c23 : v20 = none
      · rw [if_pos c23] at e
        refine gv_nuT (pc' := 80) rfl c23 rfl ?_
        refine gv_rldn (pc' := 81) rfl rfl rfl ?_
        refine gv_ic (pc' := 82) (x := 1) rfl rfl rfl ?_
        obtain ⟨h24, qh24, e⟩ := gv_bind e
        refine gv_pZ (pc' := 85) rfl rfl rfl (by decide) qh24 rfl ?_
        cases e
        exact gv_retV rfl rfl
      rw [if_neg c23] at e
      refine gv_nuF (pc' := 66) rfl c23 rfl ?_
      refine gv_rld (pc' := 68) rfl rfl rfl ?_
      refine gv_ild (pc' := 70) rfl rfl rfl ?_
      refine gv_ild (pc' := 72) rfl rfl rfl ?_
      refine gv_ild (pc' := 74) rfl rfl rfl ?_
      obtain ⟨i25, qi25, e⟩ := gv_bind e
      obtain ⟨v26, qv26, e⟩ := gv_bind e
      refine gv_vS (jc := 33) (n := 3) (rest := []) (stk := [.int v26]) (pc' := 77) rfl rfl rfl rfl rfl rfl rfl rfl rfl (gv_zR (gv_zI (gv_zI (gv_zI gv_z0)))) rfl (gv_aR (gv_aI (gv_aI (gv_aI gv_a0)))) (by omega) qi25 (cT_canBeViewed_ok qv26) rfl rfl ?_
      by_cases c27 : v26 = 0
      · rw [if_pos c27] at e
        refine gv_ifF (pc' := 80) rfl (gv_neF c27) rfl rfl ?_
        refine gv_rldn (pc' := 81) rfl rfl rfl ?_
        refine gv_ic (pc' := 82) (x := 1) rfl rfl rfl ?_
        obtain ⟨h28, qh28, e⟩ := gv_bind e
        refine gv_pZ (pc' := 85) rfl rfl rfl (by decide) qh28 rfl ?_
        cases e
        exact gv_retV rfl rfl
      rw [if_neg c27] at e
      refine gv_ifT (pc' := 86) rfl (gv_neT c27) rfl ?_
      refine gv_rldn (pc' := 87) rfl rfl rfl ?_
      refine gv_rldn (pc' := 88) rfl rfl rfl ?_
      refine gv_ic (pc' := 89) (x := 5) rfl rfl rfl ?_
      obtain ⟨i29, qi29, e⟩ := gv_bind e
      obtain ⟨⟨v30, h31⟩, qv30, e⟩ := gv_bind e
      refine gv_vS (jc := 101) (n := 2) (rest := []) (stk := [gv_u v30]) (pc' := 92) rfl rfl rfl rfl rfl rfl rfl rfl rfl (gv_zR (gv_zR (gv_zI gv_z0))) rfl (gv_aR (gv_aR (gv_aI gv_a0))) (by omega) qi29 (cR_beginThing_ok qv30) rfl rfl ?_
      refine gv_rst (pc' := 94) rfl rfl (gv_Cr rfl) rfl ?_
      refine gv_rld (pc' := 96) rfl rfl rfl ?_
      by_cases c33 : v30 = none
      · rw [if_pos c33] at e
        refine gv_nuT (pc' := 124) rfl c33 rfl ?_
        cases e
        exact gv_retV rfl rfl
      rw [if_neg c33] at e
      refine gv_nuF (pc' := 99) rfl c33 rfl ?_
      refine gv_rld (pc' := 101) rfl rfl rfl ?_
      refine gv_ild (pc' := 103) rfl rfl rfl ?_
      refine gv_ild (pc' := 105) rfl rfl rfl ?_
      refine gv_ild (pc' := 107) rfl rfl rfl ?_
      refine gv_ild (pc' := 109) rfl rfl rfl ?_
      obtain ⟨i34, qi34, e⟩ := gv_bind e
      obtain ⟨h36, qv35, e⟩ := gv_bind e
      refine gv_vS (jc := 34) (n := 4) (rest := []) (stk := []) (pc' := 112) rfl rfl rfl rfl rfl rfl rfl rfl rfl (gv_zR (gv_zI (gv_zI (gv_zI (gv_zI gv_z0))))) rfl (gv_aR (gv_aI (gv_aI (gv_aI (gv_aI gv_a0))))) (by omega) qi34 (cT_lookAt_ok qv35) rfl rfl ?_
      refine gv_rldn (pc' := 113) rfl rfl rfl ?_
      refine gv_bp (pc' := 115) (x := 6) rfl rfl rfl ?_
      refine gv_rldn (pc' := 116) rfl rfl rfl ?_
      obtain ⟨v37, qv37, e⟩ := gv_bind e
      refine gv_fI (pc' := 119) rfl rfl qv37 rfl ?_
      refine gv_ic (pc' := 120) (x := 1) rfl rfl rfl ?_
      refine gv_isub (pc' := 121) rfl rfl ?_
      obtain ⟨i38, qi38, e⟩ := gv_bind e
      obtain ⟨h40, qv39, e⟩ := gv_bind e
      refine gv_vS (jc := 108) (n := 2) (rest := []) (stk := []) (pc' := 124) rfl rfl rfl rfl rfl rfl rfl rfl rfl (gv_zR (gv_zI (gv_zI gv_z0))) rfl (gv_aR (gv_aI (gv_aI gv_a0))) (by omega) qi38 (cR_settle_ok qv39) rfl rfl ?_
      cases e
      exact gv_retV rfl rfl
    rw [if_neg c22] at e
    refine gv_cmT (pc' := 80) rfl (gv_neT2 c22) rfl ?_
    refine gv_rldn (pc' := 81) rfl rfl rfl ?_
    refine gv_ic (pc' := 82) (x := 1) rfl rfl rfl ?_
    obtain ⟨h41, qh41, e⟩ := gv_bind e
    refine gv_pZ (pc' := 85) rfl rfl rfl (by decide) qh41 rfl ?_
    cases e
    exact gv_retV rfl rfl
  rw [if_neg c17] at e
  refine gv_ifF (pc' := 37) rfl (gv_eqF c17) rfl rfl ?_
  cases e
  exact gv_retV rfl rfl
def cR_readRecord_3 (W : Option Nat → Option Nat → Option Nat → Int32 → gx_H → Option gx_H) : Nat → Option Nat → Option Nat → Option Nat → Option Nat → Int32 → Int32 → gx_H → Option gx_H
  | 0, _, _, _, _, _, _, _ => none
  | n + 1, l0, l1, l2, l3, l4, l5, h =>
    if (6 : Int32) < l5 then (
      some h) else
    (gv_is h l0 6).bind fun i2 =>
    (cR_nextUpTo l0 l2 (1 : Int32) h).bind fun r5 =>
    (gv_gI r5.2 l0 6 1).bind fun v6 =>
    if v6 = 0 then (
      if r5.1 = 0 then (
        some r5.2) else
      (gv_is r5.2 l0 6).bind fun i9 =>
      (cR_nextInt l0 l2 r5.2).bind fun r12 =>
      (gv_is r12.2 l0 6).bind fun i13 =>
      (W l0 l1 l2 (l4 + (1 : Int32)) r12.2).bind fun h15 =>
      (gv_gI h15 l0 6 1).bind fun v16 =>
      if v16 = 0 then (
        (gv_is h15 l3 2).bind fun i18 =>
        (cT_indexOfKey l3 (4 : Int32) r12.1 h15).bind fun v19 =>
        if v19 = (-1 : Int32) then (
          (gv_gI h15 l0 6 2).bind fun v21 =>
          (gv_gI h15 l0 6 3).bind fun v22 =>
          (gv_is h15 l3 2).bind fun i23 =>
          (cT_setProperty l3 r12.1 v21 v22 h15).bind fun r26 =>
          if r26.1 = 0 then (
            (gv_pV r26.2 l0 6 1 (.int (1 : Int32))).bind fun h28 =>
            some h28) else
          cR_readRecord_3 W n l0 l1 l2 l3 l4 (l5 + 1) r26.2) else
        (gv_pV h15 l0 6 1 (.int (1 : Int32))).bind fun h29 =>
        some h29) else
      (gv_pV h15 l0 6 1 (.int (1 : Int32))).bind fun h30 =>
      some h30) else
    some r5.2
theorem cR_readRecord_3_ok {xs : Option (List Int32)} {D : Nat} (hD : 12 ≤ D) {W : Option Nat → Option Nat → Option Nat → Int32 → gx_H → Option gx_H} (hW : ∀ (l0 : Option Nat) (l1 : Option Nat) (l2 : Option Nat) (l3 : Int32) (h : gx_H) (r : gx_H), W l0 l1 l2 l3 h = some r → gv_V xs D 103 0 [(0, gv_u l0), (1, gv_u l1), (2, gv_u l2), (3, .int l3)] [] h (.returned none) r) : ∀ (n : Nat) (l0 : Option Nat) (l1 : Option Nat) (l2 : Option Nat) (l3 : Option Nat) (l4 : Int32) (l5 : Int32) (h : gx_H) (r : gx_H), cR_readRecord_3 W n l0 l1 l2 l3 l4 l5 h = some r → gv_V xs (D + 1) 114 3 [(0, gv_u l0), (1, gv_u l1), (2, gv_u l2), (3, gv_u l3), (4, .int l4), (5, .int l5)] [] h (.returned none) r := by
  intro n
  induction n with
  | zero => intro l0 l1 l2 l3 l4 l5 h r e; cases e
  | succ n ih =>
    intro l0 l1 l2 l3 l4 l5 h r e
    rw [cR_readRecord_3] at e
    refine gv_ild (pc' := 5) rfl rfl rfl ?_
    refine gv_bp (pc' := 7) (x := 6) rfl rfl rfl ?_
    by_cases c1 : (6 : Int32) < l5
    · rw [if_pos c1] at e
      refine gv_cmT (pc' := 95) rfl (gv_gtT2 c1) rfl ?_
      cases e
      exact gv_retV rfl rfl
    rw [if_neg c1] at e
    refine gv_cmF (pc' := 10) rfl (gv_gtF2 c1) rfl rfl ?_
    refine gv_rldn (pc' := 11) rfl rfl rfl ?_
    refine gv_rldn (pc' := 12) rfl rfl rfl ?_
    refine gv_ic (pc' := 13) (x := 1) rfl rfl rfl ?_
    obtain ⟨i2, qi2, e⟩ := gv_bind e
    obtain ⟨⟨v3, h4⟩, qv3, e⟩ := gv_bind e
    refine gv_vS (jc := 104) (n := 2) (rest := []) (stk := [.int v3]) (pc' := 16) rfl rfl rfl rfl rfl rfl rfl rfl rfl (gv_zR (gv_zR (gv_zI gv_z0))) rfl (gv_aR (gv_aR (gv_aI gv_a0))) (by omega) qi2 (cR_nextUpTo_ok qv3) rfl rfl ?_
    refine gv_ist (pc' := 18) rfl rfl (gv_Ci rfl) rfl ?_
    refine gv_rldn (pc' := 19) rfl rfl rfl ?_
    obtain ⟨v6, qv6, e⟩ := gv_bind e
    refine gv_fI (pc' := 22) rfl rfl qv6 rfl ?_
    by_cases c7 : v6 = 0
    · rw [if_pos c7] at e
      refine gv_ifF (pc' := 25) rfl (gv_neF c7) rfl rfl ?_
      refine gv_ild (pc' := 27) rfl rfl rfl ?_
      by_cases c8 : v3 = 0
      · rw [if_pos c8] at e
        refine gv_ifF (pc' := 30) rfl (gv_neF c8) rfl rfl ?_
        cases e
        exact gv_retV rfl rfl
      rw [if_neg c8] at e
      refine gv_ifT (pc' := 31) rfl (gv_neT c8) rfl ?_
      refine gv_rldn (pc' := 32) rfl rfl rfl ?_
      refine gv_rldn (pc' := 33) rfl rfl rfl ?_
      obtain ⟨i9, qi9, e⟩ := gv_bind e
      obtain ⟨⟨v10, h11⟩, qv10, e⟩ := gv_bind e
      refine gv_vS (jc := 105) (n := 1) (rest := []) (stk := [.int v10]) (pc' := 36) rfl rfl rfl rfl rfl rfl rfl rfl rfl (gv_zR (gv_zR gv_z0)) rfl (gv_aR (gv_aR gv_a0)) (by omega) qi9 (cR_nextInt_ok qv10) rfl rfl ?_
      refine gv_ist (pc' := 38) rfl rfl (gv_Ci rfl) rfl ?_
      refine gv_rldn (pc' := 39) rfl rfl rfl ?_
      refine gv_rldn (pc' := 40) rfl rfl rfl ?_
      refine gv_rldn (pc' := 41) rfl rfl rfl ?_
      refine gv_ild (pc' := 43) rfl rfl rfl ?_
      refine gv_ic (pc' := 44) (x := 1) rfl rfl rfl ?_
      refine gv_iadd (pc' := 45) rfl rfl ?_
      obtain ⟨i13, qi13, e⟩ := gv_bind e
      obtain ⟨h15, qv14, e⟩ := gv_bind e
      refine gv_vS (jc := 103) (n := 3) (rest := []) (stk := []) (pc' := 48) rfl rfl rfl rfl rfl rfl rfl rfl rfl (gv_zR (gv_zR (gv_zR (gv_zI gv_z0)))) rfl (gv_aR (gv_aR (gv_aR (gv_aI gv_a0)))) (by omega) qi13 (hW _ _ _ _ _ _ qv14) rfl rfl ?_
      refine gv_rldn (pc' := 49) rfl rfl rfl ?_
      obtain ⟨v16, qv16, e⟩ := gv_bind e
      refine gv_fI (pc' := 52) rfl rfl qv16 rfl ?_
      by_cases c17 : v16 = 0
      · rw [if_pos c17] at e
        refine gv_ifF (pc' := 55) rfl (gv_neF c17) rfl rfl ?_
        refine gv_rldn (pc' := 56) rfl rfl rfl ?_
        refine gv_ic (pc' := 57) (x := 4) rfl rfl rfl ?_
        refine gv_ild (pc' := 59) rfl rfl rfl ?_
        obtain ⟨i18, qi18, e⟩ := gv_bind e
        obtain ⟨v19, qv19, e⟩ := gv_bind e
        refine gv_vS (jc := 47) (n := 2) (rest := []) (stk := [.int v19]) (pc' := 62) rfl rfl rfl rfl rfl rfl rfl rfl rfl (gv_zR (gv_zI (gv_zI gv_z0))) rfl (gv_aR (gv_aI (gv_aI gv_a0))) (by omega) qi18 (cT_indexOfKey_ok qv19) rfl rfl ?_
        refine gv_ic (pc' := 63) (x := -1) rfl rfl rfl ?_
        by_cases c20 : v19 = (-1 : Int32)
        · rw [if_pos c20] at e
          refine gv_cmF (pc' := 66) rfl (gv_neF2 c20) rfl rfl ?_
          refine gv_rldn (pc' := 67) rfl rfl rfl ?_
          refine gv_ild (pc' := 69) rfl rfl rfl ?_
          refine gv_rldn (pc' := 70) rfl rfl rfl ?_
          obtain ⟨v21, qv21, e⟩ := gv_bind e
          refine gv_fI (pc' := 73) rfl rfl qv21 rfl ?_
          refine gv_rldn (pc' := 74) rfl rfl rfl ?_
          obtain ⟨v22, qv22, e⟩ := gv_bind e
          refine gv_fI (pc' := 77) rfl rfl qv22 rfl ?_
          obtain ⟨i23, qi23, e⟩ := gv_bind e
          obtain ⟨⟨v24, h25⟩, qv24, e⟩ := gv_bind e
          refine gv_vS (jc := 46) (n := 3) (rest := []) (stk := [.int v24]) (pc' := 80) rfl rfl rfl rfl rfl rfl rfl rfl rfl (gv_zR (gv_zI (gv_zI (gv_zI gv_z0)))) rfl (gv_aR (gv_aI (gv_aI (gv_aI gv_a0)))) (by omega) qi23 (cT_setProperty_ok qv24) rfl rfl ?_
          by_cases c27 : v24 = 0
          · rw [if_pos c27] at e
            refine gv_ifF (pc' := 83) rfl (gv_neF c27) rfl rfl ?_
            refine gv_rldn (pc' := 84) rfl rfl rfl ?_
            refine gv_ic (pc' := 85) (x := 1) rfl rfl rfl ?_
            obtain ⟨h28, qh28, e⟩ := gv_bind e
            refine gv_pZ (pc' := 88) rfl rfl rfl (by decide) qh28 rfl ?_
            cases e
            exact gv_retV rfl rfl
          rw [if_neg c27] at e
          refine gv_ifT (pc' := 89) rfl (gv_neT c27) rfl ?_
          refine gv_inc (pc' := 92) (y := 1) rfl rfl rfl rfl (gv_Ci rfl) rfl ?_
          refine gv_goto (pc' := 3) rfl rfl ?_
          exact gv_weak (ih _ _ _ _ _ _ _ _ e) (gv_S1 rfl (gv_S1 rfl (gv_S1 rfl (gv_S1 rfl (gv_S1 rfl (gv_S1 rfl gv_S0))))))
        rw [if_neg c20] at e
        refine gv_cmT (pc' := 83) rfl (gv_neT2 c20) rfl ?_
        refine gv_rldn (pc' := 84) rfl rfl rfl ?_
        refine gv_ic (pc' := 85) (x := 1) rfl rfl rfl ?_
        obtain ⟨h29, qh29, e⟩ := gv_bind e
        refine gv_pZ (pc' := 88) rfl rfl rfl (by decide) qh29 rfl ?_
        cases e
        exact gv_retV rfl rfl
      rw [if_neg c17] at e
      refine gv_ifT (pc' := 83) rfl (gv_neT c17) rfl ?_
      refine gv_rldn (pc' := 84) rfl rfl rfl ?_
      refine gv_ic (pc' := 85) (x := 1) rfl rfl rfl ?_
      obtain ⟨h30, qh30, e⟩ := gv_bind e
      refine gv_pZ (pc' := 88) rfl rfl rfl (by decide) qh30 rfl ?_
      cases e
      exact gv_retV rfl rfl
    rw [if_neg c7] at e
    refine gv_ifT (pc' := 30) rfl (gv_neT c7) rfl ?_
    cases e
    exact gv_retV rfl rfl
def cR_readRecord (W : Option Nat → Option Nat → Option Nat → Int32 → gx_H → Option gx_H) (l0 : Option Nat) (l1 : Option Nat) (l2 : Option Nat) (l3 : Option Nat) (l4 : Int32) (h : gx_H) : Option gx_H :=
  cR_readRecord_3 W 1000000000000000 l0 l1 l2 l3 l4 (0 : Int32) h
theorem cR_readRecord_ok {xs : Option (List Int32)} {D : Nat} (hD : 12 ≤ D) {W : Option Nat → Option Nat → Option Nat → Int32 → gx_H → Option gx_H} (hW : ∀ (l0 : Option Nat) (l1 : Option Nat) (l2 : Option Nat) (l3 : Int32) (h : gx_H) (r : gx_H), W l0 l1 l2 l3 h = some r → gv_V xs D 103 0 [(0, gv_u l0), (1, gv_u l1), (2, gv_u l2), (3, .int l3)] [] h (.returned none) r) {l0 : Option Nat} {l1 : Option Nat} {l2 : Option Nat} {l3 : Option Nat} {l4 : Int32} {h : gx_H} {r : gx_H} (e : cR_readRecord W l0 l1 l2 l3 l4 h = some r) : gv_V xs (D + 1) 114 0 [(0, gv_u l0), (1, gv_u l1), (2, gv_u l2), (3, gv_u l3), (4, .int l4)] [] h (.returned none) r := by
  unfold cR_readRecord at e
  refine gv_ic (pc' := 1) (x := 0) rfl rfl rfl ?_
  refine gv_ist (pc' := 3) rfl rfl (gv_Ci rfl) rfl ?_
  exact gv_weak (cR_readRecord_3_ok hD hW 1000000000000000 _ _ _ _ _ _ _ _ e) (gv_S1 rfl (gv_S1 rfl (gv_S1 rfl (gv_S1 rfl (gv_S1 rfl (gv_S1 rfl gv_S0))))))
def cR_readList_75 (W : Option Nat → Option Nat → Option Nat → Int32 → gx_H → Option gx_H) (rec12 : Option Nat → Option Nat → Option Nat → Option Nat → Int32 → Int32 → Int32 → gx_H → Option gx_H) (l0 : Option Nat) (l1 : Option Nat) (l2 : Option Nat) (l3 : Option Nat) (l4 : Int32) (l5 : Int32) (l6 : Int32) (h : gx_H) : Option gx_H :=
  rec12 l0 l1 l2 l3 l4 l5 (l6 + 1) h
theorem cR_readList_75_ok {xs : Option (List Int32)} {D : Nat} (hD : 12 ≤ D) {W : Option Nat → Option Nat → Option Nat → Int32 → gx_H → Option gx_H} (hW : ∀ (l0 : Option Nat) (l1 : Option Nat) (l2 : Option Nat) (l3 : Int32) (h : gx_H) (r : gx_H), W l0 l1 l2 l3 h = some r → gv_V xs D 103 0 [(0, gv_u l0), (1, gv_u l1), (2, gv_u l2), (3, .int l3)] [] h (.returned none) r) {rec12 : Option Nat → Option Nat → Option Nat → Option Nat → Int32 → Int32 → Int32 → gx_H → Option gx_H} (hrec12 : ∀ (l0 : Option Nat) (l1 : Option Nat) (l2 : Option Nat) (l3 : Option Nat) (l4 : Int32) (l5 : Int32) (l6 : Int32) (h : gx_H) (r : gx_H), rec12 l0 l1 l2 l3 l4 l5 l6 h = some r → gv_V xs (D + 1) 115 12 [(0, gv_u l0), (1, gv_u l1), (2, gv_u l2), (3, gv_u l3), (4, .int l4), (5, .int l5), (6, .int l6)] [] h (.returned none) r) {l0 : Option Nat} {l1 : Option Nat} {l2 : Option Nat} {l3 : Option Nat} {l4 : Int32} {l5 : Int32} {l6 : Int32} {h : gx_H} {r : gx_H} (e : cR_readList_75 W rec12 l0 l1 l2 l3 l4 l5 l6 h = some r) : gv_V xs (D + 1) 115 75 [(0, gv_u l0), (1, gv_u l1), (2, gv_u l2), (3, gv_u l3), (4, .int l4), (5, .int l5), (6, .int l6)] [] h (.returned none) r := by
  unfold cR_readList_75 at e
  refine gv_inc (pc' := 78) (y := 1) rfl rfl rfl rfl (gv_Ci rfl) rfl ?_
  refine gv_goto (pc' := 12) rfl rfl ?_
  exact gv_weak (hrec12 _ _ _ _ _ _ _ _ _ e) (gv_S1 rfl (gv_S1 rfl (gv_S1 rfl (gv_S1 rfl (gv_S1 rfl (gv_S1 rfl (gv_S1 rfl gv_S0)))))))
def cR_readList_12 (W : Option Nat → Option Nat → Option Nat → Int32 → gx_H → Option gx_H) : Nat → Option Nat → Option Nat → Option Nat → Option Nat → Int32 → Int32 → Int32 → gx_H → Option gx_H
  | 0, _, _, _, _, _, _, _, _ => none
  | n + 1, l0, l1, l2, l3, l4, l5, l6, h =>
    if l6 < l5 then (
      (gv_gI h l0 6 1).bind fun v2 =>
      if v2 = 0 then (
        (gv_is h l0 6).bind fun i4 =>
        (cR_nextUpTo l0 l2 (1 : Int32) h).bind fun r7 =>
        if r7.1 = (1 : Int32) then (
          (gv_is r7.2 l0 6).bind fun i9 =>
          (W l0 l1 l2 (l4 + (1 : Int32)) r7.2).bind fun h11 =>
          (gv_gI h11 l0 6 2).bind fun v12 =>
          (gv_gI h11 l0 6 3).bind fun v13 =>
          (gv_is h11 l3 2).bind fun i14 =>
          (cT_setPlace l3 l6 v12 v13 h11).bind fun h16 =>
          cR_readList_75 W (cR_readList_12 W n) l0 l1 l2 l3 l4 l5 l6 h16) else
        (gv_is r7.2 l3 2).bind fun i17 =>
        (cT_setPlace l3 l6 (-1 : Int32) (0 : Int32) r7.2).bind fun h19 =>
        cR_readList_75 W (cR_readList_12 W n) l0 l1 l2 l3 l4 l5 l6 h19) else
      some h) else
    some h
theorem cR_readList_12_ok {xs : Option (List Int32)} {D : Nat} (hD : 12 ≤ D) {W : Option Nat → Option Nat → Option Nat → Int32 → gx_H → Option gx_H} (hW : ∀ (l0 : Option Nat) (l1 : Option Nat) (l2 : Option Nat) (l3 : Int32) (h : gx_H) (r : gx_H), W l0 l1 l2 l3 h = some r → gv_V xs D 103 0 [(0, gv_u l0), (1, gv_u l1), (2, gv_u l2), (3, .int l3)] [] h (.returned none) r) : ∀ (n : Nat) (l0 : Option Nat) (l1 : Option Nat) (l2 : Option Nat) (l3 : Option Nat) (l4 : Int32) (l5 : Int32) (l6 : Int32) (h : gx_H) (r : gx_H), cR_readList_12 W n l0 l1 l2 l3 l4 l5 l6 h = some r → gv_V xs (D + 1) 115 12 [(0, gv_u l0), (1, gv_u l1), (2, gv_u l2), (3, gv_u l3), (4, .int l4), (5, .int l5), (6, .int l6)] [] h (.returned none) r := by
  intro n
  induction n with
  | zero => intro l0 l1 l2 l3 l4 l5 l6 h r e; cases e
  | succ n ih =>
    intro l0 l1 l2 l3 l4 l5 l6 h r e
    rw [cR_readList_12] at e
    refine gv_ild (pc' := 14) rfl rfl rfl ?_
    refine gv_ild (pc' := 16) rfl rfl rfl ?_
    by_cases c1 : l6 < l5
    · rw [if_pos c1] at e
      refine gv_cmF (pc' := 19) rfl (gv_geF2 c1) rfl rfl ?_
      refine gv_rldn (pc' := 20) rfl rfl rfl ?_
      obtain ⟨v2, qv2, e⟩ := gv_bind e
      refine gv_fI (pc' := 23) rfl rfl qv2 rfl ?_
      by_cases c3 : v2 = 0
      · rw [if_pos c3] at e
        refine gv_ifF (pc' := 26) rfl (gv_neF c3) rfl rfl ?_
        refine gv_rldn (pc' := 27) rfl rfl rfl ?_
        refine gv_rldn (pc' := 28) rfl rfl rfl ?_
        refine gv_ic (pc' := 29) (x := 1) rfl rfl rfl ?_
        obtain ⟨i4, qi4, e⟩ := gv_bind e
        obtain ⟨⟨v5, h6⟩, qv5, e⟩ := gv_bind e
        refine gv_vS (jc := 104) (n := 2) (rest := []) (stk := [.int v5]) (pc' := 32) rfl rfl rfl rfl rfl rfl rfl rfl rfl (gv_zR (gv_zR (gv_zI gv_z0))) rfl (gv_aR (gv_aR (gv_aI gv_a0))) (by omega) qi4 (cR_nextUpTo_ok qv5) rfl rfl ?_
        refine gv_ist (pc' := 34) rfl rfl (gv_Ci rfl) rfl ?_
        refine gv_ild (pc' := 36) rfl rfl rfl ?_
        refine gv_ic (pc' := 37) (x := 1) rfl rfl rfl ?_
        by_cases c8 : v5 = (1 : Int32)
        · rw [if_pos c8] at e
          refine gv_cmF (pc' := 40) rfl (gv_neF2 c8) rfl rfl ?_
          refine gv_rldn (pc' := 41) rfl rfl rfl ?_
          refine gv_rldn (pc' := 42) rfl rfl rfl ?_
          refine gv_rldn (pc' := 43) rfl rfl rfl ?_
          refine gv_ild (pc' := 45) rfl rfl rfl ?_
          refine gv_ic (pc' := 46) (x := 1) rfl rfl rfl ?_
          refine gv_iadd (pc' := 47) rfl rfl ?_
          obtain ⟨i9, qi9, e⟩ := gv_bind e
          obtain ⟨h11, qv10, e⟩ := gv_bind e
          refine gv_vS (jc := 103) (n := 3) (rest := []) (stk := []) (pc' := 50) rfl rfl rfl rfl rfl rfl rfl rfl rfl (gv_zR (gv_zR (gv_zR (gv_zI gv_z0)))) rfl (gv_aR (gv_aR (gv_aR (gv_aI gv_a0)))) (by omega) qi9 (hW _ _ _ _ _ _ qv10) rfl rfl ?_
          refine gv_rldn (pc' := 51) rfl rfl rfl ?_
          refine gv_ild (pc' := 53) rfl rfl rfl ?_
          refine gv_rldn (pc' := 54) rfl rfl rfl ?_
          obtain ⟨v12, qv12, e⟩ := gv_bind e
          refine gv_fI (pc' := 57) rfl rfl qv12 rfl ?_
          refine gv_rldn (pc' := 58) rfl rfl rfl ?_
          obtain ⟨v13, qv13, e⟩ := gv_bind e
          refine gv_fI (pc' := 61) rfl rfl qv13 rfl ?_
          obtain ⟨i14, qi14, e⟩ := gv_bind e
          obtain ⟨h16, qv15, e⟩ := gv_bind e
          refine gv_vS (jc := 43) (n := 3) (rest := []) (stk := []) (pc' := 64) rfl rfl rfl rfl rfl rfl rfl rfl rfl (gv_zR (gv_zI (gv_zI (gv_zI gv_z0)))) rfl (gv_aR (gv_aI (gv_aI (gv_aI gv_a0)))) (by omega) qi14 (cT_setPlace_ok qv15) rfl rfl ?_
          refine gv_goto (pc' := 75) rfl rfl ?_
          exact gv_weak (cR_readList_75_ok hD hW ih e) (gv_S1 rfl (gv_S1 rfl (gv_S1 rfl (gv_S1 rfl (gv_S1 rfl (gv_S1 rfl (gv_S1 rfl gv_S0)))))))
        rw [if_neg c8] at e
        refine gv_cmT (pc' := 67) rfl (gv_neT2 c8) rfl ?_
        refine gv_rldn (pc' := 68) rfl rfl rfl ?_
        refine gv_ild (pc' := 70) rfl rfl rfl ?_
        refine gv_ic (pc' := 71) (x := -1) rfl rfl rfl ?_
        refine gv_ic (pc' := 72) (x := 0) rfl rfl rfl ?_
        obtain ⟨i17, qi17, e⟩ := gv_bind e
        obtain ⟨h19, qv18, e⟩ := gv_bind e
        refine gv_vS (jc := 43) (n := 3) (rest := []) (stk := []) (pc' := 75) rfl rfl rfl rfl rfl rfl rfl rfl rfl (gv_zR (gv_zI (gv_zI (gv_zI gv_z0)))) rfl (gv_aR (gv_aI (gv_aI (gv_aI gv_a0)))) (by omega) qi17 (cT_setPlace_ok qv18) rfl rfl ?_
        exact gv_weak (cR_readList_75_ok hD hW ih e) (gv_S1 rfl (gv_S1 rfl (gv_S1 rfl (gv_S1 rfl (gv_S1 rfl (gv_S1 rfl (gv_S1 rfl gv_S0)))))))
      rw [if_neg c3] at e
      refine gv_ifT (pc' := 81) rfl (gv_neT c3) rfl ?_
      cases e
      exact gv_retV rfl rfl
    rw [if_neg c1] at e
    refine gv_cmT (pc' := 81) rfl (gv_geT2 c1) rfl ?_
    cases e
    exact gv_retV rfl rfl
def cR_readList (W : Option Nat → Option Nat → Option Nat → Int32 → gx_H → Option gx_H) (l0 : Option Nat) (l1 : Option Nat) (l2 : Option Nat) (l3 : Option Nat) (l4 : Int32) (h : gx_H) : Option gx_H :=
  (gv_is h l0 6).bind fun i1 =>
  (cR_nextUpTo l0 l2 (8 : Int32) h).bind fun r4 =>
  cR_readList_12 W 1000000000000000 l0 l1 l2 l3 l4 r4.1 (0 : Int32) r4.2
theorem cR_readList_ok {xs : Option (List Int32)} {D : Nat} (hD : 12 ≤ D) {W : Option Nat → Option Nat → Option Nat → Int32 → gx_H → Option gx_H} (hW : ∀ (l0 : Option Nat) (l1 : Option Nat) (l2 : Option Nat) (l3 : Int32) (h : gx_H) (r : gx_H), W l0 l1 l2 l3 h = some r → gv_V xs D 103 0 [(0, gv_u l0), (1, gv_u l1), (2, gv_u l2), (3, .int l3)] [] h (.returned none) r) {l0 : Option Nat} {l1 : Option Nat} {l2 : Option Nat} {l3 : Option Nat} {l4 : Int32} {h : gx_H} {r : gx_H} (e : cR_readList W l0 l1 l2 l3 l4 h = some r) : gv_V xs (D + 1) 115 0 [(0, gv_u l0), (1, gv_u l1), (2, gv_u l2), (3, gv_u l3), (4, .int l4)] [] h (.returned none) r := by
  unfold cR_readList at e
  refine gv_rldn (pc' := 1) rfl rfl rfl ?_
  refine gv_rldn (pc' := 2) rfl rfl rfl ?_
  refine gv_bp (pc' := 4) (x := 8) rfl rfl rfl ?_
  obtain ⟨i1, qi1, e⟩ := gv_bind e
  obtain ⟨⟨v2, h3⟩, qv2, e⟩ := gv_bind e
  refine gv_vS (jc := 104) (n := 2) (rest := []) (stk := [.int v2]) (pc' := 7) rfl rfl rfl rfl rfl rfl rfl rfl rfl (gv_zR (gv_zR (gv_zI gv_z0))) rfl (gv_aR (gv_aR (gv_aI gv_a0))) (by omega) qi1 (cR_nextUpTo_ok qv2) rfl rfl ?_
  refine gv_ist (pc' := 9) rfl rfl (gv_Ci rfl) rfl ?_
  refine gv_ic (pc' := 10) (x := 0) rfl rfl rfl ?_
  refine gv_ist (pc' := 12) rfl rfl (gv_Ci rfl) rfl ?_
  exact gv_weak (cR_readList_12_ok hD hW 1000000000000000 _ _ _ _ _ _ _ _ _ e) (gv_S1 rfl (gv_S1 rfl (gv_S1 rfl (gv_S1 rfl (gv_S1 rfl (gv_S1 rfl (gv_S1 rfl gv_S0)))))))
def cR_readMap_100 (W : Option Nat → Option Nat → Option Nat → Int32 → gx_H → Option gx_H) (rec11 : Option Nat → Option Nat → Option Nat → Option Nat → Int32 → Int32 → Int32 → gx_H → Option gx_H) (l0 : Option Nat) (l1 : Option Nat) (l2 : Option Nat) (l3 : Option Nat) (l4 : Int32) (l5 : Int32) (l6 : Int32) (h : gx_H) : Option gx_H :=
  rec11 l0 l1 l2 l3 l4 l5 (l6 + 1) h
theorem cR_readMap_100_ok {xs : Option (List Int32)} {D : Nat} (hD : 12 ≤ D) {W : Option Nat → Option Nat → Option Nat → Int32 → gx_H → Option gx_H} (hW : ∀ (l0 : Option Nat) (l1 : Option Nat) (l2 : Option Nat) (l3 : Int32) (h : gx_H) (r : gx_H), W l0 l1 l2 l3 h = some r → gv_V xs D 103 0 [(0, gv_u l0), (1, gv_u l1), (2, gv_u l2), (3, .int l3)] [] h (.returned none) r) {rec11 : Option Nat → Option Nat → Option Nat → Option Nat → Int32 → Int32 → Int32 → gx_H → Option gx_H} (hrec11 : ∀ (l0 : Option Nat) (l1 : Option Nat) (l2 : Option Nat) (l3 : Option Nat) (l4 : Int32) (l5 : Int32) (l6 : Int32) (h : gx_H) (r : gx_H), rec11 l0 l1 l2 l3 l4 l5 l6 h = some r → gv_V xs (D + 1) 116 11 [(0, gv_u l0), (1, gv_u l1), (2, gv_u l2), (3, gv_u l3), (4, .int l4), (5, .int l5), (6, .int l6)] [] h (.returned none) r) {l0 : Option Nat} {l1 : Option Nat} {l2 : Option Nat} {l3 : Option Nat} {l4 : Int32} {l5 : Int32} {l6 : Int32} {h : gx_H} {r : gx_H} (e : cR_readMap_100 W rec11 l0 l1 l2 l3 l4 l5 l6 h = some r) : gv_V xs (D + 1) 116 100 [(0, gv_u l0), (1, gv_u l1), (2, gv_u l2), (3, gv_u l3), (4, .int l4), (5, .int l5), (6, .int l6)] [] h (.returned none) r := by
  unfold cR_readMap_100 at e
  refine gv_inc (pc' := 103) (y := 1) rfl rfl rfl rfl (gv_Ci rfl) rfl ?_
  refine gv_goto (pc' := 11) rfl rfl ?_
  exact gv_weak (hrec11 _ _ _ _ _ _ _ _ _ e) (gv_S1 rfl (gv_S1 rfl (gv_S1 rfl (gv_S1 rfl (gv_S1 rfl (gv_S1 rfl (gv_S1 rfl gv_S0)))))))
def cR_readMap_95 (W : Option Nat → Option Nat → Option Nat → Int32 → gx_H → Option gx_H) (rec11 : Option Nat → Option Nat → Option Nat → Option Nat → Int32 → Int32 → Int32 → gx_H → Option gx_H) (l0 : Option Nat) (l1 : Option Nat) (l2 : Option Nat) (l3 : Option Nat) (l4 : Int32) (l5 : Int32) (l6 : Int32) (h : gx_H) : Option gx_H :=
  (gv_pV h l0 6 1 (.int (1 : Int32))).bind fun h1 =>
  cR_readMap_100 W rec11 l0 l1 l2 l3 l4 l5 l6 h1
theorem cR_readMap_95_ok {xs : Option (List Int32)} {D : Nat} (hD : 12 ≤ D) {W : Option Nat → Option Nat → Option Nat → Int32 → gx_H → Option gx_H} (hW : ∀ (l0 : Option Nat) (l1 : Option Nat) (l2 : Option Nat) (l3 : Int32) (h : gx_H) (r : gx_H), W l0 l1 l2 l3 h = some r → gv_V xs D 103 0 [(0, gv_u l0), (1, gv_u l1), (2, gv_u l2), (3, .int l3)] [] h (.returned none) r) {rec11 : Option Nat → Option Nat → Option Nat → Option Nat → Int32 → Int32 → Int32 → gx_H → Option gx_H} (hrec11 : ∀ (l0 : Option Nat) (l1 : Option Nat) (l2 : Option Nat) (l3 : Option Nat) (l4 : Int32) (l5 : Int32) (l6 : Int32) (h : gx_H) (r : gx_H), rec11 l0 l1 l2 l3 l4 l5 l6 h = some r → gv_V xs (D + 1) 116 11 [(0, gv_u l0), (1, gv_u l1), (2, gv_u l2), (3, gv_u l3), (4, .int l4), (5, .int l5), (6, .int l6)] [] h (.returned none) r) {l0 : Option Nat} {l1 : Option Nat} {l2 : Option Nat} {l3 : Option Nat} {l4 : Int32} {l5 : Int32} {l6 : Int32} {h : gx_H} {r : gx_H} (e : cR_readMap_95 W rec11 l0 l1 l2 l3 l4 l5 l6 h = some r) : gv_V xs (D + 1) 116 95 [(0, gv_u l0), (1, gv_u l1), (2, gv_u l2), (3, gv_u l3), (4, .int l4), (5, .int l5), (6, .int l6)] [] h (.returned none) r := by
  unfold cR_readMap_95 at e
  refine gv_rldn (pc' := 96) rfl rfl rfl ?_
  refine gv_ic (pc' := 97) (x := 1) rfl rfl rfl ?_
  obtain ⟨h1, qh1, e⟩ := gv_bind e
  refine gv_pZ (pc' := 100) rfl rfl rfl (by decide) qh1 rfl ?_
  exact gv_weak (cR_readMap_100_ok hD hW hrec11 e) (gv_S1 rfl (gv_S1 rfl (gv_S1 rfl (gv_S1 rfl (gv_S1 rfl (gv_S1 rfl (gv_S1 rfl gv_S0)))))))
def cR_readMap_11 (W : Option Nat → Option Nat → Option Nat → Int32 → gx_H → Option gx_H) : Nat → Option Nat → Option Nat → Option Nat → Option Nat → Int32 → Int32 → Int32 → gx_H → Option gx_H
  | 0, _, _, _, _, _, _, _, _ => none
  | n + 1, l0, l1, l2, l3, l4, l5, l6, h =>
    if l6 < l5 then (
      (gv_gI h l0 6 1).bind fun v2 =>
      if v2 = 0 then (
        (gv_is h l0 6).bind fun i4 =>
        (W l0 l1 l2 (l4 + (1 : Int32)) h).bind fun h6 =>
        (gv_gI h6 l0 6 2).bind fun v7 =>
        (gv_gI h6 l0 6 3).bind fun v8 =>
        (gv_is h6 l0 6).bind fun i9 =>
        (W l0 l1 l2 (l4 + (1 : Int32)) h6).bind fun h11 =>
        (gv_gI h11 l0 6 1).bind fun v12 =>
        if v12 = 0 then (
          (gv_is h11 l3 2).bind fun i14 =>
          (cT_indexOfKey l3 v7 v8 h11).bind fun v15 =>
          if v15 = (-1 : Int32) then (
            (gv_gI h11 l0 6 2).bind fun v17 =>
            (gv_gI h11 l0 6 3).bind fun v18 =>
            (gv_is h11 l3 2).bind fun i19 =>
            (cT_setEntry l3 v7 v8 v17 v18 h11).bind fun r22 =>
            if r22.1 = 0 then (
              cR_readMap_95 W (cR_readMap_11 W n) l0 l1 l2 l3 l4 l5 l6 r22.2) else
            cR_readMap_100 W (cR_readMap_11 W n) l0 l1 l2 l3 l4 l5 l6 r22.2) else
          cR_readMap_95 W (cR_readMap_11 W n) l0 l1 l2 l3 l4 l5 l6 h11) else
        cR_readMap_95 W (cR_readMap_11 W n) l0 l1 l2 l3 l4 l5 l6 h11) else
      some h) else
    some h
theorem cR_readMap_11_ok {xs : Option (List Int32)} {D : Nat} (hD : 12 ≤ D) {W : Option Nat → Option Nat → Option Nat → Int32 → gx_H → Option gx_H} (hW : ∀ (l0 : Option Nat) (l1 : Option Nat) (l2 : Option Nat) (l3 : Int32) (h : gx_H) (r : gx_H), W l0 l1 l2 l3 h = some r → gv_V xs D 103 0 [(0, gv_u l0), (1, gv_u l1), (2, gv_u l2), (3, .int l3)] [] h (.returned none) r) : ∀ (n : Nat) (l0 : Option Nat) (l1 : Option Nat) (l2 : Option Nat) (l3 : Option Nat) (l4 : Int32) (l5 : Int32) (l6 : Int32) (h : gx_H) (r : gx_H), cR_readMap_11 W n l0 l1 l2 l3 l4 l5 l6 h = some r → gv_V xs (D + 1) 116 11 [(0, gv_u l0), (1, gv_u l1), (2, gv_u l2), (3, gv_u l3), (4, .int l4), (5, .int l5), (6, .int l6)] [] h (.returned none) r := by
  intro n
  induction n with
  | zero => intro l0 l1 l2 l3 l4 l5 l6 h r e; cases e
  | succ n ih =>
    intro l0 l1 l2 l3 l4 l5 l6 h r e
    rw [cR_readMap_11] at e
    refine gv_ild (pc' := 13) rfl rfl rfl ?_
    refine gv_ild (pc' := 15) rfl rfl rfl ?_
    by_cases c1 : l6 < l5
    · rw [if_pos c1] at e
      refine gv_cmF (pc' := 18) rfl (gv_geF2 c1) rfl rfl ?_
      refine gv_rldn (pc' := 19) rfl rfl rfl ?_
      obtain ⟨v2, qv2, e⟩ := gv_bind e
      refine gv_fI (pc' := 22) rfl rfl qv2 rfl ?_
      by_cases c3 : v2 = 0
      · rw [if_pos c3] at e
        refine gv_ifF (pc' := 25) rfl (gv_neF c3) rfl rfl ?_
        refine gv_rldn (pc' := 26) rfl rfl rfl ?_
        refine gv_rldn (pc' := 27) rfl rfl rfl ?_
        refine gv_rldn (pc' := 28) rfl rfl rfl ?_
        refine gv_ild (pc' := 30) rfl rfl rfl ?_
        refine gv_ic (pc' := 31) (x := 1) rfl rfl rfl ?_
        refine gv_iadd (pc' := 32) rfl rfl ?_
        obtain ⟨i4, qi4, e⟩ := gv_bind e
        obtain ⟨h6, qv5, e⟩ := gv_bind e
        refine gv_vS (jc := 103) (n := 3) (rest := []) (stk := []) (pc' := 35) rfl rfl rfl rfl rfl rfl rfl rfl rfl (gv_zR (gv_zR (gv_zR (gv_zI gv_z0)))) rfl (gv_aR (gv_aR (gv_aR (gv_aI gv_a0)))) (by omega) qi4 (hW _ _ _ _ _ _ qv5) rfl rfl ?_
        refine gv_rldn (pc' := 36) rfl rfl rfl ?_
        obtain ⟨v7, qv7, e⟩ := gv_bind e
        refine gv_fI (pc' := 39) rfl rfl qv7 rfl ?_
        refine gv_ist (pc' := 41) rfl rfl (gv_Ci rfl) rfl ?_
        refine gv_rldn (pc' := 42) rfl rfl rfl ?_
        obtain ⟨v8, qv8, e⟩ := gv_bind e
        refine gv_fI (pc' := 45) rfl rfl qv8 rfl ?_
        refine gv_ist (pc' := 47) rfl rfl (gv_Ci rfl) rfl ?_
        refine gv_rldn (pc' := 48) rfl rfl rfl ?_
        refine gv_rldn (pc' := 49) rfl rfl rfl ?_
        refine gv_rldn (pc' := 50) rfl rfl rfl ?_
        refine gv_ild (pc' := 52) rfl rfl rfl ?_
        refine gv_ic (pc' := 53) (x := 1) rfl rfl rfl ?_
        refine gv_iadd (pc' := 54) rfl rfl ?_
        obtain ⟨i9, qi9, e⟩ := gv_bind e
        obtain ⟨h11, qv10, e⟩ := gv_bind e
        refine gv_vS (jc := 103) (n := 3) (rest := []) (stk := []) (pc' := 57) rfl rfl rfl rfl rfl rfl rfl rfl rfl (gv_zR (gv_zR (gv_zR (gv_zI gv_z0)))) rfl (gv_aR (gv_aR (gv_aR (gv_aI gv_a0)))) (by omega) qi9 (hW _ _ _ _ _ _ qv10) rfl rfl ?_
        refine gv_rldn (pc' := 58) rfl rfl rfl ?_
        obtain ⟨v12, qv12, e⟩ := gv_bind e
        refine gv_fI (pc' := 61) rfl rfl qv12 rfl ?_
        by_cases c13 : v12 = 0
        · rw [if_pos c13] at e
          refine gv_ifF (pc' := 64) rfl (gv_neF c13) rfl rfl ?_
          refine gv_rldn (pc' := 65) rfl rfl rfl ?_
          refine gv_ild (pc' := 67) rfl rfl rfl ?_
          refine gv_ild (pc' := 69) rfl rfl rfl ?_
          obtain ⟨i14, qi14, e⟩ := gv_bind e
          obtain ⟨v15, qv15, e⟩ := gv_bind e
          refine gv_vS (jc := 47) (n := 2) (rest := []) (stk := [.int v15]) (pc' := 72) rfl rfl rfl rfl rfl rfl rfl rfl rfl (gv_zR (gv_zI (gv_zI gv_z0))) rfl (gv_aR (gv_aI (gv_aI gv_a0))) (by omega) qi14 (cT_indexOfKey_ok qv15) rfl rfl ?_
          refine gv_ic (pc' := 73) (x := -1) rfl rfl rfl ?_
          by_cases c16 : v15 = (-1 : Int32)
          · rw [if_pos c16] at e
            refine gv_cmF (pc' := 76) rfl (gv_neF2 c16) rfl rfl ?_
            refine gv_rldn (pc' := 77) rfl rfl rfl ?_
            refine gv_ild (pc' := 79) rfl rfl rfl ?_
            refine gv_ild (pc' := 81) rfl rfl rfl ?_
            refine gv_rldn (pc' := 82) rfl rfl rfl ?_
            obtain ⟨v17, qv17, e⟩ := gv_bind e
            refine gv_fI (pc' := 85) rfl rfl qv17 rfl ?_
            refine gv_rldn (pc' := 86) rfl rfl rfl ?_
            obtain ⟨v18, qv18, e⟩ := gv_bind e
            refine gv_fI (pc' := 89) rfl rfl qv18 rfl ?_
            obtain ⟨i19, qi19, e⟩ := gv_bind e
            obtain ⟨⟨v20, h21⟩, qv20, e⟩ := gv_bind e
            refine gv_vS (jc := 56) (n := 4) (rest := []) (stk := [.int v20]) (pc' := 92) rfl rfl rfl rfl rfl rfl rfl rfl rfl (gv_zR (gv_zI (gv_zI (gv_zI (gv_zI gv_z0))))) rfl (gv_aR (gv_aI (gv_aI (gv_aI (gv_aI gv_a0))))) (by omega) qi19 (cT_setEntry_ok qv20) rfl rfl ?_
            by_cases c23 : v20 = 0
            · rw [if_pos c23] at e
              refine gv_ifF (pc' := 95) rfl (gv_neF c23) rfl rfl ?_
              exact gv_weak (cR_readMap_95_ok hD hW ih e) (gv_S1 rfl (gv_S1 rfl (gv_S1 rfl (gv_S1 rfl (gv_S1 rfl (gv_S1 rfl (gv_S1 rfl gv_S0)))))))
            rw [if_neg c23] at e
            refine gv_ifT (pc' := 100) rfl (gv_neT c23) rfl ?_
            exact gv_weak (cR_readMap_100_ok hD hW ih e) (gv_S1 rfl (gv_S1 rfl (gv_S1 rfl (gv_S1 rfl (gv_S1 rfl (gv_S1 rfl (gv_S1 rfl gv_S0)))))))
          rw [if_neg c16] at e
          refine gv_cmT (pc' := 95) rfl (gv_neT2 c16) rfl ?_
          exact gv_weak (cR_readMap_95_ok hD hW ih e) (gv_S1 rfl (gv_S1 rfl (gv_S1 rfl (gv_S1 rfl (gv_S1 rfl (gv_S1 rfl (gv_S1 rfl gv_S0)))))))
        rw [if_neg c13] at e
        refine gv_ifT (pc' := 95) rfl (gv_neT c13) rfl ?_
        exact gv_weak (cR_readMap_95_ok hD hW ih e) (gv_S1 rfl (gv_S1 rfl (gv_S1 rfl (gv_S1 rfl (gv_S1 rfl (gv_S1 rfl (gv_S1 rfl gv_S0)))))))
      rw [if_neg c3] at e
      refine gv_ifT (pc' := 106) rfl (gv_neT c3) rfl ?_
      cases e
      exact gv_retV rfl rfl
    rw [if_neg c1] at e
    refine gv_cmT (pc' := 106) rfl (gv_geT2 c1) rfl ?_
    cases e
    exact gv_retV rfl rfl
def cR_readMap (W : Option Nat → Option Nat → Option Nat → Int32 → gx_H → Option gx_H) (l0 : Option Nat) (l1 : Option Nat) (l2 : Option Nat) (l3 : Option Nat) (l4 : Int32) (h : gx_H) : Option gx_H :=
  (gv_is h l0 6).bind fun i1 =>
  (cR_nextUpTo l0 l2 (4 : Int32) h).bind fun r4 =>
  cR_readMap_11 W 1000000000000000 l0 l1 l2 l3 l4 r4.1 (0 : Int32) r4.2
theorem cR_readMap_ok {xs : Option (List Int32)} {D : Nat} (hD : 12 ≤ D) {W : Option Nat → Option Nat → Option Nat → Int32 → gx_H → Option gx_H} (hW : ∀ (l0 : Option Nat) (l1 : Option Nat) (l2 : Option Nat) (l3 : Int32) (h : gx_H) (r : gx_H), W l0 l1 l2 l3 h = some r → gv_V xs D 103 0 [(0, gv_u l0), (1, gv_u l1), (2, gv_u l2), (3, .int l3)] [] h (.returned none) r) {l0 : Option Nat} {l1 : Option Nat} {l2 : Option Nat} {l3 : Option Nat} {l4 : Int32} {h : gx_H} {r : gx_H} (e : cR_readMap W l0 l1 l2 l3 l4 h = some r) : gv_V xs (D + 1) 116 0 [(0, gv_u l0), (1, gv_u l1), (2, gv_u l2), (3, gv_u l3), (4, .int l4)] [] h (.returned none) r := by
  unfold cR_readMap at e
  refine gv_rldn (pc' := 1) rfl rfl rfl ?_
  refine gv_rldn (pc' := 2) rfl rfl rfl ?_
  refine gv_ic (pc' := 3) (x := 4) rfl rfl rfl ?_
  obtain ⟨i1, qi1, e⟩ := gv_bind e
  obtain ⟨⟨v2, h3⟩, qv2, e⟩ := gv_bind e
  refine gv_vS (jc := 104) (n := 2) (rest := []) (stk := [.int v2]) (pc' := 6) rfl rfl rfl rfl rfl rfl rfl rfl rfl (gv_zR (gv_zR (gv_zI gv_z0))) rfl (gv_aR (gv_aR (gv_aI gv_a0))) (by omega) qi1 (cR_nextUpTo_ok qv2) rfl rfl ?_
  refine gv_ist (pc' := 8) rfl rfl (gv_Ci rfl) rfl ?_
  refine gv_ic (pc' := 9) (x := 0) rfl rfl rfl ?_
  refine gv_ist (pc' := 11) rfl rfl (gv_Ci rfl) rfl ?_
  exact gv_weak (cR_readMap_11_ok hD hW 1000000000000000 _ _ _ _ _ _ _ _ _ e) (gv_S1 rfl (gv_S1 rfl (gv_S1 rfl (gv_S1 rfl (gv_S1 rfl (gv_S1 rfl (gv_S1 rfl gv_S0)))))))
def cR_readSet_77 (W : Option Nat → Option Nat → Option Nat → Int32 → gx_H → Option gx_H) (rec11 : Option Nat → Option Nat → Option Nat → Option Nat → Int32 → Int32 → Int32 → gx_H → Option gx_H) (l0 : Option Nat) (l1 : Option Nat) (l2 : Option Nat) (l3 : Option Nat) (l4 : Int32) (l5 : Int32) (l6 : Int32) (h : gx_H) : Option gx_H :=
  rec11 l0 l1 l2 l3 l4 l5 (l6 + 1) h
theorem cR_readSet_77_ok {xs : Option (List Int32)} {D : Nat} (hD : 12 ≤ D) {W : Option Nat → Option Nat → Option Nat → Int32 → gx_H → Option gx_H} (hW : ∀ (l0 : Option Nat) (l1 : Option Nat) (l2 : Option Nat) (l3 : Int32) (h : gx_H) (r : gx_H), W l0 l1 l2 l3 h = some r → gv_V xs D 103 0 [(0, gv_u l0), (1, gv_u l1), (2, gv_u l2), (3, .int l3)] [] h (.returned none) r) {rec11 : Option Nat → Option Nat → Option Nat → Option Nat → Int32 → Int32 → Int32 → gx_H → Option gx_H} (hrec11 : ∀ (l0 : Option Nat) (l1 : Option Nat) (l2 : Option Nat) (l3 : Option Nat) (l4 : Int32) (l5 : Int32) (l6 : Int32) (h : gx_H) (r : gx_H), rec11 l0 l1 l2 l3 l4 l5 l6 h = some r → gv_V xs (D + 1) 117 11 [(0, gv_u l0), (1, gv_u l1), (2, gv_u l2), (3, gv_u l3), (4, .int l4), (5, .int l5), (6, .int l6)] [] h (.returned none) r) {l0 : Option Nat} {l1 : Option Nat} {l2 : Option Nat} {l3 : Option Nat} {l4 : Int32} {l5 : Int32} {l6 : Int32} {h : gx_H} {r : gx_H} (e : cR_readSet_77 W rec11 l0 l1 l2 l3 l4 l5 l6 h = some r) : gv_V xs (D + 1) 117 77 [(0, gv_u l0), (1, gv_u l1), (2, gv_u l2), (3, gv_u l3), (4, .int l4), (5, .int l5), (6, .int l6)] [] h (.returned none) r := by
  unfold cR_readSet_77 at e
  refine gv_inc (pc' := 80) (y := 1) rfl rfl rfl rfl (gv_Ci rfl) rfl ?_
  refine gv_goto (pc' := 11) rfl rfl ?_
  exact gv_weak (hrec11 _ _ _ _ _ _ _ _ _ e) (gv_S1 rfl (gv_S1 rfl (gv_S1 rfl (gv_S1 rfl (gv_S1 rfl (gv_S1 rfl (gv_S1 rfl gv_S0)))))))
def cR_readSet_72 (W : Option Nat → Option Nat → Option Nat → Int32 → gx_H → Option gx_H) (rec11 : Option Nat → Option Nat → Option Nat → Option Nat → Int32 → Int32 → Int32 → gx_H → Option gx_H) (l0 : Option Nat) (l1 : Option Nat) (l2 : Option Nat) (l3 : Option Nat) (l4 : Int32) (l5 : Int32) (l6 : Int32) (h : gx_H) : Option gx_H :=
  (gv_pV h l0 6 1 (.int (1 : Int32))).bind fun h1 =>
  cR_readSet_77 W rec11 l0 l1 l2 l3 l4 l5 l6 h1
theorem cR_readSet_72_ok {xs : Option (List Int32)} {D : Nat} (hD : 12 ≤ D) {W : Option Nat → Option Nat → Option Nat → Int32 → gx_H → Option gx_H} (hW : ∀ (l0 : Option Nat) (l1 : Option Nat) (l2 : Option Nat) (l3 : Int32) (h : gx_H) (r : gx_H), W l0 l1 l2 l3 h = some r → gv_V xs D 103 0 [(0, gv_u l0), (1, gv_u l1), (2, gv_u l2), (3, .int l3)] [] h (.returned none) r) {rec11 : Option Nat → Option Nat → Option Nat → Option Nat → Int32 → Int32 → Int32 → gx_H → Option gx_H} (hrec11 : ∀ (l0 : Option Nat) (l1 : Option Nat) (l2 : Option Nat) (l3 : Option Nat) (l4 : Int32) (l5 : Int32) (l6 : Int32) (h : gx_H) (r : gx_H), rec11 l0 l1 l2 l3 l4 l5 l6 h = some r → gv_V xs (D + 1) 117 11 [(0, gv_u l0), (1, gv_u l1), (2, gv_u l2), (3, gv_u l3), (4, .int l4), (5, .int l5), (6, .int l6)] [] h (.returned none) r) {l0 : Option Nat} {l1 : Option Nat} {l2 : Option Nat} {l3 : Option Nat} {l4 : Int32} {l5 : Int32} {l6 : Int32} {h : gx_H} {r : gx_H} (e : cR_readSet_72 W rec11 l0 l1 l2 l3 l4 l5 l6 h = some r) : gv_V xs (D + 1) 117 72 [(0, gv_u l0), (1, gv_u l1), (2, gv_u l2), (3, gv_u l3), (4, .int l4), (5, .int l5), (6, .int l6)] [] h (.returned none) r := by
  unfold cR_readSet_72 at e
  refine gv_rldn (pc' := 73) rfl rfl rfl ?_
  refine gv_ic (pc' := 74) (x := 1) rfl rfl rfl ?_
  obtain ⟨h1, qh1, e⟩ := gv_bind e
  refine gv_pZ (pc' := 77) rfl rfl rfl (by decide) qh1 rfl ?_
  exact gv_weak (cR_readSet_77_ok hD hW hrec11 e) (gv_S1 rfl (gv_S1 rfl (gv_S1 rfl (gv_S1 rfl (gv_S1 rfl (gv_S1 rfl (gv_S1 rfl gv_S0)))))))
def cR_readSet_11 (W : Option Nat → Option Nat → Option Nat → Int32 → gx_H → Option gx_H) : Nat → Option Nat → Option Nat → Option Nat → Option Nat → Int32 → Int32 → Int32 → gx_H → Option gx_H
  | 0, _, _, _, _, _, _, _, _ => none
  | n + 1, l0, l1, l2, l3, l4, l5, l6, h =>
    if l6 < l5 then (
      (gv_gI h l0 6 1).bind fun v2 =>
      if v2 = 0 then (
        (gv_is h l0 6).bind fun i4 =>
        (W l0 l1 l2 (l4 + (1 : Int32)) h).bind fun h6 =>
        (gv_gI h6 l0 6 1).bind fun v7 =>
        if v7 = 0 then (
          (gv_gI h6 l0 6 2).bind fun v9 =>
          (gv_gI h6 l0 6 3).bind fun v10 =>
          (gv_is h6 l3 2).bind fun i11 =>
          (cT_hasMember l3 v9 v10 h6).bind fun v12 =>
          if v12 = 0 then (
            (gv_gI h6 l0 6 2).bind fun v14 =>
            (gv_gI h6 l0 6 3).bind fun v15 =>
            (gv_is h6 l3 2).bind fun i16 =>
            (cT_appendMember l3 v14 v15 h6).bind fun r19 =>
            if r19.1 = 0 then (
              cR_readSet_72 W (cR_readSet_11 W n) l0 l1 l2 l3 l4 l5 l6 r19.2) else
            cR_readSet_77 W (cR_readSet_11 W n) l0 l1 l2 l3 l4 l5 l6 r19.2) else
          cR_readSet_72 W (cR_readSet_11 W n) l0 l1 l2 l3 l4 l5 l6 h6) else
        cR_readSet_72 W (cR_readSet_11 W n) l0 l1 l2 l3 l4 l5 l6 h6) else
      some h) else
    some h
theorem cR_readSet_11_ok {xs : Option (List Int32)} {D : Nat} (hD : 12 ≤ D) {W : Option Nat → Option Nat → Option Nat → Int32 → gx_H → Option gx_H} (hW : ∀ (l0 : Option Nat) (l1 : Option Nat) (l2 : Option Nat) (l3 : Int32) (h : gx_H) (r : gx_H), W l0 l1 l2 l3 h = some r → gv_V xs D 103 0 [(0, gv_u l0), (1, gv_u l1), (2, gv_u l2), (3, .int l3)] [] h (.returned none) r) : ∀ (n : Nat) (l0 : Option Nat) (l1 : Option Nat) (l2 : Option Nat) (l3 : Option Nat) (l4 : Int32) (l5 : Int32) (l6 : Int32) (h : gx_H) (r : gx_H), cR_readSet_11 W n l0 l1 l2 l3 l4 l5 l6 h = some r → gv_V xs (D + 1) 117 11 [(0, gv_u l0), (1, gv_u l1), (2, gv_u l2), (3, gv_u l3), (4, .int l4), (5, .int l5), (6, .int l6)] [] h (.returned none) r := by
  intro n
  induction n with
  | zero => intro l0 l1 l2 l3 l4 l5 l6 h r e; cases e
  | succ n ih =>
    intro l0 l1 l2 l3 l4 l5 l6 h r e
    rw [cR_readSet_11] at e
    refine gv_ild (pc' := 13) rfl rfl rfl ?_
    refine gv_ild (pc' := 15) rfl rfl rfl ?_
    by_cases c1 : l6 < l5
    · rw [if_pos c1] at e
      refine gv_cmF (pc' := 18) rfl (gv_geF2 c1) rfl rfl ?_
      refine gv_rldn (pc' := 19) rfl rfl rfl ?_
      obtain ⟨v2, qv2, e⟩ := gv_bind e
      refine gv_fI (pc' := 22) rfl rfl qv2 rfl ?_
      by_cases c3 : v2 = 0
      · rw [if_pos c3] at e
        refine gv_ifF (pc' := 25) rfl (gv_neF c3) rfl rfl ?_
        refine gv_rldn (pc' := 26) rfl rfl rfl ?_
        refine gv_rldn (pc' := 27) rfl rfl rfl ?_
        refine gv_rldn (pc' := 28) rfl rfl rfl ?_
        refine gv_ild (pc' := 30) rfl rfl rfl ?_
        refine gv_ic (pc' := 31) (x := 1) rfl rfl rfl ?_
        refine gv_iadd (pc' := 32) rfl rfl ?_
        obtain ⟨i4, qi4, e⟩ := gv_bind e
        obtain ⟨h6, qv5, e⟩ := gv_bind e
        refine gv_vS (jc := 103) (n := 3) (rest := []) (stk := []) (pc' := 35) rfl rfl rfl rfl rfl rfl rfl rfl rfl (gv_zR (gv_zR (gv_zR (gv_zI gv_z0)))) rfl (gv_aR (gv_aR (gv_aR (gv_aI gv_a0)))) (by omega) qi4 (hW _ _ _ _ _ _ qv5) rfl rfl ?_
        refine gv_rldn (pc' := 36) rfl rfl rfl ?_
        obtain ⟨v7, qv7, e⟩ := gv_bind e
        refine gv_fI (pc' := 39) rfl rfl qv7 rfl ?_
        by_cases c8 : v7 = 0
        · rw [if_pos c8] at e
          refine gv_ifF (pc' := 42) rfl (gv_neF c8) rfl rfl ?_
          refine gv_rldn (pc' := 43) rfl rfl rfl ?_
          refine gv_rldn (pc' := 44) rfl rfl rfl ?_
          obtain ⟨v9, qv9, e⟩ := gv_bind e
          refine gv_fI (pc' := 47) rfl rfl qv9 rfl ?_
          refine gv_rldn (pc' := 48) rfl rfl rfl ?_
          obtain ⟨v10, qv10, e⟩ := gv_bind e
          refine gv_fI (pc' := 51) rfl rfl qv10 rfl ?_
          obtain ⟨i11, qi11, e⟩ := gv_bind e
          obtain ⟨v12, qv12, e⟩ := gv_bind e
          refine gv_vS (jc := 59) (n := 2) (rest := []) (stk := [.int v12]) (pc' := 54) rfl rfl rfl rfl rfl rfl rfl rfl rfl (gv_zR (gv_zI (gv_zI gv_z0))) rfl (gv_aR (gv_aI (gv_aI gv_a0))) (by omega) qi11 (cT_hasMember_ok qv12) rfl rfl ?_
          by_cases c13 : v12 = 0
          · rw [if_pos c13] at e
            refine gv_ifF (pc' := 57) rfl (gv_neF c13) rfl rfl ?_
            refine gv_rldn (pc' := 58) rfl rfl rfl ?_
            refine gv_rldn (pc' := 59) rfl rfl rfl ?_
            obtain ⟨v14, qv14, e⟩ := gv_bind e
            refine gv_fI (pc' := 62) rfl rfl qv14 rfl ?_
            refine gv_rldn (pc' := 63) rfl rfl rfl ?_
            obtain ⟨v15, qv15, e⟩ := gv_bind e
            refine gv_fI (pc' := 66) rfl rfl qv15 rfl ?_
            obtain ⟨i16, qi16, e⟩ := gv_bind e
            obtain ⟨⟨v17, h18⟩, qv17, e⟩ := gv_bind e
            refine gv_vS (jc := 60) (n := 2) (rest := []) (stk := [.int v17]) (pc' := 69) rfl rfl rfl rfl rfl rfl rfl rfl rfl (gv_zR (gv_zI (gv_zI gv_z0))) rfl (gv_aR (gv_aI (gv_aI gv_a0))) (by omega) qi16 (cT_appendMember_ok qv17) rfl rfl ?_
            by_cases c20 : v17 = 0
            · rw [if_pos c20] at e
              refine gv_ifF (pc' := 72) rfl (gv_neF c20) rfl rfl ?_
              exact gv_weak (cR_readSet_72_ok hD hW ih e) (gv_S1 rfl (gv_S1 rfl (gv_S1 rfl (gv_S1 rfl (gv_S1 rfl (gv_S1 rfl (gv_S1 rfl gv_S0)))))))
            rw [if_neg c20] at e
            refine gv_ifT (pc' := 77) rfl (gv_neT c20) rfl ?_
            exact gv_weak (cR_readSet_77_ok hD hW ih e) (gv_S1 rfl (gv_S1 rfl (gv_S1 rfl (gv_S1 rfl (gv_S1 rfl (gv_S1 rfl (gv_S1 rfl gv_S0)))))))
          rw [if_neg c13] at e
          refine gv_ifT (pc' := 72) rfl (gv_neT c13) rfl ?_
          exact gv_weak (cR_readSet_72_ok hD hW ih e) (gv_S1 rfl (gv_S1 rfl (gv_S1 rfl (gv_S1 rfl (gv_S1 rfl (gv_S1 rfl (gv_S1 rfl gv_S0)))))))
        rw [if_neg c8] at e
        refine gv_ifT (pc' := 72) rfl (gv_neT c8) rfl ?_
        exact gv_weak (cR_readSet_72_ok hD hW ih e) (gv_S1 rfl (gv_S1 rfl (gv_S1 rfl (gv_S1 rfl (gv_S1 rfl (gv_S1 rfl (gv_S1 rfl gv_S0)))))))
      rw [if_neg c3] at e
      refine gv_ifT (pc' := 83) rfl (gv_neT c3) rfl ?_
      cases e
      exact gv_retV rfl rfl
    rw [if_neg c1] at e
    refine gv_cmT (pc' := 83) rfl (gv_geT2 c1) rfl ?_
    cases e
    exact gv_retV rfl rfl
def cR_readSet (W : Option Nat → Option Nat → Option Nat → Int32 → gx_H → Option gx_H) (l0 : Option Nat) (l1 : Option Nat) (l2 : Option Nat) (l3 : Option Nat) (l4 : Int32) (h : gx_H) : Option gx_H :=
  (gv_is h l0 6).bind fun i1 =>
  (cR_nextUpTo l0 l2 (5 : Int32) h).bind fun r4 =>
  cR_readSet_11 W 1000000000000000 l0 l1 l2 l3 l4 r4.1 (0 : Int32) r4.2
theorem cR_readSet_ok {xs : Option (List Int32)} {D : Nat} (hD : 12 ≤ D) {W : Option Nat → Option Nat → Option Nat → Int32 → gx_H → Option gx_H} (hW : ∀ (l0 : Option Nat) (l1 : Option Nat) (l2 : Option Nat) (l3 : Int32) (h : gx_H) (r : gx_H), W l0 l1 l2 l3 h = some r → gv_V xs D 103 0 [(0, gv_u l0), (1, gv_u l1), (2, gv_u l2), (3, .int l3)] [] h (.returned none) r) {l0 : Option Nat} {l1 : Option Nat} {l2 : Option Nat} {l3 : Option Nat} {l4 : Int32} {h : gx_H} {r : gx_H} (e : cR_readSet W l0 l1 l2 l3 l4 h = some r) : gv_V xs (D + 1) 117 0 [(0, gv_u l0), (1, gv_u l1), (2, gv_u l2), (3, gv_u l3), (4, .int l4)] [] h (.returned none) r := by
  unfold cR_readSet at e
  refine gv_rldn (pc' := 1) rfl rfl rfl ?_
  refine gv_rldn (pc' := 2) rfl rfl rfl ?_
  refine gv_ic (pc' := 3) (x := 5) rfl rfl rfl ?_
  obtain ⟨i1, qi1, e⟩ := gv_bind e
  obtain ⟨⟨v2, h3⟩, qv2, e⟩ := gv_bind e
  refine gv_vS (jc := 104) (n := 2) (rest := []) (stk := [.int v2]) (pc' := 6) rfl rfl rfl rfl rfl rfl rfl rfl rfl (gv_zR (gv_zR (gv_zI gv_z0))) rfl (gv_aR (gv_aR (gv_aI gv_a0))) (by omega) qi1 (cR_nextUpTo_ok qv2) rfl rfl ?_
  refine gv_ist (pc' := 8) rfl rfl (gv_Ci rfl) rfl ?_
  refine gv_ic (pc' := 9) (x := 0) rfl rfl rfl ?_
  refine gv_ist (pc' := 11) rfl rfl (gv_Ci rfl) rfl ?_
  exact gv_weak (cR_readSet_11_ok hD hW 1000000000000000 _ _ _ _ _ _ _ _ _ e) (gv_S1 rfl (gv_S1 rfl (gv_S1 rfl (gv_S1 rfl (gv_S1 rfl (gv_S1 rfl (gv_S1 rfl gv_S0)))))))
def cR_readObject_128 (W : Option Nat → Option Nat → Option Nat → Int32 → gx_H → Option gx_H) (l0 : Option Nat) (l5 : Int32) (h : gx_H) : Option gx_H :=
  (gv_is h l0 6).bind fun i1 =>
  (cR_settle l0 (6 : Int32) l5 h).bind fun h3 =>
  some h3
theorem cR_readObject_128_ok {xs : Option (List Int32)} {D : Nat} (hD : 12 ≤ D) {W : Option Nat → Option Nat → Option Nat → Int32 → gx_H → Option gx_H} (hW : ∀ (l0 : Option Nat) (l1 : Option Nat) (l2 : Option Nat) (l3 : Int32) (h : gx_H) (r : gx_H), W l0 l1 l2 l3 h = some r → gv_V xs D 103 0 [(0, gv_u l0), (1, gv_u l1), (2, gv_u l2), (3, .int l3)] [] h (.returned none) r) {l0 : Option Nat} {l5 : Int32} {h : gx_H} {r : gx_H} (e : cR_readObject_128 W l0 l5 h = some r) : gv_V xs (D + 2) 113 128 [(0, gv_u l0), (5, .int l5)] [] h (.returned none) r := by
  unfold cR_readObject_128 at e
  refine gv_rldn (pc' := 129) rfl rfl rfl ?_
  refine gv_bp (pc' := 131) (x := 6) rfl rfl rfl ?_
  refine gv_ild (pc' := 133) rfl rfl rfl ?_
  obtain ⟨i1, qi1, e⟩ := gv_bind e
  obtain ⟨h3, qv2, e⟩ := gv_bind e
  refine gv_vS (jc := 108) (n := 2) (rest := []) (stk := []) (pc' := 136) rfl rfl rfl rfl rfl rfl rfl rfl rfl (gv_zR (gv_zI (gv_zI gv_z0))) rfl (gv_aR (gv_aI (gv_aI gv_a0))) (by omega) qi1 (cR_settle_ok qv2) rfl rfl ?_
  cases e
  exact gv_retV rfl rfl
def cR_readObject (W : Option Nat → Option Nat → Option Nat → Int32 → gx_H → Option gx_H) (l0 : Option Nat) (l1 : Option Nat) (l2 : Option Nat) (l3 : Int32) (l4 : Int32) (h : gx_H) : Option gx_H :=
  (gv_gI h l1 1 1).bind fun v1 =>
  (gv_is h l0 6).bind fun i2 =>
  (cR_beginThing l0 l1 l3 h).bind fun r5 =>
  if r5.1 = none then (
    some r5.2) else
  if l3 = (0 : Int32) then (
    (gv_is r5.2 l0 6).bind fun i8 =>
    (cR_readRecord W l0 l1 l2 r5.1 l4 r5.2).bind fun h10 =>
    cR_readObject_128 W l0 v1 h10) else
  if l3 = (1 : Int32) then (
    (gv_is r5.2 l0 6).bind fun i12 =>
    (cR_readList W l0 l1 l2 r5.1 l4 r5.2).bind fun h14 =>
    cR_readObject_128 W l0 v1 h14) else
  if l3 = (2 : Int32) then (
    (gv_is r5.2 l0 6).bind fun i16 =>
    (cR_readMap W l0 l1 l2 r5.1 l4 r5.2).bind fun h18 =>
    cR_readObject_128 W l0 v1 h18) else
  if l3 = (3 : Int32) then (
    (gv_is r5.2 l0 6).bind fun i20 =>
    (cR_readSet W l0 l1 l2 r5.1 l4 r5.2).bind fun h22 =>
    cR_readObject_128 W l0 v1 h22) else
  if l3 = (4 : Int32) then (
    (gv_is r5.2 l0 6).bind fun i24 =>
    (cR_readBuffer l0 l2 r5.1 r5.2).bind fun h26 =>
    cR_readObject_128 W l0 v1 h26) else
  (gv_is r5.2 l0 6).bind fun i27 =>
  (cR_nextZigzag l0 l2 r5.2).bind fun r30 =>
  (gv_pV r30.2 r5.1 2 10 (.long r30.1)).bind fun h31 =>
  cR_readObject_128 W l0 v1 h31
theorem cR_readObject_ok {xs : Option (List Int32)} {D : Nat} (hD : 12 ≤ D) {W : Option Nat → Option Nat → Option Nat → Int32 → gx_H → Option gx_H} (hW : ∀ (l0 : Option Nat) (l1 : Option Nat) (l2 : Option Nat) (l3 : Int32) (h : gx_H) (r : gx_H), W l0 l1 l2 l3 h = some r → gv_V xs D 103 0 [(0, gv_u l0), (1, gv_u l1), (2, gv_u l2), (3, .int l3)] [] h (.returned none) r) {l0 : Option Nat} {l1 : Option Nat} {l2 : Option Nat} {l3 : Int32} {l4 : Int32} {h : gx_H} {r : gx_H} (e : cR_readObject W l0 l1 l2 l3 l4 h = some r) : gv_V xs (D + 2) 113 0 [(0, gv_u l0), (1, gv_u l1), (2, gv_u l2), (3, .int l3), (4, .int l4)] [] h (.returned none) r := by
  unfold cR_readObject at e
  refine gv_rldn (pc' := 1) rfl rfl rfl ?_
  obtain ⟨v1, qv1, e⟩ := gv_bind e
  refine gv_fI (pc' := 4) rfl rfl qv1 rfl ?_
  refine gv_ist (pc' := 6) rfl rfl (gv_Ci rfl) rfl ?_
  refine gv_rldn (pc' := 7) rfl rfl rfl ?_
  refine gv_rldn (pc' := 8) rfl rfl rfl ?_
  refine gv_ildn (pc' := 9) rfl rfl rfl ?_
  obtain ⟨i2, qi2, e⟩ := gv_bind e
  obtain ⟨⟨v3, h4⟩, qv3, e⟩ := gv_bind e
  refine gv_vS (jc := 101) (n := 2) (rest := []) (stk := [gv_u v3]) (pc' := 12) rfl rfl rfl rfl rfl rfl rfl rfl rfl (gv_zR (gv_zR (gv_zI gv_z0))) rfl (gv_aR (gv_aR (gv_aI gv_a0))) (by omega) qi2 (cR_beginThing_ok qv3) rfl rfl ?_
  refine gv_rst (pc' := 14) rfl rfl (gv_Ci rfl) rfl ?_
  refine gv_rld (pc' := 16) rfl rfl rfl ?_
  by_cases c6 : v3 = none
  · rw [if_pos c6] at e
    refine gv_nnF (pc' := 19) rfl c6 rfl ?_
    cases e
    exact gv_retV rfl rfl
  rw [if_neg c6] at e
  refine gv_nnT (pc' := 20) rfl c6 rfl ?_
  refine gv_ildn (pc' := 21) rfl rfl rfl ?_
  by_cases c7 : l3 = (0 : Int32)
  · rw [if_pos c7] at e
    refine gv_sw (pc' := 56) (off := 35) rfl (by rw [c7]; rfl) rfl ?_
    refine gv_rldn (pc' := 57) rfl rfl rfl ?_
    refine gv_rldn (pc' := 58) rfl rfl rfl ?_
    refine gv_rldn (pc' := 59) rfl rfl rfl ?_
    refine gv_rld (pc' := 61) rfl rfl rfl ?_
    refine gv_ild (pc' := 63) rfl rfl rfl ?_
    obtain ⟨i8, qi8, e⟩ := gv_bind e
    obtain ⟨h10, qv9, e⟩ := gv_bind e
    refine gv_vS (jc := 114) (n := 4) (rest := []) (stk := []) (pc' := 66) rfl rfl rfl rfl rfl rfl rfl rfl rfl (gv_zR (gv_zR (gv_zR (gv_zR (gv_zI gv_z0))))) rfl (gv_aR (gv_aR (gv_aR (gv_aR (gv_aI gv_a0))))) (by omega) qi8 (cR_readRecord_ok hD hW qv9) rfl rfl ?_
    refine gv_goto (pc' := 128) rfl rfl ?_
    exact gv_weak (cR_readObject_128_ok hD hW e) (gv_S1 rfl (gv_S1 rfl gv_S0))
  rw [if_neg c7] at e
  by_cases c11 : l3 = (1 : Int32)
  · rw [if_pos c11] at e
    refine gv_sw (pc' := 69) (off := 48) rfl (by rw [c11]; rfl) rfl ?_
    refine gv_rldn (pc' := 70) rfl rfl rfl ?_
    refine gv_rldn (pc' := 71) rfl rfl rfl ?_
    refine gv_rldn (pc' := 72) rfl rfl rfl ?_
    refine gv_rld (pc' := 74) rfl rfl rfl ?_
    refine gv_ild (pc' := 76) rfl rfl rfl ?_
    obtain ⟨i12, qi12, e⟩ := gv_bind e
    obtain ⟨h14, qv13, e⟩ := gv_bind e
    refine gv_vS (jc := 115) (n := 4) (rest := []) (stk := []) (pc' := 79) rfl rfl rfl rfl rfl rfl rfl rfl rfl (gv_zR (gv_zR (gv_zR (gv_zR (gv_zI gv_z0))))) rfl (gv_aR (gv_aR (gv_aR (gv_aR (gv_aI gv_a0))))) (by omega) qi12 (cR_readList_ok hD hW qv13) rfl rfl ?_
    refine gv_goto (pc' := 128) rfl rfl ?_
    exact gv_weak (cR_readObject_128_ok hD hW e) (gv_S1 rfl (gv_S1 rfl gv_S0))
  rw [if_neg c11] at e
  by_cases c15 : l3 = (2 : Int32)
  · rw [if_pos c15] at e
    refine gv_sw (pc' := 82) (off := 61) rfl (by rw [c15]; rfl) rfl ?_
    refine gv_rldn (pc' := 83) rfl rfl rfl ?_
    refine gv_rldn (pc' := 84) rfl rfl rfl ?_
    refine gv_rldn (pc' := 85) rfl rfl rfl ?_
    refine gv_rld (pc' := 87) rfl rfl rfl ?_
    refine gv_ild (pc' := 89) rfl rfl rfl ?_
    obtain ⟨i16, qi16, e⟩ := gv_bind e
    obtain ⟨h18, qv17, e⟩ := gv_bind e
    refine gv_vS (jc := 116) (n := 4) (rest := []) (stk := []) (pc' := 92) rfl rfl rfl rfl rfl rfl rfl rfl rfl (gv_zR (gv_zR (gv_zR (gv_zR (gv_zI gv_z0))))) rfl (gv_aR (gv_aR (gv_aR (gv_aR (gv_aI gv_a0))))) (by omega) qi16 (cR_readMap_ok hD hW qv17) rfl rfl ?_
    refine gv_goto (pc' := 128) rfl rfl ?_
    exact gv_weak (cR_readObject_128_ok hD hW e) (gv_S1 rfl (gv_S1 rfl gv_S0))
  rw [if_neg c15] at e
  by_cases c19 : l3 = (3 : Int32)
  · rw [if_pos c19] at e
    refine gv_sw (pc' := 95) (off := 74) rfl (by rw [c19]; rfl) rfl ?_
    refine gv_rldn (pc' := 96) rfl rfl rfl ?_
    refine gv_rldn (pc' := 97) rfl rfl rfl ?_
    refine gv_rldn (pc' := 98) rfl rfl rfl ?_
    refine gv_rld (pc' := 100) rfl rfl rfl ?_
    refine gv_ild (pc' := 102) rfl rfl rfl ?_
    obtain ⟨i20, qi20, e⟩ := gv_bind e
    obtain ⟨h22, qv21, e⟩ := gv_bind e
    refine gv_vS (jc := 117) (n := 4) (rest := []) (stk := []) (pc' := 105) rfl rfl rfl rfl rfl rfl rfl rfl rfl (gv_zR (gv_zR (gv_zR (gv_zR (gv_zI gv_z0))))) rfl (gv_aR (gv_aR (gv_aR (gv_aR (gv_aI gv_a0))))) (by omega) qi20 (cR_readSet_ok hD hW qv21) rfl rfl ?_
    refine gv_goto (pc' := 128) rfl rfl ?_
    exact gv_weak (cR_readObject_128_ok hD hW e) (gv_S1 rfl (gv_S1 rfl gv_S0))
  rw [if_neg c19] at e
  by_cases c23 : l3 = (4 : Int32)
  · rw [if_pos c23] at e
    refine gv_sw (pc' := 108) (off := 87) rfl (by rw [c23]; rfl) rfl ?_
    refine gv_rldn (pc' := 109) rfl rfl rfl ?_
    refine gv_rldn (pc' := 110) rfl rfl rfl ?_
    refine gv_rld (pc' := 112) rfl rfl rfl ?_
    obtain ⟨i24, qi24, e⟩ := gv_bind e
    obtain ⟨h26, qv25, e⟩ := gv_bind e
    refine gv_vS (jc := 118) (n := 2) (rest := []) (stk := []) (pc' := 115) rfl rfl rfl rfl rfl rfl rfl rfl rfl (gv_zR (gv_zR (gv_zR gv_z0))) rfl (gv_aR (gv_aR (gv_aR gv_a0))) (by omega) qi24 (cR_readBuffer_ok qv25) rfl rfl ?_
    refine gv_goto (pc' := 128) rfl rfl ?_
    exact gv_weak (cR_readObject_128_ok hD hW e) (gv_S1 rfl (gv_S1 rfl gv_S0))
  rw [if_neg c23] at e
  refine gv_sw (pc' := 118) (off := 97) rfl (gv_tabd (gv_N1 c7 (gv_N1 c11 (gv_N1 c15 (gv_N1 c19 (gv_N1 c23 gv_N0))))) (by decide)) rfl ?_
  refine gv_rld (pc' := 120) rfl rfl rfl ?_
  refine gv_rldn (pc' := 121) rfl rfl rfl ?_
  refine gv_rldn (pc' := 122) rfl rfl rfl ?_
  obtain ⟨i27, qi27, e⟩ := gv_bind e
  obtain ⟨⟨v28, h29⟩, qv28, e⟩ := gv_bind e
  refine gv_vS (jc := 106) (n := 1) (rest := [gv_u v3]) (stk := [.long v28, gv_u v3]) (pc' := 125) rfl rfl rfl rfl rfl rfl rfl rfl rfl (gv_zR (gv_zR gv_z0)) rfl (gv_aR (gv_aR gv_a0)) (by omega) qi27 (cR_nextZigzag_ok qv28) rfl rfl ?_
  obtain ⟨h31, qh31, e⟩ := gv_bind e
  refine gv_pJ (pc' := 128) rfl rfl rfl qh31 rfl ?_
  exact gv_weak (cR_readObject_128_ok hD hW e) (gv_S1 rfl (gv_S1 rfl gv_S0))
def cR_readValue_11 (W : Option Nat → Option Nat → Option Nat → Int32 → gx_H → Option gx_H) (l0 : Option Nat) (l1 : Option Nat) (l2 : Option Nat) (l3 : Int32) (h : gx_H) : Option gx_H :=
  (gv_is h l0 6).bind fun i1 =>
  (cR_nextUpTo l0 l2 (14 : Int32) h).bind fun r4 =>
  (gv_gI r4.2 l0 6 1).bind fun v5 =>
  if v5 = 0 then (
    if r4.1 = (4 : Int32) then (
      (gv_is r4.2 l0 6).bind fun i8 =>
      (cR_nextInt l0 l2 r4.2).bind fun r11 =>
      (gv_is r11.2 l0 6).bind fun i12 =>
      (cR_settle l0 (4 : Int32) r11.1 r11.2).bind fun h14 =>
      some h14) else
    if r4.1 = (5 : Int32) then (
      (gv_is r4.2 l0 6).bind fun i16 =>
      (cR_readText l0 l2 r4.2).bind fun h18 =>
      some h18) else
    if r4.1 = (6 : Int32) then (
      (gv_gI r4.2 l0 6 6).bind fun v20 =>
      (gv_gI r4.2 l1 1 1).bind fun v21 =>
      (gv_gI r4.2 l0 6 6).bind fun v22 =>
      (gv_is r4.2 l0 6).bind fun i23 =>
      (cR_readPlace l0 l2 v20 (v21 - v22) r4.2).bind fun h25 =>
      some h25) else
    if r4.1 = (7 : Int32) then (
      (gv_gI r4.2 l0 6 4).bind fun v27 =>
      (gv_gI r4.2 l0 6 5).bind fun v28 =>
      (gv_is r4.2 l0 6).bind fun i29 =>
      (cR_readPlace l0 l2 v27 v28 r4.2).bind fun h31 =>
      some h31) else
    if r4.1 = (13 : Int32) then (
      (gv_is r4.2 l0 6).bind fun i33 =>
      (cR_readView W l0 l1 l2 l3 r4.2).bind fun h35 =>
      some h35) else
    if (3 : Int32) < r4.1 then (
      (gv_is r4.2 l0 6).bind fun i37 =>
      (cR_readObject W l0 l1 l2 (r4.1 - (8 : Int32)) l3 r4.2).bind fun h39 =>
      some h39) else
    (gv_is r4.2 l0 6).bind fun i40 =>
    (cR_settle l0 r4.1 (0 : Int32) r4.2).bind fun h42 =>
    some h42) else
  some r4.2
theorem cR_readValue_11_ok {xs : Option (List Int32)} {D : Nat} (hD : 12 ≤ D) {W : Option Nat → Option Nat → Option Nat → Int32 → gx_H → Option gx_H} (hW : ∀ (l0 : Option Nat) (l1 : Option Nat) (l2 : Option Nat) (l3 : Int32) (h : gx_H) (r : gx_H), W l0 l1 l2 l3 h = some r → gv_V xs D 103 0 [(0, gv_u l0), (1, gv_u l1), (2, gv_u l2), (3, .int l3)] [] h (.returned none) r) {l0 : Option Nat} {l1 : Option Nat} {l2 : Option Nat} {l3 : Int32} {h : gx_H} {r : gx_H} (e : cR_readValue_11 W l0 l1 l2 l3 h = some r) : gv_V xs (D + 3) 103 11 [(0, gv_u l0), (1, gv_u l1), (2, gv_u l2), (3, .int l3)] [] h (.returned none) r := by
  unfold cR_readValue_11 at e
  refine gv_rldn (pc' := 12) rfl rfl rfl ?_
  refine gv_rldn (pc' := 13) rfl rfl rfl ?_
  refine gv_bp (pc' := 15) (x := 14) rfl rfl rfl ?_
  obtain ⟨i1, qi1, e⟩ := gv_bind e
  obtain ⟨⟨v2, h3⟩, qv2, e⟩ := gv_bind e
  refine gv_vS (jc := 104) (n := 2) (rest := []) (stk := [.int v2]) (pc' := 18) rfl rfl rfl rfl rfl rfl rfl rfl rfl (gv_zR (gv_zR (gv_zI gv_z0))) rfl (gv_aR (gv_aR (gv_aI gv_a0))) (by omega) qi1 (cR_nextUpTo_ok qv2) rfl rfl ?_
  refine gv_ist (pc' := 20) rfl rfl (gv_Ci rfl) rfl ?_
  refine gv_rldn (pc' := 21) rfl rfl rfl ?_
  obtain ⟨v5, qv5, e⟩ := gv_bind e
  refine gv_fI (pc' := 24) rfl rfl qv5 rfl ?_
  by_cases c6 : v5 = 0
  · rw [if_pos c6] at e
    refine gv_ifT (pc' := 28) rfl (gv_eqT c6) rfl ?_
    refine gv_ild (pc' := 30) rfl rfl rfl ?_
    by_cases c7 : v2 = (4 : Int32)
    · rw [if_pos c7] at e
      refine gv_sw (pc' := 84) (off := 54) rfl (by rw [c7]; rfl) rfl ?_
      refine gv_rldn (pc' := 85) rfl rfl rfl ?_
      refine gv_ic (pc' := 86) (x := 4) rfl rfl rfl ?_
      refine gv_rldn (pc' := 87) rfl rfl rfl ?_
      refine gv_rldn (pc' := 88) rfl rfl rfl ?_
      obtain ⟨i8, qi8, e⟩ := gv_bind e
      obtain ⟨⟨v9, h10⟩, qv9, e⟩ := gv_bind e
      refine gv_vS (jc := 105) (n := 1) (rest := [.int (4 : Int32), gv_u l0]) (stk := [.int v9, .int (4 : Int32), gv_u l0]) (pc' := 91) rfl rfl rfl rfl rfl rfl rfl rfl rfl (gv_zR (gv_zR gv_z0)) rfl (gv_aR (gv_aR gv_a0)) (by omega) qi8 (cR_nextInt_ok qv9) rfl rfl ?_
      obtain ⟨i12, qi12, e⟩ := gv_bind e
      obtain ⟨h14, qv13, e⟩ := gv_bind e
      refine gv_vS (jc := 108) (n := 2) (rest := []) (stk := []) (pc' := 94) rfl rfl rfl rfl rfl rfl rfl rfl rfl (gv_zR (gv_zI (gv_zI gv_z0))) rfl (gv_aR (gv_aI (gv_aI gv_a0))) (by omega) qi12 (cR_settle_ok qv13) rfl rfl ?_
      refine gv_goto (pc' := 180) rfl rfl ?_
      cases e
      exact gv_retV rfl rfl
    rw [if_neg c7] at e
    by_cases c15 : v2 = (5 : Int32)
    · rw [if_pos c15] at e
      refine gv_sw (pc' := 97) (off := 67) rfl (by rw [c15]; rfl) rfl ?_
      refine gv_rldn (pc' := 98) rfl rfl rfl ?_
      refine gv_rldn (pc' := 99) rfl rfl rfl ?_
      obtain ⟨i16, qi16, e⟩ := gv_bind e
      obtain ⟨h18, qv17, e⟩ := gv_bind e
      refine gv_vS (jc := 109) (n := 1) (rest := []) (stk := []) (pc' := 102) rfl rfl rfl rfl rfl rfl rfl rfl rfl (gv_zR (gv_zR gv_z0)) rfl (gv_aR (gv_aR gv_a0)) (by omega) qi16 (cR_readText_ok qv17) rfl rfl ?_
      refine gv_goto (pc' := 180) rfl rfl ?_
      cases e
      exact gv_retV rfl rfl
    rw [if_neg c15] at e
    by_cases c19 : v2 = (6 : Int32)
    · rw [if_pos c19] at e
      refine gv_sw (pc' := 105) (off := 75) rfl (by rw [c19]; rfl) rfl ?_
      refine gv_rldn (pc' := 106) rfl rfl rfl ?_
      refine gv_rldn (pc' := 107) rfl rfl rfl ?_
      refine gv_rldn (pc' := 108) rfl rfl rfl ?_
      obtain ⟨v20, qv20, e⟩ := gv_bind e
      refine gv_fI (pc' := 111) rfl rfl qv20 rfl ?_
      refine gv_rldn (pc' := 112) rfl rfl rfl ?_
      obtain ⟨v21, qv21, e⟩ := gv_bind e
      refine gv_fI (pc' := 115) rfl rfl qv21 rfl ?_
      refine gv_rldn (pc' := 116) rfl rfl rfl ?_
      obtain ⟨v22, qv22, e⟩ := gv_bind e
      refine gv_fI (pc' := 119) rfl rfl qv22 rfl ?_
      refine gv_isub (pc' := 120) rfl rfl ?_
      obtain ⟨i23, qi23, e⟩ := gv_bind e
      obtain ⟨h25, qv24, e⟩ := gv_bind e
      refine gv_vS (jc := 111) (n := 3) (rest := []) (stk := []) (pc' := 123) rfl rfl rfl rfl rfl rfl rfl rfl rfl (gv_zR (gv_zR (gv_zI (gv_zI gv_z0)))) rfl (gv_aR (gv_aR (gv_aI (gv_aI gv_a0)))) (by omega) qi23 (cR_readPlace_ok qv24) rfl rfl ?_
      refine gv_goto (pc' := 180) rfl rfl ?_
      cases e
      exact gv_retV rfl rfl
    rw [if_neg c19] at e
    by_cases c26 : v2 = (7 : Int32)
    · rw [if_pos c26] at e
      refine gv_sw (pc' := 126) (off := 96) rfl (by rw [c26]; rfl) rfl ?_
      refine gv_rldn (pc' := 127) rfl rfl rfl ?_
      refine gv_rldn (pc' := 128) rfl rfl rfl ?_
      refine gv_rldn (pc' := 129) rfl rfl rfl ?_
      obtain ⟨v27, qv27, e⟩ := gv_bind e
      refine gv_fI (pc' := 132) rfl rfl qv27 rfl ?_
      refine gv_rldn (pc' := 133) rfl rfl rfl ?_
      obtain ⟨v28, qv28, e⟩ := gv_bind e
      refine gv_fI (pc' := 136) rfl rfl qv28 rfl ?_
      obtain ⟨i29, qi29, e⟩ := gv_bind e
      obtain ⟨h31, qv30, e⟩ := gv_bind e
      refine gv_vS (jc := 111) (n := 3) (rest := []) (stk := []) (pc' := 139) rfl rfl rfl rfl rfl rfl rfl rfl rfl (gv_zR (gv_zR (gv_zI (gv_zI gv_z0)))) rfl (gv_aR (gv_aR (gv_aI (gv_aI gv_a0)))) (by omega) qi29 (cR_readPlace_ok qv30) rfl rfl ?_
      refine gv_goto (pc' := 180) rfl rfl ?_
      cases e
      exact gv_retV rfl rfl
    rw [if_neg c26] at e
    by_cases c32 : v2 = (13 : Int32)
    · rw [if_pos c32] at e
      refine gv_sw (pc' := 142) (off := 112) rfl (by rw [c32]; rfl) rfl ?_
      refine gv_rldn (pc' := 143) rfl rfl rfl ?_
      refine gv_rldn (pc' := 144) rfl rfl rfl ?_
      refine gv_rldn (pc' := 145) rfl rfl rfl ?_
      refine gv_ildn (pc' := 146) rfl rfl rfl ?_
      obtain ⟨i33, qi33, e⟩ := gv_bind e
      obtain ⟨h35, qv34, e⟩ := gv_bind e
      refine gv_vS (jc := 112) (n := 3) (rest := []) (stk := []) (pc' := 149) rfl rfl rfl rfl rfl rfl rfl rfl rfl (gv_zR (gv_zR (gv_zR (gv_zI gv_z0)))) rfl (gv_aR (gv_aR (gv_aR (gv_aI gv_a0)))) (by omega) qi33 (cR_readView_ok hD hW qv34) rfl rfl ?_
      refine gv_goto (pc' := 180) rfl rfl ?_
      cases e
      exact gv_retV rfl rfl
    rw [if_neg c32] at e
    refine gv_sw (pc' := 152) (off := 122) rfl (gv_tabd (gv_N1 c7 (gv_N1 c15 (gv_N1 c19 (gv_N1 c26 (gv_N1 c32 gv_N0))))) (by decide)) rfl ?_
    refine gv_ild (pc' := 154) rfl rfl rfl ?_
    refine gv_ic (pc' := 155) (x := 3) rfl rfl rfl ?_
    by_cases c36 : (3 : Int32) < v2
    · rw [if_pos c36] at e
      refine gv_cmT (pc' := 168) rfl (gv_gtT2 c36) rfl ?_
      refine gv_rldn (pc' := 169) rfl rfl rfl ?_
      refine gv_rldn (pc' := 170) rfl rfl rfl ?_
      refine gv_rldn (pc' := 171) rfl rfl rfl ?_
      refine gv_ild (pc' := 173) rfl rfl rfl ?_
      refine gv_bp (pc' := 175) (x := 8) rfl rfl rfl ?_
      refine gv_isub (pc' := 176) rfl rfl ?_
      refine gv_ildn (pc' := 177) rfl rfl rfl ?_
      obtain ⟨i37, qi37, e⟩ := gv_bind e
      obtain ⟨h39, qv38, e⟩ := gv_bind e
      refine gv_vS (jc := 113) (n := 4) (rest := []) (stk := []) (pc' := 180) rfl rfl rfl rfl rfl rfl rfl rfl rfl (gv_zR (gv_zR (gv_zR (gv_zI (gv_zI gv_z0))))) rfl (gv_aR (gv_aR (gv_aR (gv_aI (gv_aI gv_a0))))) (by omega) qi37 (cR_readObject_ok hD hW qv38) rfl rfl ?_
      cases e
      exact gv_retV rfl rfl
    rw [if_neg c36] at e
    refine gv_cmF (pc' := 158) rfl (gv_gtF2 c36) rfl rfl ?_
    refine gv_rldn (pc' := 159) rfl rfl rfl ?_
    refine gv_ild (pc' := 161) rfl rfl rfl ?_
    refine gv_ic (pc' := 162) (x := 0) rfl rfl rfl ?_
    obtain ⟨i40, qi40, e⟩ := gv_bind e
    obtain ⟨h42, qv41, e⟩ := gv_bind e
    refine gv_vS (jc := 108) (n := 2) (rest := []) (stk := []) (pc' := 165) rfl rfl rfl rfl rfl rfl rfl rfl rfl (gv_zR (gv_zI (gv_zI gv_z0))) rfl (gv_aR (gv_aI (gv_aI gv_a0))) (by omega) qi40 (cR_settle_ok qv41) rfl rfl ?_
    refine gv_goto (pc' := 180) rfl rfl ?_
    cases e
    exact gv_retV rfl rfl
  rw [if_neg c6] at e
  refine gv_ifF (pc' := 27) rfl (gv_eqF c6) rfl rfl ?_
  cases e
  exact gv_retV rfl rfl
def cR_readValue : Nat → Option Nat → Option Nat → Option Nat → Int32 → gx_H → Option gx_H
  | 0, _, _, _, _, _ => none
  | n + 1, l0, l1, l2, l3, h =>
    if (12 : Int32) < l3 then (
      (gv_pV h l0 6 1 (.int (1 : Int32))).bind fun h2 =>
      cR_readValue_11 (cR_readValue n) l0 l1 l2 l3 h2) else
    cR_readValue_11 (cR_readValue n) l0 l1 l2 l3 h
theorem cR_readValue_ok {xs : Option (List Int32)} : ∀ (n : Nat) (l0 : Option Nat) (l1 : Option Nat) (l2 : Option Nat) (l3 : Int32) (h : gx_H) (r : gx_H), cR_readValue n l0 l1 l2 l3 h = some r → gv_V xs (12 + 3 * n) 103 0 [(0, gv_u l0), (1, gv_u l1), (2, gv_u l2), (3, .int l3)] [] h (.returned none) r := by
  intro n
  induction n with
  | zero => intro l0 l1 l2 l3 h r e; cases e
  | succ n hW =>
    intro l0 l1 l2 l3 h r e
    have hD : 12 ≤ 12 + 3 * n := by omega
    have hK : 12 + 3 * (n + 1) = 12 + 3 * n + 3 := by omega
    rw [hK]
    rw [cR_readValue] at e
    refine gv_ildn (pc' := 1) rfl rfl rfl ?_
    refine gv_bp (pc' := 3) (x := 12) rfl rfl rfl ?_
    by_cases c1 : (12 : Int32) < l3
    · rw [if_pos c1] at e
      refine gv_cmF (pc' := 6) rfl (gv_leF2 c1) rfl rfl ?_
      refine gv_rldn (pc' := 7) rfl rfl rfl ?_
      refine gv_ic (pc' := 8) (x := 1) rfl rfl rfl ?_
      obtain ⟨h2, qh2, e⟩ := gv_bind e
      refine gv_pZ (pc' := 11) rfl rfl rfl (by decide) qh2 rfl ?_
      exact gv_weak (cR_readValue_11_ok hD hW e) (gv_S1 rfl (gv_S1 rfl (gv_S1 rfl (gv_S1 rfl gv_S0))))
    rw [if_neg c1] at e
    refine gv_cmT (pc' := 11) rfl (gv_leT2 c1) rfl ?_
    exact gv_weak (cR_readValue_11_ok hD hW e) (gv_S1 rfl (gv_S1 rfl (gv_S1 rfl (gv_S1 rfl gv_S0))))
def cR_run_73 (l0 : Option Nat) (h : gx_H) : Option (Int32 × gx_H) :=
  (gv_gI h l0 6 1).bind fun v1 =>
  if v1 = 0 then (
    some ((1 : Int32), h)) else
  some ((0 : Int32), h)
theorem cR_run_73_ok {xs : Option (List Int32)} {l0 : Option Nat} {h : gx_H} {r : (Int32 × gx_H)} (e : cR_run_73 l0 h = some r) : gv_V xs 73 99 73 [(0, gv_u l0)] [] h (.returned (some (.int r.1))) r.2 := by
  unfold cR_run_73 at e
  refine gv_rldn (pc' := 74) rfl rfl rfl ?_
  obtain ⟨v1, qv1, e⟩ := gv_bind e
  refine gv_fI (pc' := 77) rfl rfl qv1 rfl ?_
  by_cases c2 : v1 = 0
  · rw [if_pos c2] at e
    refine gv_ifF (pc' := 80) rfl (gv_neF c2) rfl rfl ?_
    refine gv_ic (pc' := 81) (x := 1) rfl rfl rfl ?_
    refine gv_goto (pc' := 85) rfl rfl ?_
    cases e
    exact gv_retZ rfl rfl (by decide)
  rw [if_neg c2] at e
  refine gv_ifT (pc' := 84) rfl (gv_neT c2) rfl ?_
  refine gv_ic (pc' := 85) (x := 0) rfl rfl rfl ?_
  cases e
  exact gv_retZ rfl rfl (by decide)
def cR_run_60 (l0 : Option Nat) (l1 : Option Nat) (l4 : Int32) (h : gx_H) : Option (Int32 × gx_H) :=
  (gv_gI h l0 6 1).bind fun v1 =>
  if v1 = 0 then (
    cR_run_73 l0 h) else
  (gv_pV h l1 1 1 (.int l4)).bind fun h3 =>
  cR_run_73 l0 h3
theorem cR_run_60_ok {xs : Option (List Int32)} {l0 : Option Nat} {l1 : Option Nat} {l4 : Int32} {h : gx_H} {r : (Int32 × gx_H)} (e : cR_run_60 l0 l1 l4 h = some r) : gv_V xs 73 99 60 [(0, gv_u l0), (1, gv_u l1), (4, .int l4)] [] h (.returned (some (.int r.1))) r.2 := by
  unfold cR_run_60 at e
  refine gv_rldn (pc' := 61) rfl rfl rfl ?_
  obtain ⟨v1, qv1, e⟩ := gv_bind e
  refine gv_fI (pc' := 64) rfl rfl qv1 rfl ?_
  by_cases c2 : v1 = 0
  · rw [if_pos c2] at e
    refine gv_ifT (pc' := 73) rfl (gv_eqT c2) rfl ?_
    exact gv_weak (cR_run_73_ok e) (gv_S1 rfl gv_S0)
  rw [if_neg c2] at e
  refine gv_ifF (pc' := 67) rfl (gv_eqF c2) rfl rfl ?_
  refine gv_rldn (pc' := 68) rfl rfl rfl ?_
  refine gv_ild (pc' := 70) rfl rfl rfl ?_
  obtain ⟨h3, qh3, e⟩ := gv_bind e
  refine gv_pI (pc' := 73) rfl rfl rfl qh3 rfl ?_
  exact gv_weak (cR_run_73_ok e) (gv_S1 rfl gv_S0)
def cR_run_37 (l0 : Option Nat) (l1 : Option Nat) (l2 : Option Nat) (l4 : Int32) (h : gx_H) : Option (Int32 × gx_H) :=
  (gv_is h l0 6).bind fun i1 =>
  (cR_readValue 20 l0 l1 l2 (1 : Int32) h).bind fun h3 =>
  (gv_gI h3 l0 6 0).bind fun v4 =>
  (gv_gI h3 l2 3 1).bind fun v5 =>
  if v4 = v5 then (
    cR_run_60 l0 l1 l4 h3) else
  (gv_pV h3 l0 6 1 (.int (1 : Int32))).bind fun h7 =>
  cR_run_60 l0 l1 l4 h7
theorem cR_run_37_ok {xs : Option (List Int32)} {l0 : Option Nat} {l1 : Option Nat} {l2 : Option Nat} {l4 : Int32} {h : gx_H} {r : (Int32 × gx_H)} (e : cR_run_37 l0 l1 l2 l4 h = some r) : gv_V xs 73 99 37 [(0, gv_u l0), (1, gv_u l1), (2, gv_u l2), (4, .int l4)] [] h (.returned (some (.int r.1))) r.2 := by
  unfold cR_run_37 at e
  refine gv_rldn (pc' := 38) rfl rfl rfl ?_
  refine gv_rldn (pc' := 39) rfl rfl rfl ?_
  refine gv_rldn (pc' := 40) rfl rfl rfl ?_
  refine gv_ic (pc' := 41) (x := 1) rfl rfl rfl ?_
  obtain ⟨i1, qi1, e⟩ := gv_bind e
  obtain ⟨h3, qv2, e⟩ := gv_bind e
  refine gv_vS (jc := 103) (n := 3) (rest := []) (stk := []) (pc' := 44) rfl rfl rfl rfl rfl rfl rfl rfl rfl (gv_zR (gv_zR (gv_zR (gv_zI gv_z0)))) rfl (gv_aR (gv_aR (gv_aR (gv_aI gv_a0)))) (by omega) qi1 (cR_readValue_ok 20 _ _ _ _ _ _ qv2) rfl rfl ?_
  refine gv_rldn (pc' := 45) rfl rfl rfl ?_
  obtain ⟨v4, qv4, e⟩ := gv_bind e
  refine gv_fI (pc' := 48) rfl rfl qv4 rfl ?_
  refine gv_rldn (pc' := 49) rfl rfl rfl ?_
  obtain ⟨v5, qv5, e⟩ := gv_bind e
  refine gv_fI (pc' := 52) rfl rfl qv5 rfl ?_
  by_cases c6 : v4 = v5
  · rw [if_pos c6] at e
    refine gv_cmT (pc' := 60) rfl (gv_eqT2 c6) rfl ?_
    exact gv_weak (cR_run_60_ok e) (gv_S1 rfl (gv_S1 rfl (gv_S1 rfl gv_S0)))
  rw [if_neg c6] at e
  refine gv_cmF (pc' := 55) rfl (gv_eqF2 c6) rfl rfl ?_
  refine gv_rldn (pc' := 56) rfl rfl rfl ?_
  refine gv_ic (pc' := 57) (x := 1) rfl rfl rfl ?_
  obtain ⟨h7, qh7, e⟩ := gv_bind e
  refine gv_pZ (pc' := 60) rfl rfl rfl (by decide) qh7 rfl ?_
  exact gv_weak (cR_run_60_ok e) (gv_S1 rfl (gv_S1 rfl (gv_S1 rfl gv_S0)))
def cR_run (l0 : Option Nat) (l1 : Option Nat) (l2 : Option Nat) (l3 : Option Nat) (h : gx_H) : Option (Int32 × gx_H) :=
  (gv_gI h l1 1 1).bind fun v1 =>
  (gv_pV h l0 6 0 (.int (0 : Int32))).bind fun h2 =>
  (gv_pV h2 l0 6 1 (.int (0 : Int32))).bind fun h3 =>
  (gv_is h3 l0 6).bind fun i4 =>
  (cR_makeHanded l0 l1 l3 h3).bind fun h6 =>
  (gv_is h6 l0 6).bind fun i7 =>
  (cR_nextByte l0 l2 h6).bind fun r10 =>
  if r10.1 = (15 : Int32) then (
    cR_run_37 l0 l1 l2 v1 r10.2) else
  (gv_pV r10.2 l0 6 1 (.int (1 : Int32))).bind fun h12 =>
  cR_run_37 l0 l1 l2 v1 h12
theorem cR_run_ok {xs : Option (List Int32)} {l0 : Option Nat} {l1 : Option Nat} {l2 : Option Nat} {l3 : Option Nat} {h : gx_H} {r : (Int32 × gx_H)} (e : cR_run l0 l1 l2 l3 h = some r) : gv_V xs 73 99 0 [(0, gv_u l0), (1, gv_u l1), (2, gv_u l2), (3, gv_u l3)] [] h (.returned (some (.int r.1))) r.2 := by
  unfold cR_run at e
  refine gv_rldn (pc' := 1) rfl rfl rfl ?_
  obtain ⟨v1, qv1, e⟩ := gv_bind e
  refine gv_fI (pc' := 4) rfl rfl qv1 rfl ?_
  refine gv_ist (pc' := 6) rfl rfl (gv_Cr rfl) rfl ?_
  refine gv_rldn (pc' := 7) rfl rfl rfl ?_
  refine gv_ic (pc' := 8) (x := 0) rfl rfl rfl ?_
  obtain ⟨h2, qh2, e⟩ := gv_bind e
  refine gv_pI (pc' := 11) rfl rfl rfl qh2 rfl ?_
  refine gv_rldn (pc' := 12) rfl rfl rfl ?_
  refine gv_ic (pc' := 13) (x := 0) rfl rfl rfl ?_
  obtain ⟨h3, qh3, e⟩ := gv_bind e
  refine gv_pZ (pc' := 16) rfl rfl rfl (by decide) qh3 rfl ?_
  refine gv_rldn (pc' := 17) rfl rfl rfl ?_
  refine gv_rldn (pc' := 18) rfl rfl rfl ?_
  refine gv_rldn (pc' := 19) rfl rfl rfl ?_
  obtain ⟨i4, qi4, e⟩ := gv_bind e
  obtain ⟨h6, qv5, e⟩ := gv_bind e
  refine gv_vS (jc := 100) (n := 2) (rest := []) (stk := []) (pc' := 22) rfl rfl rfl rfl rfl rfl rfl rfl rfl (gv_zR (gv_zR (gv_zR gv_z0))) rfl (gv_aR (gv_aR (gv_aR gv_a0))) (Nat.le_of_ble_eq_true rfl) qi4 (cR_makeHanded_ok qv5) rfl rfl ?_
  refine gv_rldn (pc' := 23) rfl rfl rfl ?_
  refine gv_rldn (pc' := 24) rfl rfl rfl ?_
  obtain ⟨i7, qi7, e⟩ := gv_bind e
  obtain ⟨⟨v8, h9⟩, qv8, e⟩ := gv_bind e
  refine gv_vS (jc := 102) (n := 1) (rest := []) (stk := [.int v8]) (pc' := 27) rfl rfl rfl rfl rfl rfl rfl rfl rfl (gv_zR (gv_zR gv_z0)) rfl (gv_aR (gv_aR gv_a0)) (Nat.le_of_ble_eq_true rfl) qi7 (cR_nextByte_ok qv8) rfl rfl ?_
  refine gv_bp (pc' := 29) (x := 15) rfl rfl rfl ?_
  by_cases c11 : v8 = (15 : Int32)
  · rw [if_pos c11] at e
    refine gv_cmT (pc' := 37) rfl (gv_eqT2 c11) rfl ?_
    exact gv_weak (cR_run_37_ok e) (gv_S1 rfl (gv_S1 rfl (gv_S1 rfl (gv_S1 rfl gv_S0))))
  rw [if_neg c11] at e
  refine gv_cmF (pc' := 32) rfl (gv_eqF2 c11) rfl rfl ?_
  refine gv_rldn (pc' := 33) rfl rfl rfl ?_
  refine gv_ic (pc' := 34) (x := 1) rfl rfl rfl ?_
  obtain ⟨h12, qh12, e⟩ := gv_bind e
  refine gv_pZ (pc' := 37) rfl rfl rfl (by decide) qh12 rfl ?_
  exact gv_weak (cR_run_37_ok e) (gv_S1 rfl (gv_S1 rfl (gv_S1 rfl (gv_S1 rfl gv_S0))))
end
section
/-! by program: the methods as functions, and that the small machine does what they say -/
def cG_detach (l0 : Option Nat) (l1 : Int32) (h : gx_H) : Option (Int32 × gx_H) :=
  (gv_gR h l0 0 0).bind fun v1 =>
  (gv_is h v1 1).bind fun i2 =>
  (cS_detachBuffer v1 l1 h).bind fun r5 =>
  if ¬ (r5.1 = 0 ∨ r5.1 = 1) then none else
  some (r5.1, r5.2)
theorem cG_detach_ok {xs : Option (List Int32)} {l0 : Option Nat} {l1 : Int32} {h : gx_H} {r : (Int32 × gx_H)} (e : cG_detach l0 l1 h = some r) : gv_V xs 3 7 0 [(0, gv_u l0), (1, .int l1)] [] h (.returned (some (.int r.1))) r.2 := by
  unfold cG_detach at e
  refine gv_rldn (pc' := 1) rfl rfl rfl ?_
  obtain ⟨v1, qv1, e⟩ := gv_bind e
  refine gv_fR (pc' := 4) rfl rfl qv1 rfl ?_
  refine gv_ildn (pc' := 5) rfl rfl rfl ?_
  obtain ⟨i2, qi2, e⟩ := gv_bind e
  obtain ⟨⟨v3, h4⟩, qv3, e⟩ := gv_bind e
  refine gv_vS (jc := 8) (n := 1) (rest := []) (stk := [.int v3]) (pc' := 8) rfl rfl rfl rfl rfl rfl rfl rfl rfl (gv_zR (gv_zI gv_z0)) rfl (gv_aR (gv_aI gv_a0)) (Nat.le_of_ble_eq_true rfl) qi2 (cS_detachBuffer_ok qv3) rfl rfl ?_
  by_cases c6 : ¬ (v3 = 0 ∨ v3 = 1)
  · rw [if_pos c6] at e; cases e
  rw [if_neg c6] at e
  cases e
  exact gv_retZ rfl rfl (Decidable.of_not_not c6)
def cG_clear (l0 : Option Nat) (h : gx_H) : Option (Int32 × gx_H) :=
  (gv_gR h l0 0 0).bind fun v1 =>
  (gv_gI h v1 1 1).bind fun v2 =>
  (gv_gR h l0 0 0).bind fun v3 =>
  (gv_pV h v3 1 1 (.int (0 : Int32))).bind fun h4 =>
  (gv_gR h4 l0 0 2).bind fun v5 =>
  (gv_pV h4 v5 4 1 (.int (0 : Int32))).bind fun h6 =>
  (gv_gR h6 l0 0 2).bind fun v7 =>
  (gv_pV h6 v7 4 4 (.int (0 : Int32))).bind fun h8 =>
  some (v2, h8)
theorem cG_clear_ok {xs : Option (List Int32)} {l0 : Option Nat} {h : gx_H} {r : (Int32 × gx_H)} (e : cG_clear l0 h = some r) : gv_V xs 0 11 0 [(0, gv_u l0)] [] h (.returned (some (.int r.1))) r.2 := by
  unfold cG_clear at e
  refine gv_rldn (pc' := 1) rfl rfl rfl ?_
  obtain ⟨v1, qv1, e⟩ := gv_bind e
  refine gv_fR (pc' := 4) rfl rfl qv1 rfl ?_
  obtain ⟨v2, qv2, e⟩ := gv_bind e
  refine gv_fI (pc' := 7) rfl rfl qv2 rfl ?_
  refine gv_istn (pc' := 8) rfl rfl (gv_Cr rfl) rfl ?_
  refine gv_rldn (pc' := 9) rfl rfl rfl ?_
  obtain ⟨v3, qv3, e⟩ := gv_bind e
  refine gv_fR (pc' := 12) rfl rfl qv3 rfl ?_
  refine gv_ic (pc' := 13) (x := 0) rfl rfl rfl ?_
  obtain ⟨h4, qh4, e⟩ := gv_bind e
  refine gv_pI (pc' := 16) rfl rfl rfl qh4 rfl ?_
  refine gv_rldn (pc' := 17) rfl rfl rfl ?_
  obtain ⟨v5, qv5, e⟩ := gv_bind e
  refine gv_fR (pc' := 20) rfl rfl qv5 rfl ?_
  refine gv_ic (pc' := 21) (x := 0) rfl rfl rfl ?_
  obtain ⟨h6, qh6, e⟩ := gv_bind e
  refine gv_pI (pc' := 24) rfl rfl rfl qh6 rfl ?_
  refine gv_rldn (pc' := 25) rfl rfl rfl ?_
  obtain ⟨v7, qv7, e⟩ := gv_bind e
  refine gv_fR (pc' := 28) rfl rfl qv7 rfl ?_
  refine gv_ic (pc' := 29) (x := 0) rfl rfl rfl ?_
  obtain ⟨h8, qh8, e⟩ := gv_bind e
  refine gv_pI (pc' := 32) rfl rfl rfl qh8 rfl ?_
  refine gv_ildn (pc' := 33) rfl rfl rfl ?_
  cases e
  exact gv_retI rfl rfl
def cG_objects (l0 : Option Nat) (h : gx_H) : Option Int32 :=
  (gv_gR h l0 0 0).bind fun v1 =>
  (gv_gI h v1 1 1).bind fun v2 =>
  some v2
theorem cG_objects_ok {xs : Option (List Int32)} {l0 : Option Nat} {h : gx_H} {r : Int32} (e : cG_objects l0 h = some r) : gv_V xs 0 12 0 [(0, gv_u l0)] [] h (.returned (some (.int r))) h := by
  unfold cG_objects at e
  refine gv_rldn (pc' := 1) rfl rfl rfl ?_
  obtain ⟨v1, qv1, e⟩ := gv_bind e
  refine gv_fR (pc' := 4) rfl rfl qv1 rfl ?_
  obtain ⟨v2, qv2, e⟩ := gv_bind e
  refine gv_fI (pc' := 7) rfl rfl qv2 rfl ?_
  cases e
  exact gv_retI rfl rfl
def cG_type (l0 : Option Nat) (l1 : Int32) (h : gx_H) : Option Int32 :=
  (gv_gR h l0 0 0).bind fun v1 =>
  (gv_is h v1 1).bind fun i2 =>
  (cS_thingAt v1 l1 h).bind fun v3 =>
  if v3 = none then (
    some (-1 : Int32)) else
  (gv_gI h v3 2 4).bind fun v5 =>
  some v5
theorem cG_type_ok {xs : Option (List Int32)} {l0 : Option Nat} {l1 : Int32} {h : gx_H} {r : Int32} (e : cG_type l0 l1 h = some r) : gv_V xs 1 13 0 [(0, gv_u l0), (1, .int l1)] [] h (.returned (some (.int r))) h := by
  unfold cG_type at e
  refine gv_rldn (pc' := 1) rfl rfl rfl ?_
  obtain ⟨v1, qv1, e⟩ := gv_bind e
  refine gv_fR (pc' := 4) rfl rfl qv1 rfl ?_
  refine gv_ildn (pc' := 5) rfl rfl rfl ?_
  obtain ⟨i2, qi2, e⟩ := gv_bind e
  obtain ⟨v3, qv3, e⟩ := gv_bind e
  refine gv_vS (jc := 10) (n := 1) (rest := []) (stk := [gv_u v3]) (pc' := 8) rfl rfl rfl rfl rfl rfl rfl rfl rfl (gv_zR (gv_zI gv_z0)) rfl (gv_aR (gv_aI gv_a0)) (Nat.le_of_ble_eq_true rfl) qi2 (cS_thingAt_ok qv3) rfl rfl ?_
  refine gv_rstn (pc' := 9) rfl rfl (gv_Ci rfl) rfl ?_
  refine gv_rldn (pc' := 10) rfl rfl rfl ?_
  by_cases c4 : v3 = none
  · rw [if_pos c4] at e
    refine gv_nnF (pc' := 13) rfl c4 rfl ?_
    refine gv_ic (pc' := 14) (x := -1) rfl rfl rfl ?_
    refine gv_goto (pc' := 21) rfl rfl ?_
    cases e
    exact gv_retI rfl rfl
  rw [if_neg c4] at e
  refine gv_nnT (pc' := 17) rfl c4 rfl ?_
  refine gv_rldn (pc' := 18) rfl rfl rfl ?_
  obtain ⟨v5, qv5, e⟩ := gv_bind e
  refine gv_fI (pc' := 21) rfl rfl qv5 rfl ?_
  cases e
  exact gv_retI rfl rfl
def cG_size (l0 : Option Nat) (l1 : Int32) (h : gx_H) : Option Int32 :=
  (gv_gR h l0 0 0).bind fun v1 =>
  (gv_is h v1 1).bind fun i2 =>
  (cS_thingAt v1 l1 h).bind fun v3 =>
  if v3 = none then (
    some (-1 : Int32)) else
  (gv_gI h v3 2 4).bind fun v5 =>
  if v5 = (6 : Int32) then (
    some (-1 : Int32)) else
  (gv_gI h v3 2 4).bind fun v7 =>
  if v7 = (7 : Int32) then (
    some (-1 : Int32)) else
  (gv_gI h v3 2 6).bind fun v9 =>
  if v9 = 0 then (
    (gv_gI h v3 2 5).bind fun v11 =>
    some v11) else
  some (-1 : Int32)
theorem cG_size_ok {xs : Option (List Int32)} {l0 : Option Nat} {l1 : Int32} {h : gx_H} {r : Int32} (e : cG_size l0 l1 h = some r) : gv_V xs 1 14 0 [(0, gv_u l0), (1, .int l1)] [] h (.returned (some (.int r))) h := by
  unfold cG_size at e
  refine gv_rldn (pc' := 1) rfl rfl rfl ?_
  obtain ⟨v1, qv1, e⟩ := gv_bind e
  refine gv_fR (pc' := 4) rfl rfl qv1 rfl ?_
  refine gv_ildn (pc' := 5) rfl rfl rfl ?_
  obtain ⟨i2, qi2, e⟩ := gv_bind e
  obtain ⟨v3, qv3, e⟩ := gv_bind e
  refine gv_vS (jc := 10) (n := 1) (rest := []) (stk := [gv_u v3]) (pc' := 8) rfl rfl rfl rfl rfl rfl rfl rfl rfl (gv_zR (gv_zI gv_z0)) rfl (gv_aR (gv_aI gv_a0)) (Nat.le_of_ble_eq_true rfl) qi2 (cS_thingAt_ok qv3) rfl rfl ?_
  refine gv_rstn (pc' := 9) rfl rfl (gv_Ci rfl) rfl ?_
  refine gv_rldn (pc' := 10) rfl rfl rfl ?_
  by_cases c4 : v3 = none
  · rw [if_pos c4] at e
    refine gv_nuT (pc' := 38) rfl c4 rfl ?_
    refine gv_ic (pc' := 39) (x := -1) rfl rfl rfl ?_
    cases e
    exact gv_retI rfl rfl
  rw [if_neg c4] at e
  refine gv_nuF (pc' := 13) rfl c4 rfl ?_
  refine gv_rldn (pc' := 14) rfl rfl rfl ?_
  obtain ⟨v5, qv5, e⟩ := gv_bind e
  refine gv_fI (pc' := 17) rfl rfl qv5 rfl ?_
  refine gv_bp (pc' := 19) (x := 6) rfl rfl rfl ?_
  by_cases c6 : v5 = (6 : Int32)
  · rw [if_pos c6] at e
    refine gv_cmT (pc' := 38) rfl (gv_eqT2 c6) rfl ?_
    refine gv_ic (pc' := 39) (x := -1) rfl rfl rfl ?_
    cases e
    exact gv_retI rfl rfl
  rw [if_neg c6] at e
  refine gv_cmF (pc' := 22) rfl (gv_eqF2 c6) rfl rfl ?_
  refine gv_rldn (pc' := 23) rfl rfl rfl ?_
  obtain ⟨v7, qv7, e⟩ := gv_bind e
  refine gv_fI (pc' := 26) rfl rfl qv7 rfl ?_
  refine gv_bp (pc' := 28) (x := 7) rfl rfl rfl ?_
  by_cases c8 : v7 = (7 : Int32)
  · rw [if_pos c8] at e
    refine gv_cmT (pc' := 38) rfl (gv_eqT2 c8) rfl ?_
    refine gv_ic (pc' := 39) (x := -1) rfl rfl rfl ?_
    cases e
    exact gv_retI rfl rfl
  rw [if_neg c8] at e
  refine gv_cmF (pc' := 31) rfl (gv_eqF2 c8) rfl rfl ?_
  refine gv_rldn (pc' := 32) rfl rfl rfl ?_
  obtain ⟨v9, qv9, e⟩ := gv_bind e
  refine gv_fI (pc' := 35) rfl rfl qv9 rfl ?_
  by_cases c10 : v9 = 0
  · rw [if_pos c10] at e
    refine gv_ifT (pc' := 40) rfl (gv_eqT c10) rfl ?_
    refine gv_rldn (pc' := 41) rfl rfl rfl ?_
    obtain ⟨v11, qv11, e⟩ := gv_bind e
    refine gv_fI (pc' := 44) rfl rfl qv11 rfl ?_
    cases e
    exact gv_retI rfl rfl
  rw [if_neg c10] at e
  refine gv_ifF (pc' := 38) rfl (gv_eqF c10) rfl rfl ?_
  refine gv_ic (pc' := 39) (x := -1) rfl rfl rfl ?_
  cases e
  exact gv_retI rfl rfl
def cG_holders (l0 : Option Nat) (h : gx_H) : Option Int32 :=
  (gv_gR h l0 0 2).bind fun v1 =>
  (gv_gI h v1 4 4).bind fun v2 =>
  some v2
theorem cG_holders_ok {xs : Option (List Int32)} {l0 : Option Nat} {h : gx_H} {r : Int32} (e : cG_holders l0 h = some r) : gv_V xs 0 15 0 [(0, gv_u l0)] [] h (.returned (some (.int r))) h := by
  unfold cG_holders at e
  refine gv_rldn (pc' := 1) rfl rfl rfl ?_
  obtain ⟨v1, qv1, e⟩ := gv_bind e
  refine gv_fR (pc' := 4) rfl rfl qv1 rfl ?_
  obtain ⟨v2, qv2, e⟩ := gv_bind e
  refine gv_fI (pc' := 7) rfl rfl qv2 rfl ?_
  cases e
  exact gv_retI rfl rfl
def cG_found (l0 : Option Nat) (h : gx_H) : Option Int32 :=
  (gv_gI h l0 0 5).bind fun v1 =>
  some v1
theorem cG_found_ok {xs : Option (List Int32)} {l0 : Option Nat} {h : gx_H} {r : Int32} (e : cG_found l0 h = some r) : gv_V xs 0 16 0 [(0, gv_u l0)] [] h (.returned (some (.int r))) h := by
  unfold cG_found at e
  refine gv_rldn (pc' := 1) rfl rfl rfl ?_
  obtain ⟨v1, qv1, e⟩ := gv_bind e
  refine gv_fI (pc' := 4) rfl rfl qv1 rfl ?_
  cases e
  exact gv_retI rfl rfl
def cG_feed_31 : Nat → Option Nat → Int64 → Int32 → Int32 → gx_H → Option (Int32 × gx_H)
  | 0, _, _, _, _, _ => none
  | n + 1, l0, l1, l3, l4, h =>
    if l4 < l3 then (
      (gv_gR h l0 0 1).bind fun v2 =>
      (cG_byteOf l1 l4).bind fun v3 =>
      (gv_is h v2 3).bind fun i4 =>
      (cB_append v2 v3 h).bind fun r7 =>
      cG_feed_31 n l0 l1 l3 (l4 + 1) r7.2) else
    (gv_gR h l0 0 1).bind fun v8 =>
    (gv_gI h v8 3 1).bind fun v9 =>
    some (v9, h)
theorem cG_feed_31_ok {xs : Option (List Int32)} : ∀ (n : Nat) (l0 : Option Nat) (l1 : Int64) (l3 : Int32) (l4 : Int32) (h : gx_H) (r : (Int32 × gx_H)), cG_feed_31 n l0 l1 l3 l4 h = some r → gv_V xs 1 17 31 [(0, gv_u l0), (1, .long l1), (3, .int l3), (4, .int l4)] [] h (.returned (some (.int r.1))) r.2 := by
  intro n
  induction n with
  | zero => intro l0 l1 l3 l4 h r e; cases e
  | succ n ih =>
    intro l0 l1 l3 l4 h r e
    rw [cG_feed_31] at e
    refine gv_ild (pc' := 33) rfl rfl rfl ?_
    refine gv_ildn (pc' := 34) rfl rfl rfl ?_
    by_cases c1 : l4 < l3
    · rw [if_pos c1] at e
      refine gv_cmF (pc' := 37) rfl (gv_geF2 c1) rfl rfl ?_
      refine gv_rldn (pc' := 38) rfl rfl rfl ?_
      obtain ⟨v2, qv2, e⟩ := gv_bind e
      refine gv_fR (pc' := 41) rfl rfl qv2 rfl ?_
      refine gv_jldn (pc' := 42) rfl rfl rfl ?_
      refine gv_ild (pc' := 44) rfl rfl rfl ?_
      obtain ⟨v3, qv3, e⟩ := gv_bind e
      refine gv_sS (jc := 18) (n := 2) (rest := [gv_u v2]) (stk := [.int v3, gv_u v2]) (pc' := 47) rfl rfl rfl rfl rfl rfl rfl rfl rfl (gv_zJ (gv_zI gv_z0)) rfl (gv_aJ (gv_aI gv_a0)) (Nat.le_of_ble_eq_true rfl) (cG_byteOf_ok qv3) rfl rfl ?_
      obtain ⟨i4, qi4, e⟩ := gv_bind e
      obtain ⟨⟨v5, h6⟩, qv5, e⟩ := gv_bind e
      refine gv_vS (jc := 19) (n := 1) (rest := []) (stk := [.int v5]) (pc' := 50) rfl rfl rfl rfl rfl rfl rfl rfl rfl (gv_zR (gv_zI gv_z0)) rfl (gv_aR (gv_aI gv_a0)) (Nat.le_of_ble_eq_true rfl) qi4 (cB_append_ok qv5) rfl rfl ?_
      refine gv_pop (pc' := 51) rfl rfl rfl ?_
      refine gv_inc (pc' := 54) (y := 1) rfl rfl rfl rfl (gv_Ci rfl) rfl ?_
      refine gv_goto (pc' := 31) rfl rfl ?_
      exact gv_weak (ih _ _ _ _ _ _ e) (gv_S1 rfl (gv_S1 rfl (gv_S1 rfl (gv_S1 rfl gv_S0))))
    rw [if_neg c1] at e
    refine gv_cmT (pc' := 57) rfl (gv_geT2 c1) rfl ?_
    refine gv_rldn (pc' := 58) rfl rfl rfl ?_
    obtain ⟨v8, qv8, e⟩ := gv_bind e
    refine gv_fR (pc' := 61) rfl rfl qv8 rfl ?_
    obtain ⟨v9, qv9, e⟩ := gv_bind e
    refine gv_fI (pc' := 64) rfl rfl qv9 rfl ?_
    cases e
    exact gv_retI rfl rfl
def cG_feed (l0 : Option Nat) (l1 : Int64) (l3 : Int32) (h : gx_H) : Option (Int32 × gx_H) :=
  if l3 < (1 : Int32) then (
    some ((-1 : Int32), h)) else
  if (8 : Int32) < l3 then (
    some ((-1 : Int32), h)) else
  (gv_gR h l0 0 1).bind fun v3 =>
  (gv_gI h v3 3 1).bind fun v4 =>
  if (300 : Int32) < (v4 + l3) then (
    some ((-1 : Int32), h)) else
  cG_feed_31 1000000000000000 l0 l1 l3 (0 : Int32) h
theorem cG_feed_ok {xs : Option (List Int32)} {l0 : Option Nat} {l1 : Int64} {l3 : Int32} {h : gx_H} {r : (Int32 × gx_H)} (e : cG_feed l0 l1 l3 h = some r) : gv_V xs 1 17 0 [(0, gv_u l0), (1, .long l1), (3, .int l3)] [] h (.returned (some (.int r.1))) r.2 := by
  unfold cG_feed at e
  refine gv_ildn (pc' := 1) rfl rfl rfl ?_
  refine gv_ic (pc' := 2) (x := 1) rfl rfl rfl ?_
  by_cases c1 : l3 < (1 : Int32)
  · rw [if_pos c1] at e
    refine gv_cmT (pc' := 26) rfl (gv_ltT2 c1) rfl ?_
    refine gv_ic (pc' := 27) (x := -1) rfl rfl rfl ?_
    cases e
    exact gv_retI rfl rfl
  rw [if_neg c1] at e
  refine gv_cmF (pc' := 5) rfl (gv_ltF2 c1) rfl rfl ?_
  refine gv_ildn (pc' := 6) rfl rfl rfl ?_
  refine gv_bp (pc' := 8) (x := 8) rfl rfl rfl ?_
  by_cases c2 : (8 : Int32) < l3
  · rw [if_pos c2] at e
    refine gv_cmT (pc' := 26) rfl (gv_gtT2 c2) rfl ?_
    refine gv_ic (pc' := 27) (x := -1) rfl rfl rfl ?_
    cases e
    exact gv_retI rfl rfl
  rw [if_neg c2] at e
  refine gv_cmF (pc' := 11) rfl (gv_gtF2 c2) rfl rfl ?_
  refine gv_rldn (pc' := 12) rfl rfl rfl ?_
  obtain ⟨v3, qv3, e⟩ := gv_bind e
  refine gv_fR (pc' := 15) rfl rfl qv3 rfl ?_
  obtain ⟨v4, qv4, e⟩ := gv_bind e
  refine gv_fI (pc' := 18) rfl rfl qv4 rfl ?_
  refine gv_ildn (pc' := 19) rfl rfl rfl ?_
  refine gv_iadd (pc' := 20) rfl rfl ?_
  refine gv_sp (pc' := 23) (x := 300) rfl rfl rfl ?_
  by_cases c5 : (300 : Int32) < (v4 + l3)
  · rw [if_pos c5] at e
    refine gv_cmF (pc' := 26) rfl (gv_leF2 c5) rfl rfl ?_
    refine gv_ic (pc' := 27) (x := -1) rfl rfl rfl ?_
    cases e
    exact gv_retI rfl rfl
  rw [if_neg c5] at e
  refine gv_cmT (pc' := 28) rfl (gv_leT2 c5) rfl ?_
  refine gv_ic (pc' := 29) (x := 0) rfl rfl rfl ?_
  refine gv_ist (pc' := 31) rfl rfl (gv_Ci rfl) rfl ?_
  exact gv_weak (cG_feed_31_ok 1000000000000000 _ _ _ _ _ _ e) (gv_S1 rfl (gv_S1 rfl (gv_S1 rfl (gv_S1 rfl gv_S0))))
def cG_wipe (l0 : Option Nat) (h : gx_H) : Option (Int32 × gx_H) :=
  (gv_gR h l0 0 1).bind fun v1 =>
  (gv_gI h v1 3 1).bind fun v2 =>
  (gv_gR h l0 0 1).bind fun v3 =>
  (gv_pV h v3 3 1 (.int (0 : Int32))).bind fun h4 =>
  some (v2, h4)
theorem cG_wipe_ok {xs : Option (List Int32)} {l0 : Option Nat} {h : gx_H} {r : (Int32 × gx_H)} (e : cG_wipe l0 h = some r) : gv_V xs 0 20 0 [(0, gv_u l0)] [] h (.returned (some (.int r.1))) r.2 := by
  unfold cG_wipe at e
  refine gv_rldn (pc' := 1) rfl rfl rfl ?_
  obtain ⟨v1, qv1, e⟩ := gv_bind e
  refine gv_fR (pc' := 4) rfl rfl qv1 rfl ?_
  obtain ⟨v2, qv2, e⟩ := gv_bind e
  refine gv_fI (pc' := 7) rfl rfl qv2 rfl ?_
  refine gv_istn (pc' := 8) rfl rfl (gv_Cr rfl) rfl ?_
  refine gv_rldn (pc' := 9) rfl rfl rfl ?_
  obtain ⟨v3, qv3, e⟩ := gv_bind e
  refine gv_fR (pc' := 12) rfl rfl qv3 rfl ?_
  refine gv_ic (pc' := 13) (x := 0) rfl rfl rfl ?_
  obtain ⟨h4, qh4, e⟩ := gv_bind e
  refine gv_pI (pc' := 16) rfl rfl rfl qh4 rfl ?_
  refine gv_ildn (pc' := 17) rfl rfl rfl ?_
  cases e
  exact gv_retI rfl rfl
def cG_spoil (l0 : Option Nat) (l1 : Int32) (l2 : Int32) (h : gx_H) : Option (Int32 × gx_H) :=
  if l1 < 0 then (
    some ((0 : Int32), h)) else
  (gv_gR h l0 0 1).bind fun v2 =>
  (gv_gI h v2 3 1).bind fun v3 =>
  if l1 < v3 then (
    (gv_gR h l0 0 1).bind fun v5 =>
    (gv_gR h v5 3 0).bind fun v6 =>
    (gv_wI h v6 l1 (l2 &&& (255 : Int32))).bind fun h7 =>
    some ((1 : Int32), h7)) else
  some ((0 : Int32), h)
theorem cG_spoil_ok {xs : Option (List Int32)} {l0 : Option Nat} {l1 : Int32} {l2 : Int32} {h : gx_H} {r : (Int32 × gx_H)} (e : cG_spoil l0 l1 l2 h = some r) : gv_V xs 0 21 0 [(0, gv_u l0), (1, .int l1), (2, .int l2)] [] h (.returned (some (.int r.1))) r.2 := by
  unfold cG_spoil at e
  refine gv_ildn (pc' := 1) rfl rfl rfl ?_
  by_cases c1 : l1 < 0
  · rw [if_pos c1] at e
    refine gv_ifT (pc' := 15) rfl (gv_ltT c1) rfl ?_
    refine gv_ic (pc' := 16) (x := 0) rfl rfl rfl ?_
    cases e
    exact gv_retZ rfl rfl (by decide)
  rw [if_neg c1] at e
  refine gv_ifF (pc' := 4) rfl (gv_ltF c1) rfl rfl ?_
  refine gv_ildn (pc' := 5) rfl rfl rfl ?_
  refine gv_rldn (pc' := 6) rfl rfl rfl ?_
  obtain ⟨v2, qv2, e⟩ := gv_bind e
  refine gv_fR (pc' := 9) rfl rfl qv2 rfl ?_
  obtain ⟨v3, qv3, e⟩ := gv_bind e
  refine gv_fI (pc' := 12) rfl rfl qv3 rfl ?_
  by_cases c4 : l1 < v3
  · rw [if_pos c4] at e
    refine gv_cmT (pc' := 17) rfl (gv_ltT2 c4) rfl ?_
    refine gv_rldn (pc' := 18) rfl rfl rfl ?_
    obtain ⟨v5, qv5, e⟩ := gv_bind e
    refine gv_fR (pc' := 21) rfl rfl qv5 rfl ?_
    obtain ⟨v6, qv6, e⟩ := gv_bind e
    refine gv_fR (pc' := 24) rfl rfl qv6 rfl ?_
    refine gv_ildn (pc' := 25) rfl rfl rfl ?_
    refine gv_ildn (pc' := 26) rfl rfl rfl ?_
    refine gv_sp (pc' := 29) (x := 255) rfl rfl rfl ?_
    refine gv_iand (pc' := 30) rfl rfl ?_
    obtain ⟨h7, qh7, e⟩ := gv_bind e
    refine gv_iast (pc' := 31) rfl qh7 rfl ?_
    refine gv_ic (pc' := 32) (x := 1) rfl rfl rfl ?_
    cases e
    exact gv_retZ rfl rfl (by decide)
  rw [if_neg c4] at e
  refine gv_cmF (pc' := 15) rfl (gv_ltF2 c4) rfl rfl ?_
  refine gv_ic (pc' := 16) (x := 0) rfl rfl rfl ?_
  cases e
  exact gv_retZ rfl rfl (by decide)
def cG_byteAt (l0 : Option Nat) (l1 : Int32) (h : gx_H) : Option Int32 :=
  if l1 < 0 then (
    some (-1 : Int32)) else
  (gv_gR h l0 0 1).bind fun v2 =>
  (gv_gI h v2 3 1).bind fun v3 =>
  if l1 < v3 then (
    (gv_gR h l0 0 1).bind fun v5 =>
    (gv_gR h v5 3 0).bind fun v6 =>
    (gv_lI h v6 l1).bind fun v7 =>
    some v7) else
  some (-1 : Int32)
theorem cG_byteAt_ok {xs : Option (List Int32)} {l0 : Option Nat} {l1 : Int32} {h : gx_H} {r : Int32} (e : cG_byteAt l0 l1 h = some r) : gv_V xs 0 22 0 [(0, gv_u l0), (1, .int l1)] [] h (.returned (some (.int r))) h := by
  unfold cG_byteAt at e
  refine gv_ildn (pc' := 1) rfl rfl rfl ?_
  by_cases c1 : l1 < 0
  · rw [if_pos c1] at e
    refine gv_ifT (pc' := 15) rfl (gv_ltT c1) rfl ?_
    refine gv_ic (pc' := 16) (x := -1) rfl rfl rfl ?_
    refine gv_goto (pc' := 28) rfl rfl ?_
    cases e
    exact gv_retI rfl rfl
  rw [if_neg c1] at e
  refine gv_ifF (pc' := 4) rfl (gv_ltF c1) rfl rfl ?_
  refine gv_ildn (pc' := 5) rfl rfl rfl ?_
  refine gv_rldn (pc' := 6) rfl rfl rfl ?_
  obtain ⟨v2, qv2, e⟩ := gv_bind e
  refine gv_fR (pc' := 9) rfl rfl qv2 rfl ?_
  obtain ⟨v3, qv3, e⟩ := gv_bind e
  refine gv_fI (pc' := 12) rfl rfl qv3 rfl ?_
  by_cases c4 : l1 < v3
  · rw [if_pos c4] at e
    refine gv_cmT (pc' := 19) rfl (gv_ltT2 c4) rfl ?_
    refine gv_rldn (pc' := 20) rfl rfl rfl ?_
    obtain ⟨v5, qv5, e⟩ := gv_bind e
    refine gv_fR (pc' := 23) rfl rfl qv5 rfl ?_
    obtain ⟨v6, qv6, e⟩ := gv_bind e
    refine gv_fR (pc' := 26) rfl rfl qv6 rfl ?_
    refine gv_ildn (pc' := 27) rfl rfl rfl ?_
    obtain ⟨v7, qv7, e⟩ := gv_bind e
    refine gv_iald (pc' := 28) rfl qv7 rfl ?_
    cases e
    exact gv_retI rfl rfl
  rw [if_neg c4] at e
  refine gv_cmF (pc' := 15) rfl (gv_ltF2 c4) rfl rfl ?_
  refine gv_ic (pc' := 16) (x := -1) rfl rfl rfl ?_
  refine gv_goto (pc' := 28) rfl rfl ?_
  cases e
  exact gv_retI rfl rfl
def cG_beginOrRefuse (l0 : Option Nat) (l1 : Int32) (h : gx_H) : Option (Outcome × gx_H) :=
  (gv_gR h l0 0 0).bind fun v1 =>
  (gv_is h v1 1).bind fun i2 =>
  (cS_begin v1 l1 h).bind fun r5 =>
  if r5.1 = (-1 : Int32) then (
    some (.threw r5.2.length, r5.2 ++ [(9, [])])) else
  some (.returned (some (.int r5.1)), r5.2)
theorem cG_beginOrRefuse_ok {xs : Option (List Int32)} {l0 : Option Nat} {l1 : Int32} {h : gx_H} {r : (Outcome × gx_H)} (e : cG_beginOrRefuse l0 l1 h = some r) : gv_V xs 2 25 0 [(0, gv_u l0), (1, .int l1)] [] h r.1 r.2 := by
  unfold cG_beginOrRefuse at e
  refine gv_rldn (pc' := 1) rfl rfl rfl ?_
  obtain ⟨v1, qv1, e⟩ := gv_bind e
  refine gv_fR (pc' := 4) rfl rfl qv1 rfl ?_
  refine gv_ildn (pc' := 5) rfl rfl rfl ?_
  obtain ⟨i2, qi2, e⟩ := gv_bind e
  obtain ⟨⟨v3, h4⟩, qv3, e⟩ := gv_bind e
  refine gv_vS (jc := 26) (n := 1) (rest := []) (stk := [.int v3]) (pc' := 8) rfl rfl rfl rfl rfl rfl rfl rfl rfl (gv_zR (gv_zI gv_z0)) rfl (gv_aR (gv_aI gv_a0)) (Nat.le_of_ble_eq_true rfl) qi2 (cS_begin_ok qv3) rfl rfl ?_
  refine gv_istn (pc' := 9) rfl rfl (gv_Ci rfl) rfl ?_
  refine gv_ildn (pc' := 10) rfl rfl rfl ?_
  refine gv_ic (pc' := 11) (x := -1) rfl rfl rfl ?_
  by_cases c6 : v3 = (-1 : Int32)
  · rw [if_pos c6] at e
    refine gv_cmF (pc' := 14) rfl (gv_neF2 c6) rfl rfl ?_
    cases e
    exact gv_thr rfl rfl rfl
  rw [if_neg c6] at e
  refine gv_cmT (pc' := 24) rfl (gv_neT2 c6) rfl ?_
  refine gv_ildn (pc' := 25) rfl rfl rfl ?_
  cases e
  exact gv_retI rfl rfl
def cG_make_25 (l0 : Option Nat) (l1 : Int32) (h : gx_H) : Option (Outcome × gx_H) :=
  (gv_is h l0 0).bind fun i1 =>
  (cG_beginOrRefuse l0 l1 h).bind fun r4 =>
  match r4.1 with
  | .returned (some (.int v2)) => (
    some (.returned (some (.int v2)), r4.2))
  | .threw x5 => some (.threw x5, r4.2)
  | _ => none
theorem cG_make_25_ok {xs : Option (List Int32)} {l0 : Option Nat} {l1 : Int32} {h : gx_H} {r : (Outcome × gx_H)} (e : cG_make_25 l0 l1 h = some r) : gv_V xs 3 24 25 [(0, gv_u l0), (1, .int l1)] [] h r.1 r.2 := by
  unfold cG_make_25 at e
  refine gv_rldn (pc' := 26) rfl rfl rfl ?_
  refine gv_ildn (pc' := 27) rfl rfl rfl ?_
  obtain ⟨i1, qi1, e⟩ := gv_bind e
  obtain ⟨⟨or4, h3⟩, qv2, e⟩ := gv_bind e
  cases or4 with
  | threw x5 =>
    cases e
    exact gv_vX (jc := 25) (n := 1) (rest := []) rfl rfl rfl rfl rfl rfl rfl rfl rfl (gv_zR (gv_zI gv_z0)) rfl (gv_aR (gv_aI gv_a0)) (Nat.le_of_ble_eq_true rfl) qi1 (cG_beginOrRefuse_ok qv2) rfl
  | returned zr4 =>
  cases zr4 with
  | none => cases e
  | some zz =>
  cases zz with
  | long _ => cases e
  | float _ => cases e
  | double _ => cases e
  | ref _ => cases e
  | null => cases e
  | retAddr _ => cases e
  | int v2 =>
    dsimp only at e
    refine gv_vS (jc := 25) (n := 1) (rest := []) (stk := [.int v2]) (pc' := 30) rfl rfl rfl rfl rfl rfl rfl rfl rfl (gv_zR (gv_zI gv_z0)) rfl (gv_aR (gv_aI gv_a0)) (Nat.le_of_ble_eq_true rfl) qi1 (cG_beginOrRefuse_ok qv2) rfl rfl ?_
    cases e
    exact gv_retI rfl rfl
def cG_make_9 (l0 : Option Nat) (l1 : Int32) (h : gx_H) : Option (Outcome × gx_H) :=
  if l1 = (7 : Int32) then (
    cG_make_25 l0 l1 h) else
  some (.threw h.length, h ++ [(8, [])])
theorem cG_make_9_ok {xs : Option (List Int32)} {l0 : Option Nat} {l1 : Int32} {h : gx_H} {r : (Outcome × gx_H)} (e : cG_make_9 l0 l1 h = some r) : gv_V xs 3 24 9 [(0, gv_u l0), (1, .int l1)] [] h r.1 r.2 := by
  unfold cG_make_9 at e
  refine gv_ildn (pc' := 10) rfl rfl rfl ?_
  refine gv_bp (pc' := 12) (x := 7) rfl rfl rfl ?_
  by_cases c1 : l1 = (7 : Int32)
  · rw [if_pos c1] at e
    refine gv_cmT (pc' := 25) rfl (gv_eqT2 c1) rfl ?_
    exact gv_weak (cG_make_25_ok e) (gv_S1 rfl (gv_S1 rfl gv_S0))
  rw [if_neg c1] at e
  refine gv_cmF (pc' := 15) rfl (gv_eqF2 c1) rfl rfl ?_
  cases e
  exact gv_thr rfl rfl rfl
def cG_make (l0 : Option Nat) (l1 : Int32) (h : gx_H) : Option (Outcome × gx_H) :=
  if l1 < 0 then (
    cG_make_9 l0 l1 h) else
  if (3 : Int32) < l1 then (
    cG_make_9 l0 l1 h) else
  cG_make_25 l0 l1 h
theorem cG_make_ok {xs : Option (List Int32)} {l0 : Option Nat} {l1 : Int32} {h : gx_H} {r : (Outcome × gx_H)} (e : cG_make l0 l1 h = some r) : gv_V xs 3 24 0 [(0, gv_u l0), (1, .int l1)] [] h r.1 r.2 := by
  unfold cG_make at e
  refine gv_ildn (pc' := 1) rfl rfl rfl ?_
  by_cases c1 : l1 < 0
  · rw [if_pos c1] at e
    refine gv_ifT (pc' := 9) rfl (gv_ltT c1) rfl ?_
    exact gv_weak (cG_make_9_ok e) (gv_S1 rfl (gv_S1 rfl gv_S0))
  rw [if_neg c1] at e
  refine gv_ifF (pc' := 4) rfl (gv_ltF c1) rfl rfl ?_
  refine gv_ildn (pc' := 5) rfl rfl rfl ?_
  refine gv_ic (pc' := 6) (x := 3) rfl rfl rfl ?_
  by_cases c2 : (3 : Int32) < l1
  · rw [if_pos c2] at e
    refine gv_cmF (pc' := 9) rfl (gv_leF2 c2) rfl rfl ?_
    exact gv_weak (cG_make_9_ok e) (gv_S1 rfl (gv_S1 rfl gv_S0))
  rw [if_neg c2] at e
  refine gv_cmT (pc' := 25) rfl (gv_leT2 c2) rfl ?_
  exact gv_weak (cG_make_25_ok e) (gv_S1 rfl (gv_S1 rfl gv_S0))
def cG_buffer_10  (h : gx_H) : Option (Outcome × gx_H) :=
  some (.threw h.length, h ++ [(8, [])])
theorem cG_buffer_10_ok {xs : Option (List Int32)}  {h : gx_H} {r : (Outcome × gx_H)} (e : cG_buffer_10 h = some r) : gv_V xs 3 29 10 [] [] h r.1 r.2 := by
  unfold cG_buffer_10 at e
  cases e
  exact gv_thr rfl rfl rfl
def cG_buffer (l0 : Option Nat) (l1 : Int64) (l3 : Int32) (h : gx_H) : Option (Outcome × gx_H) :=
  if l3 < 0 then (
    cG_buffer_10 h) else
  if (8 : Int32) < l3 then (
    cG_buffer_10 h) else
  (gv_is h l0 0).bind fun i3 =>
  (cG_beginOrRefuse l0 (4 : Int32) h).bind fun r6 =>
  match r6.1 with
  | .returned (some (.int v4)) => (
    (gv_gR r6.2 l0 0 0).bind fun v8 =>
    (gv_gR r6.2 v8 1 0).bind fun v9 =>
    (gv_lT r6.2 v9 v4).bind fun v10 =>
    (gv_is r6.2 v10 2).bind fun i11 =>
    (cT_holdBytes v10 l1 l3 r6.2).bind fun h13 =>
    some (.returned (some (.int v4)), h13))
  | .threw x7 => some (.threw x7, r6.2)
  | _ => none
theorem cG_buffer_ok {xs : Option (List Int32)} {l0 : Option Nat} {l1 : Int64} {l3 : Int32} {h : gx_H} {r : (Outcome × gx_H)} (e : cG_buffer l0 l1 l3 h = some r) : gv_V xs 3 29 0 [(0, gv_u l0), (1, .long l1), (3, .int l3)] [] h r.1 r.2 := by
  unfold cG_buffer at e
  refine gv_ildn (pc' := 1) rfl rfl rfl ?_
  by_cases c1 : l3 < 0
  · rw [if_pos c1] at e
    refine gv_ifT (pc' := 10) rfl (gv_ltT c1) rfl ?_
    exact gv_weak (cG_buffer_10_ok e) gv_S0
  rw [if_neg c1] at e
  refine gv_ifF (pc' := 4) rfl (gv_ltF c1) rfl rfl ?_
  refine gv_ildn (pc' := 5) rfl rfl rfl ?_
  refine gv_bp (pc' := 7) (x := 8) rfl rfl rfl ?_
  by_cases c2 : (8 : Int32) < l3
  · rw [if_pos c2] at e
    refine gv_cmF (pc' := 10) rfl (gv_leF2 c2) rfl rfl ?_
    exact gv_weak (cG_buffer_10_ok e) gv_S0
  rw [if_neg c2] at e
  refine gv_cmT (pc' := 20) rfl (gv_leT2 c2) rfl ?_
  refine gv_rldn (pc' := 21) rfl rfl rfl ?_
  refine gv_ic (pc' := 22) (x := 4) rfl rfl rfl ?_
  obtain ⟨i3, qi3, e⟩ := gv_bind e
  obtain ⟨⟨or6, h5⟩, qv4, e⟩ := gv_bind e
  cases or6 with
  | threw x7 =>
    cases e
    exact gv_vX (jc := 25) (n := 1) (rest := []) rfl rfl rfl rfl rfl rfl rfl rfl rfl (gv_zR (gv_zI gv_z0)) rfl (gv_aR (gv_aI gv_a0)) (Nat.le_of_ble_eq_true rfl) qi3 (cG_beginOrRefuse_ok qv4) rfl
  | returned zr6 =>
  cases zr6 with
  | none => cases e
  | some zz =>
  cases zz with
  | long _ => cases e
  | float _ => cases e
  | double _ => cases e
  | ref _ => cases e
  | null => cases e
  | retAddr _ => cases e
  | int v4 =>
    dsimp only at e
    refine gv_vS (jc := 25) (n := 1) (rest := []) (stk := [.int v4]) (pc' := 25) rfl rfl rfl rfl rfl rfl rfl rfl rfl (gv_zR (gv_zI gv_z0)) rfl (gv_aR (gv_aI gv_a0)) (Nat.le_of_ble_eq_true rfl) qi3 (cG_beginOrRefuse_ok qv4) rfl rfl ?_
    refine gv_ist (pc' := 27) rfl rfl (gv_Ci rfl) rfl ?_
    refine gv_rldn (pc' := 28) rfl rfl rfl ?_
    obtain ⟨v8, qv8, e⟩ := gv_bind e
    refine gv_fR (pc' := 31) rfl rfl qv8 rfl ?_
    obtain ⟨v9, qv9, e⟩ := gv_bind e
    refine gv_fR (pc' := 34) rfl rfl qv9 rfl ?_
    refine gv_ild (pc' := 36) rfl rfl rfl ?_
    obtain ⟨v10, qv10, e⟩ := gv_bind e
    refine gv_aaT (pc' := 37) rfl qv10 rfl ?_
    refine gv_jldn (pc' := 38) rfl rfl rfl ?_
    refine gv_ildn (pc' := 39) rfl rfl rfl ?_
    obtain ⟨i11, qi11, e⟩ := gv_bind e
    obtain ⟨h13, qv12, e⟩ := gv_bind e
    refine gv_vS (jc := 30) (n := 2) (rest := []) (stk := []) (pc' := 42) rfl rfl rfl rfl rfl rfl rfl rfl rfl (gv_zR (gv_zJ (gv_zI gv_z0))) rfl (gv_aR (gv_aJ (gv_aI gv_a0))) (Nat.le_of_ble_eq_true rfl) qi11 (cT_holdBytes_ok qv12) rfl rfl ?_
    refine gv_ild (pc' := 44) rfl rfl rfl ?_
    cases e
    exact gv_retI rfl rfl
def cG_view_27  (h : gx_H) : Option (Outcome × gx_H) :=
  some (.threw h.length, h ++ [(8, [])])
theorem cG_view_27_ok {xs : Option (List Int32)}  {h : gx_H} {r : (Outcome × gx_H)} (e : cG_view_27 h = some r) : gv_V xs 3 32 27 [] [] h r.1 r.2 := by
  unfold cG_view_27 at e
  cases e
  exact gv_thr rfl rfl rfl
def cG_view (l0 : Option Nat) (l1 : Int32) (l2 : Int32) (l3 : Int32) (l4 : Int32) (h : gx_H) : Option (Outcome × gx_H) :=
  (gv_gR h l0 0 0).bind fun v1 =>
  (gv_is h v1 1).bind fun i2 =>
  (cS_thingAt v1 l1 h).bind fun v3 =>
  if v3 = none then (
    cG_view_27 h) else
  (gv_is h v3 2).bind fun i5 =>
  (cT_canBeViewed v3 l2 l3 l4 h).bind fun v6 =>
  if v6 = 0 then (
    cG_view_27 h) else
  (gv_is h l0 0).bind fun i8 =>
  (cG_beginOrRefuse l0 (5 : Int32) h).bind fun r11 =>
  match r11.1 with
  | .returned (some (.int v9)) => (
    (gv_gR r11.2 l0 0 0).bind fun v13 =>
    (gv_gR r11.2 v13 1 0).bind fun v14 =>
    (gv_lT r11.2 v14 v9).bind fun v15 =>
    (gv_is r11.2 v15 2).bind fun i16 =>
    (cT_lookAt v15 l1 l2 l3 l4 r11.2).bind fun h18 =>
    some (.returned (some (.int v9)), h18))
  | .threw x12 => some (.threw x12, r11.2)
  | _ => none
theorem cG_view_ok {xs : Option (List Int32)} {l0 : Option Nat} {l1 : Int32} {l2 : Int32} {l3 : Int32} {l4 : Int32} {h : gx_H} {r : (Outcome × gx_H)} (e : cG_view l0 l1 l2 l3 l4 h = some r) : gv_V xs 3 32 0 [(0, gv_u l0), (1, .int l1), (2, .int l2), (3, .int l3), (4, .int l4)] [] h r.1 r.2 := by
  unfold cG_view at e
  refine gv_rldn (pc' := 1) rfl rfl rfl ?_
  obtain ⟨v1, qv1, e⟩ := gv_bind e
  refine gv_fR (pc' := 4) rfl rfl qv1 rfl ?_
  refine gv_ildn (pc' := 5) rfl rfl rfl ?_
  obtain ⟨i2, qi2, e⟩ := gv_bind e
  obtain ⟨v3, qv3, e⟩ := gv_bind e
  refine gv_vS (jc := 10) (n := 1) (rest := []) (stk := [gv_u v3]) (pc' := 8) rfl rfl rfl rfl rfl rfl rfl rfl rfl (gv_zR (gv_zI gv_z0)) rfl (gv_aR (gv_aI gv_a0)) (Nat.le_of_ble_eq_true rfl) qi2 (cS_thingAt_ok qv3) rfl rfl ?_
  refine gv_rst (pc' := 10) rfl rfl (gv_Ci rfl) rfl ?_
  refine gv_rld (pc' := 12) rfl rfl rfl ?_
  by_cases c4 : v3 = none
  · rw [if_pos c4] at e
    refine gv_nuT (pc' := 27) rfl c4 rfl ?_
    exact gv_weak (cG_view_27_ok e) gv_S0
  rw [if_neg c4] at e
  refine gv_nuF (pc' := 15) rfl c4 rfl ?_
  refine gv_rld (pc' := 17) rfl rfl rfl ?_
  refine gv_ildn (pc' := 18) rfl rfl rfl ?_
  refine gv_ildn (pc' := 19) rfl rfl rfl ?_
  refine gv_ild (pc' := 21) rfl rfl rfl ?_
  obtain ⟨i5, qi5, e⟩ := gv_bind e
  obtain ⟨v6, qv6, e⟩ := gv_bind e
  refine gv_vS (jc := 33) (n := 3) (rest := []) (stk := [.int v6]) (pc' := 24) rfl rfl rfl rfl rfl rfl rfl rfl rfl (gv_zR (gv_zI (gv_zI (gv_zI gv_z0)))) rfl (gv_aR (gv_aI (gv_aI (gv_aI gv_a0)))) (Nat.le_of_ble_eq_true rfl) qi5 (cT_canBeViewed_ok qv6) rfl rfl ?_
  by_cases c7 : v6 = 0
  · rw [if_pos c7] at e
    refine gv_ifF (pc' := 27) rfl (gv_neF c7) rfl rfl ?_
    exact gv_weak (cG_view_27_ok e) gv_S0
  rw [if_neg c7] at e
  refine gv_ifT (pc' := 37) rfl (gv_neT c7) rfl ?_
  refine gv_rldn (pc' := 38) rfl rfl rfl ?_
  refine gv_ic (pc' := 39) (x := 5) rfl rfl rfl ?_
  obtain ⟨i8, qi8, e⟩ := gv_bind e
  obtain ⟨⟨or11, h10⟩, qv9, e⟩ := gv_bind e
  cases or11 with
  | threw x12 =>
    cases e
    exact gv_vX (jc := 25) (n := 1) (rest := []) rfl rfl rfl rfl rfl rfl rfl rfl rfl (gv_zR (gv_zI gv_z0)) rfl (gv_aR (gv_aI gv_a0)) (Nat.le_of_ble_eq_true rfl) qi8 (cG_beginOrRefuse_ok qv9) rfl
  | returned zr11 =>
  cases zr11 with
  | none => cases e
  | some zz =>
  cases zz with
  | long _ => cases e
  | float _ => cases e
  | double _ => cases e
  | ref _ => cases e
  | null => cases e
  | retAddr _ => cases e
  | int v9 =>
    dsimp only at e
    refine gv_vS (jc := 25) (n := 1) (rest := []) (stk := [.int v9]) (pc' := 42) rfl rfl rfl rfl rfl rfl rfl rfl rfl (gv_zR (gv_zI gv_z0)) rfl (gv_aR (gv_aI gv_a0)) (Nat.le_of_ble_eq_true rfl) qi8 (cG_beginOrRefuse_ok qv9) rfl rfl ?_
    refine gv_ist (pc' := 44) rfl rfl (gv_Cr rfl) rfl ?_
    refine gv_rldn (pc' := 45) rfl rfl rfl ?_
    obtain ⟨v13, qv13, e⟩ := gv_bind e
    refine gv_fR (pc' := 48) rfl rfl qv13 rfl ?_
    obtain ⟨v14, qv14, e⟩ := gv_bind e
    refine gv_fR (pc' := 51) rfl rfl qv14 rfl ?_
    refine gv_ild (pc' := 53) rfl rfl rfl ?_
    obtain ⟨v15, qv15, e⟩ := gv_bind e
    refine gv_aaT (pc' := 54) rfl qv15 rfl ?_
    refine gv_ildn (pc' := 55) rfl rfl rfl ?_
    refine gv_ildn (pc' := 56) rfl rfl rfl ?_
    refine gv_ildn (pc' := 57) rfl rfl rfl ?_
    refine gv_ild (pc' := 59) rfl rfl rfl ?_
    obtain ⟨i16, qi16, e⟩ := gv_bind e
    obtain ⟨h18, qv17, e⟩ := gv_bind e
    refine gv_vS (jc := 34) (n := 4) (rest := []) (stk := []) (pc' := 62) rfl rfl rfl rfl rfl rfl rfl rfl rfl (gv_zR (gv_zI (gv_zI (gv_zI (gv_zI gv_z0))))) rfl (gv_aR (gv_aI (gv_aI (gv_aI (gv_aI gv_a0))))) (Nat.le_of_ble_eq_true rfl) qi16 (cT_lookAt_ok qv17) rfl rfl ?_
    refine gv_ild (pc' := 64) rfl rfl rfl ?_
    cases e
    exact gv_retI rfl rfl
def cG_stamp (l0 : Option Nat) (l1 : Int64) (h : gx_H) : Option (Outcome × gx_H) :=
  (gv_is h l0 0).bind fun i1 =>
  (cG_beginOrRefuse l0 (6 : Int32) h).bind fun r4 =>
  match r4.1 with
  | .returned (some (.int v2)) => (
    (gv_gR r4.2 l0 0 0).bind fun v6 =>
    (gv_gR r4.2 v6 1 0).bind fun v7 =>
    (gv_lT r4.2 v7 v2).bind fun v8 =>
    (gv_pV r4.2 v8 2 10 (.long l1)).bind fun h9 =>
    some (.returned (some (.int v2)), h9))
  | .threw x5 => some (.threw x5, r4.2)
  | _ => none
theorem cG_stamp_ok {xs : Option (List Int32)} {l0 : Option Nat} {l1 : Int64} {h : gx_H} {r : (Outcome × gx_H)} (e : cG_stamp l0 l1 h = some r) : gv_V xs 3 36 0 [(0, gv_u l0), (1, .long l1)] [] h r.1 r.2 := by
  unfold cG_stamp at e
  refine gv_rldn (pc' := 1) rfl rfl rfl ?_
  refine gv_bp (pc' := 3) (x := 6) rfl rfl rfl ?_
  obtain ⟨i1, qi1, e⟩ := gv_bind e
  obtain ⟨⟨or4, h3⟩, qv2, e⟩ := gv_bind e
  cases or4 with
  | threw x5 =>
    cases e
    exact gv_vX (jc := 25) (n := 1) (rest := []) rfl rfl rfl rfl rfl rfl rfl rfl rfl (gv_zR (gv_zI gv_z0)) rfl (gv_aR (gv_aI gv_a0)) (Nat.le_of_ble_eq_true rfl) qi1 (cG_beginOrRefuse_ok qv2) rfl
  | returned zr4 =>
  cases zr4 with
  | none => cases e
  | some zz =>
  cases zz with
  | long _ => cases e
  | float _ => cases e
  | double _ => cases e
  | ref _ => cases e
  | null => cases e
  | retAddr _ => cases e
  | int v2 =>
    dsimp only at e
    refine gv_vS (jc := 25) (n := 1) (rest := []) (stk := [.int v2]) (pc' := 6) rfl rfl rfl rfl rfl rfl rfl rfl rfl (gv_zR (gv_zI gv_z0)) rfl (gv_aR (gv_aI gv_a0)) (Nat.le_of_ble_eq_true rfl) qi1 (cG_beginOrRefuse_ok qv2) rfl rfl ?_
    refine gv_istn (pc' := 7) rfl rfl (gv_Cn rfl) rfl ?_
    refine gv_rldn (pc' := 8) rfl rfl rfl ?_
    obtain ⟨v6, qv6, e⟩ := gv_bind e
    refine gv_fR (pc' := 11) rfl rfl qv6 rfl ?_
    obtain ⟨v7, qv7, e⟩ := gv_bind e
    refine gv_fR (pc' := 14) rfl rfl qv7 rfl ?_
    refine gv_ildn (pc' := 15) rfl rfl rfl ?_
    obtain ⟨v8, qv8, e⟩ := gv_bind e
    refine gv_aaT (pc' := 16) rfl qv8 rfl ?_
    refine gv_jldn (pc' := 17) rfl rfl rfl ?_
    obtain ⟨h9, qh9, e⟩ := gv_bind e
    refine gv_pJ (pc' := 20) rfl rfl rfl qh9 rfl ?_
    refine gv_ildn (pc' := 21) rfl rfl rfl ?_
    cases e
    exact gv_retI rfl rfl
def cG_canBePut (l0 : Option Nat) (l1 : Option Nat) (l2 : Int32) (l3 : Int32) (l4 : Int32) (h : gx_H) : Option Int32 :=
  (gv_gI h l1 2 4).bind fun v1 =>
  if v1 = 0 then (
    if l3 = (8 : Int32) then (
      some (1 : Int32)) else
    (gv_gR h l0 0 0).bind fun v4 =>
    (gv_is h v4 1).bind fun i5 =>
    (cS_isValue v4 l3 l4 h).bind fun v6 =>
    if v6 = 0 then (
      some (0 : Int32)) else
    some (1 : Int32)) else
  (gv_gI h l1 2 4).bind fun v8 =>
  if v8 = (1 : Int32) then (
    if l2 < 0 then (
      some (0 : Int32)) else
    if l2 < (8 : Int32) then (
      (gv_gR h l0 0 0).bind fun v12 =>
      (gv_is h v12 1).bind fun i13 =>
      (cS_isValue v12 l3 l4 h).bind fun v14 =>
      if v14 = 0 then (
        some (0 : Int32)) else
      some (1 : Int32)) else
    some (0 : Int32)) else
  some (0 : Int32)
theorem cG_canBePut_ok {xs : Option (List Int32)} {l0 : Option Nat} {l1 : Option Nat} {l2 : Int32} {l3 : Int32} {l4 : Int32} {h : gx_H} {r : Int32} (e : cG_canBePut l0 l1 l2 l3 l4 h = some r) : gv_V xs 3 39 0 [(0, gv_u l0), (1, gv_u l1), (2, .int l2), (3, .int l3), (4, .int l4)] [] h (.returned (some (.int r))) h := by
  unfold cG_canBePut at e
  refine gv_rldn (pc' := 1) rfl rfl rfl ?_
  obtain ⟨v1, qv1, e⟩ := gv_bind e
  refine gv_fI (pc' := 4) rfl rfl qv1 rfl ?_
  by_cases c2 : v1 = 0
  · rw [if_pos c2] at e
    refine gv_ifF (pc' := 7) rfl (gv_neF c2) rfl rfl ?_
    refine gv_ildn (pc' := 8) rfl rfl rfl ?_
    refine gv_bp (pc' := 10) (x := 8) rfl rfl rfl ?_
    by_cases c3 : l3 = (8 : Int32)
    · rw [if_pos c3] at e
      refine gv_cmT (pc' := 26) rfl (gv_eqT2 c3) rfl ?_
      refine gv_ic (pc' := 27) (x := 1) rfl rfl rfl ?_
      refine gv_goto (pc' := 31) rfl rfl ?_
      cases e
      exact gv_retZ rfl rfl (by decide)
    rw [if_neg c3] at e
    refine gv_cmF (pc' := 13) rfl (gv_eqF2 c3) rfl rfl ?_
    refine gv_rldn (pc' := 14) rfl rfl rfl ?_
    obtain ⟨v4, qv4, e⟩ := gv_bind e
    refine gv_fR (pc' := 17) rfl rfl qv4 rfl ?_
    refine gv_ildn (pc' := 18) rfl rfl rfl ?_
    refine gv_ild (pc' := 20) rfl rfl rfl ?_
    obtain ⟨i5, qi5, e⟩ := gv_bind e
    obtain ⟨v6, qv6, e⟩ := gv_bind e
    refine gv_vS (jc := 40) (n := 2) (rest := []) (stk := [.int v6]) (pc' := 23) rfl rfl rfl rfl rfl rfl rfl rfl rfl (gv_zR (gv_zI (gv_zI gv_z0))) rfl (gv_aR (gv_aI (gv_aI gv_a0))) (Nat.le_of_ble_eq_true rfl) qi5 (cS_isValue_ok qv6) rfl rfl ?_
    by_cases c7 : v6 = 0
    · rw [if_pos c7] at e
      refine gv_ifT (pc' := 30) rfl (gv_eqT c7) rfl ?_
      refine gv_ic (pc' := 31) (x := 0) rfl rfl rfl ?_
      cases e
      exact gv_retZ rfl rfl (by decide)
    rw [if_neg c7] at e
    refine gv_ifF (pc' := 26) rfl (gv_eqF c7) rfl rfl ?_
    refine gv_ic (pc' := 27) (x := 1) rfl rfl rfl ?_
    refine gv_goto (pc' := 31) rfl rfl ?_
    cases e
    exact gv_retZ rfl rfl (by decide)
  rw [if_neg c2] at e
  refine gv_ifT (pc' := 32) rfl (gv_neT c2) rfl ?_
  refine gv_rldn (pc' := 33) rfl rfl rfl ?_
  obtain ⟨v8, qv8, e⟩ := gv_bind e
  refine gv_fI (pc' := 36) rfl rfl qv8 rfl ?_
  refine gv_ic (pc' := 37) (x := 1) rfl rfl rfl ?_
  by_cases c9 : v8 = (1 : Int32)
  · rw [if_pos c9] at e
    refine gv_cmF (pc' := 40) rfl (gv_neF2 c9) rfl rfl ?_
    refine gv_ildn (pc' := 41) rfl rfl rfl ?_
    by_cases c10 : l2 < 0
    · rw [if_pos c10] at e
      refine gv_ifT (pc' := 67) rfl (gv_ltT c10) rfl ?_
      refine gv_ic (pc' := 68) (x := 0) rfl rfl rfl ?_
      cases e
      exact gv_retZ rfl rfl (by decide)
    rw [if_neg c10] at e
    refine gv_ifF (pc' := 44) rfl (gv_ltF c10) rfl rfl ?_
    refine gv_ildn (pc' := 45) rfl rfl rfl ?_
    refine gv_bp (pc' := 47) (x := 8) rfl rfl rfl ?_
    by_cases c11 : l2 < (8 : Int32)
    · rw [if_pos c11] at e
      refine gv_cmF (pc' := 50) rfl (gv_geF2 c11) rfl rfl ?_
      refine gv_rldn (pc' := 51) rfl rfl rfl ?_
      obtain ⟨v12, qv12, e⟩ := gv_bind e
      refine gv_fR (pc' := 54) rfl rfl qv12 rfl ?_
      refine gv_ildn (pc' := 55) rfl rfl rfl ?_
      refine gv_ild (pc' := 57) rfl rfl rfl ?_
      obtain ⟨i13, qi13, e⟩ := gv_bind e
      obtain ⟨v14, qv14, e⟩ := gv_bind e
      refine gv_vS (jc := 40) (n := 2) (rest := []) (stk := [.int v14]) (pc' := 60) rfl rfl rfl rfl rfl rfl rfl rfl rfl (gv_zR (gv_zI (gv_zI gv_z0))) rfl (gv_aR (gv_aI (gv_aI gv_a0))) (Nat.le_of_ble_eq_true rfl) qi13 (cS_isValue_ok qv14) rfl rfl ?_
      by_cases c15 : v14 = 0
      · rw [if_pos c15] at e
        refine gv_ifT (pc' := 67) rfl (gv_eqT c15) rfl ?_
        refine gv_ic (pc' := 68) (x := 0) rfl rfl rfl ?_
        cases e
        exact gv_retZ rfl rfl (by decide)
      rw [if_neg c15] at e
      refine gv_ifF (pc' := 63) rfl (gv_eqF c15) rfl rfl ?_
      refine gv_ic (pc' := 64) (x := 1) rfl rfl rfl ?_
      refine gv_goto (pc' := 68) rfl rfl ?_
      cases e
      exact gv_retZ rfl rfl (by decide)
    rw [if_neg c11] at e
    refine gv_cmT (pc' := 67) rfl (gv_geT2 c11) rfl ?_
    refine gv_ic (pc' := 68) (x := 0) rfl rfl rfl ?_
    cases e
    exact gv_retZ rfl rfl (by decide)
  rw [if_neg c9] at e
  refine gv_cmT (pc' := 67) rfl (gv_neT2 c9) rfl ?_
  refine gv_ic (pc' := 68) (x := 0) rfl rfl rfl ?_
  cases e
  exact gv_retZ rfl rfl (by decide)
def cG_countedNumber (l0 : Int32) (l1 : Int32) : Option Int32 :=
  if (3 : Int32) < l0 then (
    some l1) else
  some (0 : Int32)
theorem cG_countedNumber_ok {xs : Option (List Int32)} {l0 : Int32} {l1 : Int32} {h : gx_H} {r : Int32} (e : cG_countedNumber l0 l1 = some r) : gv_V xs 0 42 0 [(0, .int l0), (1, .int l1)] [] h (.returned (some (.int r))) h := by
  unfold cG_countedNumber at e
  refine gv_ildn (pc' := 1) rfl rfl rfl ?_
  refine gv_ic (pc' := 2) (x := 3) rfl rfl rfl ?_
  by_cases c1 : (3 : Int32) < l0
  · rw [if_pos c1] at e
    refine gv_cmT (pc' := 9) rfl (gv_gtT2 c1) rfl ?_
    refine gv_ildn (pc' := 10) rfl rfl rfl ?_
    cases e
    exact gv_retI rfl rfl
  rw [if_neg c1] at e
  refine gv_cmF (pc' := 5) rfl (gv_gtF2 c1) rfl rfl ?_
  refine gv_ic (pc' := 6) (x := 0) rfl rfl rfl ?_
  refine gv_goto (pc' := 10) rfl rfl ?_
  cases e
  exact gv_retI rfl rfl
def cG_put_28  (h : gx_H) : Option (Outcome × gx_H) :=
  some (.threw h.length, h ++ [(8, [])])
theorem cG_put_28_ok {xs : Option (List Int32)}  {h : gx_H} {r : (Outcome × gx_H)} (e : cG_put_28 h = some r) : gv_V xs 4 38 28 [] [] h r.1 r.2 := by
  unfold cG_put_28 at e
  cases e
  exact gv_thr rfl rfl rfl
def cG_put (l0 : Option Nat) (l1 : Int32) (l2 : Int32) (l3 : Int32) (l4 : Int32) (h : gx_H) : Option (Outcome × gx_H) :=
  (gv_gR h l0 0 0).bind fun v1 =>
  (gv_is h v1 1).bind fun i2 =>
  (cS_thingAt v1 l1 h).bind fun v3 =>
  if v3 = none then (
    cG_put_28 h) else
  (gv_is h l0 0).bind fun i5 =>
  (cG_canBePut l0 v3 l2 l3 l4 h).bind fun v6 =>
  if v6 = 0 then (
    cG_put_28 h) else
  (gv_gI h v3 2 4).bind fun v8 =>
  if v8 = (1 : Int32) then (
    (cG_countedNumber l3 l4).bind fun v10 =>
    (gv_is h v3 2).bind fun i11 =>
    (cT_setPlace v3 l2 l3 v10 h).bind fun h13 =>
    some (.returned none, h13)) else
  (cG_countedNumber l3 l4).bind fun v14 =>
  (gv_is h v3 2).bind fun i15 =>
  (cT_setProperty v3 l2 l3 v14 h).bind fun r18 =>
  if r18.1 = 0 then (
    some (.threw r18.2.length, r18.2 ++ [(9, [])])) else
  some (.returned none, r18.2)
theorem cG_put_ok {xs : Option (List Int32)} {l0 : Option Nat} {l1 : Int32} {l2 : Int32} {l3 : Int32} {l4 : Int32} {h : gx_H} {r : (Outcome × gx_H)} (e : cG_put l0 l1 l2 l3 l4 h = some r) : gv_V xs 4 38 0 [(0, gv_u l0), (1, .int l1), (2, .int l2), (3, .int l3), (4, .int l4)] [] h r.1 r.2 := by
  unfold cG_put at e
  refine gv_rldn (pc' := 1) rfl rfl rfl ?_
  obtain ⟨v1, qv1, e⟩ := gv_bind e
  refine gv_fR (pc' := 4) rfl rfl qv1 rfl ?_
  refine gv_ildn (pc' := 5) rfl rfl rfl ?_
  obtain ⟨i2, qi2, e⟩ := gv_bind e
  obtain ⟨v3, qv3, e⟩ := gv_bind e
  refine gv_vS (jc := 10) (n := 1) (rest := []) (stk := [gv_u v3]) (pc' := 8) rfl rfl rfl rfl rfl rfl rfl rfl rfl (gv_zR (gv_zI gv_z0)) rfl (gv_aR (gv_aI gv_a0)) (Nat.le_of_ble_eq_true rfl) qi2 (cS_thingAt_ok qv3) rfl rfl ?_
  refine gv_rst (pc' := 10) rfl rfl (gv_Ci rfl) rfl ?_
  refine gv_rld (pc' := 12) rfl rfl rfl ?_
  by_cases c4 : v3 = none
  · rw [if_pos c4] at e
    refine gv_nuT (pc' := 28) rfl c4 rfl ?_
    exact gv_weak (cG_put_28_ok e) gv_S0
  rw [if_neg c4] at e
  refine gv_nuF (pc' := 15) rfl c4 rfl ?_
  refine gv_rldn (pc' := 16) rfl rfl rfl ?_
  refine gv_rld (pc' := 18) rfl rfl rfl ?_
  refine gv_ildn (pc' := 19) rfl rfl rfl ?_
  refine gv_ildn (pc' := 20) rfl rfl rfl ?_
  refine gv_ild (pc' := 22) rfl rfl rfl ?_
  obtain ⟨i5, qi5, e⟩ := gv_bind e
  obtain ⟨v6, qv6, e⟩ := gv_bind e
  refine gv_vS (jc := 39) (n := 4) (rest := []) (stk := [.int v6]) (pc' := 25) rfl rfl rfl rfl rfl rfl rfl rfl rfl (gv_zR (gv_zR (gv_zI (gv_zI (gv_zI gv_z0))))) rfl (gv_aR (gv_aR (gv_aI (gv_aI (gv_aI gv_a0))))) (Nat.le_of_ble_eq_true rfl) qi5 (cG_canBePut_ok qv6) rfl rfl ?_
  by_cases c7 : v6 = 0
  · rw [if_pos c7] at e
    refine gv_ifF (pc' := 28) rfl (gv_neF c7) rfl rfl ?_
    exact gv_weak (cG_put_28_ok e) gv_S0
  rw [if_neg c7] at e
  refine gv_ifT (pc' := 38) rfl (gv_neT c7) rfl ?_
  refine gv_rld (pc' := 40) rfl rfl rfl ?_
  obtain ⟨v8, qv8, e⟩ := gv_bind e
  refine gv_fI (pc' := 43) rfl rfl qv8 rfl ?_
  refine gv_ic (pc' := 44) (x := 1) rfl rfl rfl ?_
  by_cases c9 : v8 = (1 : Int32)
  · rw [if_pos c9] at e
    refine gv_cmF (pc' := 47) rfl (gv_neF2 c9) rfl rfl ?_
    refine gv_rld (pc' := 49) rfl rfl rfl ?_
    refine gv_ildn (pc' := 50) rfl rfl rfl ?_
    refine gv_ildn (pc' := 51) rfl rfl rfl ?_
    refine gv_ildn (pc' := 52) rfl rfl rfl ?_
    refine gv_ild (pc' := 54) rfl rfl rfl ?_
    obtain ⟨v10, qv10, e⟩ := gv_bind e
    refine gv_sS (jc := 42) (n := 2) (rest := [.int l3, .int l2, gv_u v3]) (stk := [.int v10, .int l3, .int l2, gv_u v3]) (pc' := 57) rfl rfl rfl rfl rfl rfl rfl rfl rfl (gv_zI (gv_zI gv_z0)) rfl (gv_aI (gv_aI gv_a0)) (Nat.le_of_ble_eq_true rfl) (cG_countedNumber_ok qv10) rfl rfl ?_
    obtain ⟨i11, qi11, e⟩ := gv_bind e
    obtain ⟨h13, qv12, e⟩ := gv_bind e
    refine gv_vS (jc := 43) (n := 3) (rest := []) (stk := []) (pc' := 60) rfl rfl rfl rfl rfl rfl rfl rfl rfl (gv_zR (gv_zI (gv_zI (gv_zI gv_z0)))) rfl (gv_aR (gv_aI (gv_aI (gv_aI gv_a0)))) (Nat.le_of_ble_eq_true rfl) qi11 (cT_setPlace_ok qv12) rfl rfl ?_
    refine gv_goto (pc' := 89) rfl rfl ?_
    cases e
    exact gv_retV rfl rfl
  rw [if_neg c9] at e
  refine gv_cmT (pc' := 63) rfl (gv_neT2 c9) rfl ?_
  refine gv_rld (pc' := 65) rfl rfl rfl ?_
  refine gv_ildn (pc' := 66) rfl rfl rfl ?_
  refine gv_ildn (pc' := 67) rfl rfl rfl ?_
  refine gv_ildn (pc' := 68) rfl rfl rfl ?_
  refine gv_ild (pc' := 70) rfl rfl rfl ?_
  obtain ⟨v14, qv14, e⟩ := gv_bind e
  refine gv_sS (jc := 42) (n := 2) (rest := [.int l3, .int l2, gv_u v3]) (stk := [.int v14, .int l3, .int l2, gv_u v3]) (pc' := 73) rfl rfl rfl rfl rfl rfl rfl rfl rfl (gv_zI (gv_zI gv_z0)) rfl (gv_aI (gv_aI gv_a0)) (Nat.le_of_ble_eq_true rfl) (cG_countedNumber_ok qv14) rfl rfl ?_
  obtain ⟨i15, qi15, e⟩ := gv_bind e
  obtain ⟨⟨v16, h17⟩, qv16, e⟩ := gv_bind e
  refine gv_vS (jc := 46) (n := 3) (rest := []) (stk := [.int v16]) (pc' := 76) rfl rfl rfl rfl rfl rfl rfl rfl rfl (gv_zR (gv_zI (gv_zI (gv_zI gv_z0)))) rfl (gv_aR (gv_aI (gv_aI (gv_aI gv_a0)))) (Nat.le_of_ble_eq_true rfl) qi15 (cT_setProperty_ok qv16) rfl rfl ?_
  by_cases c19 : v16 = 0
  · rw [if_pos c19] at e
    refine gv_ifF (pc' := 79) rfl (gv_neF c19) rfl rfl ?_
    cases e
    exact gv_thr rfl rfl rfl
  rw [if_neg c19] at e
  refine gv_ifT (pc' := 89) rfl (gv_neT c19) rfl ?_
  cases e
  exact gv_retV rfl rfl
def cG_take_28  (h : gx_H) : Option (Outcome × gx_H) :=
  some (.threw h.length, h ++ [(8, [])])
theorem cG_take_28_ok {xs : Option (List Int32)}  {h : gx_H} {r : (Outcome × gx_H)} (e : cG_take_28 h = some r) : gv_V xs 2 51 28 [] [] h r.1 r.2 := by
  unfold cG_take_28 at e
  cases e
  exact gv_thr rfl rfl rfl
def cG_take_38 (l2 : Int32) (l3 : Option Nat) (h : gx_H) : Option (Outcome × gx_H) :=
  (gv_gI h l3 2 4).bind fun v1 =>
  if v1 = 0 then (
    (gv_is h l3 2).bind fun i3 =>
    (cT_dropProperty l3 l2 h).bind fun r6 =>
    if ¬ (r6.1 = 0 ∨ r6.1 = 1) then none else
    some (.returned (some (.int r6.1)), r6.2)) else
  (gv_is h l3 2).bind fun i8 =>
  (cT_makeHole l3 l2 h).bind fun r11 =>
  if ¬ (r11.1 = 0 ∨ r11.1 = 1) then none else
  some (.returned (some (.int r11.1)), r11.2)
theorem cG_take_38_ok {xs : Option (List Int32)} {l2 : Int32} {l3 : Option Nat} {h : gx_H} {r : (Outcome × gx_H)} (e : cG_take_38 l2 l3 h = some r) : gv_V xs 2 51 38 [(2, .int l2), (3, gv_u l3)] [] h r.1 r.2 := by
  unfold cG_take_38 at e
  refine gv_rldn (pc' := 39) rfl rfl rfl ?_
  obtain ⟨v1, qv1, e⟩ := gv_bind e
  refine gv_fI (pc' := 42) rfl rfl qv1 rfl ?_
  by_cases c2 : v1 = 0
  · rw [if_pos c2] at e
    refine gv_ifF (pc' := 45) rfl (gv_neF c2) rfl rfl ?_
    refine gv_rldn (pc' := 46) rfl rfl rfl ?_
    refine gv_ildn (pc' := 47) rfl rfl rfl ?_
    obtain ⟨i3, qi3, e⟩ := gv_bind e
    obtain ⟨⟨v4, h5⟩, qv4, e⟩ := gv_bind e
    refine gv_vS (jc := 52) (n := 1) (rest := []) (stk := [.int v4]) (pc' := 50) rfl rfl rfl rfl rfl rfl rfl rfl rfl (gv_zR (gv_zI gv_z0)) rfl (gv_aR (gv_aI gv_a0)) (Nat.le_of_ble_eq_true rfl) qi3 (cT_dropProperty_ok qv4) rfl rfl ?_
    refine gv_goto (pc' := 58) rfl rfl ?_
    by_cases c7 : ¬ (v4 = 0 ∨ v4 = 1)
    · rw [if_pos c7] at e; cases e
    rw [if_neg c7] at e
    cases e
    exact gv_retZ rfl rfl (Decidable.of_not_not c7)
  rw [if_neg c2] at e
  refine gv_ifT (pc' := 53) rfl (gv_neT c2) rfl ?_
  refine gv_rldn (pc' := 54) rfl rfl rfl ?_
  refine gv_ildn (pc' := 55) rfl rfl rfl ?_
  obtain ⟨i8, qi8, e⟩ := gv_bind e
  obtain ⟨⟨v9, h10⟩, qv9, e⟩ := gv_bind e
  refine gv_vS (jc := 53) (n := 1) (rest := []) (stk := [.int v9]) (pc' := 58) rfl rfl rfl rfl rfl rfl rfl rfl rfl (gv_zR (gv_zI gv_z0)) rfl (gv_aR (gv_aI gv_a0)) (Nat.le_of_ble_eq_true rfl) qi8 (cT_makeHole_ok qv9) rfl rfl ?_
  by_cases c12 : ¬ (v9 = 0 ∨ v9 = 1)
  · rw [if_pos c12] at e; cases e
  rw [if_neg c12] at e
  cases e
  exact gv_retZ rfl rfl (Decidable.of_not_not c12)
def cG_take (l0 : Option Nat) (l1 : Int32) (l2 : Int32) (h : gx_H) : Option (Outcome × gx_H) :=
  (gv_gR h l0 0 0).bind fun v1 =>
  (gv_is h v1 1).bind fun i2 =>
  (cS_thingAt v1 l1 h).bind fun v3 =>
  if v3 = none then (
    cG_take_28 h) else
  (gv_gI h v3 2 4).bind fun v5 =>
  if v5 = 0 then (
    cG_take_38 l2 v3 h) else
  (gv_gI h v3 2 4).bind fun v7 =>
  if v7 = (1 : Int32) then (
    cG_take_38 l2 v3 h) else
  cG_take_28 h
theorem cG_take_ok {xs : Option (List Int32)} {l0 : Option Nat} {l1 : Int32} {l2 : Int32} {h : gx_H} {r : (Outcome × gx_H)} (e : cG_take l0 l1 l2 h = some r) : gv_V xs 2 51 0 [(0, gv_u l0), (1, .int l1), (2, .int l2)] [] h r.1 r.2 := by
  unfold cG_take at e
  refine gv_rldn (pc' := 1) rfl rfl rfl ?_
  obtain ⟨v1, qv1, e⟩ := gv_bind e
  refine gv_fR (pc' := 4) rfl rfl qv1 rfl ?_
  refine gv_ildn (pc' := 5) rfl rfl rfl ?_
  obtain ⟨i2, qi2, e⟩ := gv_bind e
  obtain ⟨v3, qv3, e⟩ := gv_bind e
  refine gv_vS (jc := 10) (n := 1) (rest := []) (stk := [gv_u v3]) (pc' := 8) rfl rfl rfl rfl rfl rfl rfl rfl rfl (gv_zR (gv_zI gv_z0)) rfl (gv_aR (gv_aI gv_a0)) (Nat.le_of_ble_eq_true rfl) qi2 (cS_thingAt_ok qv3) rfl rfl ?_
  refine gv_rstn (pc' := 9) rfl rfl (gv_Ci rfl) rfl ?_
  refine gv_rldn (pc' := 10) rfl rfl rfl ?_
  by_cases c4 : v3 = none
  · rw [if_pos c4] at e
    refine gv_nuT (pc' := 28) rfl c4 rfl ?_
    exact gv_weak (cG_take_28_ok e) gv_S0
  rw [if_neg c4] at e
  refine gv_nuF (pc' := 13) rfl c4 rfl ?_
  refine gv_rldn (pc' := 14) rfl rfl rfl ?_
  obtain ⟨v5, qv5, e⟩ := gv_bind e
  refine gv_fI (pc' := 17) rfl rfl qv5 rfl ?_
  by_cases c6 : v5 = 0
  · rw [if_pos c6] at e
    refine gv_ifT (pc' := 38) rfl (gv_eqT c6) rfl ?_
    exact gv_weak (cG_take_38_ok e) (gv_S1 rfl (gv_S1 rfl gv_S0))
  rw [if_neg c6] at e
  refine gv_ifF (pc' := 20) rfl (gv_eqF c6) rfl rfl ?_
  refine gv_rldn (pc' := 21) rfl rfl rfl ?_
  obtain ⟨v7, qv7, e⟩ := gv_bind e
  refine gv_fI (pc' := 24) rfl rfl qv7 rfl ?_
  refine gv_ic (pc' := 25) (x := 1) rfl rfl rfl ?_
  by_cases c8 : v7 = (1 : Int32)
  · rw [if_pos c8] at e
    refine gv_cmT (pc' := 38) rfl (gv_eqT2 c8) rfl ?_
    exact gv_weak (cG_take_38_ok e) (gv_S1 rfl (gv_S1 rfl gv_S0))
  rw [if_neg c8] at e
  refine gv_cmF (pc' := 28) rfl (gv_eqF2 c8) rfl rfl ?_
  exact gv_weak (cG_take_28_ok e) gv_S0
def cG_entry_50  (h : gx_H) : Option (Outcome × gx_H) :=
  some (.threw h.length, h ++ [(8, [])])
theorem cG_entry_50_ok {xs : Option (List Int32)}  {h : gx_H} {r : (Outcome × gx_H)} (e : cG_entry_50 h = some r) : gv_V xs 3 55 50 [] [] h r.1 r.2 := by
  unfold cG_entry_50 at e
  cases e
  exact gv_thr rfl rfl rfl
def cG_entry (l0 : Option Nat) (l1 : Int32) (l2 : Int32) (l3 : Int32) (l4 : Int32) (l5 : Int32) (h : gx_H) : Option (Outcome × gx_H) :=
  (gv_gR h l0 0 0).bind fun v1 =>
  (gv_is h v1 1).bind fun i2 =>
  (cS_thingAt v1 l1 h).bind fun v3 =>
  if v3 = none then (
    cG_entry_50 h) else
  (gv_gI h v3 2 4).bind fun v5 =>
  if v5 = (2 : Int32) then (
    (gv_gR h l0 0 0).bind fun v7 =>
    (gv_is h v7 1).bind fun i8 =>
    (cS_isValue v7 l2 l3 h).bind fun v9 =>
    if v9 = 0 then (
      cG_entry_50 h) else
    (gv_gR h l0 0 0).bind fun v11 =>
    (gv_is h v11 1).bind fun i12 =>
    (cS_isValue v11 l4 l5 h).bind fun v13 =>
    if v13 = 0 then (
      cG_entry_50 h) else
    (cG_countedNumber l2 l3).bind fun v15 =>
    (cG_countedNumber l4 l5).bind fun v16 =>
    (gv_is h v3 2).bind fun i17 =>
    (cT_setEntry v3 l2 v15 l4 v16 h).bind fun r20 =>
    if r20.1 = 0 then (
      some (.threw r20.2.length, r20.2 ++ [(9, [])])) else
    some (.returned none, r20.2)) else
  cG_entry_50 h
theorem cG_entry_ok {xs : Option (List Int32)} {l0 : Option Nat} {l1 : Int32} {l2 : Int32} {l3 : Int32} {l4 : Int32} {l5 : Int32} {h : gx_H} {r : (Outcome × gx_H)} (e : cG_entry l0 l1 l2 l3 l4 l5 h = some r) : gv_V xs 3 55 0 [(0, gv_u l0), (1, .int l1), (2, .int l2), (3, .int l3), (4, .int l4), (5, .int l5)] [] h r.1 r.2 := by
  unfold cG_entry at e
  refine gv_rldn (pc' := 1) rfl rfl rfl ?_
  obtain ⟨v1, qv1, e⟩ := gv_bind e
  refine gv_fR (pc' := 4) rfl rfl qv1 rfl ?_
  refine gv_ildn (pc' := 5) rfl rfl rfl ?_
  obtain ⟨i2, qi2, e⟩ := gv_bind e
  obtain ⟨v3, qv3, e⟩ := gv_bind e
  refine gv_vS (jc := 10) (n := 1) (rest := []) (stk := [gv_u v3]) (pc' := 8) rfl rfl rfl rfl rfl rfl rfl rfl rfl (gv_zR (gv_zI gv_z0)) rfl (gv_aR (gv_aI gv_a0)) (Nat.le_of_ble_eq_true rfl) qi2 (cS_thingAt_ok qv3) rfl rfl ?_
  refine gv_rst (pc' := 10) rfl rfl (gv_Ci rfl) rfl ?_
  refine gv_rld (pc' := 12) rfl rfl rfl ?_
  by_cases c4 : v3 = none
  · rw [if_pos c4] at e
    refine gv_nuT (pc' := 50) rfl c4 rfl ?_
    exact gv_weak (cG_entry_50_ok e) gv_S0
  rw [if_neg c4] at e
  refine gv_nuF (pc' := 15) rfl c4 rfl ?_
  refine gv_rld (pc' := 17) rfl rfl rfl ?_
  obtain ⟨v5, qv5, e⟩ := gv_bind e
  refine gv_fI (pc' := 20) rfl rfl qv5 rfl ?_
  refine gv_ic (pc' := 21) (x := 2) rfl rfl rfl ?_
  by_cases c6 : v5 = (2 : Int32)
  · rw [if_pos c6] at e
    refine gv_cmF (pc' := 24) rfl (gv_neF2 c6) rfl rfl ?_
    refine gv_rldn (pc' := 25) rfl rfl rfl ?_
    obtain ⟨v7, qv7, e⟩ := gv_bind e
    refine gv_fR (pc' := 28) rfl rfl qv7 rfl ?_
    refine gv_ildn (pc' := 29) rfl rfl rfl ?_
    refine gv_ildn (pc' := 30) rfl rfl rfl ?_
    obtain ⟨i8, qi8, e⟩ := gv_bind e
    obtain ⟨v9, qv9, e⟩ := gv_bind e
    refine gv_vS (jc := 40) (n := 2) (rest := []) (stk := [.int v9]) (pc' := 33) rfl rfl rfl rfl rfl rfl rfl rfl rfl (gv_zR (gv_zI (gv_zI gv_z0))) rfl (gv_aR (gv_aI (gv_aI gv_a0))) (Nat.le_of_ble_eq_true rfl) qi8 (cS_isValue_ok qv9) rfl rfl ?_
    by_cases c10 : v9 = 0
    · rw [if_pos c10] at e
      refine gv_ifT (pc' := 50) rfl (gv_eqT c10) rfl ?_
      exact gv_weak (cG_entry_50_ok e) gv_S0
    rw [if_neg c10] at e
    refine gv_ifF (pc' := 36) rfl (gv_eqF c10) rfl rfl ?_
    refine gv_rldn (pc' := 37) rfl rfl rfl ?_
    obtain ⟨v11, qv11, e⟩ := gv_bind e
    refine gv_fR (pc' := 40) rfl rfl qv11 rfl ?_
    refine gv_ild (pc' := 42) rfl rfl rfl ?_
    refine gv_ild (pc' := 44) rfl rfl rfl ?_
    obtain ⟨i12, qi12, e⟩ := gv_bind e
    obtain ⟨v13, qv13, e⟩ := gv_bind e
    refine gv_vS (jc := 40) (n := 2) (rest := []) (stk := [.int v13]) (pc' := 47) rfl rfl rfl rfl rfl rfl rfl rfl rfl (gv_zR (gv_zI (gv_zI gv_z0))) rfl (gv_aR (gv_aI (gv_aI gv_a0))) (Nat.le_of_ble_eq_true rfl) qi12 (cS_isValue_ok qv13) rfl rfl ?_
    by_cases c14 : v13 = 0
    · rw [if_pos c14] at e
      refine gv_ifF (pc' := 50) rfl (gv_neF c14) rfl rfl ?_
      exact gv_weak (cG_entry_50_ok e) gv_S0
    rw [if_neg c14] at e
    refine gv_ifT (pc' := 60) rfl (gv_neT c14) rfl ?_
    refine gv_ildn (pc' := 61) rfl rfl rfl ?_
    refine gv_ildn (pc' := 62) rfl rfl rfl ?_
    obtain ⟨v15, qv15, e⟩ := gv_bind e
    refine gv_sS (jc := 42) (n := 2) (rest := []) (stk := [.int v15]) (pc' := 65) rfl rfl rfl rfl rfl rfl rfl rfl rfl (gv_zI (gv_zI gv_z0)) rfl (gv_aI (gv_aI gv_a0)) (Nat.le_of_ble_eq_true rfl) (cG_countedNumber_ok qv15) rfl rfl ?_
    refine gv_ist (pc' := 67) rfl rfl (gv_Cr rfl) rfl ?_
    refine gv_rld (pc' := 69) rfl rfl rfl ?_
    refine gv_ildn (pc' := 70) rfl rfl rfl ?_
    refine gv_ild (pc' := 72) rfl rfl rfl ?_
    refine gv_ild (pc' := 74) rfl rfl rfl ?_
    refine gv_ild (pc' := 76) rfl rfl rfl ?_
    refine gv_ild (pc' := 78) rfl rfl rfl ?_
    obtain ⟨v16, qv16, e⟩ := gv_bind e
    refine gv_sS (jc := 42) (n := 2) (rest := [.int l4, .int v15, .int l2, gv_u v3]) (stk := [.int v16, .int l4, .int v15, .int l2, gv_u v3]) (pc' := 81) rfl rfl rfl rfl rfl rfl rfl rfl rfl (gv_zI (gv_zI gv_z0)) rfl (gv_aI (gv_aI gv_a0)) (Nat.le_of_ble_eq_true rfl) (cG_countedNumber_ok qv16) rfl rfl ?_
    obtain ⟨i17, qi17, e⟩ := gv_bind e
    obtain ⟨⟨v18, h19⟩, qv18, e⟩ := gv_bind e
    refine gv_vS (jc := 56) (n := 4) (rest := []) (stk := [.int v18]) (pc' := 84) rfl rfl rfl rfl rfl rfl rfl rfl rfl (gv_zR (gv_zI (gv_zI (gv_zI (gv_zI gv_z0))))) rfl (gv_aR (gv_aI (gv_aI (gv_aI (gv_aI gv_a0))))) (Nat.le_of_ble_eq_true rfl) qi17 (cT_setEntry_ok qv18) rfl rfl ?_
    by_cases c21 : v18 = 0
    · rw [if_pos c21] at e
      refine gv_ifF (pc' := 87) rfl (gv_neF c21) rfl rfl ?_
      cases e
      exact gv_thr rfl rfl rfl
    rw [if_neg c21] at e
    refine gv_ifT (pc' := 97) rfl (gv_neT c21) rfl ?_
    cases e
    exact gv_retV rfl rfl
  rw [if_neg c6] at e
  refine gv_cmT (pc' := 50) rfl (gv_neT2 c6) rfl ?_
  exact gv_weak (cG_entry_50_ok e) gv_S0
def cG_add_36  (h : gx_H) : Option (Outcome × gx_H) :=
  some (.threw h.length, h ++ [(8, [])])
theorem cG_add_36_ok {xs : Option (List Int32)}  {h : gx_H} {r : (Outcome × gx_H)} (e : cG_add_36 h = some r) : gv_V xs 3 58 36 [] [] h r.1 r.2 := by
  unfold cG_add_36 at e
  cases e
  exact gv_thr rfl rfl rfl
def cG_add (l0 : Option Nat) (l1 : Int32) (l2 : Int32) (l3 : Int32) (h : gx_H) : Option (Outcome × gx_H) :=
  (gv_gR h l0 0 0).bind fun v1 =>
  (gv_is h v1 1).bind fun i2 =>
  (cS_thingAt v1 l1 h).bind fun v3 =>
  if v3 = none then (
    cG_add_36 h) else
  (gv_gI h v3 2 4).bind fun v5 =>
  if v5 = (3 : Int32) then (
    (gv_gR h l0 0 0).bind fun v7 =>
    (gv_is h v7 1).bind fun i8 =>
    (cS_isValue v7 l2 l3 h).bind fun v9 =>
    if v9 = 0 then (
      cG_add_36 h) else
    (cG_countedNumber l2 l3).bind fun v11 =>
    (gv_is h v3 2).bind fun i12 =>
    (cT_hasMember v3 l2 v11 h).bind fun v13 =>
    if v13 = 0 then (
      (gv_is h v3 2).bind fun i15 =>
      (cT_appendMember v3 l2 v11 h).bind fun r18 =>
      if r18.1 = 0 then (
        some (.threw r18.2.length, r18.2 ++ [(9, [])])) else
      some (.returned (some (.int (1 : Int32))), r18.2)) else
    some (.returned (some (.int (0 : Int32))), h)) else
  cG_add_36 h
theorem cG_add_ok {xs : Option (List Int32)} {l0 : Option Nat} {l1 : Int32} {l2 : Int32} {l3 : Int32} {h : gx_H} {r : (Outcome × gx_H)} (e : cG_add l0 l1 l2 l3 h = some r) : gv_V xs 3 58 0 [(0, gv_u l0), (1, .int l1), (2, .int l2), (3, .int l3)] [] h r.1 r.2 := by
  unfold cG_add at e
  refine gv_rldn (pc' := 1) rfl rfl rfl ?_
  obtain ⟨v1, qv1, e⟩ := gv_bind e
  refine gv_fR (pc' := 4) rfl rfl qv1 rfl ?_
  refine gv_ildn (pc' := 5) rfl rfl rfl ?_
  obtain ⟨i2, qi2, e⟩ := gv_bind e
  obtain ⟨v3, qv3, e⟩ := gv_bind e
  refine gv_vS (jc := 10) (n := 1) (rest := []) (stk := [gv_u v3]) (pc' := 8) rfl rfl rfl rfl rfl rfl rfl rfl rfl (gv_zR (gv_zI gv_z0)) rfl (gv_aR (gv_aI gv_a0)) (Nat.le_of_ble_eq_true rfl) qi2 (cS_thingAt_ok qv3) rfl rfl ?_
  refine gv_rst (pc' := 10) rfl rfl (gv_Ci rfl) rfl ?_
  refine gv_rld (pc' := 12) rfl rfl rfl ?_
  by_cases c4 : v3 = none
  · rw [if_pos c4] at e
    refine gv_nuT (pc' := 36) rfl c4 rfl ?_
    exact gv_weak (cG_add_36_ok e) gv_S0
  rw [if_neg c4] at e
  refine gv_nuF (pc' := 15) rfl c4 rfl ?_
  refine gv_rld (pc' := 17) rfl rfl rfl ?_
  obtain ⟨v5, qv5, e⟩ := gv_bind e
  refine gv_fI (pc' := 20) rfl rfl qv5 rfl ?_
  refine gv_ic (pc' := 21) (x := 3) rfl rfl rfl ?_
  by_cases c6 : v5 = (3 : Int32)
  · rw [if_pos c6] at e
    refine gv_cmF (pc' := 24) rfl (gv_neF2 c6) rfl rfl ?_
    refine gv_rldn (pc' := 25) rfl rfl rfl ?_
    obtain ⟨v7, qv7, e⟩ := gv_bind e
    refine gv_fR (pc' := 28) rfl rfl qv7 rfl ?_
    refine gv_ildn (pc' := 29) rfl rfl rfl ?_
    refine gv_ildn (pc' := 30) rfl rfl rfl ?_
    obtain ⟨i8, qi8, e⟩ := gv_bind e
    obtain ⟨v9, qv9, e⟩ := gv_bind e
    refine gv_vS (jc := 40) (n := 2) (rest := []) (stk := [.int v9]) (pc' := 33) rfl rfl rfl rfl rfl rfl rfl rfl rfl (gv_zR (gv_zI (gv_zI gv_z0))) rfl (gv_aR (gv_aI (gv_aI gv_a0))) (Nat.le_of_ble_eq_true rfl) qi8 (cS_isValue_ok qv9) rfl rfl ?_
    by_cases c10 : v9 = 0
    · rw [if_pos c10] at e
      refine gv_ifF (pc' := 36) rfl (gv_neF c10) rfl rfl ?_
      exact gv_weak (cG_add_36_ok e) gv_S0
    rw [if_neg c10] at e
    refine gv_ifT (pc' := 46) rfl (gv_neT c10) rfl ?_
    refine gv_ildn (pc' := 47) rfl rfl rfl ?_
    refine gv_ildn (pc' := 48) rfl rfl rfl ?_
    obtain ⟨v11, qv11, e⟩ := gv_bind e
    refine gv_sS (jc := 42) (n := 2) (rest := []) (stk := [.int v11]) (pc' := 51) rfl rfl rfl rfl rfl rfl rfl rfl rfl (gv_zI (gv_zI gv_z0)) rfl (gv_aI (gv_aI gv_a0)) (Nat.le_of_ble_eq_true rfl) (cG_countedNumber_ok qv11) rfl rfl ?_
    refine gv_ist (pc' := 53) rfl rfl (gv_Cr rfl) rfl ?_
    refine gv_rld (pc' := 55) rfl rfl rfl ?_
    refine gv_ildn (pc' := 56) rfl rfl rfl ?_
    refine gv_ild (pc' := 58) rfl rfl rfl ?_
    obtain ⟨i12, qi12, e⟩ := gv_bind e
    obtain ⟨v13, qv13, e⟩ := gv_bind e
    refine gv_vS (jc := 59) (n := 2) (rest := []) (stk := [.int v13]) (pc' := 61) rfl rfl rfl rfl rfl rfl rfl rfl rfl (gv_zR (gv_zI (gv_zI gv_z0))) rfl (gv_aR (gv_aI (gv_aI gv_a0))) (Nat.le_of_ble_eq_true rfl) qi12 (cT_hasMember_ok qv13) rfl rfl ?_
    by_cases c14 : v13 = 0
    · rw [if_pos c14] at e
      refine gv_ifT (pc' := 66) rfl (gv_eqT c14) rfl ?_
      refine gv_rld (pc' := 68) rfl rfl rfl ?_
      refine gv_ildn (pc' := 69) rfl rfl rfl ?_
      refine gv_ild (pc' := 71) rfl rfl rfl ?_
      obtain ⟨i15, qi15, e⟩ := gv_bind e
      obtain ⟨⟨v16, h17⟩, qv16, e⟩ := gv_bind e
      refine gv_vS (jc := 60) (n := 2) (rest := []) (stk := [.int v16]) (pc' := 74) rfl rfl rfl rfl rfl rfl rfl rfl rfl (gv_zR (gv_zI (gv_zI gv_z0))) rfl (gv_aR (gv_aI (gv_aI gv_a0))) (Nat.le_of_ble_eq_true rfl) qi15 (cT_appendMember_ok qv16) rfl rfl ?_
      by_cases c19 : v16 = 0
      · rw [if_pos c19] at e
        refine gv_ifF (pc' := 77) rfl (gv_neF c19) rfl rfl ?_
        cases e
        exact gv_thr rfl rfl rfl
      rw [if_neg c19] at e
      refine gv_ifT (pc' := 87) rfl (gv_neT c19) rfl ?_
      refine gv_ic (pc' := 88) (x := 1) rfl rfl rfl ?_
      cases e
      exact gv_retZ rfl rfl (by decide)
    rw [if_neg c14] at e
    refine gv_ifF (pc' := 64) rfl (gv_eqF c14) rfl rfl ?_
    refine gv_ic (pc' := 65) (x := 0) rfl rfl rfl ?_
    cases e
    exact gv_retZ rfl rfl (by decide)
  rw [if_neg c6] at e
  refine gv_cmT (pc' := 36) rfl (gv_neT2 c6) rfl ?_
  exact gv_weak (cG_add_36_ok e) gv_S0
def cG_get_25  (h : gx_H) : Option (Outcome × gx_H) :=
  some (.threw h.length, h ++ [(10, [])])
theorem cG_get_25_ok {xs : Option (List Int32)}  {h : gx_H} {r : (Outcome × gx_H)} (e : cG_get_25 h = some r) : gv_V xs 3 62 25 [] [] h r.1 r.2 := by
  unfold cG_get_25 at e
  cases e
  exact gv_thr rfl rfl rfl
def cG_get (l0 : Option Nat) (l1 : Int32) (l2 : Int32) (l3 : Int32) (h : gx_H) : Option (Outcome × gx_H) :=
  (gv_gR h l0 0 0).bind fun v1 =>
  (gv_is h v1 1).bind fun i2 =>
  (cS_thingAt v1 l1 h).bind fun v3 =>
  if v3 = none then (
    cG_get_25 h) else
  (gv_is h v3 2).bind fun i5 =>
  (cT_hasPart v3 l2 l3 h).bind fun v6 =>
  if v6 = 0 then (
    cG_get_25 h) else
  (gv_is h v3 2).bind fun i8 =>
  (cT_part v3 l2 l3 h).bind fun v9 =>
  some (.returned (some (.long v9)), h)
theorem cG_get_ok {xs : Option (List Int32)} {l0 : Option Nat} {l1 : Int32} {l2 : Int32} {l3 : Int32} {h : gx_H} {r : (Outcome × gx_H)} (e : cG_get l0 l1 l2 l3 h = some r) : gv_V xs 3 62 0 [(0, gv_u l0), (1, .int l1), (2, .int l2), (3, .int l3)] [] h r.1 r.2 := by
  unfold cG_get at e
  refine gv_rldn (pc' := 1) rfl rfl rfl ?_
  obtain ⟨v1, qv1, e⟩ := gv_bind e
  refine gv_fR (pc' := 4) rfl rfl qv1 rfl ?_
  refine gv_ildn (pc' := 5) rfl rfl rfl ?_
  obtain ⟨i2, qi2, e⟩ := gv_bind e
  obtain ⟨v3, qv3, e⟩ := gv_bind e
  refine gv_vS (jc := 10) (n := 1) (rest := []) (stk := [gv_u v3]) (pc' := 8) rfl rfl rfl rfl rfl rfl rfl rfl rfl (gv_zR (gv_zI gv_z0)) rfl (gv_aR (gv_aI gv_a0)) (Nat.le_of_ble_eq_true rfl) qi2 (cS_thingAt_ok qv3) rfl rfl ?_
  refine gv_rst (pc' := 10) rfl rfl (gv_Ci rfl) rfl ?_
  refine gv_rld (pc' := 12) rfl rfl rfl ?_
  by_cases c4 : v3 = none
  · rw [if_pos c4] at e
    refine gv_nuT (pc' := 25) rfl c4 rfl ?_
    exact gv_weak (cG_get_25_ok e) gv_S0
  rw [if_neg c4] at e
  refine gv_nuF (pc' := 15) rfl c4 rfl ?_
  refine gv_rld (pc' := 17) rfl rfl rfl ?_
  refine gv_ildn (pc' := 18) rfl rfl rfl ?_
  refine gv_ildn (pc' := 19) rfl rfl rfl ?_
  obtain ⟨i5, qi5, e⟩ := gv_bind e
  obtain ⟨v6, qv6, e⟩ := gv_bind e
  refine gv_vS (jc := 63) (n := 2) (rest := []) (stk := [.int v6]) (pc' := 22) rfl rfl rfl rfl rfl rfl rfl rfl rfl (gv_zR (gv_zI (gv_zI gv_z0))) rfl (gv_aR (gv_aI (gv_aI gv_a0))) (Nat.le_of_ble_eq_true rfl) qi5 (cT_hasPart_ok qv6) rfl rfl ?_
  by_cases c7 : v6 = 0
  · rw [if_pos c7] at e
    refine gv_ifF (pc' := 25) rfl (gv_neF c7) rfl rfl ?_
    exact gv_weak (cG_get_25_ok e) gv_S0
  rw [if_neg c7] at e
  refine gv_ifT (pc' := 35) rfl (gv_neT c7) rfl ?_
  refine gv_rld (pc' := 37) rfl rfl rfl ?_
  refine gv_ildn (pc' := 38) rfl rfl rfl ?_
  refine gv_ildn (pc' := 39) rfl rfl rfl ?_
  obtain ⟨i8, qi8, e⟩ := gv_bind e
  obtain ⟨v9, qv9, e⟩ := gv_bind e
  refine gv_vS (jc := 64) (n := 2) (rest := []) (stk := [.long v9]) (pc' := 42) rfl rfl rfl rfl rfl rfl rfl rfl rfl (gv_zR (gv_zI (gv_zI gv_z0))) rfl (gv_aR (gv_aI (gv_aI gv_a0))) (Nat.le_of_ble_eq_true rfl) qi8 (cT_part_ok qv9) rfl rfl ?_
  cases e
  exact gv_retJ rfl rfl
def cG_pass (l0 : Option Nat) (l1 : Int32) (h : gx_H) : Option (Outcome × gx_H) :=
  (gv_gR h l0 0 0).bind fun v1 =>
  (gv_is h v1 1).bind fun i2 =>
  (cS_thingAt v1 l1 h).bind fun v3 =>
  if v3 = none then (
    some (.threw h.length, h ++ [(8, [])])) else
  (gv_gR h l0 0 2).bind fun v5 =>
  (gv_is h v5 4).bind fun i6 =>
  (cH_appendPassed v5 l1 h).bind fun r9 =>
  if r9.1 = 0 then (
    some (.threw r9.2.length, r9.2 ++ [(9, [])])) else
  (gv_gR r9.2 l0 0 2).bind fun v11 =>
  (gv_gI r9.2 v11 4 1).bind fun v12 =>
  some (.returned (some (.int v12)), r9.2)
theorem cG_pass_ok {xs : Option (List Int32)} {l0 : Option Nat} {l1 : Int32} {h : gx_H} {r : (Outcome × gx_H)} (e : cG_pass l0 l1 h = some r) : gv_V xs 1 69 0 [(0, gv_u l0), (1, .int l1)] [] h r.1 r.2 := by
  unfold cG_pass at e
  refine gv_rldn (pc' := 1) rfl rfl rfl ?_
  obtain ⟨v1, qv1, e⟩ := gv_bind e
  refine gv_fR (pc' := 4) rfl rfl qv1 rfl ?_
  refine gv_ildn (pc' := 5) rfl rfl rfl ?_
  obtain ⟨i2, qi2, e⟩ := gv_bind e
  obtain ⟨v3, qv3, e⟩ := gv_bind e
  refine gv_vS (jc := 10) (n := 1) (rest := []) (stk := [gv_u v3]) (pc' := 8) rfl rfl rfl rfl rfl rfl rfl rfl rfl (gv_zR (gv_zI gv_z0)) rfl (gv_aR (gv_aI gv_a0)) (Nat.le_of_ble_eq_true rfl) qi2 (cS_thingAt_ok qv3) rfl rfl ?_
  by_cases c4 : v3 = none
  · rw [if_pos c4] at e
    refine gv_nnF (pc' := 11) rfl c4 rfl ?_
    cases e
    exact gv_thr rfl rfl rfl
  rw [if_neg c4] at e
  refine gv_nnT (pc' := 21) rfl c4 rfl ?_
  refine gv_rldn (pc' := 22) rfl rfl rfl ?_
  obtain ⟨v5, qv5, e⟩ := gv_bind e
  refine gv_fR (pc' := 25) rfl rfl qv5 rfl ?_
  refine gv_ildn (pc' := 26) rfl rfl rfl ?_
  obtain ⟨i6, qi6, e⟩ := gv_bind e
  obtain ⟨⟨v7, h8⟩, qv7, e⟩ := gv_bind e
  refine gv_vS (jc := 70) (n := 1) (rest := []) (stk := [.int v7]) (pc' := 29) rfl rfl rfl rfl rfl rfl rfl rfl rfl (gv_zR (gv_zI gv_z0)) rfl (gv_aR (gv_aI gv_a0)) (Nat.le_of_ble_eq_true rfl) qi6 (cH_appendPassed_ok qv7) rfl rfl ?_
  by_cases c10 : v7 = 0
  · rw [if_pos c10] at e
    refine gv_ifF (pc' := 32) rfl (gv_neF c10) rfl rfl ?_
    cases e
    exact gv_thr rfl rfl rfl
  rw [if_neg c10] at e
  refine gv_ifT (pc' := 42) rfl (gv_neT c10) rfl ?_
  refine gv_rldn (pc' := 43) rfl rfl rfl ?_
  obtain ⟨v11, qv11, e⟩ := gv_bind e
  refine gv_fR (pc' := 46) rfl rfl qv11 rfl ?_
  obtain ⟨v12, qv12, e⟩ := gv_bind e
  refine gv_fI (pc' := 49) rfl rfl qv12 rfl ?_
  cases e
  exact gv_retI rfl rfl
def cG_write_47 (l0 : Option Nat) (l3 : Int32) (h : gx_H) : Option (Outcome × gx_H) :=
  (gv_gR h l0 0 2).bind fun v1 =>
  (gv_pV h v1 4 1 (.int (0 : Int32))).bind fun h2 =>
  if l3 = (1 : Int32) then (
    some (.threw h2.length, h2 ++ [(8, [])])) else
  if l3 = (2 : Int32) then (
    some (.threw h2.length, h2 ++ [(11, [])])) else
  (gv_gR h2 l0 0 1).bind fun v5 =>
  (gv_gI h2 v5 3 1).bind fun v6 =>
  some (.returned (some (.int v6)), h2)
theorem cG_write_47_ok {xs : Option (List Int32)} {l0 : Option Nat} {l3 : Int32} {h : gx_H} {r : (Outcome × gx_H)} (e : cG_write_47 l0 l3 h = some r) : gv_V xs 114 72 47 [(0, gv_u l0), (3, .int l3)] [] h r.1 r.2 := by
  unfold cG_write_47 at e
  refine gv_rldn (pc' := 48) rfl rfl rfl ?_
  obtain ⟨v1, qv1, e⟩ := gv_bind e
  refine gv_fR (pc' := 51) rfl rfl qv1 rfl ?_
  refine gv_ic (pc' := 52) (x := 0) rfl rfl rfl ?_
  obtain ⟨h2, qh2, e⟩ := gv_bind e
  refine gv_pI (pc' := 55) rfl rfl rfl qh2 rfl ?_
  refine gv_ildn (pc' := 56) rfl rfl rfl ?_
  refine gv_ic (pc' := 57) (x := 1) rfl rfl rfl ?_
  by_cases c3 : l3 = (1 : Int32)
  · rw [if_pos c3] at e
    refine gv_cmF (pc' := 60) rfl (gv_neF2 c3) rfl rfl ?_
    cases e
    exact gv_thr rfl rfl rfl
  rw [if_neg c3] at e
  refine gv_cmT (pc' := 70) rfl (gv_neT2 c3) rfl ?_
  refine gv_ildn (pc' := 71) rfl rfl rfl ?_
  refine gv_ic (pc' := 72) (x := 2) rfl rfl rfl ?_
  by_cases c4 : l3 = (2 : Int32)
  · rw [if_pos c4] at e
    refine gv_cmF (pc' := 75) rfl (gv_neF2 c4) rfl rfl ?_
    cases e
    exact gv_thr rfl rfl rfl
  rw [if_neg c4] at e
  refine gv_cmT (pc' := 85) rfl (gv_neT2 c4) rfl ?_
  refine gv_rldn (pc' := 86) rfl rfl rfl ?_
  obtain ⟨v5, qv5, e⟩ := gv_bind e
  refine gv_fR (pc' := 89) rfl rfl qv5 rfl ?_
  obtain ⟨v6, qv6, e⟩ := gv_bind e
  refine gv_fI (pc' := 92) rfl rfl qv6 rfl ?_
  cases e
  exact gv_retI rfl rfl
def cG_write (l0 : Option Nat) (l1 : Int32) (l2 : Int32) (h : gx_H) : Option (Outcome × gx_H) :=
  (gv_gR h l0 0 3).bind fun v1 =>
  (gv_gR h l0 0 0).bind fun v2 =>
  (gv_gR h l0 0 2).bind fun v3 =>
  (gv_is h v1 5).bind fun i4 =>
  (cW_run v1 v2 v3 l1 l2 h).bind fun r7 =>
  if r7.1 = 0 then (
    (gv_gR r7.2 l0 0 2).bind fun v9 =>
    (gv_gR r7.2 l0 0 0).bind fun v10 =>
    (gv_is r7.2 v9 4).bind fun i11 =>
    (cH_handOver v9 v10 r7.2).bind fun h13 =>
    (gv_gR h13 l0 0 1).bind fun v14 =>
    (gv_gR h13 l0 0 3).bind fun v15 =>
    (gv_gR h13 v15 5 0).bind fun v16 =>
    (gv_is h13 v14 3).bind fun i17 =>
    (cB_becomeLike v14 v16 h13).bind fun h19 =>
    cG_write_47 l0 r7.1 h19) else
  cG_write_47 l0 r7.1 r7.2
theorem cG_write_ok {xs : Option (List Int32)} {l0 : Option Nat} {l1 : Int32} {l2 : Int32} {h : gx_H} {r : (Outcome × gx_H)} (e : cG_write l0 l1 l2 h = some r) : gv_V xs 114 72 0 [(0, gv_u l0), (1, .int l1), (2, .int l2)] [] h r.1 r.2 := by
  unfold cG_write at e
  refine gv_rldn (pc' := 1) rfl rfl rfl ?_
  obtain ⟨v1, qv1, e⟩ := gv_bind e
  refine gv_fR (pc' := 4) rfl rfl qv1 rfl ?_
  refine gv_rldn (pc' := 5) rfl rfl rfl ?_
  obtain ⟨v2, qv2, e⟩ := gv_bind e
  refine gv_fR (pc' := 8) rfl rfl qv2 rfl ?_
  refine gv_rldn (pc' := 9) rfl rfl rfl ?_
  obtain ⟨v3, qv3, e⟩ := gv_bind e
  refine gv_fR (pc' := 12) rfl rfl qv3 rfl ?_
  refine gv_ildn (pc' := 13) rfl rfl rfl ?_
  refine gv_ildn (pc' := 14) rfl rfl rfl ?_
  obtain ⟨i4, qi4, e⟩ := gv_bind e
  obtain ⟨⟨v5, h6⟩, qv5, e⟩ := gv_bind e
  refine gv_vS (jc := 73) (n := 4) (rest := []) (stk := [.int v5]) (pc' := 17) rfl rfl rfl rfl rfl rfl rfl rfl rfl (gv_zR (gv_zR (gv_zR (gv_zI (gv_zI gv_z0))))) rfl (gv_aR (gv_aR (gv_aR (gv_aI (gv_aI gv_a0))))) (Nat.le_of_ble_eq_true rfl) qi4 (cW_run_ok qv5) rfl rfl ?_
  refine gv_istn (pc' := 18) rfl rfl (gv_Ci rfl) rfl ?_
  refine gv_ildn (pc' := 19) rfl rfl rfl ?_
  by_cases c8 : v5 = 0
  · rw [if_pos c8] at e
    refine gv_ifF (pc' := 22) rfl (gv_neF c8) rfl rfl ?_
    refine gv_rldn (pc' := 23) rfl rfl rfl ?_
    obtain ⟨v9, qv9, e⟩ := gv_bind e
    refine gv_fR (pc' := 26) rfl rfl qv9 rfl ?_
    refine gv_rldn (pc' := 27) rfl rfl rfl ?_
    obtain ⟨v10, qv10, e⟩ := gv_bind e
    refine gv_fR (pc' := 30) rfl rfl qv10 rfl ?_
    obtain ⟨i11, qi11, e⟩ := gv_bind e
    obtain ⟨h13, qv12, e⟩ := gv_bind e
    refine gv_vS (jc := 95) (n := 1) (rest := []) (stk := []) (pc' := 33) rfl rfl rfl rfl rfl rfl rfl rfl rfl (gv_zR (gv_zR gv_z0)) rfl (gv_aR (gv_aR gv_a0)) (Nat.le_of_ble_eq_true rfl) qi11 (cH_handOver_ok qv12) rfl rfl ?_
    refine gv_rldn (pc' := 34) rfl rfl rfl ?_
    obtain ⟨v14, qv14, e⟩ := gv_bind e
    refine gv_fR (pc' := 37) rfl rfl qv14 rfl ?_
    refine gv_rldn (pc' := 38) rfl rfl rfl ?_
    obtain ⟨v15, qv15, e⟩ := gv_bind e
    refine gv_fR (pc' := 41) rfl rfl qv15 rfl ?_
    obtain ⟨v16, qv16, e⟩ := gv_bind e
    refine gv_fR (pc' := 44) rfl rfl qv16 rfl ?_
    obtain ⟨i17, qi17, e⟩ := gv_bind e
    obtain ⟨h19, qv18, e⟩ := gv_bind e
    refine gv_vS (jc := 96) (n := 1) (rest := []) (stk := []) (pc' := 47) rfl rfl rfl rfl rfl rfl rfl rfl rfl (gv_zR (gv_zR gv_z0)) rfl (gv_aR (gv_aR gv_a0)) (Nat.le_of_ble_eq_true rfl) qi17 (cB_becomeLike_ok qv18) rfl rfl ?_
    exact gv_weak (cG_write_47_ok e) (gv_S1 rfl (gv_S1 rfl gv_S0))
  rw [if_neg c8] at e
  refine gv_ifT (pc' := 47) rfl (gv_neT c8) rfl ?_
  exact gv_weak (cG_write_47_ok e) (gv_S1 rfl (gv_S1 rfl gv_S0))
def cG_read (l0 : Option Nat) (h : gx_H) : Option (Outcome × gx_H) :=
  (gv_gR h l0 0 4).bind fun v1 =>
  (gv_gR h l0 0 0).bind fun v2 =>
  (gv_gR h l0 0 1).bind fun v3 =>
  (gv_gR h l0 0 2).bind fun v4 =>
  (gv_is h v1 6).bind fun i5 =>
  (cR_run v1 v2 v3 v4 h).bind fun r8 =>
  if r8.1 = 0 then (
    some (.threw r8.2.length, r8.2 ++ [(8, [])])) else
  (gv_gR r8.2 l0 0 2).bind fun v10 =>
  (gv_pV r8.2 v10 4 4 (.int (0 : Int32))).bind fun h11 =>
  (gv_gR h11 l0 0 4).bind fun v12 =>
  (gv_gI h11 v12 6 3).bind fun v13 =>
  (gv_pV h11 l0 0 5 (.int v13)).bind fun h14 =>
  (gv_gR h14 l0 0 4).bind fun v15 =>
  (gv_gI h14 v15 6 2).bind fun v16 =>
  some (.returned (some (.int v16)), h14)
theorem cG_read_ok {xs : Option (List Int32)} {l0 : Option Nat} {h : gx_H} {r : (Outcome × gx_H)} (e : cG_read l0 h = some r) : gv_V xs 74 98 0 [(0, gv_u l0)] [] h r.1 r.2 := by
  unfold cG_read at e
  refine gv_rldn (pc' := 1) rfl rfl rfl ?_
  obtain ⟨v1, qv1, e⟩ := gv_bind e
  refine gv_fR (pc' := 4) rfl rfl qv1 rfl ?_
  refine gv_rldn (pc' := 5) rfl rfl rfl ?_
  obtain ⟨v2, qv2, e⟩ := gv_bind e
  refine gv_fR (pc' := 8) rfl rfl qv2 rfl ?_
  refine gv_rldn (pc' := 9) rfl rfl rfl ?_
  obtain ⟨v3, qv3, e⟩ := gv_bind e
  refine gv_fR (pc' := 12) rfl rfl qv3 rfl ?_
  refine gv_rldn (pc' := 13) rfl rfl rfl ?_
  obtain ⟨v4, qv4, e⟩ := gv_bind e
  refine gv_fR (pc' := 16) rfl rfl qv4 rfl ?_
  obtain ⟨i5, qi5, e⟩ := gv_bind e
  obtain ⟨⟨v6, h7⟩, qv6, e⟩ := gv_bind e
  refine gv_vS (jc := 99) (n := 3) (rest := []) (stk := [.int v6]) (pc' := 19) rfl rfl rfl rfl rfl rfl rfl rfl rfl (gv_zR (gv_zR (gv_zR (gv_zR gv_z0)))) rfl (gv_aR (gv_aR (gv_aR (gv_aR gv_a0)))) (Nat.le_of_ble_eq_true rfl) qi5 (cR_run_ok qv6) rfl rfl ?_
  by_cases c9 : v6 = 0
  · rw [if_pos c9] at e
    refine gv_ifF (pc' := 22) rfl (gv_neF c9) rfl rfl ?_
    cases e
    exact gv_thr rfl rfl rfl
  rw [if_neg c9] at e
  refine gv_ifT (pc' := 32) rfl (gv_neT c9) rfl ?_
  refine gv_rldn (pc' := 33) rfl rfl rfl ?_
  obtain ⟨v10, qv10, e⟩ := gv_bind e
  refine gv_fR (pc' := 36) rfl rfl qv10 rfl ?_
  refine gv_ic (pc' := 37) (x := 0) rfl rfl rfl ?_
  obtain ⟨h11, qh11, e⟩ := gv_bind e
  refine gv_pI (pc' := 40) rfl rfl rfl qh11 rfl ?_
  refine gv_rldn (pc' := 41) rfl rfl rfl ?_
  refine gv_rldn (pc' := 42) rfl rfl rfl ?_
  obtain ⟨v12, qv12, e⟩ := gv_bind e
  refine gv_fR (pc' := 45) rfl rfl qv12 rfl ?_
  obtain ⟨v13, qv13, e⟩ := gv_bind e
  refine gv_fI (pc' := 48) rfl rfl qv13 rfl ?_
  obtain ⟨h14, qh14, e⟩ := gv_bind e
  refine gv_pI (pc' := 51) rfl rfl rfl qh14 rfl ?_
  refine gv_rldn (pc' := 52) rfl rfl rfl ?_
  obtain ⟨v15, qv15, e⟩ := gv_bind e
  refine gv_fR (pc' := 55) rfl rfl qv15 rfl ?_
  obtain ⟨v16, qv16, e⟩ := gv_bind e
  refine gv_fI (pc' := 58) rfl rfl qv16 rfl ?_
  cases e
  exact gv_retI rfl rfl
end
