/-! what the small machine does from a place on, told by what is known of its locals -/
def gv_u : Option Nat → Value
  | none => .null
  | some a => .ref a
def gv_r : Value → Option (Option Nat)
  | .ref a => some (some a)
  | .null => some none
  | _ => none
theorem gv_r_e {v : Value} {x : Option Nat} (h : gv_r v = some x) : v = gv_u x := by
  unfold gv_r at h; split at h <;> cases h <;> rfl
theorem gv_u_cat (x : Option Nat) : (gv_u x).category = 1 := by cases x <;> rfl
theorem gv_u_ref (x : Option Nat) : (gv_u x).isRef = true := by cases x <;> rfl
/-- more fuel, more depth, or a script where there was none, and the run is the same -/
theorem gx_q_up {xs : Option (List Int32)} {o : Nat} {h : gx_H} {ins : Instr} {pc : Nat} {L : gx_L} {st : List Value} {q : Nat × gx_L × List Value} (e : gx_q none o h ins pc L st = some q) : gx_q xs o h ins pc L st = some q := by
  by_cases c1 : ins = .iaload
  · subst c1
    unfold gx_q at e ⊢
    dsimp only at e ⊢
    split at e
    · exact e
    · cases hs : gx_sc st <;> simp [hs] at e
  · by_cases c2 : ins = .arraylength
    · subst c2
      unfold gx_q at e ⊢
      dsimp only at e ⊢
      split at e <;> simp at e
    · cases ins <;> first | exact e | exact absurd rfl c1 | exact absurd rfl c2
theorem gx_q_no {xs : Option (List Int32)} {o : Nat} {h : gx_H} {ins : Instr} {pc : Nat} {L : gx_L} {st : List Value} {q : Nat × gx_L × List Value} (e : gx_q none o h ins pc L st = none) (e2 : gx_q xs o h ins pc L st = some q) : ins = .iaload ∨ ins = .arraylength := by
  cases ins <;> first | exact Or.inl rfl | exact Or.inr rfl | skip
  all_goals (have e3 := e.symm.trans e2; cases e3)
set_option maxHeartbeats 4000000 in
theorem gv_up (xs : Option (List Int32)) {xs0 : Option (List Int32)} (hx : xs0 = xs ∨ xs0 = none) : ∀ (n n' d d' j pc : Nat) (L : gx_L) (st : List Value) (h : gx_H) (k u : Nat) (r : Outcome × gx_H × Nat × Nat), n ≤ n' → d ≤ d' → gx_run xs0 n d j pc L st h k u = some r → gx_run xs n' d' j pc L st h k u = some r := by
  intro n
  induction n with
  | zero => intro n' d d' j pc L st h k u r _ _ e; cases e
  | succ n ih =>
    intro n' d d' j pc L st h k u r hn hd e
    obtain ⟨n', rfl⟩ : ∃ m, n' = m + 1 := ⟨n' - 1, by omega⟩
    have hn : n ≤ n' := by omega
    rw [gx_run] at e ⊢
    cases hI : gx_I j pc with
    | none => simp only [hI] at e; cases e
    | some ins =>
    simp only [hI] at e ⊢
    cases hp : gx_p (gx_mo j) (gx_nl j) ins pc L st with
    | some q => simp only [hp] at e ⊢; exact ih _ _ _ _ _ _ _ _ _ _ _ hn hd e
    | none =>
    simp only [hp] at e ⊢
    cases hq : gx_q xs0 (gx_mo j) h ins pc L st with
    | some q =>
      have hq2 : gx_q xs (gx_mo j) h ins pc L st = some q := by
        rcases hx with rfl | rfl
        · exact hq
        · exact gx_q_up hq
      simp only [hq] at e
      simp only [hq2]
      exact ih _ _ _ _ _ _ _ _ _ _ _ hn hd e
    | none =>
    simp only [hq] at e
    have hq2 : gx_q xs (gx_mo j) h ins pc L st = none := by
      rcases hx with rfl | rfl
      · exact hq
      · cases hq3 : gx_q xs (gx_mo j) h ins pc L st with
        | none => rfl
        | some q =>
          exfalso
          rcases gx_q_no hq hq3 with rfl | rfl
          · cases d <;> cases e
          · cases d <;> cases e
    simp only [hq2]
    cases hw : gx_w (gx_mo j) (gx_in j) h ins pc st with
    | some q => simp only [hw] at e ⊢; exact ih _ _ _ _ _ _ _ _ _ _ _ hn hd e
    | none =>
    simp only [hw] at e ⊢
    cases hnn : gx_n (gx_mo j) h ins pc st with
    | some q => simp only [hnn] at e ⊢; exact ih _ _ _ _ _ _ _ _ _ _ _ hn hd e
    | none =>
    simp only [hnn] at e ⊢
    cases hmu : gx_mu (gx_mo j) h ins pc st with
    | some q => simp only [hmu] at e ⊢; exact ih _ _ _ _ _ _ _ _ _ _ _ hn hd e
    | none =>
    simp only [hmu] at e ⊢
    cases he : gx_e j ins st with
    | some q => simp only [he] at e ⊢; exact e
    | none =>
    simp only [he] at e ⊢
    cases hbi : gx_bi (gx_mo j) h ins pc st with
    | some q => simp only [hbi] at e ⊢; exact ih _ _ _ _ _ _ _ _ _ _ _ hn hd e
    | none =>
    simp only [hbi] at e ⊢
    cases hth : gx_th j pc ins st with
    | some q => simp only [hth] at e ⊢; exact e
    | none =>
    simp only [hth] at e ⊢
    cases hc : gx_c (gx_mo j) h ins st with
    | none => simp only [hc] at e; cases d <;> cases e
    | some q =>
    cases d with
    | zero => simp only [hc] at e; cases e
    | succ d =>
    obtain ⟨d', rfl⟩ : ∃ m, d' = m + 1 := ⟨d' - 1, by omega⟩
    have hd' : d ≤ d' := by omega
    simp only [hc] at e ⊢
    split at e
    · rename_i hcond
      rw [if_pos hcond]
      cases hr : gx_run xs0 n d q.1 0 (lv_args 0 q.2.1) [] h 0 0 with
      | none => simp only [hr] at e; cases e
      | some r1 =>
        have hr2 := ih n' d d' _ _ _ _ _ _ _ _ hn hd' hr
        simp only [hr] at e
        simp only [hr2]
        obtain ⟨oc, h1, kc, uc⟩ := r1
        cases oc with
        | returned v => exact ih _ _ _ _ _ _ _ _ _ _ _ hn hd e
        | threw x =>
          cases hcat : gx_cat j pc h1 x with
          | none => simp only [hcat] at e; cases e
          | some z =>
            cases z with
            | none => simp only [hcat] at e ⊢; exact e
            | some pc2 => simp only [hcat] at e ⊢; exact ih _ _ _ _ _ _ _ _ _ _ _ hn hd e
    · cases e
def gv_S (E L : gx_L) : Prop := ∀ i v, E.lookup i = some v → L.lookup i = some v
def gv_V (xs : Option (List Int32)) (D j pc : Nat) (E : gx_L) (st : List Value) (h : gx_H) (o : Outcome) (h' : gx_H) : Prop :=
  h.length ≤ h'.length ∧ ∀ L : gx_L, gv_S E L → ∃ n, ∀ d, D ≤ d → ∀ k u, gx_run xs n d j pc L st h k u = some (o, h', k + (h'.length - h.length), u + 6 * (h'.length - h.length))
theorem gv_S0 {L : gx_L} : gv_S [] L := fun i v e => by cases e
theorem gv_S1 {E L : gx_L} {i : Nat} {v : Value} (h1 : L.lookup i = some v) (h2 : gv_S E L) : gv_S ((i, v) :: E) L := fun m w e => by
  rw [List.lookup_cons] at e
  split at e
  · rename_i q
    have q : m = i := by simpa using q
    cases e; rw [q]; exact h1
  · exact h2 m w e
theorem gv_Sr {L : gx_L} : gv_S L L := fun _ _ e => e
/-- no long lies just below local i -/
def gv_C (E : gx_L) (i : Nat) : Prop := ∀ m v, m + 1 = i → E.lookup m = some v → v.category = 1
theorem gv_C0 {E : gx_L} : gv_C E 0 := fun m v e => by omega
theorem gv_Cn {E : gx_L} {m : Nat} (h : E.lookup m = none) : gv_C E (m + 1) := fun m' v e e2 => by
  obtain rfl : m' = m := by omega
  rw [h] at e2; cases e2
theorem gv_Ci {E : gx_L} {m : Nat} {x : Int32} (h : E.lookup m = some (.int x)) : gv_C E (m + 1) := fun m' v e e2 => by
  obtain rfl : m' = m := by omega
  rw [h] at e2; cases e2; rfl
theorem gv_Cr {E : gx_L} {m : Nat} {x : Option Nat} (h : E.lookup m = some (gv_u x)) : gv_C E (m + 1) := fun m' v e e2 => by
  obtain rfl : m' = m := by omega
  rw [h] at e2; cases e2; exact gv_u_cat x
theorem gv_Cf {E : gx_L} {m : Nat} {x : UInt32} (h : E.lookup m = some (.float x)) : gv_C E (m + 1) := fun m' v e e2 => by
  obtain rfl : m' = m := by omega
  rw [h] at e2; cases e2; rfl
theorem gv_filter {L : gx_L} {m : Nat} {w : Value} {f : Nat × Value → Bool} (h : L.lookup m = some w) (hf : f (m, w) = true) : (L.filter f).lookup m = some w := by
  induction L with
  | nil => cases h
  | cons q r ih =>
    obtain ⟨a, v⟩ := q
    rw [List.lookup_cons] at h
    split at h
    · rename_i e
      have e : m = a := by simpa using e
      cases h; subst e
      rw [List.filter_cons, if_pos hf, List.lookup_cons]; simp
    · rename_i e
      rw [List.filter_cons]
      split
      · rw [List.lookup_cons]; simp only [e]; exact ih h
      · exact ih h
theorem gv_S_s1 {E L : gx_L} {i : Nat} {v : Value} (hL : gv_S E L) (hc : gv_C E i) : gv_S ((i, v) :: E) (gx_s1 L i v) := fun m w e => by
  rw [List.lookup_cons] at e
  unfold gx_s1
  rw [List.lookup_cons]
  split at e
  · exact e
  · rename_i q
    refine gv_filter (hL m w e) ?_
    have q : ¬ m = i := by simpa using q
    by_cases h2 : m + 1 = i
    · have := hc m w h2 e
      simp [q, this]
    · simp [q, h2]
theorem gv_S_s2 {E L : gx_L} {i : Nat} {v : Value} (hL : gv_S E L) (hc : gv_C E i) (hn : E.lookup (i + 1) = none) : gv_S ((i, v) :: E) (gx_s2 L i v) := fun m w e => by
  rw [List.lookup_cons] at e
  unfold gx_s2
  rw [List.lookup_cons]
  split at e
  · exact e
  · rename_i q
    refine gv_filter (hL m w e) ?_
    have q : ¬ m = i := by simpa using q
    have q2 : ¬ m = i + 1 := fun h => by rw [h, hn] at e; cases e
    by_cases h2 : m + 1 = i
    · have := hc m w h2 e
      simp [q, q2, this]
    · simp [q, q2, h2]
/-- the room that arguments take, and where they lie -/
def gv_z (A : List Value) (n : Nat) : Prop := (lg_sl A).length = n
theorem gv_z0 : gv_z [] 0 := rfl
theorem gv_zI {A : List Value} {n : Nat} {x : Int32} (h : gv_z A n) : gv_z (.int x :: A) (n + 1) := by unfold gv_z at *; rw [← h]; simp [lg_sl, Value.category]
theorem gv_zJ {A : List Value} {n : Nat} {x : Int64} (h : gv_z A n) : gv_z (.long x :: A) (n + 2) := by unfold gv_z at *; rw [← h]; simp [lg_sl, Value.category]
theorem gv_zR {A : List Value} {n : Nat} {x : Option Nat} (h : gv_z A n) : gv_z (gv_u x :: A) (n + 1) := by unfold gv_z at *; rw [← h]; cases x <;> simp [lg_sl, gv_u, Value.category]
def gv_a (i : Nat) (A : List Value) (E : gx_L) : Prop := lv_args i A = E
theorem gv_a0 {i : Nat} : gv_a i [] [] := rfl
theorem gv_aI {i : Nat} {A : List Value} {E : gx_L} {x : Int32} (h : gv_a (i + 1) A E) : gv_a i (.int x :: A) ((i, .int x) :: E) := by unfold gv_a at *; rw [← h]; rfl
theorem gv_aJ {i : Nat} {A : List Value} {E : gx_L} {x : Int64} (h : gv_a (i + 2) A E) : gv_a i (.long x :: A) ((i, .long x) :: E) := by unfold gv_a at *; rw [← h]; rfl
theorem gv_aR {i : Nat} {A : List Value} {E : gx_L} {x : Option Nat} (h : gv_a (i + 1) A E) : gv_a i (gv_u x :: A) ((i, gv_u x) :: E) := by unfold gv_a at *; rw [← h]; cases x <;> rfl
theorem gv_cat2 (v : Value) : v.category ≤ 2 := by cases v <;> simp [Value.category]
theorem gv_lt {a b : Nat} (h : Nat.blt a b = true) : a < b := Nat.le_of_ble_eq_true h
theorem gv_sum (r : List Value) (h : Nat.ble r.length 4 = true) : (r.map fun v => v.category).sum ≤ 8 := by
  have h : r.length ≤ 4 := Nat.le_of_ble_eq_true h
  have : ∀ r : List Value, (r.map fun v => v.category).sum ≤ 2 * r.length := fun r => by
    induction r with
    | nil => simp
    | cons v r ih => have := gv_cat2 v; simp only [List.map_cons, List.sum_cons, List.length_cons]; omega
  have := this r
  omega
/-! reading and writing, typed -/
def gv_gV (h : gx_H) (x : Option Nat) (c i : Nat) : Option Value := x.bind fun a => (gx_ob h a c).bind fun fs => fs[i]?
def gv_gI (h : gx_H) (x : Option Nat) (c i : Nat) : Option Int32 := (gv_gV h x c i).bind gx_i1
def gv_gJ (h : gx_H) (x : Option Nat) (c i : Nat) : Option Int64 := (gv_gV h x c i).bind gx_l1
def gv_gR (h : gx_H) (x : Option Nat) (c i : Nat) : Option (Option Nat) := (gv_gV h x c i).bind gv_r
def gv_pV (h : gx_H) (x : Option Nat) (c i : Nat) (v : Value) : Option gx_H := x.bind fun a => (gx_ob h a c).bind fun fs => if i < fs.length then some (h.set a (c, fs.set i v)) else none
def gv_lI (h : gx_H) (x : Option Nat) (i : Int32) : Option Int32 := x.bind fun a => (gx_rd h a 100 i).bind gx_i1
def gv_lJ (h : gx_H) (x : Option Nat) (i : Int32) : Option Int64 := x.bind fun a => (gx_rd h a 101 i).bind gx_l1
def gv_lZ (h : gx_H) (x : Option Nat) (i : Int32) : Option Int32 := x.bind fun a => (gx_rd h a 102 i).bind gx_i1
def gv_lT (h : gx_H) (x : Option Nat) (i : Int32) : Option (Option Nat) := x.bind fun a => (gx_rd h a 103 i).bind gv_r
def gv_lA (h : gx_H) (x : Option Nat) (i : Int32) : Option (Option Nat) := x.bind fun a => (gx_rd h a 104 i).bind gv_r
def gv_wI (h : gx_H) (x : Option Nat) (i : Int32) (v : Int32) : Option gx_H := x.bind fun a => gx_wr h a 100 i (.int v)
def gv_wJ (h : gx_H) (x : Option Nat) (i : Int32) (v : Int64) : Option gx_H := x.bind fun a => gx_wr h a 101 i (.long v)
def gv_wZ (h : gx_H) (x : Option Nat) (i : Int32) (v : Int32) : Option gx_H := x.bind fun a => gx_wr h a 102 i (.int (v &&& 1))
def gv_is (h : gx_H) (x : Option Nat) (c : Nat) : Option Nat := x.bind fun a => (gx_ob h a c).map fun _ => a
def gv_cp (h : gx_H) (x : Option Nat) (sp : Int32) (y : Option Nat) (dp n : Int32) : Option gx_H := x.bind fun a0 => y.bind fun a => (gx_ob h a0 100).bind fun vs => (gx_ob h a 100).bind fun ws =>
  if ¬ sp < 0 ∧ ¬ dp < 0 ∧ ¬ n < 0 ∧ sp.toNatClampNeg + n.toNatClampNeg ≤ vs.length ∧ dp.toNatClampNeg + n.toNatClampNeg ≤ ws.length ∧ vs.all (fun v => (gx_i1 v).isSome) = true then some (h.set a (100, gx_cpy vs ws sp.toNatClampNeg dp.toNatClampNeg n.toNatClampNeg)) else none
def gv_fk (ci k : Nat) : Nat := match gx_cl[ci]? with
  | some r => if (r.2.1 k).2.2.2 = true then 0 else match gx_fty ci k with
    | .int => 1
    | .long => 2
    | .boolean => 3
    | _ => 0
  | none => 0
theorem gv_fok1 {ini : Bool} {o ci k : Nat} {x : Int32} (h : gv_fk ci k = 1) : gx_fok ini o ci k (.int x) = true := by
  unfold gv_fk at h; unfold gx_fok
  split at h
  · rename_i r hr
    rw [hr]
    split at h
    · cases h
    · rename_i hf
      split at h <;> rename_i hT <;> first | cases h | skip
      rw [hT]
      simp [narrow, fits, gx_fl, hf]
  · cases h
theorem gv_fok2 {ini : Bool} {o ci k : Nat} {x : Int64} (h : gv_fk ci k = 2) : gx_fok ini o ci k (.long x) = true := by
  unfold gv_fk at h; unfold gx_fok
  split at h
  · rename_i r hr
    rw [hr]
    split at h
    · cases h
    · rename_i hf
      split at h <;> rename_i hT <;> first | cases h | skip
      rw [hT]
      simp [narrow, fits, gx_fl, hf]
  · cases h
theorem gv_nz {x : Int32} (hz : x = 0 ∨ x = 1) : narrow .boolean (.int x) = .int x := by
  rcases hz with rfl | rfl <;> rfl
theorem gv_fok3 {ini : Bool} {o ci k : Nat} {x : Int32} (h : gv_fk ci k = 3) (hz : x = 0 ∨ x = 1) : gx_fok ini o ci k (.int x) = true := by
  unfold gv_fk at h; unfold gx_fok
  split at h
  · rename_i r hr
    rw [hr]
    split at h
    · cases h
    · rename_i hf
      split at h <;> rename_i hT <;> first | cases h | skip
      rw [hT]
      rcases hz with rfl | rfl <;> simp [narrow, fits, gx_fl, hf]
  · cases h
def gv_cT (o' pc t0 : Nat) : List (Nat × Nat × Nat × Nat) → Bool → Option (Option Nat)
  | [], seen => if seen = true then none else some none
  | q :: r, seen => if gx_cov q pc = true then (gx_xt o' q.2.2.2).bind fun t => if t0 = t then some (some q.2.2.1) else if gx_NC.any (fun n => n.1 == t0 && n.2 == t) = true then gv_cT o' pc t0 r true else none
    else gv_cT o' pc t0 r seen
section GV
variable {xs : Option (List Int32)} {D j pc pc' : Nat} {E : gx_L} {st : List Value} {h h' : gx_H} {o : Outcome}
theorem gv_weak {E' : gx_L} (K : gv_V xs D j pc E' st h o h') (hs : gv_S E' E) : gv_V xs D j pc E st h o h' :=
  ⟨K.1, fun L hL => K.2 L (fun i v e => hL i v (hs i v e))⟩
theorem gv_P {E' : gx_L} {st' : List Value} {ins : Instr} (hi : gx_I j pc = some ins) (hp : ∀ L, gv_S E L → ∃ L', gx_p (gx_mo j) (gx_nl j) ins pc L st = some (pc', L', st') ∧ gv_S E' L') (K : gv_V xs D j pc' E' st' h o h') : gv_V xs D j pc E st h o h' := by
  refine ⟨K.1, fun L hL => ?_⟩
  obtain ⟨L', h1, h2⟩ := hp L hL
  obtain ⟨n, hn⟩ := K.2 L' h2
  refine ⟨n + 1, fun d hd k u => ?_⟩
  rw [gx_run]
  simp only [hi, h1]
  exact hn d hd k u
theorem gv_P0 {st' : List Value} {ins : Instr} (hi : gx_I j pc = some ins) (hp : ∀ L, gx_p (gx_mo j) (gx_nl j) ins pc L st = some (pc', L, st')) (K : gv_V xs D j pc' E st' h o h') : gv_V xs D j pc E st h o h' :=
  gv_P hi (fun L hL => ⟨L, hp L, hL⟩) K
theorem gv_Q {st' : List Value} {ins : Instr} (hi : gx_I j pc = some ins) (hp : ∀ L, gx_p (gx_mo j) (gx_nl j) ins pc L st = none) (hq : ∀ L, gx_q xs (gx_mo j) h ins pc L st = some (pc', L, st')) (K : gv_V xs D j pc' E st' h o h') : gv_V xs D j pc E st h o h' := by
  refine ⟨K.1, fun L hL => ?_⟩
  obtain ⟨n, hn⟩ := K.2 L hL
  refine ⟨n + 1, fun d hd k u => ?_⟩
  rw [gx_run]
  simp only [hi, hp, hq]
  exact hn d hd k u
theorem gv_W {st' : List Value} {ins : Instr} {h1 : gx_H} (hi : gx_I j pc = some ins) (hp : ∀ L, gx_p (gx_mo j) (gx_nl j) ins pc L st = none) (hq : ∀ L, gx_q xs (gx_mo j) h ins pc L st = none) (hw : gx_w (gx_mo j) (gx_in j) h ins pc st = some (pc', st', h1)) (hl : h1.length = h.length) (K : gv_V xs D j pc' E st' h1 o h') : gv_V xs D j pc E st h o h' := by
  refine ⟨by rw [← hl]; exact K.1, fun L hL => ?_⟩
  obtain ⟨n, hn⟩ := K.2 L hL
  refine ⟨n + 1, fun d hd k u => ?_⟩
  rw [gx_run]
  simp only [hi, hp, hq, hw]
  rw [← hl]
  exact hn d hd k u
theorem gv_B {st' : List Value} {ins : Instr} {h1 : gx_H} (hi : gx_I j pc = some ins) (hp : ∀ L, gx_p (gx_mo j) (gx_nl j) ins pc L st = none) (hq : ∀ L, gx_q xs (gx_mo j) h ins pc L st = none) (hw : gx_w (gx_mo j) (gx_in j) h ins pc st = none) (hn : gx_n (gx_mo j) h ins pc st = none) (hm : gx_mu (gx_mo j) h ins pc st = none) (he : gx_e j ins st = none)
    (hb : gx_bi (gx_mo j) h ins pc st = some (pc', st', h1)) (hl : h1.length = h.length) (K : gv_V xs D j pc' E st' h1 o h') : gv_V xs D j pc E st h o h' := by
  refine ⟨by rw [← hl]; exact K.1, fun L hL => ?_⟩
  obtain ⟨n, hn'⟩ := K.2 L hL
  refine ⟨n + 1, fun d hd k u => ?_⟩
  rw [gx_run]
  simp only [hi, hp, hq, hw, hn, hm, he, hb]
  rw [← hl]
  exact hn' d hd k u
theorem gv_E {ins : Instr} {v : Option Value} (hi : gx_I j pc = some ins) (hp : ∀ L, gx_p (gx_mo j) (gx_nl j) ins pc L st = none) (hq : ∀ L, gx_q xs (gx_mo j) h ins pc L st = none) (hw : gx_w (gx_mo j) (gx_in j) h ins pc st = none) (hn : gx_n (gx_mo j) h ins pc st = none) (hm : gx_mu (gx_mo j) h ins pc st = none) (he : gx_e j ins st = some v) : gv_V xs D j pc E st h (.returned v) h := by
  refine ⟨Nat.le_refl _, fun L hL => ⟨1, fun d hd k u => ?_⟩⟩
  rw [gx_run]
  simp only [hi, hp, hq, hw, hn, hm, he]
  simp
theorem gv_th {ins : Instr} {t : Nat} (hi : gx_I j pc = some ins) (hp : ∀ L, gx_p (gx_mo j) (gx_nl j) ins pc L st = none) (hq : ∀ L, gx_q xs (gx_mo j) h ins pc L st = none) (hw : gx_w (gx_mo j) (gx_in j) h ins pc st = none) (hn : gx_n (gx_mo j) h ins pc st = none) (hm : gx_mu (gx_mo j) h ins pc st = none) (he : gx_e j ins st = none) (hb : gx_bi (gx_mo j) h ins pc st = none) (ht : gx_th j pc ins st = some t) : gv_V xs D j pc E st h (.threw h.length) (h ++ [(t, [])]) := by
  refine ⟨by simp, fun L hL => ⟨1, fun d hd k u => ?_⟩⟩
  rw [gx_run]
  simp only [hi, hp, hq, hw, hn, hm, he, hb, ht]
  simp
/-- a call that returns -/
theorem gv_call {ins : Instr} {Dc jc : Nat} {A rest : List Value} {Ec : gx_L} {v : Option Value} {h1 : gx_H} {sz : Nat} (hi : gx_I j pc = some ins) (hp : ∀ L, gx_p (gx_mo j) (gx_nl j) ins pc L st = none) (hq : ∀ L, gx_q xs (gx_mo j) h ins pc L st = none) (hw : gx_w (gx_mo j) (gx_in j) h ins pc st = none) (hn : gx_n (gx_mo j) h ins pc st = none) (hm : gx_mu (gx_mo j) h ins pc st = none) (he : gx_e j ins st = none) (hb : gx_bi (gx_mo j) h ins pc st = none) (ht : gx_th j pc ins st = none)
    (hc : gx_c (gx_mo j) h ins st = some (jc, A, rest)) (hr : Nat.ble rest.length 4 = true) (hz : gv_z A sz) (hz2 : Nat.ble sz (gx_nl jc) = true) (hA : gv_a 0 A Ec) (hD : Dc + 1 ≤ D)
    (C : gv_V xs Dc jc 0 Ec [] h (.returned v) h1) (K : gv_V xs D j (pc + 3) E (v.toList ++ rest) h1 o h') : gv_V xs D j pc E st h o h' := by
  refine ⟨Nat.le_trans C.1 K.1, fun L hL => ?_⟩
  obtain ⟨n1, hn1⟩ := C.2 (lv_args 0 A) (by unfold gv_a at hA; rw [hA]; exact gv_Sr)
  obtain ⟨n2, hn2⟩ := K.2 L hL
  refine ⟨max n1 n2 + 1, fun d hd k u => ?_⟩
  obtain ⟨d, rfl⟩ : ∃ m, d = m + 1 := ⟨d - 1, by omega⟩
  have e1 := gv_up xs (Or.inl rfl) _ (max n1 n2) _ d _ _ _ _ _ _ _ _ (Nat.le_max_left _ _) (Nat.le_refl _) (hn1 d (by omega) 0 0)
  have e2 := gv_up xs (Or.inl rfl) _ (max n1 n2) _ (d + 1) _ _ _ _ _ _ _ _ (Nat.le_max_right n1 n2) (Nat.le_refl _) (hn2 (d + 1) hd (k + (0 + (h1.length - h.length))) (u + (0 + 6 * (h1.length - h.length))))
  rw [gx_run]
  simp only [hi, hp, hq, hw, hn, hm, he, hb, ht, hc]
  rw [if_pos ⟨gv_sum rest hr, by unfold gv_z at hz; rw [hz]; exact Nat.le_of_ble_eq_true hz2⟩]
  simp only [e1, e2]
  have := C.1
  have := K.1
  congr 4
  · omega
  · omega
/-- a call that throws, and no handler lies there -/
theorem gv_callX {ins : Instr} {Dc jc : Nat} {A rest : List Value} {Ec : gx_L} {x : Nat} {h1 : gx_H} {sz : Nat} (hi : gx_I j pc = some ins) (hp : ∀ L, gx_p (gx_mo j) (gx_nl j) ins pc L st = none) (hq : ∀ L, gx_q xs (gx_mo j) h ins pc L st = none) (hw : gx_w (gx_mo j) (gx_in j) h ins pc st = none) (hn : gx_n (gx_mo j) h ins pc st = none) (hm : gx_mu (gx_mo j) h ins pc st = none) (he : gx_e j ins st = none) (hb : gx_bi (gx_mo j) h ins pc st = none) (ht : gx_th j pc ins st = none)
    (hc : gx_c (gx_mo j) h ins st = some (jc, A, rest)) (hr : Nat.ble rest.length 4 = true) (hz : gv_z A sz) (hz2 : Nat.ble sz (gx_nl jc) = true) (hA : gv_a 0 A Ec) (hD : Dc + 1 ≤ D)
    (C : gv_V xs Dc jc 0 Ec [] h (.threw x) h1) (hx : gx_hd j = []) : gv_V xs D j pc E st h (.threw x) h1 := by
  refine ⟨C.1, fun L hL => ?_⟩
  obtain ⟨n1, hn1⟩ := C.2 (lv_args 0 A) (by unfold gv_a at hA; rw [hA]; exact gv_Sr)
  refine ⟨n1 + 1, fun d hd k u => ?_⟩
  obtain ⟨d, rfl⟩ : ∃ m, d = m + 1 := ⟨d - 1, by omega⟩
  have e1 := hn1 d (by omega) 0 0
  rw [gx_run]
  simp only [hi, hp, hq, hw, hn, hm, he, hb, ht, hc]
  rw [if_pos ⟨gv_sum rest hr, by unfold gv_z at hz; rw [hz]; exact Nat.le_of_ble_eq_true hz2⟩]
  have hcat : gx_cat j pc h1 x = some none := by unfold gx_cat; rw [hx]; rfl
  simp only [e1, hcat]
  congr 4 <;> omega
/-- a call that throws what the first handler there catches -/
theorem gv_callC {ins : Instr} {Dc jc : Nat} {A rest : List Value} {Ec : gx_L} {x : Nat} {h1 : gx_H} {sz : Nat} (hi : gx_I j pc = some ins) (hp : ∀ L, gx_p (gx_mo j) (gx_nl j) ins pc L st = none) (hq : ∀ L, gx_q xs (gx_mo j) h ins pc L st = none) (hw : gx_w (gx_mo j) (gx_in j) h ins pc st = none) (hn : gx_n (gx_mo j) h ins pc st = none) (hm : gx_mu (gx_mo j) h ins pc st = none) (he : gx_e j ins st = none) (hb : gx_bi (gx_mo j) h ins pc st = none) (ht : gx_th j pc ins st = none)
    (hc : gx_c (gx_mo j) h ins st = some (jc, A, rest)) (hr : Nat.ble rest.length 4 = true) (hz : gv_z A sz) (hz2 : Nat.ble sz (gx_nl jc) = true) (hA : gv_a 0 A Ec) (hD : Dc + 1 ≤ D)
    (C : gv_V xs Dc jc 0 Ec [] h (.threw x) h1) (hx : gx_cat j pc h1 x = some (some pc')) (K : gv_V xs D j pc' E [gv_u (some x)] h1 o h') : gv_V xs D j pc E st h o h' := by
  refine ⟨Nat.le_trans C.1 K.1, fun L hL => ?_⟩
  obtain ⟨n1, hn1⟩ := C.2 (lv_args 0 A) (by unfold gv_a at hA; rw [hA]; exact gv_Sr)
  obtain ⟨n2, hn2⟩ := K.2 L hL
  refine ⟨max n1 n2 + 1, fun d hd k u => ?_⟩
  obtain ⟨d, rfl⟩ : ∃ m, d = m + 1 := ⟨d - 1, by omega⟩
  have e1 := gv_up xs (Or.inl rfl) _ (max n1 n2) _ d _ _ _ _ _ _ _ _ (Nat.le_max_left _ _) (Nat.le_refl _) (hn1 d (by omega) 0 0)
  have e2 := gv_up xs (Or.inl rfl) _ (max n1 n2) _ (d + 1) _ _ _ _ _ _ _ _ (Nat.le_max_right n1 n2) (Nat.le_refl _) (hn2 (d + 1) hd (k + (0 + (h1.length - h.length))) (u + (0 + 6 * (h1.length - h.length))))
  rw [gx_run]
  simp only [hi, hp, hq, hw, hn, hm, he, hb, ht, hc]
  rw [if_pos ⟨gv_sum rest hr, by unfold gv_z at hz; rw [hz]; exact Nat.le_of_ble_eq_true hz2⟩]
  simp only [e1, hx]
  change gx_run xs (max n1 n2) (d + 1) j pc' L [.ref x] h1 _ _ = _
  change gx_run xs (max n1 n2) (d + 1) j pc' L [.ref x] h1 _ _ = _ at e2
  rw [e2]
  have := C.1
  have := K.1
  congr 4
  · omega
  · omega
theorem gv_null (hi : gx_I j pc = some .aconst_null) (hc : pc + 1 = pc') (K : gv_V xs D j pc' E (gv_u none :: st) h o h') : gv_V xs D j pc E st h o h' := gv_P0 hi (fun _ => by rw [← hc]; rfl) K
theorem gv_ic {n : Int} {x : Int32} (hi : gx_I j pc = some (.iconst n)) (hx : Int32.ofInt n = x) (hc : pc + 1 = pc') (K : gv_V xs D j pc' E (.int x :: st) h o h') : gv_V xs D j pc E st h o h' := gv_P0 hi (fun _ => by rw [← hc, ← hx]; rfl) K
theorem gv_bp {n : Int} {x : Int32} (hi : gx_I j pc = some (.bipush n)) (hx : (Int8.ofInt n).toInt32 = x) (hc : pc + 2 = pc') (K : gv_V xs D j pc' E (.int x :: st) h o h') : gv_V xs D j pc E st h o h' := gv_P0 hi (fun _ => by rw [← hc, ← hx]; rfl) K
theorem gv_sp {n : Int} {x : Int32} (hi : gx_I j pc = some (.sipush n)) (hx : (Int16.ofInt n).toInt32 = x) (hc : pc + 3 = pc') (K : gv_V xs D j pc' E (.int x :: st) h o h') : gv_V xs D j pc E st h o h' := gv_P0 hi (fun _ => by rw [← hc, ← hx]; rfl) K
theorem gv_lc {n : Fin 2} {x : Int64} (hi : gx_I j pc = some (.lconst n)) (hx : Int64.ofNat (n : Nat) = x) (hc : pc + 1 = pc') (K : gv_V xs D j pc' E (.long x :: st) h o h') : gv_V xs D j pc E st h o h' := gv_P0 hi (fun _ => by rw [← hc, ← hx]; rfl) K
theorem gv_ld {idx : Nat} {x : Int64} (hi : gx_I j pc = some (.ldc2_w idx)) (hx : gx_kl (gx_mo j) idx = some x) (hc : pc + 3 = pc') (K : gv_V xs D j pc' E (.long x :: st) h o h') : gv_V xs D j pc E st h o h' := gv_P0 hi (fun _ => by rw [← hc]; show (gx_kl _ _).map _ = _; rw [hx]; rfl) K
theorem gv_ild {i : Nat} {x : Int32} (hi : gx_I j pc = some (.iload i)) (hv : E.lookup i = some (.int x)) (hc : pc + 2 = pc') (K : gv_V xs D j pc' E (.int x :: st) h o h') : gv_V xs D j pc E st h o h' := gv_P hi (fun L hL => ⟨L, by rw [← hc]; show ((L.lookup i).bind _).map _ = _; rw [hL _ _ hv]; rfl, hL⟩) K
theorem gv_ildn {i : Fin 4} {x : Int32} (hi : gx_I j pc = some (.iload_n i)) (hv : E.lookup (i : Nat) = some (.int x)) (hc : pc + 1 = pc') (K : gv_V xs D j pc' E (.int x :: st) h o h') : gv_V xs D j pc E st h o h' := gv_P hi (fun L hL => ⟨L, by rw [← hc]; show ((L.lookup (i : Nat)).bind _).map _ = _; rw [hL _ _ hv]; rfl, hL⟩) K
theorem gv_jld {i : Nat} {x : Int64} (hi : gx_I j pc = some (.lload i)) (hv : E.lookup i = some (.long x)) (hc : pc + 2 = pc') (K : gv_V xs D j pc' E (.long x :: st) h o h') : gv_V xs D j pc E st h o h' := gv_P hi (fun L hL => ⟨L, by rw [← hc]; show ((L.lookup i).bind _).map _ = _; rw [hL _ _ hv]; rfl, hL⟩) K
theorem gv_jldn {i : Fin 4} {x : Int64} (hi : gx_I j pc = some (.lload_n i)) (hv : E.lookup (i : Nat) = some (.long x)) (hc : pc + 1 = pc') (K : gv_V xs D j pc' E (.long x :: st) h o h') : gv_V xs D j pc E st h o h' := gv_P hi (fun L hL => ⟨L, by rw [← hc]; show ((L.lookup (i : Nat)).bind _).map _ = _; rw [hL _ _ hv]; rfl, hL⟩) K
theorem gv_rld {i : Nat} {x : Option Nat} (hi : gx_I j pc = some (.aload i)) (hv : E.lookup i = some (gv_u x)) (hc : pc + 2 = pc') (K : gv_V xs D j pc' E (gv_u x :: st) h o h') : gv_V xs D j pc E st h o h' := gv_P hi (fun L hL => ⟨L, by rw [← hc]; show (L.lookup i).bind _ = _; rw [hL _ _ hv, Option.bind_some, gv_u_ref]; rfl, hL⟩) K
theorem gv_rldn {i : Fin 4} {x : Option Nat} (hi : gx_I j pc = some (.aload_n i)) (hv : E.lookup (i : Nat) = some (gv_u x)) (hc : pc + 1 = pc') (K : gv_V xs D j pc' E (gv_u x :: st) h o h') : gv_V xs D j pc E st h o h' := gv_P hi (fun L hL => ⟨L, by rw [← hc]; show (L.lookup (i : Nat)).bind _ = _; rw [hL _ _ hv, Option.bind_some, gv_u_ref]; rfl, hL⟩) K
theorem gv_xld {x : UInt32} {i : Fin 4} (hi : gx_I j pc = some (.aload_n i)) (hv : E.lookup (i : Nat) = some (.float x)) (hc : pc + 1 = pc') (K : gv_V xs D j pc' E (.float x :: st) h o h') : gv_V xs D j pc E st h o h' := gv_P hi (fun L hL => ⟨L, by rw [← hc]; show (L.lookup (i : Nat)).bind _ = _; rw [hL _ _ hv]; rfl, hL⟩) K
theorem gv_ist {i : Nat} {x : Int32} (hi : gx_I j pc = some (.istore i)) (hn : Nat.blt i (gx_nl j) = true) (hg : gv_C E i) (hc : pc + 2 = pc') (K : gv_V xs D j pc' ((i, .int x) :: E) st h o h') : gv_V xs D j pc E (.int x :: st) h o h' := gv_P hi (fun L hL => ⟨gx_s1 L i (.int x), by rw [← hc]; show (if _ then _ else _) = _; rw [if_pos (gv_lt hn)], gv_S_s1 hL hg⟩) K
theorem gv_istn {i : Fin 4} {x : Int32} (hi : gx_I j pc = some (.istore_n i)) (hn : Nat.blt (i : Nat) (gx_nl j) = true) (hg : gv_C E (i : Nat)) (hc : pc + 1 = pc') (K : gv_V xs D j pc' (((i : Nat), .int x) :: E) st h o h') : gv_V xs D j pc E (.int x :: st) h o h' := gv_P hi (fun L hL => ⟨gx_s1 L (i : Nat) (.int x), by rw [← hc]; show (if _ then _ else _) = _; rw [if_pos (gv_lt hn)], gv_S_s1 hL hg⟩) K
theorem gv_jst {i : Nat} {x : Int64} (hi : gx_I j pc = some (.lstore i)) (hn : Nat.blt (i + 1) (gx_nl j) = true) (hg : gv_C E i) (hg2 : E.lookup (i + 1) = none) (hc : pc + 2 = pc') (K : gv_V xs D j pc' ((i, .long x) :: E) st h o h') : gv_V xs D j pc E (.long x :: st) h o h' := gv_P hi (fun L hL => ⟨gx_s2 L i (.long x), by rw [← hc]; show (if _ then _ else _) = _; rw [if_pos (gv_lt hn)], gv_S_s2 hL hg hg2⟩) K
theorem gv_jstn {i : Fin 4} {x : Int64} (hi : gx_I j pc = some (.lstore_n i)) (hn : Nat.blt ((i : Nat) + 1) (gx_nl j) = true) (hg : gv_C E (i : Nat)) (hg2 : E.lookup ((i : Nat) + 1) = none) (hc : pc + 1 = pc') (K : gv_V xs D j pc' (((i : Nat), .long x) :: E) st h o h') : gv_V xs D j pc E (.long x :: st) h o h' := gv_P hi (fun L hL => ⟨gx_s2 L (i : Nat) (.long x), by rw [← hc]; show (if _ then _ else _) = _; rw [if_pos (gv_lt hn)], gv_S_s2 hL hg hg2⟩) K
theorem gv_rst {i : Nat} {x : Option Nat} (hi : gx_I j pc = some (.astore i)) (hn : Nat.blt i (gx_nl j) = true) (hg : gv_C E i) (hc : pc + 2 = pc') (K : gv_V xs D j pc' ((i, gv_u x) :: E) st h o h') : gv_V xs D j pc E (gv_u x :: st) h o h' := gv_P hi (fun L hL => ⟨gx_s1 L i (gv_u x), by rw [← hc]; cases x <;> (show (if _ then _ else _) = _; rw [if_pos (gv_lt hn)]; rfl), gv_S_s1 hL hg⟩) K
theorem gv_rstn {i : Fin 4} {x : Option Nat} (hi : gx_I j pc = some (.astore_n i)) (hn : Nat.blt (i : Nat) (gx_nl j) = true) (hg : gv_C E (i : Nat)) (hc : pc + 1 = pc') (K : gv_V xs D j pc' (((i : Nat), gv_u x) :: E) st h o h') : gv_V xs D j pc E (gv_u x :: st) h o h' := gv_P hi (fun L hL => ⟨gx_s1 L (i : Nat) (gv_u x), by rw [← hc]; cases x <;> (show (if _ then _ else _) = _; rw [if_pos (gv_lt hn)]; rfl), gv_S_s1 hL hg⟩) K
theorem gv_inc {i : Nat} {n : Int} {x y : Int32} (hi : gx_I j pc = some (.iinc i n)) (hv : E.lookup i = some (.int x)) (hy : Int32.ofInt n = y) (hn : Nat.blt i (gx_nl j) = true) (hg : gv_C E i) (hc : pc + 3 = pc') (K : gv_V xs D j pc' ((i, .int (x + y)) :: E) st h o h') : gv_V xs D j pc E st h o h' := gv_P hi (fun L hL => ⟨gx_s1 L i (.int (x + y)), by rw [← hc, ← hy]; show ((L.lookup i).bind _).bind _ = _; rw [hL _ _ hv]; show (if _ then _ else _) = _; rw [if_pos (gv_lt hn)], gv_S_s1 hL hg⟩) K
theorem gv_iadd {x y : Int32} (hi : gx_I j pc = some .iadd) (hc : pc + 1 = pc') (K : gv_V xs D j pc' E (.int (x + y) :: st) h o h') : gv_V xs D j pc E (.int y :: .int x :: st) h o h' := gv_P0 hi (fun _ => by rw [← hc]; rfl) K
theorem gv_isub {x y : Int32} (hi : gx_I j pc = some .isub) (hc : pc + 1 = pc') (K : gv_V xs D j pc' E (.int (x - y) :: st) h o h') : gv_V xs D j pc E (.int y :: .int x :: st) h o h' := gv_P0 hi (fun _ => by rw [← hc]; rfl) K
theorem gv_imul {x y : Int32} (hi : gx_I j pc = some .imul) (hc : pc + 1 = pc') (K : gv_V xs D j pc' E (.int (x * y) :: st) h o h') : gv_V xs D j pc E (.int y :: .int x :: st) h o h' := gv_P0 hi (fun _ => by rw [← hc]; rfl) K
theorem gv_iand {x y : Int32} (hi : gx_I j pc = some .iand) (hc : pc + 1 = pc') (K : gv_V xs D j pc' E (.int (x &&& y) :: st) h o h') : gv_V xs D j pc E (.int y :: .int x :: st) h o h' := gv_P0 hi (fun _ => by rw [← hc]; rfl) K
theorem gv_ior {x y : Int32} (hi : gx_I j pc = some .ior) (hc : pc + 1 = pc') (K : gv_V xs D j pc' E (.int (x ||| y) :: st) h o h') : gv_V xs D j pc E (.int y :: .int x :: st) h o h' := gv_P0 hi (fun _ => by rw [← hc]; rfl) K
theorem gv_ixor {x y : Int32} (hi : gx_I j pc = some .ixor) (hc : pc + 1 = pc') (K : gv_V xs D j pc' E (.int (x ^^^ y) :: st) h o h') : gv_V xs D j pc E (.int y :: .int x :: st) h o h' := gv_P0 hi (fun _ => by rw [← hc]; rfl) K
theorem gv_ishl {x y : Int32} (hi : gx_I j pc = some .ishl) (hc : pc + 1 = pc') (K : gv_V xs D j pc' E (.int (x <<< (y &&& 31)) :: st) h o h') : gv_V xs D j pc E (.int y :: .int x :: st) h o h' := gv_P0 hi (fun _ => by rw [← hc]; rfl) K
theorem gv_ishr {x y : Int32} (hi : gx_I j pc = some .ishr) (hc : pc + 1 = pc') (K : gv_V xs D j pc' E (.int (x >>> (y &&& 31)) :: st) h o h') : gv_V xs D j pc E (.int y :: .int x :: st) h o h' := gv_P0 hi (fun _ => by rw [← hc]; rfl) K
theorem gv_ladd {x y : Int64} (hi : gx_I j pc = some .ladd) (hc : pc + 1 = pc') (K : gv_V xs D j pc' E (.long (x + y) :: st) h o h') : gv_V xs D j pc E (.long y :: .long x :: st) h o h' := gv_P0 hi (fun _ => by rw [← hc]; rfl) K
theorem gv_lsub {x y : Int64} (hi : gx_I j pc = some .lsub) (hc : pc + 1 = pc') (K : gv_V xs D j pc' E (.long (x - y) :: st) h o h') : gv_V xs D j pc E (.long y :: .long x :: st) h o h' := gv_P0 hi (fun _ => by rw [← hc]; rfl) K
theorem gv_lmul {x y : Int64} (hi : gx_I j pc = some .lmul) (hc : pc + 1 = pc') (K : gv_V xs D j pc' E (.long (x * y) :: st) h o h') : gv_V xs D j pc E (.long y :: .long x :: st) h o h' := gv_P0 hi (fun _ => by rw [← hc]; rfl) K
theorem gv_land {x y : Int64} (hi : gx_I j pc = some .land) (hc : pc + 1 = pc') (K : gv_V xs D j pc' E (.long (x &&& y) :: st) h o h') : gv_V xs D j pc E (.long y :: .long x :: st) h o h' := gv_P0 hi (fun _ => by rw [← hc]; rfl) K
theorem gv_lor {x y : Int64} (hi : gx_I j pc = some .lor) (hc : pc + 1 = pc') (K : gv_V xs D j pc' E (.long (x ||| y) :: st) h o h') : gv_V xs D j pc E (.long y :: .long x :: st) h o h' := gv_P0 hi (fun _ => by rw [← hc]; rfl) K
theorem gv_lxor {x y : Int64} (hi : gx_I j pc = some .lxor) (hc : pc + 1 = pc') (K : gv_V xs D j pc' E (.long (x ^^^ y) :: st) h o h') : gv_V xs D j pc E (.long y :: .long x :: st) h o h' := gv_P0 hi (fun _ => by rw [← hc]; rfl) K
theorem gv_lshl {x : Int64} {y : Int32} (hi : gx_I j pc = some .lshl) (hc : pc + 1 = pc') (K : gv_V xs D j pc' E (.long (x <<< (y.toInt64 &&& 63)) :: st) h o h') : gv_V xs D j pc E (.int y :: .long x :: st) h o h' := gv_P0 hi (fun _ => by rw [← hc]; rfl) K
theorem gv_lshr {x : Int64} {y : Int32} (hi : gx_I j pc = some .lshr) (hc : pc + 1 = pc') (K : gv_V xs D j pc' E (.long (x >>> (y.toInt64 &&& 63)) :: st) h o h') : gv_V xs D j pc E (.int y :: .long x :: st) h o h' := gv_P0 hi (fun _ => by rw [← hc]; rfl) K
theorem gv_lushr {x : Int64} {y : Int32} (hi : gx_I j pc = some .lushr) (hc : pc + 1 = pc') (K : gv_V xs D j pc' E (.long ((x.toUInt64 >>> (y.toInt64.toUInt64 &&& Int64.toUInt64 63)).toInt64) :: st) h o h') : gv_V xs D j pc E (.int y :: .long x :: st) h o h' := gv_P0 hi (fun _ => by rw [← hc]; rfl) K
theorem gv_idiv {x y : Int32} (hi : gx_I j pc = some .idiv) (hy : ¬ y = 0) (hc : pc + 1 = pc') (K : gv_V xs D j pc' E (.int (x / y) :: st) h o h') : gv_V xs D j pc E (.int y :: .int x :: st) h o h' := gv_P0 hi (fun _ => by rw [← hc]; show (if _ then _ else _) = _; rw [if_neg hy]) K
theorem gv_irem {x y : Int32} (hi : gx_I j pc = some .irem) (hy : ¬ y = 0) (hc : pc + 1 = pc') (K : gv_V xs D j pc' E (.int (x - x / y * y) :: st) h o h') : gv_V xs D j pc E (.int y :: .int x :: st) h o h' := gv_P0 hi (fun _ => by rw [← hc]; show (if _ then _ else _) = _; rw [if_neg hy]) K
theorem gv_ineg {x : Int32} (hi : gx_I j pc = some .ineg) (hc : pc + 1 = pc') (K : gv_V xs D j pc' E (.int (-x) :: st) h o h') : gv_V xs D j pc E (.int x :: st) h o h' := gv_P0 hi (fun _ => by rw [← hc]; rfl) K
theorem gv_lneg {x : Int64} (hi : gx_I j pc = some .lneg) (hc : pc + 1 = pc') (K : gv_V xs D j pc' E (.long (-x) :: st) h o h') : gv_V xs D j pc E (.long x :: st) h o h' := gv_P0 hi (fun _ => by rw [← hc]; rfl) K
theorem gv_i2l {x : Int32} (hi : gx_I j pc = some .i2l) (hc : pc + 1 = pc') (K : gv_V xs D j pc' E (.long x.toInt64 :: st) h o h') : gv_V xs D j pc E (.int x :: st) h o h' := gv_P0 hi (fun _ => by rw [← hc]; rfl) K
theorem gv_l2i {x : Int64} (hi : gx_I j pc = some .l2i) (hc : pc + 1 = pc') (K : gv_V xs D j pc' E (.int x.toInt32 :: st) h o h') : gv_V xs D j pc E (.long x :: st) h o h' := gv_P0 hi (fun _ => by rw [← hc]; rfl) K
theorem gv_lcmp {x y : Int64} (hi : gx_I j pc = some .lcmp) (hc : pc + 1 = pc') (K : gv_V xs D j pc' E (.int (lg_cmp x y) :: st) h o h') : gv_V xs D j pc E (.long y :: .long x :: st) h o h' := gv_P0 hi (fun _ => by rw [← hc]; rfl) K
theorem gv_dup {v : Value} (hi : gx_I j pc = some .dup) (hv : v.category = 1) (hc : pc + 1 = pc') (K : gv_V xs D j pc' E (v :: v :: st) h o h') : gv_V xs D j pc E (v :: st) h o h' := gv_P0 hi (fun _ => by rw [← hc]; show (if _ then _ else _) = _; rw [if_pos hv]) K
theorem gv_pop {v : Value} (hi : gx_I j pc = some .pop) (hv : v.category = 1) (hc : pc + 1 = pc') (K : gv_V xs D j pc' E st h o h') : gv_V xs D j pc E (v :: st) h o h' := gv_P0 hi (fun _ => by rw [← hc]; show (if _ then _ else _) = _; rw [if_pos hv]) K
theorem gv_dup2 {v w : Value} (hi : gx_I j pc = some .dup2) (hv : v.category = 1) (hw : w.category = 1) (hc : pc + 1 = pc') (K : gv_V xs D j pc' E (v :: w :: v :: w :: st) h o h') : gv_V xs D j pc E (v :: w :: st) h o h' := gv_P0 hi (fun _ => by rw [← hc]; show (if _ then _ else _) = _; rw [if_pos ⟨hv, hw⟩]) K
theorem gv_goto {off : Int} (hi : gx_I j pc = some (.goto off)) (hc : gx_j pc off = some pc') (K : gv_V xs D j pc' E st h o h') : gv_V xs D j pc E st h o h' := gv_P0 hi (fun _ => by show (gx_j _ _).map _ = _; rw [hc]; rfl) K
theorem gv_ifT {c : ClassFile.Cond} {off : Int} {x : Int32} (hi : gx_I j pc = some (.ifCond c off)) (hx : gx_c1 c x = true) (hc : gx_j pc off = some pc') (K : gv_V xs D j pc' E st h o h') : gv_V xs D j pc E (.int x :: st) h o h' := gv_P0 hi (fun _ => by show (gx_j _ _).map _ = _; rw [hc]; show some (if gx_c1 c x = true then _ else _) = _; rw [if_pos hx]) K
theorem gv_ifF {c : ClassFile.Cond} {off : Int} {x : Int32} {t : Nat} (hi : gx_I j pc = some (.ifCond c off)) (hx : gx_c1 c x = false) (ht : gx_j pc off = some t) (hc : pc + 3 = pc') (K : gv_V xs D j pc' E st h o h') : gv_V xs D j pc E (.int x :: st) h o h' := gv_P0 hi (fun _ => by show (gx_j _ _).map _ = _; rw [ht, ← hc]; show some (if gx_c1 c x = true then _ else _) = _; rw [if_neg (by rw [hx]; exact Bool.false_ne_true)]) K
theorem gv_cmT {c : ClassFile.Cond} {off : Int} {x y : Int32} (hi : gx_I j pc = some (.if_icmp c off)) (hx : gx_c2 c x y = true) (hc : gx_j pc off = some pc') (K : gv_V xs D j pc' E st h o h') : gv_V xs D j pc E (.int y :: .int x :: st) h o h' := gv_P0 hi (fun _ => by show (gx_j _ _).map _ = _; rw [hc]; show some (if gx_c2 c x y = true then _ else _) = _; rw [if_pos hx]) K
theorem gv_cmF {c : ClassFile.Cond} {off : Int} {x y : Int32} {t : Nat} (hi : gx_I j pc = some (.if_icmp c off)) (hx : gx_c2 c x y = false) (ht : gx_j pc off = some t) (hc : pc + 3 = pc') (K : gv_V xs D j pc' E st h o h') : gv_V xs D j pc E (.int y :: .int x :: st) h o h' := gv_P0 hi (fun _ => by show (gx_j _ _).map _ = _; rw [ht, ← hc]; show some (if gx_c2 c x y = true then _ else _) = _; rw [if_neg (by rw [hx]; exact Bool.false_ne_true)]) K
theorem gv_nuT {off : Int} {x : Option Nat} (hi : gx_I j pc = some (.ifnull off)) (hx : x = none) (hc : gx_j pc off = some pc') (K : gv_V xs D j pc' E st h o h') : gv_V xs D j pc E (gv_u x :: st) h o h' := gv_P0 hi (fun _ => by rw [hx]; show (gx_j _ _).map _ = _; rw [hc]; rfl) K
theorem gv_nuF {off : Int} {x : Option Nat} (hi : gx_I j pc = some (.ifnull off)) (hx : ¬ x = none) (hc : pc + 3 = pc') (K : gv_V xs D j pc' E st h o h') : gv_V xs D j pc E (gv_u x :: st) h o h' := gv_P0 hi (fun _ => by cases x with | none => exact absurd rfl hx | some a => rw [← hc]; rfl) K
theorem gv_nnT {off : Int} {x : Option Nat} (hi : gx_I j pc = some (.ifnonnull off)) (hx : ¬ x = none) (hc : gx_j pc off = some pc') (K : gv_V xs D j pc' E st h o h') : gv_V xs D j pc E (gv_u x :: st) h o h' := gv_P0 hi (fun _ => by cases x with | none => exact absurd rfl hx | some a => show (gx_j _ _).map _ = _; rw [hc]; rfl) K
theorem gv_nnF {off : Int} {x : Option Nat} (hi : gx_I j pc = some (.ifnonnull off)) (hx : x = none) (hc : pc + 3 = pc') (K : gv_V xs D j pc' E st h o h') : gv_V xs D j pc E (gv_u x :: st) h o h' := gv_P0 hi (fun _ => by rw [hx, ← hc]; rfl) K
theorem gv_sw {d lo hi' : Int} {offs : Array Int} {x : Int32} {off : Int} (hi : gx_I j pc = some (.tableswitch d lo hi' offs)) (hx : gx_tab d lo hi' offs x = some off) (hc : gx_j pc off = some pc') (K : gv_V xs D j pc' E st h o h') : gv_V xs D j pc E (.int x :: st) h o h' := gv_P0 hi (fun _ => by show (gx_tab _ _ _ _ _).bind _ = _; rw [hx]; show (gx_j _ _).map _ = _; rw [hc]; rfl) K
theorem gv_fI {idx c i : Nat} {x : Option Nat} {v : Int32} (hi : gx_I j pc = some (.getfield idx)) (hf : gx_F (gx_mo j) idx = some (c, i)) (hv : gv_gI h x c i = some v) (hc : pc + 3 = pc') (K : gv_V xs D j pc' E (.int v :: st) h o h') : gv_V xs D j pc E (gv_u x :: st) h o h' := by
  unfold gv_gI gv_gV at hv
  obtain ⟨w, hw, hv1⟩ := Option.bind_eq_some_iff.mp hv
  clear hv
  obtain ⟨a, rfl, hw1⟩ := Option.bind_eq_some_iff.mp hw
  obtain ⟨fs, h1, h2⟩ := Option.bind_eq_some_iff.mp hw1
  have := gx_i1_e hv1
  subst this
  refine gv_Q hi (fun _ => rfl) (fun L => ?_) K
  show (gx_F _ _).bind _ = _
  rw [hf]
  show (gx_ob h a c).bind _ = _
  rw [h1]
  show (fs[i]?).map _ = _
  rw [h2, ← hc]
  rfl
theorem gv_fJ {idx c i : Nat} {x : Option Nat} {v : Int64} (hi : gx_I j pc = some (.getfield idx)) (hf : gx_F (gx_mo j) idx = some (c, i)) (hv : gv_gJ h x c i = some v) (hc : pc + 3 = pc') (K : gv_V xs D j pc' E (.long v :: st) h o h') : gv_V xs D j pc E (gv_u x :: st) h o h' := by
  unfold gv_gJ gv_gV at hv
  obtain ⟨w, hw, hv1⟩ := Option.bind_eq_some_iff.mp hv
  clear hv
  obtain ⟨a, rfl, hw1⟩ := Option.bind_eq_some_iff.mp hw
  obtain ⟨fs, h1, h2⟩ := Option.bind_eq_some_iff.mp hw1
  have := gx_l1_e hv1
  subst this
  refine gv_Q hi (fun _ => rfl) (fun L => ?_) K
  show (gx_F _ _).bind _ = _
  rw [hf]
  show (gx_ob h a c).bind _ = _
  rw [h1]
  show (fs[i]?).map _ = _
  rw [h2, ← hc]
  rfl
theorem gv_fR {idx c i : Nat} {x : Option Nat} {v : Option Nat} (hi : gx_I j pc = some (.getfield idx)) (hf : gx_F (gx_mo j) idx = some (c, i)) (hv : gv_gR h x c i = some v) (hc : pc + 3 = pc') (K : gv_V xs D j pc' E (gv_u v :: st) h o h') : gv_V xs D j pc E (gv_u x :: st) h o h' := by
  unfold gv_gR gv_gV at hv
  obtain ⟨w, hw, hv1⟩ := Option.bind_eq_some_iff.mp hv
  clear hv
  obtain ⟨a, rfl, hw1⟩ := Option.bind_eq_some_iff.mp hw
  obtain ⟨fs, h1, h2⟩ := Option.bind_eq_some_iff.mp hw1
  have := gv_r_e hv1
  subst this
  refine gv_Q hi (fun _ => rfl) (fun L => ?_) K
  show (gx_F _ _).bind _ = _
  rw [hf]
  show (gx_ob h a c).bind _ = _
  rw [h1]
  show (fs[i]?).map _ = _
  rw [h2, ← hc]
  rfl
theorem gv_iald {x : Option Nat} {i : Int32} {v : Int32} (hi : gx_I j pc = some .iaload) (hv : gv_lI h x i = some v) (hc : pc + 1 = pc') (K : gv_V xs D j pc' E (.int v :: st) h o h') : gv_V xs D j pc E (.int i :: gv_u x :: st) h o h' := by
  unfold gv_lI at hv
  obtain ⟨a, hxa, hv1⟩ := Option.bind_eq_some_iff.mp hv
  clear hv
  subst hxa
  have hv := hv1
  refine gv_Q hi (fun _ => rfl) (fun L => ?_) K
  show ((gx_rd h a 100 i).bind _).map _ = _
  rw [hv, ← hc]
  rfl
theorem gv_lald {x : Option Nat} {i : Int32} {v : Int64} (hi : gx_I j pc = some .laload) (hv : gv_lJ h x i = some v) (hc : pc + 1 = pc') (K : gv_V xs D j pc' E (.long v :: st) h o h') : gv_V xs D j pc E (.int i :: gv_u x :: st) h o h' := by
  unfold gv_lJ at hv
  obtain ⟨a, hxa, hv1⟩ := Option.bind_eq_some_iff.mp hv
  clear hv
  subst hxa
  have hv := hv1
  refine gv_Q hi (fun _ => rfl) (fun L => ?_) K
  show ((gx_rd h a 101 i).bind _).map _ = _
  rw [hv, ← hc]
  rfl
theorem gv_bald {x : Option Nat} {i : Int32} {v : Int32} (hi : gx_I j pc = some .baload) (hv : gv_lZ h x i = some v) (hc : pc + 1 = pc') (K : gv_V xs D j pc' E (.int v :: st) h o h') : gv_V xs D j pc E (.int i :: gv_u x :: st) h o h' := by
  unfold gv_lZ at hv
  obtain ⟨a, hxa, hv1⟩ := Option.bind_eq_some_iff.mp hv
  clear hv
  subst hxa
  have hv := hv1
  refine gv_Q hi (fun _ => rfl) (fun L => ?_) K
  show ((gx_rd h a 102 i).bind _).map _ = _
  rw [hv, ← hc]
  rfl
theorem gv_aaT {x : Option Nat} {i : Int32} {v : Option Nat} (hi : gx_I j pc = some .aaload) (hv : gv_lT h x i = some v) (hc : pc + 1 = pc') (K : gv_V xs D j pc' E (gv_u v :: st) h o h') : gv_V xs D j pc E (.int i :: gv_u x :: st) h o h' := by
  unfold gv_lT at hv
  obtain ⟨a, hxa, hv1⟩ := Option.bind_eq_some_iff.mp hv
  clear hv
  subst hxa
  obtain ⟨w, hw, hv2⟩ := Option.bind_eq_some_iff.mp hv1
  have := gv_r_e hv2
  subst this
  refine gv_Q hi (fun _ => rfl) (fun L => ?_) K
  show (match gx_rd h a 103 i with | some v => if v.isRef then some (pc + 1, L, v :: st) else none | none => (gx_rd h a 104 i).bind fun v => if v.isRef then some (pc + 1, L, v :: st) else none) = _
  rw [hw]
  show (if _ then _ else _) = _
  rw [if_pos (gv_u_ref v), hc]
theorem gv_aaA {x : Option Nat} {i : Int32} {v : Option Nat} (hi : gx_I j pc = some .aaload) (hv : gv_lA h x i = some v) (hc : pc + 1 = pc') (K : gv_V xs D j pc' E (gv_u v :: st) h o h') : gv_V xs D j pc E (.int i :: gv_u x :: st) h o h' := by
  unfold gv_lA at hv
  obtain ⟨a, hxa, hv1⟩ := Option.bind_eq_some_iff.mp hv
  clear hv
  subst hxa
  obtain ⟨w, hw, hv2⟩ := Option.bind_eq_some_iff.mp hv1
  have := gv_r_e hv2
  subst this
  obtain ⟨vs, q1, q2, q3⟩ := gx_rd_e hw
  have h3 : gx_rd h a 103 i = none := by unfold gx_rd; rw [q1]; rfl
  refine gv_Q hi (fun _ => rfl) (fun L => ?_) K
  show (match gx_rd h a 103 i with | some v => if v.isRef then some (pc + 1, L, v :: st) else none | none => (gx_rd h a 104 i).bind fun v => if v.isRef then some (pc + 1, L, v :: st) else none) = _
  rw [h3]
  show (gx_rd h a 104 i).bind _ = _
  rw [hw]
  show (if _ then _ else _) = _
  rw [if_pos (gv_u_ref v), hc]
theorem gv_xal {x : UInt32} {i v : Int32} {l : List Int32} (hi : gx_I j pc = some .iaload) (hl : xs = some l) (h0 : ¬ i < 0) (hv : l[i.toNatClampNeg]? = some v) (hc : pc + 1 = pc') (K : gv_V xs D j pc' E (.int v :: st) h o h') : gv_V xs D j pc E (.int i :: .float x :: st) h o h' := by
  refine gv_Q hi (fun _ => rfl) (fun L => ?_) K
  show xs.bind _ = _
  rw [hl]
  show (if _ then _ else _) = _
  rw [if_neg h0, hv, ← hc]
  rfl
theorem gv_xlen {x : UInt32} {l : List Int32} (hi : gx_I j pc = some .arraylength) (hl : xs = some l) (hc : pc + 1 = pc') (K : gv_V xs D j pc' E (.int l.length.toInt32 :: st) h o h') : gv_V xs D j pc E (.float x :: st) h o h' := by
  refine gv_Q hi (fun _ => rfl) (fun L => ?_) K
  show xs.map _ = _
  rw [hl, ← hc]
  rfl
theorem gv_pI {idx c i : Nat} {x : Option Nat} {v : Int32} {h1 : gx_H} (hi : gx_I j pc = some (.putfield idx)) (hf : gx_F (gx_mo j) idx = some (c, i)) (hk : gv_fk c i = 1) (hv : gv_pV h x c i (.int v) = some h1) (hc : pc + 3 = pc') (K : gv_V xs D j pc' E st h1 o h') : gv_V xs D j pc E (.int v :: gv_u x :: st) h o h' := by
  unfold gv_pV at hv
  obtain ⟨a, hxa, hv1⟩ := Option.bind_eq_some_iff.mp hv
  clear hv
  subst hxa
  obtain ⟨fs, q1, hv2⟩ := Option.bind_eq_some_iff.mp hv1
  clear hv1
  split at hv2
  · rename_i hlt
    cases hv2
    refine gv_W hi (fun _ => rfl) (fun _ => rfl) ?_ (by simp) K
    show (gx_F _ _).bind _ = _
    rw [hf]
    show (gx_ob h a c).bind _ = _
    rw [q1]
    show (if _ then _ else _) = _
    rw [if_pos ⟨gv_fok1 hk, hlt⟩, hc]
  · cases hv2
theorem gv_pJ {idx c i : Nat} {x : Option Nat} {v : Int64} {h1 : gx_H} (hi : gx_I j pc = some (.putfield idx)) (hf : gx_F (gx_mo j) idx = some (c, i)) (hk : gv_fk c i = 2) (hv : gv_pV h x c i (.long v) = some h1) (hc : pc + 3 = pc') (K : gv_V xs D j pc' E st h1 o h') : gv_V xs D j pc E (.long v :: gv_u x :: st) h o h' := by
  unfold gv_pV at hv
  obtain ⟨a, hxa, hv1⟩ := Option.bind_eq_some_iff.mp hv
  clear hv
  subst hxa
  obtain ⟨fs, q1, hv2⟩ := Option.bind_eq_some_iff.mp hv1
  clear hv1
  split at hv2
  · rename_i hlt
    cases hv2
    refine gv_W hi (fun _ => rfl) (fun _ => rfl) ?_ (by simp) K
    show (gx_F _ _).bind _ = _
    rw [hf]
    show (gx_ob h a c).bind _ = _
    rw [q1]
    show (if _ then _ else _) = _
    rw [if_pos ⟨gv_fok2 hk, hlt⟩, hc]
  · cases hv2
theorem gv_pZ {idx c i : Nat} {x : Option Nat} {v : Int32} {h1 : gx_H} (hi : gx_I j pc = some (.putfield idx)) (hf : gx_F (gx_mo j) idx = some (c, i)) (hk : gv_fk c i = 3) (hz : v = 0 ∨ v = 1) (hv : gv_pV h x c i (.int v) = some h1) (hc : pc + 3 = pc') (K : gv_V xs D j pc' E st h1 o h') : gv_V xs D j pc E (.int v :: gv_u x :: st) h o h' := by
  unfold gv_pV at hv
  obtain ⟨a, hxa, hv1⟩ := Option.bind_eq_some_iff.mp hv
  clear hv
  subst hxa
  obtain ⟨fs, q1, hv2⟩ := Option.bind_eq_some_iff.mp hv1
  clear hv1
  split at hv2
  · rename_i hlt
    cases hv2
    refine gv_W hi (fun _ => rfl) (fun _ => rfl) ?_ (by simp) K
    show (gx_F _ _).bind _ = _
    rw [hf]
    show (gx_ob h a c).bind _ = _
    rw [q1]
    show (if _ then _ else _) = _
    rw [if_pos ⟨gv_fok3 hk hz, hlt⟩, hc]
  · cases hv2
theorem gv_iast {x : Option Nat} {i : Int32} {v : Int32} {h1 : gx_H} (hi : gx_I j pc = some .iastore) (hv : gv_wI h x i v = some h1) (hc : pc + 1 = pc') (K : gv_V xs D j pc' E st h1 o h') : gv_V xs D j pc E (.int v :: .int i :: gv_u x :: st) h o h' := by
  unfold gv_wI at hv
  obtain ⟨a, hxa, hv1⟩ := Option.bind_eq_some_iff.mp hv
  clear hv
  subst hxa
  have hv := hv1
  refine gv_W hi (fun _ => rfl) (fun _ => rfl) ?_ ?_ K
  · show (gx_wr h a 100 i (.int v)).map _ = _
    rw [hv, hc]; rfl
  · obtain ⟨vs, -, -, -, rfl⟩ := gx_wr_e hv
    simp
theorem gv_last {x : Option Nat} {i : Int32} {v : Int64} {h1 : gx_H} (hi : gx_I j pc = some .lastore) (hv : gv_wJ h x i v = some h1) (hc : pc + 1 = pc') (K : gv_V xs D j pc' E st h1 o h') : gv_V xs D j pc E (.long v :: .int i :: gv_u x :: st) h o h' := by
  unfold gv_wJ at hv
  obtain ⟨a, hxa, hv1⟩ := Option.bind_eq_some_iff.mp hv
  clear hv
  subst hxa
  have hv := hv1
  refine gv_W hi (fun _ => rfl) (fun _ => rfl) ?_ ?_ K
  · show (gx_wr h a 101 i (.long v)).map _ = _
    rw [hv, hc]; rfl
  · obtain ⟨vs, -, -, -, rfl⟩ := gx_wr_e hv
    simp
theorem gv_bast {x : Option Nat} {i : Int32} {v : Int32} {h1 : gx_H} (hi : gx_I j pc = some .bastore) (hv : gv_wZ h x i v = some h1) (hc : pc + 1 = pc') (K : gv_V xs D j pc' E st h1 o h') : gv_V xs D j pc E (.int v :: .int i :: gv_u x :: st) h o h' := by
  unfold gv_wZ at hv
  obtain ⟨a, hxa, hv1⟩ := Option.bind_eq_some_iff.mp hv
  clear hv
  subst hxa
  have hv := hv1
  refine gv_W hi (fun _ => rfl) (fun _ => rfl) ?_ ?_ K
  · show (gx_wr h a 102 i (.int (v &&& 1))).map _ = _
    rw [hv, hc]; rfl
  · obtain ⟨vs, -, -, -, rfl⟩ := gx_wr_e hv
    simp
theorem gv_acp {idx : Nat} {x y : Option Nat} {sp dp n : Int32} {h1 : gx_H} (hi : gx_I j pc = some (.invokestatic idx)) (ha : gx_ac (gx_mo j) idx = true) (hr : Nat.ble st.length 4 = true) (hv : gv_cp h x sp y dp n = some h1) (hc : pc + 3 = pc') (K : gv_V xs D j pc' E st h1 o h') : gv_V xs D j pc E (.int n :: .int dp :: gv_u y :: .int sp :: gv_u x :: st) h o h' := by
  unfold gv_cp at hv
  obtain ⟨a0, hx0, hv1⟩ := Option.bind_eq_some_iff.mp hv
  obtain ⟨a, hx1, hv2⟩ := Option.bind_eq_some_iff.mp hv1
  obtain ⟨vs, q1, hv3⟩ := Option.bind_eq_some_iff.mp hv2
  obtain ⟨ws, q2, hv4⟩ := Option.bind_eq_some_iff.mp hv3
  clear hv hv1 hv2 hv3
  subst hx0
  subst hx1
  split at hv4
  · rename_i hcnd
    cases hv4
    refine gv_B hi (fun _ => rfl) (fun _ => rfl) rfl rfl rfl rfl ?_ (by simp) K
    show (gx_ob h a0 100).bind _ = _
    rw [q1]
    show (gx_ob h a 100).bind _ = _
    rw [q2]
    show (if _ then _ else _) = _
    rw [if_pos ⟨ha, gv_sum st hr, hcnd⟩, hc]
  · cases hv4
theorem gv_retV (hi : gx_I j pc = some .return_) (hr : gx_rt j = none) : gv_V xs D j pc E [] h (.returned none) h := gv_E hi (fun _ => rfl) (fun _ => rfl) rfl rfl rfl (by show (if _ then _ else _) = _; rw [if_pos hr])
theorem gv_retI {v : Int32} (hi : gx_I j pc = some .ireturn) (hr : gx_rt j = some .int) : gv_V xs D j pc E [.int v] h (.returned (some (.int v))) h := gv_E hi (fun _ => rfl) (fun _ => rfl) rfl rfl rfl (by show (match gx_rt j with | some ty => if narrow ty (Value.int v) = Value.int v then some (some (Value.int v)) else none | none => none) = _; rw [hr]; exact if_pos rfl)
theorem gv_retZ {v : Int32} (hi : gx_I j pc = some .ireturn) (hr : gx_rt j = some .boolean) (hz : v = 0 ∨ v = 1) : gv_V xs D j pc E [.int v] h (.returned (some (.int v))) h := gv_E hi (fun _ => rfl) (fun _ => rfl) rfl rfl rfl (by show (match gx_rt j with | some ty => if narrow ty (Value.int v) = Value.int v then some (some (Value.int v)) else none | none => none) = _; rw [hr]; show (if _ then _ else _) = _; rw [if_pos (gv_nz hz)])
theorem gv_retJ {v : Int64} (hi : gx_I j pc = some .lreturn) (hr : gx_rt j = some .long) : gv_V xs D j pc E [.long v] h (.returned (some (.long v))) h := gv_E hi (fun _ => rfl) (fun _ => rfl) rfl rfl rfl (by show (if _ then _ else _) = _; rw [if_pos hr])
theorem gv_retR {v : Option Nat} (hi : gx_I j pc = some .areturn) (hr : gx_rr (gx_rt j) = true) : gv_V xs D j pc E [gv_u v] h (.returned (some (gv_u v))) h := gv_E hi (fun _ => rfl) (fun _ => rfl) rfl rfl rfl (by show (if _ then _ else _) = _; rw [if_pos ⟨gv_u_ref v, hr⟩])
theorem gv_thr {idx t : Nat} (hi : gx_I j pc = some (.new idx)) (hn : gx_ct (gx_mo j) idx = none) (ht : gx_th j pc (.new idx) [] = some t) : gv_V xs D j pc E [] h (.threw h.length) (h ++ [(t, [])]) := gv_th hi (fun _ => rfl) (fun _ => rfl) rfl (by show (gx_ct _ _).bind _ = _; rw [hn]; rfl) rfl rfl rfl ht
/-! calls -/
theorem gv_acN {o' idx : Nat} {st : List Value} (hb : gx_ac o' idx = false) : gx_bi o' h (.invokestatic idx) pc st = none := by
  unfold gx_bi
  dsimp only
  split
  · cases gx_ob h _ 100 with
    | none => rfl
    | some vs =>
      show Option.bind _ _ = _
      cases gx_ob h _ 100 with
      | none => rfl
      | some ws => show (if _ then _ else _) = _; rw [if_neg (fun q => by rw [hb] at q; cases q.1)]
  · rfl
theorem gv_csN {idx jc n : Nat} {A rest : List Value} {b : Bool} (hm : gx_mt (gx_mo j) idx = some (jc, b)) (hk : gx_kd jc = 0) (hn : gx_np jc = n) (hl : Nat.ble n st.length = true) (hA : (st.take n).reverse = A) (hR : st.drop n = rest) : gx_c (gx_mo j) h (.invokestatic idx) st = some (jc, A, rest) := by
  show (gx_mt _ _).bind _ = _
  rw [hm]
  show (if _ then _ else _) = _
  rw [if_pos ⟨hk, by rw [hn]; exact Nat.le_of_ble_eq_true hl⟩, hn, hA, hR]
theorem gv_cvN {idx jc n c a : Nat} {A rest : List Value} {b : Bool} (hm : gx_mt (gx_mo j) idx = some (jc, b)) (hk : gx_kd jc = 1) (hn : gx_np jc = n) (hcl : gx_rc jc = c) (hl : Nat.ble n st.length = true) (hA : (st.take n).reverse = A) (hR : st.drop n = gv_u (some a) :: rest) (hv : gv_is h (some a) c = some a) : gx_c (gx_mo j) h (.invokevirtual idx) st = some (jc, gv_u (some a) :: A, rest) := by
  show (gx_mt _ _).bind _ = _
  rw [hm]
  show (if _ then _ else _) = _
  rw [if_pos ⟨hk, by rw [hn]; exact Nat.le_of_ble_eq_true hl⟩, hn, hA, hR]
  unfold gv_is at hv
  show (gx_ob h a (gx_rc jc)).map _ = _
  rw [hcl]
  obtain ⟨fs, h1, -⟩ := Option.map_eq_some_iff.mp (show (gx_ob h a c).map _ = _ from hv)
  rw [h1]
  rfl
theorem gv_catE {o' : Nat} {x : Nat} {w : gx_C} (hw : h[x]? = some w) : ∀ (l : List (Nat × Nat × Nat × Nat)) (seen : Bool), gx_catL o' pc h x l seen = gv_cT o' pc w.1 l seen := by
  intro l
  induction l with
  | nil => intro seen; rfl
  | cons q l ih =>
    intro seen
    rw [gx_catL, gv_cT, ih, ih]
    split
    · rw [hw]
      rfl
    · rfl
theorem gv_catT {x t : Nat} {w : gx_C} (hw : h[x]? = some w) (ht : w.1 = t) (hc : gv_cT (gx_mo j) pc t (gx_hd j) false = some (some pc')) : gx_cat j pc h x = some (some pc') := by
  unfold gx_cat
  rw [gv_catE hw, ht]
  exact hc
theorem gv_isx {x : Option Nat} {c a : Nat} (hv : gv_is h x c = some a) : x = some a ∧ gv_is h (some a) c = some a := by
  unfold gv_is at hv
  obtain ⟨a', rfl, hv⟩ := Option.bind_eq_some_iff.mp hv
  obtain ⟨fs, h1, rfl⟩ := Option.map_eq_some_iff.mp hv
  exact ⟨rfl, hv⟩
theorem gv_sS {idx jc n Dc sz : Nat} {A rest : List Value} {b : Bool} {Ec : gx_L} {v : Option Value} {h1 : gx_H} (hi : gx_I j pc = some (.invokestatic idx)) (hm : gx_mt (gx_mo j) idx = some (jc, b)) (hb : gx_ac (gx_mo j) idx = false) (hk : gx_kd jc = 0) (hn : gx_np jc = n) (hl : Nat.ble n st.length = true) (hA : (st.take n).reverse = A) (hR : st.drop n = rest) (hr : Nat.ble rest.length 4 = true) (hz : gv_z A sz) (hz2 : Nat.ble sz (gx_nl jc) = true) (ha : gv_a 0 A Ec) (hD : Dc + 1 ≤ D) (C : gv_V xs Dc jc 0 Ec [] h (.returned v) h1) {stk : List Value} (hs : v.toList ++ rest = stk) (hc : pc + 3 = pc') (K : gv_V xs D j pc' E stk h1 o h') : gv_V xs D j pc E st h o h' :=
  gv_call hi (fun _ => rfl) (fun _ => rfl) rfl rfl rfl rfl (gv_acN hb) rfl (gv_csN hm hk hn hl hA hR) hr hz hz2 ha hD C (by rw [hc, hs]; exact K)
theorem gv_vS {idx jc n c a Dc sz : Nat} {A rest : List Value} {b : Bool} {x : Option Nat} {Ec : gx_L} {v : Option Value} {h1 : gx_H} (hi : gx_I j pc = some (.invokevirtual idx)) (hm : gx_mt (gx_mo j) idx = some (jc, b)) (hk : gx_kd jc = 1) (hn : gx_np jc = n) (hcl : gx_rc jc = c) (hl : Nat.ble n st.length = true) (hA : (st.take n).reverse = A) (hR : st.drop n = gv_u x :: rest) (hr : Nat.ble rest.length 4 = true) (hz : gv_z (gv_u x :: A) sz) (hz2 : Nat.ble sz (gx_nl jc) = true) (ha : gv_a 0 (gv_u x :: A) Ec) (hD : Dc + 1 ≤ D) (hv : gv_is h x c = some a) (C : gv_V xs Dc jc 0 Ec [] h (.returned v) h1) {stk : List Value} (hs : v.toList ++ rest = stk) (hc : pc + 3 = pc') (K : gv_V xs D j pc' E stk h1 o h') : gv_V xs D j pc E st h o h' := by
  obtain ⟨rfl, hv2⟩ := gv_isx hv
  exact gv_call hi (fun _ => rfl) (fun _ => rfl) rfl rfl rfl rfl rfl rfl (gv_cvN hm hk hn hcl hl hA hR hv2) hr hz hz2 ha hD C (by rw [hc, hs]; exact K)
theorem gv_sX {idx jc n Dc sz : Nat} {A rest : List Value} {b : Bool} {Ec : gx_L} {x0 : Nat} {h1 : gx_H} (hi : gx_I j pc = some (.invokestatic idx)) (hm : gx_mt (gx_mo j) idx = some (jc, b)) (hb : gx_ac (gx_mo j) idx = false) (hk : gx_kd jc = 0) (hn : gx_np jc = n) (hl : Nat.ble n st.length = true) (hA : (st.take n).reverse = A) (hR : st.drop n = rest) (hr : Nat.ble rest.length 4 = true) (hz : gv_z A sz) (hz2 : Nat.ble sz (gx_nl jc) = true) (ha : gv_a 0 A Ec) (hD : Dc + 1 ≤ D) (C : gv_V xs Dc jc 0 Ec [] h (.threw x0) h1) (hx : gx_hd j = []) : gv_V xs D j pc E st h (.threw x0) h1 :=
  gv_callX hi (fun _ => rfl) (fun _ => rfl) rfl rfl rfl rfl (gv_acN hb) rfl (gv_csN hm hk hn hl hA hR) hr hz hz2 ha hD C hx
theorem gv_vX {idx jc n c a Dc sz : Nat} {A rest : List Value} {b : Bool} {x : Option Nat} {Ec : gx_L} {x0 : Nat} {h1 : gx_H} (hi : gx_I j pc = some (.invokevirtual idx)) (hm : gx_mt (gx_mo j) idx = some (jc, b)) (hk : gx_kd jc = 1) (hn : gx_np jc = n) (hcl : gx_rc jc = c) (hl : Nat.ble n st.length = true) (hA : (st.take n).reverse = A) (hR : st.drop n = gv_u x :: rest) (hr : Nat.ble rest.length 4 = true) (hz : gv_z (gv_u x :: A) sz) (hz2 : Nat.ble sz (gx_nl jc) = true) (ha : gv_a 0 (gv_u x :: A) Ec) (hD : Dc + 1 ≤ D) (hv : gv_is h x c = some a) (C : gv_V xs Dc jc 0 Ec [] h (.threw x0) h1) (hx : gx_hd j = []) : gv_V xs D j pc E st h (.threw x0) h1 := by
  obtain ⟨rfl, hv2⟩ := gv_isx hv
  exact gv_callX hi (fun _ => rfl) (fun _ => rfl) rfl rfl rfl rfl rfl rfl (gv_cvN hm hk hn hcl hl hA hR hv2) hr hz hz2 ha hD C hx
theorem gv_sC {idx jc n Dc sz : Nat} {A rest : List Value} {b : Bool} {Ec : gx_L} {x0 : Nat} {h1 : gx_H} (hi : gx_I j pc = some (.invokestatic idx)) (hm : gx_mt (gx_mo j) idx = some (jc, b)) (hb : gx_ac (gx_mo j) idx = false) (hk : gx_kd jc = 0) (hn : gx_np jc = n) (hl : Nat.ble n st.length = true) (hA : (st.take n).reverse = A) (hR : st.drop n = rest) (hr : Nat.ble rest.length 4 = true) (hz : gv_z A sz) (hz2 : Nat.ble sz (gx_nl jc) = true) (ha : gv_a 0 A Ec) (hD : Dc + 1 ≤ D) (C : gv_V xs Dc jc 0 Ec [] h (.threw x0) h1) (hx : gx_cat j pc h1 x0 = some (some pc')) (K : gv_V xs D j pc' E [gv_u (some x0)] h1 o h') : gv_V xs D j pc E st h o h' :=
  gv_callC hi (fun _ => rfl) (fun _ => rfl) rfl rfl rfl rfl (gv_acN hb) rfl (gv_csN hm hk hn hl hA hR) hr hz hz2 ha hD C hx K
theorem gv_vC {idx jc n c a Dc sz : Nat} {A rest : List Value} {b : Bool} {x : Option Nat} {Ec : gx_L} {x0 : Nat} {h1 : gx_H} (hi : gx_I j pc = some (.invokevirtual idx)) (hm : gx_mt (gx_mo j) idx = some (jc, b)) (hk : gx_kd jc = 1) (hn : gx_np jc = n) (hcl : gx_rc jc = c) (hl : Nat.ble n st.length = true) (hA : (st.take n).reverse = A) (hR : st.drop n = gv_u x :: rest) (hr : Nat.ble rest.length 4 = true) (hz : gv_z (gv_u x :: A) sz) (hz2 : Nat.ble sz (gx_nl jc) = true) (ha : gv_a 0 (gv_u x :: A) Ec) (hD : Dc + 1 ≤ D) (hv : gv_is h x c = some a) (C : gv_V xs Dc jc 0 Ec [] h (.threw x0) h1) (hx : gx_cat j pc h1 x0 = some (some pc')) (K : gv_V xs D j pc' E [gv_u (some x0)] h1 o h') : gv_V xs D j pc E st h o h' := by
  obtain ⟨rfl, hv2⟩ := gv_isx hv
  exact gv_callC hi (fun _ => rfl) (fun _ => rfl) rfl rfl rfl rfl rfl rfl (gv_cvN hm hk hn hcl hl hA hR hv2) hr hz hz2 ha hD C hx K
end GV
theorem gv_eqT {x : Int32} (c : x = 0) : gx_c1 .eq x = true := decide_eq_true (c)
theorem gv_eqF {x : Int32} (c : ¬ x = 0) : gx_c1 .eq x = false := decide_eq_false (c)
theorem gv_neT {x : Int32} (c : ¬ x = 0) : gx_c1 .ne x = true := decide_eq_true (c)
theorem gv_neF {x : Int32} (c : x = 0) : gx_c1 .ne x = false := decide_eq_false (fun q => q c)
theorem gv_ltT {x : Int32} (c : x < 0) : gx_c1 .lt x = true := decide_eq_true (c)
theorem gv_ltF {x : Int32} (c : ¬ x < 0) : gx_c1 .lt x = false := decide_eq_false (c)
theorem gv_geT {x : Int32} (c : ¬ x < 0) : gx_c1 .ge x = true := decide_eq_true (Int32.not_lt.mp c)
theorem gv_geF {x : Int32} (c : x < 0) : gx_c1 .ge x = false := decide_eq_false (Int32.not_le.mpr c)
theorem gv_gtT {x : Int32} (c : 0 < x) : gx_c1 .gt x = true := decide_eq_true (c)
theorem gv_gtF {x : Int32} (c : ¬ 0 < x) : gx_c1 .gt x = false := decide_eq_false (c)
theorem gv_leT {x : Int32} (c : ¬ 0 < x) : gx_c1 .le x = true := decide_eq_true (Int32.not_lt.mp c)
theorem gv_leF {x : Int32} (c : 0 < x) : gx_c1 .le x = false := decide_eq_false (Int32.not_le.mpr c)
theorem gv_eqT2 {x y : Int32} (c : x = y) : gx_c2 .eq x y = true := decide_eq_true (c)
theorem gv_eqF2 {x y : Int32} (c : ¬ x = y) : gx_c2 .eq x y = false := decide_eq_false (c)
theorem gv_neT2 {x y : Int32} (c : ¬ x = y) : gx_c2 .ne x y = true := decide_eq_true (c)
theorem gv_neF2 {x y : Int32} (c : x = y) : gx_c2 .ne x y = false := decide_eq_false (fun q => q c)
theorem gv_ltT2 {x y : Int32} (c : x < y) : gx_c2 .lt x y = true := decide_eq_true (c)
theorem gv_ltF2 {x y : Int32} (c : ¬ x < y) : gx_c2 .lt x y = false := decide_eq_false (c)
theorem gv_geT2 {x y : Int32} (c : ¬ x < y) : gx_c2 .ge x y = true := decide_eq_true (Int32.not_lt.mp c)
theorem gv_geF2 {x y : Int32} (c : x < y) : gx_c2 .ge x y = false := decide_eq_false (Int32.not_le.mpr c)
theorem gv_gtT2 {x y : Int32} (c : y < x) : gx_c2 .gt x y = true := decide_eq_true (c)
theorem gv_gtF2 {x y : Int32} (c : ¬ y < x) : gx_c2 .gt x y = false := decide_eq_false (c)
theorem gv_leT2 {x y : Int32} (c : ¬ y < x) : gx_c2 .le x y = true := decide_eq_true (Int32.not_lt.mp c)
theorem gv_leF2 {x y : Int32} (c : y < x) : gx_c2 .le x y = false := decide_eq_false (Int32.not_le.mpr c)
theorem gv_lg0 {x y : Int64} : lg_cmp x y = 0 ↔ x = y := by
  unfold lg_cmp
  by_cases c : x > y
  · rw [if_pos c]
    have := Int64.lt_iff_toInt_lt.mp c
    exact ⟨fun q => absurd q (by decide), fun q => by rw [q] at this; omega⟩
  · rw [if_neg c]
    by_cases c2 : x = y
    · rw [if_pos c2]; exact ⟨fun _ => c2, fun _ => rfl⟩
    · rw [if_neg c2]; exact ⟨fun q => absurd q (by decide), fun q => absurd q c2⟩
theorem gv_lgl {x y : Int64} : lg_cmp x y < 0 ↔ x < y := by
  unfold lg_cmp
  rw [Int64.lt_iff_toInt_lt]
  by_cases c : x > y
  · rw [if_pos c]
    have := Int64.lt_iff_toInt_lt.mp c
    exact ⟨fun q => absurd q (by decide), fun q => by omega⟩
  · rw [if_neg c]
    by_cases c2 : x = y
    · rw [if_pos c2]; exact ⟨fun q => absurd q (by decide), fun q => by rw [c2] at q; omega⟩
    · rw [if_neg c2]
      have c3 : ¬ y.toInt < x.toInt := fun q => c (Int64.lt_iff_toInt_lt.mpr q)
      have c4 : ¬ x.toInt = y.toInt := fun q => c2 (Int64.toInt_inj.mp q)
      exact ⟨fun _ => by omega, fun _ => by decide⟩
theorem gv_lgg {x y : Int64} : 0 < lg_cmp x y ↔ y < x := by
  unfold lg_cmp
  by_cases c : x > y
  · rw [if_pos c]
    exact ⟨fun _ => c, fun _ => by decide⟩
  · rw [if_neg c]
    refine ⟨fun q => ?_, fun q => absurd q c⟩
    by_cases c2 : x = y
    · rw [if_pos c2] at q; exact absurd q (by decide)
    · rw [if_neg c2] at q; exact absurd q (by decide)
theorem gv_eqTL {x y : Int64} (c : x = y) : gx_c1 .eq (lg_cmp x y) = true := gv_eqT (by rw [gv_lg0]; exact c)
theorem gv_eqFL {x y : Int64} (c : ¬ x = y) : gx_c1 .eq (lg_cmp x y) = false := gv_eqF (by rw [gv_lg0]; exact c)
theorem gv_neTL {x y : Int64} (c : ¬ x = y) : gx_c1 .ne (lg_cmp x y) = true := gv_neT (by rw [gv_lg0]; exact c)
theorem gv_neFL {x y : Int64} (c : x = y) : gx_c1 .ne (lg_cmp x y) = false := gv_neF (by rw [gv_lg0]; exact c)
theorem gv_ltTL {x y : Int64} (c : x < y) : gx_c1 .lt (lg_cmp x y) = true := gv_ltT (by rw [gv_lgl]; exact c)
theorem gv_ltFL {x y : Int64} (c : ¬ x < y) : gx_c1 .lt (lg_cmp x y) = false := gv_ltF (by rw [gv_lgl]; exact c)
theorem gv_geTL {x y : Int64} (c : ¬ x < y) : gx_c1 .ge (lg_cmp x y) = true := gv_geT (by rw [gv_lgl]; exact c)
theorem gv_geFL {x y : Int64} (c : x < y) : gx_c1 .ge (lg_cmp x y) = false := gv_geF (by rw [gv_lgl]; exact c)
theorem gv_gtTL {x y : Int64} (c : y < x) : gx_c1 .gt (lg_cmp x y) = true := gv_gtT (by rw [gv_lgg]; exact c)
theorem gv_gtFL {x y : Int64} (c : ¬ y < x) : gx_c1 .gt (lg_cmp x y) = false := gv_gtF (by rw [gv_lgg]; exact c)
theorem gv_leTL {x y : Int64} (c : ¬ y < x) : gx_c1 .le (lg_cmp x y) = true := gv_leT (by rw [gv_lgg]; exact c)
theorem gv_leFL {x y : Int64} (c : y < x) : gx_c1 .le (lg_cmp x y) = false := gv_leF (by rw [gv_lgg]; exact c)
/-- a switch's default -/
def gv_N (x : Int32) (ks : List Int32) : Prop := ∀ k ∈ ks, ¬ x = k
theorem gv_N0 {x : Int32} : gv_N x [] := fun k hk => by cases hk
theorem gv_N1 {x k : Int32} {ks : List Int32} (c : ¬ x = k) (h : gv_N x ks) : gv_N x (k :: ks) := fun k' hk => by
  cases hk with
  | head => exact c
  | tail _ hk => exact h k' hk
theorem gv_tabd {d lo hi : Int} {offs : Array Int} {x : Int32} {ks : List Int32} (hN : gv_N x ks) (hall : ((List.range (hi - lo + 1).toNat).all fun i => decide (offs[i]? = some d) || decide (Int32.ofInt (lo + i) ∈ ks)) = true) : gx_tab d lo hi offs x = some d := by
  unfold gx_tab
  split
  · rfl
  · split
    · rfl
    · rename_i c1 c2
      have h1 := List.all_eq_true.mp hall (x.toInt - lo).toNat (List.mem_range.mpr (by omega))
      rcases (Bool.or_eq_true _ _).mp h1 with h2 | h2
      · exact of_decide_eq_true h2
      · exfalso
        have h2 := of_decide_eq_true h2
        have h3 : lo + ((x.toInt - lo).toNat : Int) = x.toInt := by omega
        rw [h3, Int32.ofInt_toInt] at h2
        exact hN _ h2 rfl
theorem gv_bind {α β : Type} {x : Option α} {f : α → Option β} {r : β} (e : x.bind f = some r) : ∃ v, x = some v ∧ f v = some r := Option.bind_eq_some_iff.mp e
