/-! what is written -/
def gx_fok (ini : Bool) (o ci k : Nat) (v : Value) : Bool := match gx_cl[ci]? with
  | some r => decide (narrow (gx_fty ci k) v = v) && (fits (gx_fty ci k) v && (!gx_fl v && (!(r.2.1 k).2.2.2 || (ini && decide ((r.2.1 k).1 = gx_o o)))))
  | none => false
def gx_wr (h : gx_H) (a t : Nat) (i : Int32) (v : Value) : Option gx_H := match h[a]? with
  | some q => if q.1 = t ∧ ¬ i < 0 ∧ i.toNatClampNeg < q.2.length then some (h.set a (t, q.2.set i.toNatClampNeg v)) else none
  | none => none
theorem gx_wr_e {h h' : gx_H} {a t : Nat} {i : Int32} {v : Value} (e : gx_wr h a t i v = some h') : ∃ vs, h[a]? = some (t, vs) ∧ ¬ i < 0 ∧ i.toNatClampNeg < vs.length ∧ h' = h.set a (t, vs.set i.toNatClampNeg v) := by
  unfold gx_wr at e
  split at e
  · rename_i q hq
    obtain ⟨t', vs⟩ := q
    split at e
    · rename_i cnd
      obtain ⟨c1, c2, c3⟩ := cnd
      cases c1
      cases e
      exact ⟨vs, hq, c2, c3, rfl⟩
    · cases e
  · cases e
abbrev gx_S : Type := Option (Nat × List Value × gx_H)
def gx_w (o : Nat) (ini : Bool) (h : gx_H) (ins : Instr) (pc : Nat) (st : List Value) : gx_S := match ins with
  | .putfield idx => match st with
    | v :: .ref a :: r => (gx_F o idx).bind fun f => (gx_ob h a f.1).bind fun fs => if gx_fok ini o f.1 f.2 v = true ∧ f.2 < fs.length then some (pc + 3, r, h.set a (f.1, fs.set f.2 v)) else none
    | _ => none
  | .iastore => match st with
    | .int x :: .int i :: .ref a :: r => (gx_wr h a 100 i (.int x)).map fun h' => (pc + 1, r, h')
    | _ => none
  | .lastore => match st with
    | .long x :: .int i :: .ref a :: r => (gx_wr h a 101 i (.long x)).map fun h' => (pc + 1, r, h')
    | _ => none
  | .bastore => match st with
    | .int x :: .int i :: .ref a :: r => (gx_wr h a 102 i (.int (x &&& 1))).map fun h' => (pc + 1, r, h')
    | _ => none
  | .aastore => match st with
    | .ref v :: .int i :: .ref a :: r => (gx_ob h v gx_ei).bind fun _ => (gx_wr h a 103 i (.ref v)).map fun h' => (pc + 1, r, h')
    | _ => none
  | _ => none
theorem gx_v_narrow {ty : FieldType} {ba b : Nat} {v : Value} (h : narrow ty v = v) (hf : gx_fl v = false) : narrow ty (gx_v ba b v) = gx_v ba b v := by
  cases v with
  | ref a => cases ty <;> rfl
  | float a => cases hf
  | _ => exact h
theorem gx_v_fits {ty : FieldType} {ba b : Nat} {v : Value} (h : fits ty v = true) (hf : gx_fl v = false) : fits ty (gx_v ba b v) = true := by
  cases v with
  | ref a => cases ty <;> first | rfl | exact h
  | float a => cases hf
  | _ => exact h
theorem gx_setSlot {ba b : Nat} {vs : List Value} {cell : Cell} (h : cell.slots = (gx_t ba b vs).toArray) (i : Nat) (v : Value) : (cell.setSlot i (gx_v ba b v)).slots = (gx_t ba b (vs.set i v)).toArray := by
  simp [Cell.setSlot, h, gx_t, List.map_set]
theorem gx_arrAt {D : va_G} {aC : Nat → ClassId} {ba b a t i : Nat} {vs : List Value} {v : Value} {cell : Cell} {H1 : Heap} (e1 : H1[a]? = some (cell.setSlot i (gx_v ba b v))) (q2 : cell.cls = aC t) (q3 : cell.vm = .none) (q4 : cell.slots = (gx_t ba b vs).toArray) : gx_at D aC ba b a (100 + t, vs.set i v) H1 := by
  unfold gx_at
  rw [if_neg (show ¬ (100 + t) < 100 by omega)]
  exact ⟨_, e1, by show cell.cls = _; rw [q2]; congr 1; show t = 100 + t - 100; omega, q3, gx_setSlot q4 i v⟩
section GXW
variable {p : Program} {l : Launch} {e : Env} {R : Room} {s : State} {m : MethodId} {args : Array Value} {below : List Frame} {meth : Method} {c : Code} {H : Heap} {locs : List Loc} {cells slots : Nat} {Q : State → Prop}
variable {cc : ByteArray} {ls : Array Slot} {D : va_G} {aC : Nat → ClassId} {ba b : Nat} {h0 : gx_H}
theorem gx_ne {q ba a : Nat} (h : q < ba) : q ≠ ba + a := by omega
theorem gx_lo1 {ba a i : Nat} {locs : List Loc} (h : ∀ q ∈ locs, ba ≤ q.base) : ∀ q ∈ locs ++ [(⟨ba + a, i⟩ : Loc)], ba ≤ q.base := by
  intro q hq
  rcases List.mem_append.mp hq with g | g
  · exact h q g
  · rw [List.mem_singleton] at g
    subst g
    exact Nat.le_add_right _ _
set_option maxHeartbeats 4000000 in
theorem gx_wW (hx : p.tables.exec = Jvm.exec) (hb : c.code = cc) {o : Nat} {ini : Bool} (hini : ini = true → meth.name = "<init>") (hown : s.vm.findClass (gx_o o) = some m.cls) (hw : ∀ w ∈ gx_words, w.before args s = true) (hK : gx_KN s D) (hA : gx_AK s aC) (hr : gx_rel D aC ba b h0 H) (hlo : ∀ q ∈ locs, ba ≤ q.base)
    {ins : Instr} {pc pc' : Nat} {st st' : List Value} {h1 : gx_H} (hd : ∃ len, decode cc pc = .ok (ins, len) ∧ gx_lok ins len = true) (h : gx_w o ini h0 ins pc st = some (pc', st', h1))
    (kk : ∀ (H1 : Heap) (locs1 : List Loc), gx_rel D aC ba b h1 H1 → (∀ q ∈ locs1, ba ≤ q.base) → (∀ q, q < ba → H1[q]? = H[q]?) → W p l e R s m args below meth c H1 locs1 cells slots Q (F0 m pc' ls (gx_t ba b st'))) :
    W p l e R s m args below meth c H locs cells slots Q (F0 m pc ls (gx_t ba b st)) := by
  obtain ⟨len, hd, hlen⟩ := hd
  cases ins with
  | putfield idx =>
    have e1 : len = 3 := by simpa [gx_lok, gx_len] using hlen
    subst e1
    simp only [gx_w] at h
    split at h
    · rename_i v a r
      obtain ⟨⟨ci, k⟩, h3, h4⟩ := Option.bind_eq_some_iff.mp h
      obtain ⟨fs, h6, h7⟩ := Option.bind_eq_some_iff.mp h4
      split at h7
      · rename_i hc
        obtain ⟨hf, hlf⟩ := hc
        cases h7
        have hob := gx_ob_e h6
        obtain ⟨r1, g1, g2, cell, q1, q2, q3, q4⟩ := (hr.2 _ _ hob).obj (gx_small h3)
        have hk : k < r1.2.2 := by rw [g2]; exact hlf
        unfold gx_fok at hf
        simp only [g1] at hf
        simp only [Bool.and_eq_true, Bool.or_eq_true, decide_eq_true_eq] at hf
        obtain ⟨f1, f2, f3, f4⟩ := hf
        have f3 : gx_fl v = false := by simpa using f3
        have n1 := gx_v_narrow (ba := ba) (b := b) f1 f3
        have n2 := gx_v_fits (ba := ba) (b := b) f2 f3
        have hty := gx_ftyok ci r1 g1
        have hap := va_apart (own := gx_o o) hw (gx_wC g1) (gx_fty ci) hty (gx_nm ci r1 g1) (tys := []) ⟨hK, fun k q hq => by cases hq⟩ g1
        obtain ⟨hS, hfc, kC, hkC, hkind⟩ := hK ci _ g1
        obtain ⟨cf, kf, fi, f, hi, hsl⟩ := hS k hk
        have hst := (u_facts hfc hkC (u_lays hw (gx_wC g1) hk) hi).1
        have hin : u_lay r1.1 r1.2.1 k ∈ gx_words := gx_wC g1 _ (u_in_lay hk)
        have hlay := hw _ hin
        have fin : ∀ H' : Heap, H'[ba + a]? = some (cell.setSlot (D.2 ci k) (gx_v ba b v)) → H'.size = H.size → (∀ q, q ≠ ba + a → H'[q]? = H[q]?) → gx_rel D aC ba b (h0.set a (ci, fs.set k v)) H' := by
          intro H' e1 e2 e3
          refine hr.set e2 e3 ?_
          unfold gx_at
          rw [if_pos (gx_small h3)]
          refine ⟨r1, g1, by rw [g2]; simp, t_OB.to (V := updV (fun k => gx_v ba b (vp_V fs k)) k (gx_v ba b v)) ⟨_, e1, q2, q3, t_set q4 hap hk _⟩ (fun j _ => ?_)⟩
          by_cases hj : j = k
          · subst hj
            simp [updV, vp_V, hlf]
          · simp [updV, vp_V, hj, List.getD_eq_getElem?_getD, List.getElem?_set_ne (Ne.symm hj)]
        by_cases hfin : (r1.2.1 k).2.2.2 = true
        · have f5 : ini = true ∧ (r1.2.1 k).1 = gx_o o := by
            rcases f4 with q | q
            · rw [hfin] at q; cases q
            · exact q
          unfold u_lay at hlay
          rw [if_pos hfin] at hlay
          have hcf : m.cls = cf := by
            obtain ⟨_, _, c', _, _, _, -, -, hf', -, -, -, hown2, -⟩ := Cond.laysFinal_spec hlay
            have e1 : c' = cf := by have := hi.symm.trans hf'; simp at this; exact this.1.symm
            rw [f5.2] at hown2
            rw [← e1]; exact Option.some.inj (hown.symm.trans hown2)
          have h6 := u_fits hfc hkC hkind (Or.inr hlay) hi (hty k hk) n1 n2
          refine W.putFinK hx hb hown (hw _ (gx_F_w h3 g1)) hi hst hcf (hini f5.1) (by rw [q2]; exact h6) q1 q3 (by rw [hsl]; exact k2_hasslot (q4 k hk)) rfl rfl hd fun H' e1 e2 e3 => ?_
          rw [hsl] at e1 ⊢
          exact kk H' _ (fin H' e1 e2 e3) (gx_lo1 hlo) (fun q hq => e3 q (gx_ne hq))
        · have hfin : (r1.2.1 k).2.2.2 = false := by simpa using hfin
          unfold u_lay at hlay
          rw [if_neg (by rw [hfin]; decide)] at hlay
          have h6 := u_store hfc hkC hkind hlay hi (hty k hk) n1 n2
          refine W.putK hx hb (f := f) ⟨hown, hw _ (gx_F_w h3 g1), ⟨_, _, _, hi⟩, hst⟩ (by rw [q2]; exact h6) q1 q3 (by rw [hsl]; exact k2_hasslot (q4 k hk)) rfl rfl hd fun H' e1 e2 e3 => ?_
          rw [hsl] at e1 ⊢
          exact kk H' _ (fin H' e1 e2 e3) (gx_lo1 hlo) (fun q hq => e3 q (gx_ne hq))
      · cases h7
    · cases h
  | iastore =>
    have e1 : len = 1 := by simpa [gx_lok, gx_len] using hlen
    subst e1
    simp only [gx_w] at h
    split at h
    · obtain ⟨h2, h3, h4⟩ := Option.map_eq_some_iff.mp h
      cases h4
      obtain ⟨vs, g1, g2, g3, rfl⟩ := gx_wr_e h3
      obtain ⟨cell, q1, q2, q3, q4⟩ := (hr.2 _ _ g1).arr (t := 0)
      refine W.iast hx hb q1 (gx_arrOf hA (t := 0) (by decide) q2 q3) (gx_known q3) (gx_inb g2 g3 (gx_size q4)) rfl rfl hd fun H' e1 e2 e3 => ?_
      exact kk H' _ (hr.set e2 e3 (gx_arrAt (v := .int _) e1 q2 q3 q4)) (gx_lo1 hlo) (fun q hq => e3 q (gx_ne hq))
    · cases h
  | lastore =>
    have e1 : len = 1 := by simpa [gx_lok, gx_len] using hlen
    subst e1
    simp only [gx_w] at h
    split at h
    · obtain ⟨h2, h3, h4⟩ := Option.map_eq_some_iff.mp h
      cases h4
      obtain ⟨vs, g1, g2, g3, rfl⟩ := gx_wr_e h3
      obtain ⟨cell, q1, q2, q3, q4⟩ := (hr.2 _ _ g1).arr (t := 1)
      refine W.last hx hb q1 (gx_arrOf hA (t := 1) (by decide) q2 q3) (gx_known q3) (gx_inb g2 g3 (gx_size q4)) rfl rfl hd fun H' e1 e2 e3 => ?_
      exact kk H' _ (hr.set e2 e3 (gx_arrAt (v := .long _) e1 q2 q3 q4)) (gx_lo1 hlo) (fun q hq => e3 q (gx_ne hq))
    · cases h
  | bastore =>
    have e1 : len = 1 := by simpa [gx_lok, gx_len] using hlen
    subst e1
    simp only [gx_w] at h
    split at h
    · obtain ⟨h2, h3, h4⟩ := Option.map_eq_some_iff.mp h
      cases h4
      obtain ⟨vs, g1, g2, g3, rfl⟩ := gx_wr_e h3
      obtain ⟨cell, q1, q2, q3, q4⟩ := (hr.2 _ _ g1).arr (t := 2)
      refine W.zast hx hb q1 (gx_arrOf hA (t := 2) (by decide) q2 q3) (gx_known q3) (gx_inb g2 g3 (gx_size q4)) rfl rfl hd fun H' e1 e2 e3 => ?_
      exact kk H' _ (hr.set e2 e3 (gx_arrAt (v := .int _) e1 q2 q3 q4)) (gx_lo1 hlo) (fun q hq => e3 q (gx_ne hq))
    · cases h
  | aastore =>
    have e1 : len = 1 := by simpa [gx_lok, gx_len] using hlen
    subst e1
    simp only [gx_w] at h
    split at h
    · obtain ⟨fv, h5, h6⟩ := Option.bind_eq_some_iff.mp h
      obtain ⟨h2, h3, h4⟩ := Option.map_eq_some_iff.mp h6
      cases h4
      obtain ⟨vs, g1, g2, g3, rfl⟩ := gx_wr_e h3
      obtain ⟨cell, q1, q2, q3, q4⟩ := (hr.2 _ _ g1).arr (t := 3)
      obtain ⟨r1, w1, w2, cellV, v1, v2, v3, -⟩ := (hr.2 _ _ (gx_ob_e h5)).obj gx_ei_lt
      have hcls := (hK gx_ei r1 w1).2
      have hnm := gx_ei_nm w1
      obtain ⟨kA, comp, k1, k2, -, k3⟩ := hA 3 (by decide)
      have hcomp : comp = D.1 gx_ei := Option.some.inj ((k3 rfl).symm.trans (by rw [← hnm]; exact hcls.1))
      subst hcomp
      obtain ⟨kC, hkC, -⟩ := hcls.2
      refine W.aast hx hb q1 (fun q h => by rw [q3] at h; cases h) (gx_known q3) (by rw [q2]; exact k1) k2 rfl hkC ⟨g2, by rw [gx_size q4]; exact g3⟩ v1 (fun q h => by rw [v3] at h; cases h) (by rw [v2]; exact hkC) (by rw [v2]; exact va_assign hcls) rfl rfl hd fun H' e1 e2 e3 => ?_
      exact kk H' _ (hr.set e2 e3 (gx_arrAt (v := .ref _) e1 q2 q3 q4)) (gx_lo1 hlo) (fun q hq => e3 q (gx_ne hq))
    · cases h
  | _ => cases h
end GXW
