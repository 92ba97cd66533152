theorem gx_ki_w {o idx : Nat} {x : Int32} (h : gx_ki o idx = some x) : Jvm.Cond.constant (gx_o o) idx x ∈ gx_words := gx_wK (List.mem_map.mpr ⟨_, gx_find h, rfl⟩)
theorem gx_kl_w {o idx : Nat} {x : Int64} (h : gx_kl o idx = some x) : Jvm.Cond.constantLong (gx_o o) idx x ∈ gx_words := gx_wKL (List.mem_map.mpr ⟨_, gx_find h, rfl⟩)
section GXP
variable {p : Program} {l : Launch} {e : Env} {R : Room} {s : State} {m : MethodId} {args : Array Value} {below : List Frame} {meth : Method} {c : Code} {H : Heap} {locs : List Loc} {cells slots : Nat} {Q : State → Prop}
variable {cc : ByteArray} {ls : Array Slot}
set_option maxHeartbeats 4000000 in
theorem gx_pW (hx : p.tables.exec = Jvm.exec) (hb : c.code = cc) {o nL ba b : Nat} (hown : s.vm.findClass (gx_o o) = some m.cls) (hw : ∀ w ∈ gx_words, w.before args s = true)
    {ins : Instr} {pc pc' : Nat} {L L' : gx_L} {st st' : List Value} (hd : ∃ len, decode cc pc = .ok (ins, len) ∧ gx_lok ins len = true) (hl : lv_has ls nL (gx_l ba b L)) (h : gx_p o nL ins pc L st = some (pc', L', st'))
    (kk : ∀ ls' : Array Slot, lv_has ls' nL (gx_l ba b L') → W p l e R s m args below meth c H locs cells slots Q (F0 m pc' ls' (gx_t ba b st'))) :
    W p l e R s m args below meth c H locs cells slots Q (F0 m pc ls (gx_t ba b st)) := by
  obtain ⟨len, hd, hlen⟩ := hd
  cases ins with
  | aconst_null =>
    have e1 : len = 1 := by simpa [gx_lok, gx_len] using hlen
    subst e1
    cases h
    exact lv_null hx hb hd (kk _ hl)
  | iconst n =>
    have e1 : len = 1 := by simpa [gx_lok, gx_len] using hlen
    subst e1
    cases h
    exact lv_iconst hx hb hd rfl (kk _ hl)
  | bipush n =>
    have e1 : len = 2 := by simpa [gx_lok, gx_len] using hlen
    subst e1
    cases h
    exact lv_bipush hx hb hd rfl (kk _ hl)
  | sipush n =>
    have e1 : len = 3 := by simpa [gx_lok, gx_len] using hlen
    subst e1
    cases h
    exact lv_sipush hx hb hd rfl (kk _ hl)
  | lconst n =>
    have e1 : len = 1 := by simpa [gx_lok, gx_len] using hlen
    subst e1
    cases h
    exact lv_lconst hx hb hd rfl (kk _ hl)
  | ldc idx =>
    have e1 : len = 2 := by simpa [gx_lok, gx_len] using hlen
    subst e1
    simp only [gx_p] at h
    obtain ⟨x, h1, h2⟩ := Option.map_eq_some_iff.mp h
    cases h2
    exact lv_ldc hx hb hown (hw _ (gx_ki_w h1)) hd (kk _ hl)
  | ldc2_w idx =>
    have e1 : len = 3 := by simpa [gx_lok, gx_len] using hlen
    subst e1
    simp only [gx_p] at h
    obtain ⟨x, h1, h2⟩ := Option.map_eq_some_iff.mp h
    cases h2
    exact lv_ldc2 hx hb hown (hw _ (gx_kl_w h1)) hd (kk _ hl)
  | iload_n k =>
    have e1 : len = 1 := by simpa [gx_lok, gx_len] using hlen
    subst e1
    obtain ⟨x, h1, h2⟩ := Option.map_eq_some_iff.mp h
    obtain ⟨v, h3, h4⟩ := Option.bind_eq_some_iff.mp h1
    have h5 := gx_i1_e h4
    subst h5
    cases h2
    exact lv_iload_n hx hb hd rfl (gx_at_l hl h3) (kk _ hl)
  | iload i =>
    have e1 : len = 2 := by simpa [gx_lok, gx_len] using hlen
    subst e1
    obtain ⟨x, h1, h2⟩ := Option.map_eq_some_iff.mp h
    obtain ⟨v, h3, h4⟩ := Option.bind_eq_some_iff.mp h1
    have h5 := gx_i1_e h4
    subst h5
    cases h2
    exact lv_iload hx hb hd (gx_at_l hl h3) (kk _ hl)
  | lload_n k =>
    have e1 : len = 1 := by simpa [gx_lok, gx_len] using hlen
    subst e1
    obtain ⟨x, h1, h2⟩ := Option.map_eq_some_iff.mp h
    obtain ⟨v, h3, h4⟩ := Option.bind_eq_some_iff.mp h1
    have h5 := gx_l1_e h4
    subst h5
    cases h2
    exact lv_lload_n hx hb hd rfl (gx_at_l hl h3) (kk _ hl)
  | lload i =>
    have e1 : len = 2 := by simpa [gx_lok, gx_len] using hlen
    subst e1
    obtain ⟨x, h1, h2⟩ := Option.map_eq_some_iff.mp h
    obtain ⟨v, h3, h4⟩ := Option.bind_eq_some_iff.mp h1
    have h5 := gx_l1_e h4
    subst h5
    cases h2
    exact lv_lload hx hb hd (gx_at_l hl h3) (kk _ hl)
  | aload_n k =>
    have e1 : len = 1 := by simpa [gx_lok, gx_len] using hlen
    subst e1
    obtain ⟨v, h1, h2⟩ := Option.bind_eq_some_iff.mp h
    split at h2
    · cases h2
      have h6 := gx_at_l hl h1
      cases v with
      | ref a => exact lv_aload_n hx hb hd rfl h6 (kk _ hl)
      | null => exact lv_aload_nN hx hb hd rfl h6 (kk _ hl)
      | float a => exact lv_aload_n hx hb hd rfl h6 (kk _ hl)
      | _ => rename_i hc; simp [Value.isRef, gx_fl] at hc
    · cases h2
  | aload i =>
    have e1 : len = 2 := by simpa [gx_lok, gx_len] using hlen
    subst e1
    obtain ⟨v, h1, h2⟩ := Option.bind_eq_some_iff.mp h
    split at h2
    · cases h2
      have h6 := gx_at_l hl h1
      cases v with
      | ref a => exact lv_aload hx hb hd h6 (kk _ hl)
      | null => exact lv_aloadN hx hb hd h6 (kk _ hl)
      | float a => exact lv_aload hx hb hd h6 (kk _ hl)
      | _ => rename_i hc; simp [Value.isRef, gx_fl] at hc
    · cases h2
  | istore_n k =>
    have e1 : len = 1 := by simpa [gx_lok, gx_len] using hlen
    subst e1
    obtain ⟨⟨x, r⟩, h1, h2⟩ := Option.bind_eq_some_iff.mp h
    have h5 := gx_a1_e h1
    subst h5
    split at h2
    · rename_i hn
      cases h2
      exact lv_istore_n hx hb hd rfl hl hn (gx_l_s1 ba b L _ (.int x)) (fun ls' hl' => kk ls' hl')
    · cases h2
  | istore i =>
    have e1 : len = 2 := by simpa [gx_lok, gx_len] using hlen
    subst e1
    obtain ⟨⟨x, r⟩, h1, h2⟩ := Option.bind_eq_some_iff.mp h
    have h5 := gx_a1_e h1
    subst h5
    split at h2
    · rename_i hn
      cases h2
      exact lv_istore hx hb hd hl hn (gx_l_s1 ba b L _ (.int x)) (fun ls' hl' => kk ls' hl')
    · cases h2
  | lstore_n k =>
    have e1 : len = 1 := by simpa [gx_lok, gx_len] using hlen
    subst e1
    obtain ⟨⟨x, r⟩, h1, h2⟩ := Option.bind_eq_some_iff.mp h
    have h5 := gx_b1_e h1
    subst h5
    split at h2
    · rename_i hn
      cases h2
      exact lv_lstore_n hx hb hd rfl hl hn (gx_l_s2 ba b L _ (.long x)) (fun ls' hl' => kk ls' hl')
    · cases h2
  | lstore i =>
    have e1 : len = 2 := by simpa [gx_lok, gx_len] using hlen
    subst e1
    obtain ⟨⟨x, r⟩, h1, h2⟩ := Option.bind_eq_some_iff.mp h
    have h5 := gx_b1_e h1
    subst h5
    split at h2
    · rename_i hn
      cases h2
      exact lv_lstore hx hb hd hl hn (gx_l_s2 ba b L _ (.long x)) (fun ls' hl' => kk ls' hl')
    · cases h2
  | astore_n k =>
    have e1 : len = 1 := by simpa [gx_lok, gx_len] using hlen
    subst e1
    simp only [gx_p] at h
    split at h
    · split at h
      · rename_i hn
        cases h
        exact lv_astore_n hx hb hd rfl hl hn (gx_l_s1 ba b L _ (.ref _)) (fun ls' hl' => kk ls' hl')
      · cases h
    · split at h
      · rename_i hn
        cases h
        exact lv_astore_nN hx hb hd rfl hl hn (gx_l_s1 ba b L _ .null) (fun ls' hl' => kk ls' hl')
      · cases h
    · cases h
  | astore i =>
    have e1 : len = 2 := by simpa [gx_lok, gx_len] using hlen
    subst e1
    simp only [gx_p] at h
    split at h
    · split at h
      · rename_i hn
        cases h
        exact lv_astore hx hb hd hl hn (gx_l_s1 ba b L _ (.ref _)) (fun ls' hl' => kk ls' hl')
      · cases h
    · split at h
      · rename_i hn
        cases h
        exact lv_astoreN hx hb hd hl hn (gx_l_s1 ba b L _ .null) (fun ls' hl' => kk ls' hl')
      · cases h
    · cases h
  | iinc i n =>
    have e1 : len = 3 := by simpa [gx_lok, gx_len] using hlen
    subst e1
    obtain ⟨x, h1, h2⟩ := Option.bind_eq_some_iff.mp h
    obtain ⟨v, h3, h4⟩ := Option.bind_eq_some_iff.mp h1
    have h5 := gx_i1_e h4
    subst h5
    split at h2
    · rename_i hn
      cases h2
      obtain ⟨k, hk⟩ := gx_ix_l (ba := ba) (b := b) h3
      exact lv_iinc hx hb hd hl hk rfl hn (gx_l_s1 ba b L _ (.int _)) (fun ls' hl' => kk ls' hl')
    · cases h2
  | iadd =>
    have e1 : len = 1 := by simpa [gx_lok, gx_len] using hlen
    subst e1
    simp only [gx_p, gx_fa2, gx_fb2, gx_fab, Option.bind_some] at h
    obtain ⟨⟨y, x, r⟩, h1, h2⟩ := Option.map_eq_some_iff.mp h
    have h5 := gx_a2_e h1
    subst h5
    cases h2
    exact lv_iadd hx hb hd (kk _ hl)
  | isub =>
    have e1 : len = 1 := by simpa [gx_lok, gx_len] using hlen
    subst e1
    simp only [gx_p, gx_fa2, gx_fb2, gx_fab, Option.bind_some] at h
    obtain ⟨⟨y, x, r⟩, h1, h2⟩ := Option.map_eq_some_iff.mp h
    have h5 := gx_a2_e h1
    subst h5
    cases h2
    exact lv_isub hx hb hd (kk _ hl)
  | imul =>
    have e1 : len = 1 := by simpa [gx_lok, gx_len] using hlen
    subst e1
    simp only [gx_p, gx_fa2, gx_fb2, gx_fab, Option.bind_some] at h
    obtain ⟨⟨y, x, r⟩, h1, h2⟩ := Option.map_eq_some_iff.mp h
    have h5 := gx_a2_e h1
    subst h5
    cases h2
    exact lv_imul hx hb hd (kk _ hl)
  | iand =>
    have e1 : len = 1 := by simpa [gx_lok, gx_len] using hlen
    subst e1
    simp only [gx_p, gx_fa2, gx_fb2, gx_fab, Option.bind_some] at h
    obtain ⟨⟨y, x, r⟩, h1, h2⟩ := Option.map_eq_some_iff.mp h
    have h5 := gx_a2_e h1
    subst h5
    cases h2
    exact lv_iand hx hb hd (kk _ hl)
  | ior =>
    have e1 : len = 1 := by simpa [gx_lok, gx_len] using hlen
    subst e1
    simp only [gx_p, gx_fa2, gx_fb2, gx_fab, Option.bind_some] at h
    obtain ⟨⟨y, x, r⟩, h1, h2⟩ := Option.map_eq_some_iff.mp h
    have h5 := gx_a2_e h1
    subst h5
    cases h2
    exact lv_ior hx hb hd (kk _ hl)
  | ixor =>
    have e1 : len = 1 := by simpa [gx_lok, gx_len] using hlen
    subst e1
    simp only [gx_p, gx_fa2, gx_fb2, gx_fab, Option.bind_some] at h
    obtain ⟨⟨y, x, r⟩, h1, h2⟩ := Option.map_eq_some_iff.mp h
    have h5 := gx_a2_e h1
    subst h5
    cases h2
    exact lv_ixor hx hb hd (kk _ hl)
  | ishl =>
    have e1 : len = 1 := by simpa [gx_lok, gx_len] using hlen
    subst e1
    simp only [gx_p, gx_fa2, gx_fb2, gx_fab, Option.bind_some] at h
    obtain ⟨⟨y, x, r⟩, h1, h2⟩ := Option.map_eq_some_iff.mp h
    have h5 := gx_a2_e h1
    subst h5
    cases h2
    exact lv_ishl hx hb hd (kk _ hl)
  | ishr =>
    have e1 : len = 1 := by simpa [gx_lok, gx_len] using hlen
    subst e1
    simp only [gx_p, gx_fa2, gx_fb2, gx_fab, Option.bind_some] at h
    obtain ⟨⟨y, x, r⟩, h1, h2⟩ := Option.map_eq_some_iff.mp h
    have h5 := gx_a2_e h1
    subst h5
    cases h2
    exact lv_ishr hx hb hd (kk _ hl)
  | iushr =>
    have e1 : len = 1 := by simpa [gx_lok, gx_len] using hlen
    subst e1
    simp only [gx_p, gx_fa2, gx_fb2, gx_fab, Option.bind_some] at h
    obtain ⟨⟨y, x, r⟩, h1, h2⟩ := Option.map_eq_some_iff.mp h
    have h5 := gx_a2_e h1
    subst h5
    cases h2
    exact lv_iushr hx hb hd rfl (kk _ hl)
  | ladd =>
    have e1 : len = 1 := by simpa [gx_lok, gx_len] using hlen
    subst e1
    simp only [gx_p, gx_fa2, gx_fb2, gx_fab, Option.bind_some] at h
    obtain ⟨⟨y, x, r⟩, h1, h2⟩ := Option.map_eq_some_iff.mp h
    have h5 := gx_b2_e h1
    subst h5
    cases h2
    exact lv_ladd hx hb hd (kk _ hl)
  | lsub =>
    have e1 : len = 1 := by simpa [gx_lok, gx_len] using hlen
    subst e1
    simp only [gx_p, gx_fa2, gx_fb2, gx_fab, Option.bind_some] at h
    obtain ⟨⟨y, x, r⟩, h1, h2⟩ := Option.map_eq_some_iff.mp h
    have h5 := gx_b2_e h1
    subst h5
    cases h2
    exact lv_lsub hx hb hd (kk _ hl)
  | lmul =>
    have e1 : len = 1 := by simpa [gx_lok, gx_len] using hlen
    subst e1
    simp only [gx_p, gx_fa2, gx_fb2, gx_fab, Option.bind_some] at h
    obtain ⟨⟨y, x, r⟩, h1, h2⟩ := Option.map_eq_some_iff.mp h
    have h5 := gx_b2_e h1
    subst h5
    cases h2
    exact lv_lmul hx hb hd (kk _ hl)
  | land =>
    have e1 : len = 1 := by simpa [gx_lok, gx_len] using hlen
    subst e1
    simp only [gx_p, gx_fa2, gx_fb2, gx_fab, Option.bind_some] at h
    obtain ⟨⟨y, x, r⟩, h1, h2⟩ := Option.map_eq_some_iff.mp h
    have h5 := gx_b2_e h1
    subst h5
    cases h2
    exact lv_land hx hb hd (kk _ hl)
  | lor =>
    have e1 : len = 1 := by simpa [gx_lok, gx_len] using hlen
    subst e1
    simp only [gx_p, gx_fa2, gx_fb2, gx_fab, Option.bind_some] at h
    obtain ⟨⟨y, x, r⟩, h1, h2⟩ := Option.map_eq_some_iff.mp h
    have h5 := gx_b2_e h1
    subst h5
    cases h2
    exact lv_lor hx hb hd (kk _ hl)
  | lxor =>
    have e1 : len = 1 := by simpa [gx_lok, gx_len] using hlen
    subst e1
    simp only [gx_p, gx_fa2, gx_fb2, gx_fab, Option.bind_some] at h
    obtain ⟨⟨y, x, r⟩, h1, h2⟩ := Option.map_eq_some_iff.mp h
    have h5 := gx_b2_e h1
    subst h5
    cases h2
    exact lv_lxor hx hb hd (kk _ hl)
  | lshl =>
    have e1 : len = 1 := by simpa [gx_lok, gx_len] using hlen
    subst e1
    simp only [gx_p, gx_fa2, gx_fb2, gx_fab, Option.bind_some] at h
    obtain ⟨⟨y, x, r⟩, h1, h2⟩ := Option.map_eq_some_iff.mp h
    have h5 := gx_ab_e h1
    subst h5
    cases h2
    exact lv_lshl hx hb hd rfl (kk _ hl)
  | lshr =>
    have e1 : len = 1 := by simpa [gx_lok, gx_len] using hlen
    subst e1
    simp only [gx_p, gx_fa2, gx_fb2, gx_fab, Option.bind_some] at h
    obtain ⟨⟨y, x, r⟩, h1, h2⟩ := Option.map_eq_some_iff.mp h
    have h5 := gx_ab_e h1
    subst h5
    cases h2
    exact lv_lshr hx hb hd rfl (kk _ hl)
  | lushr =>
    have e1 : len = 1 := by simpa [gx_lok, gx_len] using hlen
    subst e1
    simp only [gx_p, gx_fa2, gx_fb2, gx_fab, Option.bind_some] at h
    obtain ⟨⟨y, x, r⟩, h1, h2⟩ := Option.map_eq_some_iff.mp h
    have h5 := gx_ab_e h1
    subst h5
    cases h2
    exact lv_lushr hx hb hd rfl (kk _ hl)
  | idiv =>
    have e1 : len = 1 := by simpa [gx_lok, gx_len] using hlen
    subst e1
    obtain ⟨⟨y, x, r⟩, h1, h2⟩ := Option.bind_eq_some_iff.mp h
    have h5 := gx_a2_e h1
    subst h5
    split at h2
    · cases h2
    · rename_i hn
      cases h2
      exact lv_idiv hx hb hd hn (kk _ hl)
  | irem =>
    have e1 : len = 1 := by simpa [gx_lok, gx_len] using hlen
    subst e1
    obtain ⟨⟨y, x, r⟩, h1, h2⟩ := Option.bind_eq_some_iff.mp h
    have h5 := gx_a2_e h1
    subst h5
    split at h2
    · cases h2
    · rename_i hn
      cases h2
      exact lv_irem hx hb hd hn (kk _ hl)
  | ineg =>
    have e1 : len = 1 := by simpa [gx_lok, gx_len] using hlen
    subst e1
    obtain ⟨⟨x, r⟩, h1, h2⟩ := Option.map_eq_some_iff.mp h
    have h5 := gx_a1_e h1
    subst h5
    cases h2
    exact lv_ineg hx hb hd (kk _ hl)
  | lneg =>
    have e1 : len = 1 := by simpa [gx_lok, gx_len] using hlen
    subst e1
    obtain ⟨⟨x, r⟩, h1, h2⟩ := Option.map_eq_some_iff.mp h
    have h5 := gx_b1_e h1
    subst h5
    cases h2
    exact lv_lneg hx hb hd (kk _ hl)
  | i2l =>
    have e1 : len = 1 := by simpa [gx_lok, gx_len] using hlen
    subst e1
    obtain ⟨⟨x, r⟩, h1, h2⟩ := Option.map_eq_some_iff.mp h
    have h5 := gx_a1_e h1
    subst h5
    cases h2
    exact lv_i2l hx hb hd rfl (kk _ hl)
  | l2i =>
    have e1 : len = 1 := by simpa [gx_lok, gx_len] using hlen
    subst e1
    obtain ⟨⟨x, r⟩, h1, h2⟩ := Option.map_eq_some_iff.mp h
    have h5 := gx_b1_e h1
    subst h5
    cases h2
    exact lv_l2i hx hb hd rfl (kk _ hl)
  | lcmp =>
    have e1 : len = 1 := by simpa [gx_lok, gx_len] using hlen
    subst e1
    obtain ⟨⟨y, x, r⟩, h1, h2⟩ := Option.map_eq_some_iff.mp h
    have h5 := gx_b2_e h1
    subst h5
    cases h2
    exact W.lcmp hx hb hd (kk _ hl)
  | dup =>
    have e1 : len = 1 := by simpa [gx_lok, gx_len] using hlen
    subst e1
    simp only [gx_p] at h
    split at h
    · split at h
      · rename_i hn
        cases h
        exact lv_dup hx hb hd ((gx_v_cat ba b _).trans hn) (kk _ hl)
      · cases h
    · cases h
  | pop =>
    have e1 : len = 1 := by simpa [gx_lok, gx_len] using hlen
    subst e1
    simp only [gx_p] at h
    split at h
    · split at h
      · rename_i hn
        cases h
        exact lv_pop hx hb hd ((gx_v_cat ba b _).trans hn) (kk _ hl)
      · cases h
    · cases h
  | dup_x1 =>
    have e1 : len = 1 := by simpa [gx_lok, gx_len] using hlen
    subst e1
    simp only [gx_p] at h
    split at h
    · split at h
      · rename_i hn
        cases h
        exact lv_dup_x1 hx hb hd ((gx_v_cat ba b _).trans hn.1) ((gx_v_cat ba b _).trans hn.2) (kk _ hl)
      · cases h
    · cases h
  | dup2 =>
    have e1 : len = 1 := by simpa [gx_lok, gx_len] using hlen
    subst e1
    simp only [gx_p] at h
    split at h
    · split at h
      · rename_i hn
        cases h
        exact lv_dup2_11 hx hb hd ((gx_v_cat ba b _).trans hn.1) ((gx_v_cat ba b _).trans hn.2) (kk _ hl)
      · cases h
    · cases h
  | ifCond cn off =>
    have e1 : len = 3 := by simpa [gx_lok, gx_len] using hlen
    subst e1
    obtain ⟨⟨x, r⟩, h1, h2⟩ := Option.bind_eq_some_iff.mp h
    have h5 := gx_a1_e h1
    subst h5
    obtain ⟨t, h3, h4⟩ := Option.map_eq_some_iff.mp h2
    have ht := gx_j_e h3
    by_cases hc : gx_c1 cn x = true
    · rw [if_pos hc] at h4
      cases h4
      cases cn with
      | eq => exact lv_if_eq hx hb hd ht (fun _ => kk _ hl) (fun hn => absurd (of_decide_eq_true hc) hn)
      | ne => exact lv_if_ne hx hb hd ht (fun _ => kk _ hl) (fun hn => absurd hn (of_decide_eq_true hc))
      | lt => exact lv_if_lt hx hb hd ht (fun _ => kk _ hl) (fun hn => absurd (of_decide_eq_true hc) hn)
      | ge => exact lv_if_ge hx hb hd ht (fun _ => kk _ hl) (fun hn => absurd (of_decide_eq_true hc) hn)
      | gt => exact lv_if_gt hx hb hd ht (fun _ => kk _ hl) (fun hn => absurd (of_decide_eq_true hc) hn)
      | le => exact lv_if_le hx hb hd ht (fun _ => kk _ hl) (fun hn => absurd (of_decide_eq_true hc) hn)
    · rw [if_neg hc] at h4
      cases h4
      cases cn with
      | eq => exact lv_if_eq hx hb hd ht (fun hn => absurd (decide_eq_true hn) hc) (fun _ => kk _ hl)
      | ne => exact lv_if_ne hx hb hd ht (fun hn => absurd (decide_eq_true hn) hc) (fun _ => kk _ hl)
      | lt => exact lv_if_lt hx hb hd ht (fun hn => absurd (decide_eq_true hn) hc) (fun _ => kk _ hl)
      | ge => exact lv_if_ge hx hb hd ht (fun hn => absurd (decide_eq_true hn) hc) (fun _ => kk _ hl)
      | gt => exact lv_if_gt hx hb hd ht (fun hn => absurd (decide_eq_true hn) hc) (fun _ => kk _ hl)
      | le => exact lv_if_le hx hb hd ht (fun hn => absurd (decide_eq_true hn) hc) (fun _ => kk _ hl)
  | if_icmp cn off =>
    have e1 : len = 3 := by simpa [gx_lok, gx_len] using hlen
    subst e1
    obtain ⟨⟨y, x, r⟩, h1, h2⟩ := Option.bind_eq_some_iff.mp h
    have h5 := gx_a2_e h1
    subst h5
    obtain ⟨t, h3, h4⟩ := Option.map_eq_some_iff.mp h2
    have ht := gx_j_e h3
    by_cases hc : gx_c2 cn x y = true
    · rw [if_pos hc] at h4
      cases h4
      cases cn with
      | eq => exact lv_icmp_eq hx hb hd ht (fun _ => kk _ hl) (fun hn => absurd (of_decide_eq_true hc) hn)
      | ne => exact lv_icmp_ne hx hb hd ht (fun _ => kk _ hl) (fun hn => absurd hn (of_decide_eq_true hc))
      | lt => exact lv_icmp_lt hx hb hd ht (fun _ => kk _ hl) (fun hn => absurd (of_decide_eq_true hc) hn)
      | ge => exact lv_icmp_ge hx hb hd ht (fun _ => kk _ hl) (fun hn => absurd (of_decide_eq_true hc) hn)
      | gt => exact lv_icmp_gt hx hb hd ht (fun _ => kk _ hl) (fun hn => absurd (of_decide_eq_true hc) hn)
      | le => exact lv_icmp_le hx hb hd ht (fun _ => kk _ hl) (fun hn => absurd (of_decide_eq_true hc) hn)
    · rw [if_neg hc] at h4
      cases h4
      cases cn with
      | eq => exact lv_icmp_eq hx hb hd ht (fun hn => absurd (decide_eq_true hn) hc) (fun _ => kk _ hl)
      | ne => exact lv_icmp_ne hx hb hd ht (fun hn => absurd (decide_eq_true hn) hc) (fun _ => kk _ hl)
      | lt => exact lv_icmp_lt hx hb hd ht (fun hn => absurd (decide_eq_true hn) hc) (fun _ => kk _ hl)
      | ge => exact lv_icmp_ge hx hb hd ht (fun hn => absurd (decide_eq_true hn) hc) (fun _ => kk _ hl)
      | gt => exact lv_icmp_gt hx hb hd ht (fun hn => absurd (decide_eq_true hn) hc) (fun _ => kk _ hl)
      | le => exact lv_icmp_le hx hb hd ht (fun hn => absurd (decide_eq_true hn) hc) (fun _ => kk _ hl)
  | ifnull off =>
    have e1 : len = 3 := by simpa [gx_lok, gx_len] using hlen
    subst e1
    simp only [gx_p] at h
    split at h
    · cases h
      exact lv_ifnull hx hb hd (kk _ hl)
    · obtain ⟨t, h3, h4⟩ := Option.map_eq_some_iff.mp h
      cases h4
      exact lv_ifnullN hx hb hd (gx_j_e h3) (kk _ hl)
    · cases h
  | ifnonnull off =>
    have e1 : len = 3 := by simpa [gx_lok, gx_len] using hlen
    subst e1
    simp only [gx_p] at h
    split at h
    · obtain ⟨t, h3, h4⟩ := Option.map_eq_some_iff.mp h
      cases h4
      exact lv_ifnonnull hx hb hd (gx_j_e h3) (kk _ hl)
    · cases h
      exact lv_ifnonnullN hx hb hd (kk _ hl)
    · cases h
  | goto off =>
    have e1 : len = 3 := by simpa [gx_lok, gx_len] using hlen
    subst e1
    obtain ⟨t, h3, h4⟩ := Option.map_eq_some_iff.mp h
    cases h4
    exact lv_goto hx hb hd (gx_j_e h3) (kk _ hl)
  | tableswitch d lo hi offs =>
    obtain ⟨⟨x, r⟩, h1, h2⟩ := Option.bind_eq_some_iff.mp h
    have h5 := gx_a1_e h1
    subst h5
    obtain ⟨off, h6, h7⟩ := Option.bind_eq_some_iff.mp h2
    obtain ⟨t, h3, h4⟩ := Option.map_eq_some_iff.mp h7
    cases h4
    have ht := gx_j_e h3
    unfold gx_tab at h6
    split at h6
    · rename_i c1
      cases h6
      exact lv_tableOut hx hb hd (Or.inl c1) ht (kk _ hl)
    · rename_i c1
      split at h6
      · rename_i c2
        cases h6
        exact lv_tableOut hx hb hd (Or.inr c2) ht (kk _ hl)
      · rename_i c2
        exact lv_tableIn hx hb hd c1 c2 h6 ht (kk _ hl)
  | lookupswitch d ps =>
    obtain ⟨⟨x, r⟩, h1, h2⟩ := Option.bind_eq_some_iff.mp h
    have h5 := gx_a1_e h1
    subst h5
    split at h2
    · rename_i hc
      obtain ⟨t, h3, h4⟩ := Option.map_eq_some_iff.mp h2
      cases h4
      exact lv_lookup hx hb hd hc rfl (gx_j_e h3) (kk _ hl)
    · cases h2
  | _ => cases h
end GXP
