set_option maxHeartbeats 8000000 in
theorem gx_sim (xs : Option (List Int32)) : ∀ (n d j pc : Nat) (L : gx_L) (st : List Value) (h : gx_H) (k u : Nat) (o : Outcome) (h' : gx_H) (k' u' : Nat), gx_run xs n d j pc L st h k u = some (o, h', k', u') →
    ∀ {p : Program} {l : Launch} {e : Env} {R : Room} {s : State} {m : MethodId} {args : Array Value} {below : List Frame} {meth : Method} {c : Code} {H : Heap} {locs : List Loc} {ls : Array Slot} {s₀ : State} {D : va_G} {aC : Nat → ClassId} {ba b : Nat},
      gx_cx p e s₀ D aC ba b xs j s m meth c → gx_rel D aC ba b h H → (∀ q ∈ locs, ba ≤ q.base) → (∀ q, q < ba → H[q]? = s₀.heap[q]?) → lv_has ls (gx_nl j) (gx_l ba b L) → gx_rm d R → k' ≤ R.cells → u' ≤ R.slots →
      W p l e R s m args below meth c H locs k u (gx_Q D aC ba b s below o h' k' u') (F0 m pc ls (gx_t ba b st)) := by
  intro n
  induction n with
  | zero => intro d j pc L st h k u o h' k' u' e; cases e
  | succ n ih =>
    intro d j pc L st h k u o h' k' u' er p l e R s m args below meth c H locs ls s₀ D aC ba b C0 hr hlo hH hl hrm hk hu
    have hmo := gx_mono xs (n + 1) d j pc L st h k u o h' k' u' er
    rw [gx_run] at er
    have C0' := C0
    obtain ⟨hx, htr, hb, hnl, hhand, hret, hlocks, hini, hown, hs0, hle, hrel0⟩ := C0
    have hw := gx_wat (A := args) hs0 hle
    have hKN := gx_KNm hs0.2.2.2.2.1 hle.1.alike
    have hAK := gx_AKm hs0.2.2.2.2.2.1 hle.1.alike
    have hXs := gx_Xm (s := s) (H := H) hs0 hle.1.alike hH
    have hml : c.maxLocals = ls.size := hnl.trans hl.1.symm
    have hR : 8 ≤ R.frames ∧ 300 ≤ R.locals := ⟨by have := hrm.1; omega, by have := hrm.2; omega⟩
    have hHs : ∀ q, q < ba → H[q]? = s.heap[q]? := fun q hq => (hH q hq).trans (hle.2 q (by rw [← hs0.1]; exact hq)).symm
    split at er
    · cases er
    · rename_i ins hi
      have hd := gx_dec hi
      split at er
      · rename_i q hq
        exact gx_pW hx hb hown hw hd hl hq (fun ls' hl' => ih _ _ _ _ _ _ _ _ _ _ _ _ er C0' hr hlo hH hl' hrm hk hu)
      · split at er
        · rename_i q hq
          exact gx_qW hx hb hown hw hKN hAK hr hXs hd hl hq (fun ls' hl' => ih _ _ _ _ _ _ _ _ _ _ _ _ er C0' hr hlo hH hl' hrm hk hu)
        · split at er
          · rename_i q hq
            exact gx_wW hx hb hini hown hw hKN hAK hr hlo hd hq (fun H1 locs1 hr1 hlo1 ho1 => ih _ _ _ _ _ _ _ _ _ _ _ _ er C0' hr1 hlo1 (fun z hz => (ho1 z hz).trans (hH z hz)) hl hrm hk hu)
          · split at er
            · rename_i q hq
              have hm2 := gx_mono xs _ _ _ _ _ _ _ _ _ _ _ _ _ er
              exact gx_nW hx hb hown hw hKN hAK hr hd hq (Nat.le_trans hm2.1 hk) (Nat.le_trans hm2.2 hu) (fun H1 hr1 ho1 => ih _ _ _ _ _ _ _ _ _ _ _ _ er C0' hr1 hlo (fun z hz => (ho1 z hz).trans (hH z hz)) hl hrm hk hu)
            · split at er
              · rename_i q hq
                have hm2 := gx_mono xs _ _ _ _ _ _ _ _ _ _ _ _ _ er
                exact gx_muW hx hb hown hw hAK hr hd hq (Nat.le_trans hm2.1 hk) (Nat.le_trans hm2.2 hu) (fun H1 hr1 ho1 => ih _ _ _ _ _ _ _ _ _ _ _ _ er C0' hr1 hlo (fun z hz => (ho1 z hz).trans (hH z hz)) hl hrm hk hu)
              · split at er
                · rename_i v hv
                  cases er
                  exact gx_eW C0' hr hHs hlo hi hv
                · split at er
                  · rename_i q hq
                    exact gx_biW hx hb hml hown hw hAK hr hlo hR hd hq (fun H1 locs1 hr1 hlo1 ho1 => ih _ _ _ _ _ _ _ _ _ _ _ _ er C0' hr1 hlo1 (fun z hz => (ho1 z hz).trans (hH z hz)) hl hrm hk hu)
                  · split at er
                    · rename_i t ht
                      cases er
                      exact gx_thW C0' hml hr hH hlo hR hi ht hk hu
                    · split at er
                      · rename_i d' q hq
                        obtain ⟨j', A, rest⟩ := q
                        dsimp only at er
                        split at er
                        · rename_i hgd
                          exact gx_callW (ih := ih) C0' hr hlo hH hl hrm hk hu hmo hi hq hgd er
                        · cases er
                      · cases er
