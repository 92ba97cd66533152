/-! values written, on both sides -/
theorem gt_b0 {v : Int32} : v &&& 255 = gt_b v 0 := by simp [gt_b]
theorem gt_b1 {v : Int32} : v >>> (8 &&& 31) &&& 255 = gt_b v 1 := by simp [gt_b]
theorem gt_b2 {v : Int32} : v >>> (16 &&& 31) &&& 255 = gt_b v 2 := by simp [gt_b]
theorem gt_b3 {v : Int32} : v >>> (24 &&& 31) &&& 255 = gt_b v 3 := by simp [gt_b]
def gw_Z (v : Int32) : Int64 := (Int32.toInt64 v <<< (Int32.toInt64 (1 : Int32) &&& 63)) ^^^ (Int32.toInt64 v >>> (Int32.toInt64 (63 : Int32) &&& 63))
def gw_V (k v : Int32) : List Int32 := k :: (if k = 4 then gl 9 (gw_Z v) else if k = 5 then gt_W v else [])
def gw_ok (k v : Int32) : Int32 := if k < 0 then 0 else if 7 < k then 0 else if k = 5 then gt_T (gt_b v 0) (gt_b v 1) (gt_b v 2) (gt_b v 3) else if k = 6 then 0 else 1
theorem gt_W_len {v : Int32} : (gt_W v).length ≤ 5 := by
  unfold gt_W; repeat' split
  all_goals simp
theorem gw_V_len {k v : Int32} : (gw_V k v).length ≤ 11 := by
  unfold gw_V
  have h1 := gl_len 9 (gw_Z v)
  have h2 := gt_W_len (v := v)
  rw [List.length_cons]
  split
  · omega
  · split
    · omega
    · simp
theorem gt_T_z {a b c d : Int32} : gt_T a b c d = 0 ∨ gt_T a b c d = 1 := by
  unfold gt_T; split
  · exact Or.inl rfl
  · exact Or.inr rfl
theorem n_78 {k : Int32} : (7 < k) ↔ ¬ k < 8 := by
  rw [Int32.lt_iff_toInt_lt, Int32.lt_iff_toInt_lt]
  have h1 : (7 : Int32).toInt = 7 := rfl
  have h2 : (8 : Int32).toInt = 8 := rfl
  omega
theorem n_34 {k : Int32} : (3 < k) ↔ ¬ k < 4 := by
  rw [Int32.lt_iff_toInt_lt, Int32.lt_iff_toInt_lt]
  have h1 : (3 : Int32).toInt = 3 := rfl
  have h2 : (4 : Int32).toInt = 4 := rfl
  omega
section F
variable {I : Nat → Nat → Int32} {J : Nat → Nat → Int64} {z : gx_H}
theorem m_textStep {n : Nat} {v k : Int32} (hI : mw_ok I) : mM_sayValue_80 (n + 1) (some 188) v k (gm_mk I J z) = if k < gt_L v then mM_sayValue_80 n (some 188) v (k + 1) (gm_mk (mw_b I (gt_b v k)) J z) else some (gm_mk I J z) := by
  rw [mM_sayValue_80, m_textLength, Option.bind_some]
  by_cases c : k < gt_L v
  · rw [if_pos c, if_pos c, go_188, Option.bind_some, m_say hI]; rfl
  · rw [if_neg c, if_neg c]
theorem m_sayText {v : Int32} (hI : mw_ok I) : ((mM_say (some 188) (gt_L v) (gm_mk I J z)).bind fun h => mM_sayValue_80 2000 (some 188) v 0 h) = some (gm_mk (mw_l I (gt_W v)) J z) := by
  rw [m_say hI, Option.bind_some]
  have hL : gt_L v = gt_L v := rfl
  unfold gt_W
  by_cases c0 : gt_b v 0 = 0
  · have hL : gt_L v = 0 := by simp [gt_L, c0]
    simp (maxDischargeDepth := 12) [m_textStep, hL, c0, mw_ok_b, hI, mw_l]
  · by_cases c1 : gt_b v 1 = 0
    · have hL : gt_L v = 1 := by simp [gt_L, c0, c1]
      simp (maxDischargeDepth := 12) [m_textStep, hL, c0, c1, mw_ok_b, hI, mw_l]
    · by_cases c2 : gt_b v 2 = 0
      · have hL : gt_L v = 2 := by simp [gt_L, c0, c1, c2]
        simp (maxDischargeDepth := 12) [m_textStep, hL, c0, c1, c2, mw_ok_b, hI, mw_l]
      · by_cases c3 : gt_b v 3 = 0
        · have hL : gt_L v = 3 := by simp [gt_L, c0, c1, c2, c3]
          simp (maxDischargeDepth := 12) [m_textStep, hL, c0, c1, c2, c3, mw_ok_b, hI, mw_l]
        · have hL : gt_L v = 4 := by simp [gt_L, c0, c1, c2, c3]
          simp (maxDischargeDepth := 12) [m_textStep, hL, c0, c1, c2, c3, mw_ok_b, hI, mw_l]
theorem mw_ok_l {bs : List Int32} (h : mw_ok I) : mw_ok (mw_l I bs) := by
  unfold mw_l
  induction bs generalizing I with
  | nil => exact h
  | cons b bs ih => exact ih (mw_ok_b h)
theorem c_writeValue {k v : Int32} (hI : cw_ok I) (h6 : ¬ k = 6) (h7 : ¬ k = 7) : cW_writeValue 20 (some 169) (some 1) (some 165) k v 1 (gm_mk I J z) = some (gm_mk (cw_l I (gw_V k v)) J z) := by
  rw [cW_writeValue, gi_169_4, Option.bind_some]
  by_cases ho : I 169 4 = 0
  · rw [if_pos ho, if_neg (by decide), if_neg h7, if_neg h6, go_169, Option.bind_some, c_writeByte hI, Option.bind_some]
    unfold gw_V
    by_cases h4 : k = 4
    · rw [if_pos h4, if_pos h4, go_169, Option.bind_some]
      unfold cW_writeZigzag
      rw [go_169, Option.bind_some, c_writeLengthy (cw_ok_b hI)]
      rfl
    · rw [if_neg h4, if_neg h4]
      by_cases h5 : k = 5
      · rw [if_pos h5, if_pos h5, c_textLength, Option.bind_some, go_169, Option.bind_some, c_writeWord (cw_ok_b hI)]
        rfl
      · rw [if_neg h5, if_neg h5]; rfl
  · rw [if_neg ho]
    have : ∀ bs : List Int32, cw_l I bs = I := by
      intro bs
      induction bs with
      | nil => rfl
      | cons b bs ih => show cw_l (cw_b I b) bs = I; rw [show cw_b I b = I from if_neg ho]; exact ih
    rw [this]
theorem m_sayValue {k v : Int32} (hI : mw_ok I) (hp : I 188 18 = 0) (h6 : ¬ k = 6) (h7 : ¬ k = 7) (h8 : ¬ 7 < k) : mM_sayValue (some 188) k v (gm_mk I J z) = some (gm_mk (mw_l I (gw_V k v)) J z) := by
  unfold mM_sayValue
  rw [gi_188_18, Option.bind_some, hp, if_neg (by decide), if_neg h7]
  unfold gw_V
  by_cases h4 : k < 4
  · have h5 : ¬ k = 4 := fun q => by rw [q] at h4; exact absurd h4 (by decide)
    have h5' : ¬ k = 5 := fun q => by rw [q] at h4; exact absurd h4 (by decide)
    rw [if_pos h4, go_188, Option.bind_some, m_say hI, if_neg h5, if_neg h5']; rfl
  · rw [if_neg h4]
    by_cases h5 : k = 4
    · rw [if_pos h5, if_pos h5, go_188, Option.bind_some, m_say hI, Option.bind_some]
      show Option.bind (mM_zigzag _) _ = _
      unfold mM_zigzag
      rw [Option.bind_some, go_188, Option.bind_some]
      show Option.bind (mM_sayLengthy _ (gw_Z v) _) _ = _
      rw [m_sayLengthy (mw_ok_b hI), h5]; rfl
    · rw [if_neg h5, if_neg h5]
      by_cases h5' : k = 5
      · rw [if_pos h5', if_pos h5', go_188, Option.bind_some, m_say hI, Option.bind_some, m_textLength, Option.bind_some, go_188, Option.bind_some, m_sayText (mw_ok_b hI), h5']; rfl
      · exfalso
        have a1 : ¬ k.toInt < 4 := fun q => h4 (Int32.lt_iff_toInt_lt.mpr q)
        have a2 : ¬ 7 < k.toInt := fun q => h8 (Int32.lt_iff_toInt_lt.mpr q)
        have a3 : ¬ k.toInt = 4 := fun q => h5 (Int32.toInt_inj.mp q)
        have a4 : ¬ k.toInt = 5 := fun q => h5' (Int32.toInt_inj.mp q)
        have a5 : ¬ k.toInt = 6 := fun q => h6 (Int32.toInt_inj.mp q)
        have a6 : ¬ k.toInt = 7 := fun q => h7 (Int32.toInt_inj.mp q)
        omega
/-- what the written bytes leave -/
theorem cw_l_ok {bs : List Int32} {c : Nat} (ho : I 169 4 = 0) (hc : I 170 1 = Int32.ofNat c) (hl : c + bs.length ≤ 300) : (cw_l I bs) 169 4 = 0 ∧ (cw_l I bs) 170 1 = Int32.ofNat (c + bs.length) ∧ ∀ a i, ¬ a = 170 → ¬ a = 171 → (cw_l I bs) a i = I a i := by
  induction bs generalizing I c with
  | nil => exact ⟨ho, hc, fun _ _ _ _ => rfl⟩
  | cons b bs ih =>
    have hlt : I 170 1 < 300 := by rw [hc]; exact (n_lt (m := 300) (by simp at hl; omega) (by omega)).mpr (by simp at hl; omega)
    have e : cw_b I b = gm_up (gm_up I 171 (I 170 1).toNatClampNeg b) 170 1 (I 170 1 + 1) := by unfold cw_b; rw [if_pos ho, if_pos hlt]
    have K := ih (I := cw_b I b) (c := c + 1) (by rw [e]; simp [gm_up, ho]) (by rw [e, hc]; simp [gm_up]) (by simp at hl; omega)
    obtain ⟨k1, k2, k3⟩ := K
    refine ⟨k1, ?_, fun a i h1 h2 => ?_⟩
    · show (cw_l (cw_b I b) bs) 170 1 = _
      rw [k2, List.length_cons]; congr 1; omega
    · show (cw_l (cw_b I b) bs) a i = _
      rw [k3 a i h1 h2, e]; simp [gm_up, h1, h2]
theorem mw_l_ok {bs : List Int32} {c : Nat} (ho : I 188 26 = 0) (hc : I 188 27 = Int32.ofNat c) (hl : c + bs.length ≤ 300) : (mw_l I bs) 188 26 = 0 ∧ (mw_l I bs) 188 27 = Int32.ofNat (c + bs.length) ∧ ∀ a i, ¬ (a = 188 ∧ i = 27) → ¬ a = 208 → (mw_l I bs) a i = I a i := by
  induction bs generalizing I c with
  | nil => exact ⟨ho, hc, fun _ _ _ _ => rfl⟩
  | cons b bs ih =>
    have hlt : ¬ I 188 27 = 300 := by rw [hc]; intro q; have := (n_eq (m := 300) (by simp at hl; omega) (by omega)).mp q; simp at hl; omega
    have e : mw_b I b = gm_up (gm_up I 208 (I 188 27).toNatClampNeg b) 188 27 (I 188 27 + 1) := by unfold mw_b; rw [if_pos ho, if_neg hlt]
    have K := ih (I := mw_b I b) (c := c + 1) (by rw [e]; simp [gm_up, ho]) (by rw [e, hc]; simp [gm_up]) (by simp at hl; omega)
    obtain ⟨k1, k2, k3⟩ := K
    refine ⟨k1, ?_, fun a i h1 h2 => ?_⟩
    · show (mw_l (mw_b I b) bs) 188 27 = _
      rw [k2, List.length_cons]; congr 1; omega
    · show (mw_l (mw_b I b) bs) a i = _
      rw [k3 a i h1 h2, e]; simp only [gm_up]; rw [if_neg h1, if_neg (fun q => h2 q.1)]
theorem c0_isValue (h : I 1 1 = 0) {k v : Int32} : cS_isValue (some 1) k v (gm_mk I J z) = some (gw_ok k v) := by
  unfold cS_isValue gw_ok
  by_cases c1 : k < 0
  · rw [if_pos c1, if_pos c1]
  · rw [if_neg c1, if_neg c1]
    by_cases c2 : 7 < k
    · rw [if_pos c2, if_pos c2]
    · rw [if_neg c2, if_neg c2]
      by_cases c3 : k = 5
      · rw [if_pos c3, if_pos c3, c_isText, Option.bind_some, if_neg (fun q => q gt_T_z)]
      · rw [if_neg c3, if_neg c3]
        by_cases c4 : k = 6
        · rw [if_pos c4, if_pos c4, gi_1_1, Option.bind_some, h]
          by_cases c5 : v < 0 <;> simp [c5]
        · rw [if_neg c4, if_neg c4]
theorem m0_isValue (h : I 188 1 = 0) {k v : Int32} : mM_isValue (some 188) k v (gm_mk I J z) = some (gw_ok k v) := by
  unfold mM_isValue gw_ok
  by_cases c1 : k < 0
  · rw [if_pos c1, if_pos c1]
  · rw [if_neg c1, if_neg c1]
    by_cases c2 : 7 < k
    · rw [if_pos c2, if_neg (n_78.mp c2)]
    · rw [if_neg c2, if_pos (Decidable.of_not_not (fun q => c2 (n_78.mpr q)))]
      by_cases c3 : k = 5
      · rw [if_pos c3, if_pos c3, m_isText, Option.bind_some]
        rcases gt_T_z (a := gt_b v 0) (b := gt_b v 1) (c := gt_b v 2) (d := gt_b v 3) with q | q
        · rw [q]; rfl
        · rw [q, c3]; rfl
      · rw [if_neg c3, if_neg c3]
        unfold mM_isValue_22
        by_cases c4 : k = 6
        · rw [if_pos c4, if_pos c4, go_188, Option.bind_some, m0_isObject h]; rfl
        · rw [if_neg c4, if_neg c4]
theorem m0_put (h : I 188 1 = 0) {a b c d : Int32} : mM_put (some 188) a b c d (gm_mk I J z) = some (gm_mk (gm_up I 188 0 1) J z) := by
  unfold mM_put
  simp only [go_188, m0_is h, m0_isValue h, Option.bind_some, if_true]
  by_cases q : gw_ok c d = 0 <;> simp [q, mM_put_41, mM_put_42, mM_put_37, mM_put_74, mM_put_79, mM_put_113, mM_put_114, go_188, m_refused]
end F
