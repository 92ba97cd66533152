/-! by program: the law, from its loop on -/
def lw_law_1033 (xs : List Int32) (rec23 : Option Nat → Option Nat → Option Nat → Int32 → gx_H → Option (Int32 × gx_H)) (l1 : Option Nat) (l2 : Option Nat) (l3 : Option Nat) (l4 : Int32) (h : gx_H) : Option (Int32 × gx_H) :=
  rec23 l1 l2 l3 (l4 + 6) h
theorem lw_law_1033_ok {xs : List Int32} {rec23 : Option Nat → Option Nat → Option Nat → Int32 → gx_H → Option (Int32 × gx_H)} (hrec23 : ∀ (l1 : Option Nat) (l2 : Option Nat) (l3 : Option Nat) (l4 : Int32) (h : gx_H) (r : (Int32 × gx_H)), rec23 l1 l2 l3 l4 h = some r → gv_V (some xs) 116 195 23 [(0, .float 0), (1, gv_u l1), (2, gv_u l2), (3, gv_u l3), (4, .int l4)] [] h (.returned (some (.int r.1))) r.2) {l1 : Option Nat} {l2 : Option Nat} {l3 : Option Nat} {l4 : Int32} {h : gx_H} {r : (Int32 × gx_H)} (e : lw_law_1033 xs rec23 l1 l2 l3 l4 h = some r) : gv_V (some xs) 116 195 1033 [(0, .float 0), (1, gv_u l1), (2, gv_u l2), (3, gv_u l3), (4, .int l4)] [] h (.returned (some (.int r.1))) r.2 := by
  unfold lw_law_1033 at e
  refine gv_inc (pc' := 1036) (y := 6) rfl rfl rfl rfl (gv_Cr rfl) rfl ?_
  refine gv_goto (pc' := 23) rfl rfl ?_
  exact gv_weak (hrec23 _ _ _ _ _ _ e) (gv_S1 rfl (gv_S1 rfl (gv_S1 rfl (gv_S1 rfl (gv_S1 rfl gv_S0)))))
def lw_law_201 (xs : List Int32) (rec23 : Option Nat → Option Nat → Option Nat → Int32 → gx_H → Option (Int32 × gx_H)) (l1 : Option Nat) (l2 : Option Nat) (l3 : Option Nat) (l4 : Int32) (h : gx_H) : Option (Int32 × gx_H) :=
  lw_law_1033 xs rec23 l1 l2 l3 l4 h
theorem lw_law_201_ok {xs : List Int32} {rec23 : Option Nat → Option Nat → Option Nat → Int32 → gx_H → Option (Int32 × gx_H)} (hrec23 : ∀ (l1 : Option Nat) (l2 : Option Nat) (l3 : Option Nat) (l4 : Int32) (h : gx_H) (r : (Int32 × gx_H)), rec23 l1 l2 l3 l4 h = some r → gv_V (some xs) 116 195 23 [(0, .float 0), (1, gv_u l1), (2, gv_u l2), (3, gv_u l3), (4, .int l4)] [] h (.returned (some (.int r.1))) r.2) {l1 : Option Nat} {l2 : Option Nat} {l3 : Option Nat} {l4 : Int32} {h : gx_H} {r : (Int32 × gx_H)} (e : lw_law_201 xs rec23 l1 l2 l3 l4 h = some r) : gv_V (some xs) 116 195 201 [(0, .float 0), (1, gv_u l1), (2, gv_u l2), (3, gv_u l3), (4, .int l4)] [] h (.returned (some (.int r.1))) r.2 := by
  unfold lw_law_201 at e
  refine gv_goto (pc' := 1033) rfl rfl ?_
  exact gv_weak (lw_law_1033_ok hrec23 e) (gv_S1 rfl (gv_S1 rfl (gv_S1 rfl (gv_S1 rfl (gv_S1 rfl gv_S0)))))
def lw_law_23 (xs : List Int32) : Nat → Option Nat → Option Nat → Option Nat → Int32 → gx_H → Option (Int32 × gx_H)
  | 0, _, _, _, _, _ => none
  | n + 1, l1, l2, l3, l4, h =>
    if (xs.length.toInt32 - (6 : Int32)) < l4 then (
      some ((1 : Int32), h)) else
    if l4 < 0 then none else
    (xs[Int32.toNatClampNeg l4]?).bind fun v2 =>
    if (v2 &&& (31 : Int32)) = (0 : Int32) then (
      if (l4 + (1 : Int32)) < 0 then none else
      (xs[Int32.toNatClampNeg (l4 + (1 : Int32))]?).bind fun v5 =>
      (lw_make l1 v5 l3 h).bind fun r9 =>
      if (l4 + (1 : Int32)) < 0 then none else
      (xs[Int32.toNatClampNeg (l4 + (1 : Int32))]?).bind fun v10 =>
      (gv_is r9.2 l2 7).bind fun i12 =>
      (mM_make l2 v10 r9.2).bind fun r15 =>
      (gv_is r15.2 l2 7).bind fun i16 =>
      (mM_thrown l2 r15.2).bind fun v17 =>
      if v17 = r9.1 then (
        if r9.1 = 0 then (
          (gv_lJ r15.2 l3 (0 : Int32)).bind fun v20 =>
          if v20 = (Int32.toInt64 r15.1) then (
            lw_law_201 xs (lw_law_23 xs n) l1 l2 l3 l4 r15.2) else
          some ((0 : Int32), r15.2)) else
        lw_law_201 xs (lw_law_23 xs n) l1 l2 l3 l4 r15.2) else
      some ((0 : Int32), r15.2)) else
    if (v2 &&& (31 : Int32)) = (1 : Int32) then (
      if (l4 + (1 : Int32)) < 0 then none else
      (xs[Int32.toNatClampNeg (l4 + (1 : Int32))]?).bind fun v23 =>
      if (l4 + (2 : Int32)) < 0 then none else
      (xs[Int32.toNatClampNeg (l4 + (2 : Int32))]?).bind fun v25 =>
      if (l4 + (3 : Int32)) < 0 then none else
      (xs[Int32.toNatClampNeg (l4 + (3 : Int32))]?).bind fun v27 =>
      (lw_buffer l1 (((Int32.toInt64 v23) <<< (Int32.toInt64 (32 : Int32) &&& 63)) ||| ((Int32.toInt64 v25) &&& (4294967295 : Int64))) v27 l3 h).bind fun r31 =>
      if (l4 + (1 : Int32)) < 0 then none else
      (xs[Int32.toNatClampNeg (l4 + (1 : Int32))]?).bind fun v32 =>
      if (l4 + (2 : Int32)) < 0 then none else
      (xs[Int32.toNatClampNeg (l4 + (2 : Int32))]?).bind fun v34 =>
      if (l4 + (3 : Int32)) < 0 then none else
      (xs[Int32.toNatClampNeg (l4 + (3 : Int32))]?).bind fun v36 =>
      (gv_is r31.2 l2 7).bind fun i38 =>
      (mM_buffer l2 (((Int32.toInt64 v32) <<< (Int32.toInt64 (32 : Int32) &&& 63)) ||| ((Int32.toInt64 v34) &&& (4294967295 : Int64))) v36 r31.2).bind fun r41 =>
      lw_law_1033 xs (lw_law_23 xs n) l1 l2 l3 l4 r41.2) else
    if (v2 &&& (31 : Int32)) = (2 : Int32) then (
      if (l4 + (1 : Int32)) < 0 then none else
      (xs[Int32.toNatClampNeg (l4 + (1 : Int32))]?).bind fun v43 =>
      if (l4 + (2 : Int32)) < 0 then none else
      (xs[Int32.toNatClampNeg (l4 + (2 : Int32))]?).bind fun v45 =>
      if (l4 + (3 : Int32)) < 0 then none else
      (xs[Int32.toNatClampNeg (l4 + (3 : Int32))]?).bind fun v47 =>
      if (l4 + (4 : Int32)) < 0 then none else
      (xs[Int32.toNatClampNeg (l4 + (4 : Int32))]?).bind fun v49 =>
      (lw_view l1 v43 v45 v47 v49 l3 h).bind fun r53 =>
      if (l4 + (1 : Int32)) < 0 then none else
      (xs[Int32.toNatClampNeg (l4 + (1 : Int32))]?).bind fun v54 =>
      if (l4 + (2 : Int32)) < 0 then none else
      (xs[Int32.toNatClampNeg (l4 + (2 : Int32))]?).bind fun v56 =>
      if (l4 + (3 : Int32)) < 0 then none else
      (xs[Int32.toNatClampNeg (l4 + (3 : Int32))]?).bind fun v58 =>
      if (l4 + (4 : Int32)) < 0 then none else
      (xs[Int32.toNatClampNeg (l4 + (4 : Int32))]?).bind fun v60 =>
      (gv_is r53.2 l2 7).bind fun i62 =>
      (mM_view l2 v54 v56 v58 v60 r53.2).bind fun r65 =>
      lw_law_1033 xs (lw_law_23 xs n) l1 l2 l3 l4 r65.2) else
    if (v2 &&& (31 : Int32)) = (3 : Int32) then (
      if (l4 + (1 : Int32)) < 0 then none else
      (xs[Int32.toNatClampNeg (l4 + (1 : Int32))]?).bind fun v67 =>
      if (l4 + (2 : Int32)) < 0 then none else
      (xs[Int32.toNatClampNeg (l4 + (2 : Int32))]?).bind fun v69 =>
      (lw_stamp l1 (((Int32.toInt64 v67) <<< (Int32.toInt64 (32 : Int32) &&& 63)) ||| ((Int32.toInt64 v69) &&& (4294967295 : Int64))) l3 h).bind fun r73 =>
      if (l4 + (1 : Int32)) < 0 then none else
      (xs[Int32.toNatClampNeg (l4 + (1 : Int32))]?).bind fun v74 =>
      if (l4 + (2 : Int32)) < 0 then none else
      (xs[Int32.toNatClampNeg (l4 + (2 : Int32))]?).bind fun v76 =>
      (gv_is r73.2 l2 7).bind fun i78 =>
      (mM_stamp l2 (((Int32.toInt64 v74) <<< (Int32.toInt64 (32 : Int32) &&& 63)) ||| ((Int32.toInt64 v76) &&& (4294967295 : Int64))) r73.2).bind fun r81 =>
      lw_law_1033 xs (lw_law_23 xs n) l1 l2 l3 l4 r81.2) else
    if (v2 &&& (31 : Int32)) = (4 : Int32) then (
      if (l4 + (1 : Int32)) < 0 then none else
      (xs[Int32.toNatClampNeg (l4 + (1 : Int32))]?).bind fun v83 =>
      if (l4 + (2 : Int32)) < 0 then none else
      (xs[Int32.toNatClampNeg (l4 + (2 : Int32))]?).bind fun v85 =>
      if (l4 + (3 : Int32)) < 0 then none else
      (xs[Int32.toNatClampNeg (l4 + (3 : Int32))]?).bind fun v87 =>
      if (l4 + (4 : Int32)) < 0 then none else
      (xs[Int32.toNatClampNeg (l4 + (4 : Int32))]?).bind fun v89 =>
      (lw_put l1 v83 v85 v87 v89 h).bind fun r93 =>
      if (l4 + (1 : Int32)) < 0 then none else
      (xs[Int32.toNatClampNeg (l4 + (1 : Int32))]?).bind fun v94 =>
      if (l4 + (2 : Int32)) < 0 then none else
      (xs[Int32.toNatClampNeg (l4 + (2 : Int32))]?).bind fun v96 =>
      if (l4 + (3 : Int32)) < 0 then none else
      (xs[Int32.toNatClampNeg (l4 + (3 : Int32))]?).bind fun v98 =>
      if (l4 + (4 : Int32)) < 0 then none else
      (xs[Int32.toNatClampNeg (l4 + (4 : Int32))]?).bind fun v100 =>
      (gv_is r93.2 l2 7).bind fun i102 =>
      (mM_put l2 v94 v96 v98 v100 r93.2).bind fun h104 =>
      lw_law_1033 xs (lw_law_23 xs n) l1 l2 l3 l4 h104) else
    if (v2 &&& (31 : Int32)) = (5 : Int32) then (
      if (l4 + (1 : Int32)) < 0 then none else
      (xs[Int32.toNatClampNeg (l4 + (1 : Int32))]?).bind fun v106 =>
      if (l4 + (2 : Int32)) < 0 then none else
      (xs[Int32.toNatClampNeg (l4 + (2 : Int32))]?).bind fun v108 =>
      (lw_take l1 v106 v108 l3 h).bind fun r112 =>
      if (l4 + (1 : Int32)) < 0 then none else
      (xs[Int32.toNatClampNeg (l4 + (1 : Int32))]?).bind fun v113 =>
      if (l4 + (2 : Int32)) < 0 then none else
      (xs[Int32.toNatClampNeg (l4 + (2 : Int32))]?).bind fun v115 =>
      (gv_is r112.2 l2 7).bind fun i117 =>
      (mM_take l2 v113 v115 r112.2).bind fun r120 =>
      lw_law_1033 xs (lw_law_23 xs n) l1 l2 l3 l4 r120.2) else
    if (v2 &&& (31 : Int32)) = (6 : Int32) then (
      if (l4 + (1 : Int32)) < 0 then none else
      (xs[Int32.toNatClampNeg (l4 + (1 : Int32))]?).bind fun v122 =>
      if (l4 + (2 : Int32)) < 0 then none else
      (xs[Int32.toNatClampNeg (l4 + (2 : Int32))]?).bind fun v124 =>
      if (l4 + (3 : Int32)) < 0 then none else
      (xs[Int32.toNatClampNeg (l4 + (3 : Int32))]?).bind fun v126 =>
      if (l4 + (4 : Int32)) < 0 then none else
      (xs[Int32.toNatClampNeg (l4 + (4 : Int32))]?).bind fun v128 =>
      if (l4 + (5 : Int32)) < 0 then none else
      (xs[Int32.toNatClampNeg (l4 + (5 : Int32))]?).bind fun v130 =>
      (lw_entry l1 v122 v124 v126 v128 v130 h).bind fun r134 =>
      if (l4 + (1 : Int32)) < 0 then none else
      (xs[Int32.toNatClampNeg (l4 + (1 : Int32))]?).bind fun v135 =>
      if (l4 + (2 : Int32)) < 0 then none else
      (xs[Int32.toNatClampNeg (l4 + (2 : Int32))]?).bind fun v137 =>
      if (l4 + (3 : Int32)) < 0 then none else
      (xs[Int32.toNatClampNeg (l4 + (3 : Int32))]?).bind fun v139 =>
      if (l4 + (4 : Int32)) < 0 then none else
      (xs[Int32.toNatClampNeg (l4 + (4 : Int32))]?).bind fun v141 =>
      if (l4 + (5 : Int32)) < 0 then none else
      (xs[Int32.toNatClampNeg (l4 + (5 : Int32))]?).bind fun v143 =>
      (gv_is r134.2 l2 7).bind fun i145 =>
      (mM_entry l2 v135 v137 v139 v141 v143 r134.2).bind fun h147 =>
      lw_law_1033 xs (lw_law_23 xs n) l1 l2 l3 l4 h147) else
    if (v2 &&& (31 : Int32)) = (7 : Int32) then (
      if (l4 + (1 : Int32)) < 0 then none else
      (xs[Int32.toNatClampNeg (l4 + (1 : Int32))]?).bind fun v149 =>
      if (l4 + (2 : Int32)) < 0 then none else
      (xs[Int32.toNatClampNeg (l4 + (2 : Int32))]?).bind fun v151 =>
      if (l4 + (3 : Int32)) < 0 then none else
      (xs[Int32.toNatClampNeg (l4 + (3 : Int32))]?).bind fun v153 =>
      (lw_add l1 v149 v151 v153 l3 h).bind fun r157 =>
      if (l4 + (1 : Int32)) < 0 then none else
      (xs[Int32.toNatClampNeg (l4 + (1 : Int32))]?).bind fun v158 =>
      if (l4 + (2 : Int32)) < 0 then none else
      (xs[Int32.toNatClampNeg (l4 + (2 : Int32))]?).bind fun v160 =>
      if (l4 + (3 : Int32)) < 0 then none else
      (xs[Int32.toNatClampNeg (l4 + (3 : Int32))]?).bind fun v162 =>
      (gv_is r157.2 l2 7).bind fun i164 =>
      (mM_add l2 v158 v160 v162 r157.2).bind fun r167 =>
      lw_law_1033 xs (lw_law_23 xs n) l1 l2 l3 l4 r167.2) else
    if (v2 &&& (31 : Int32)) = (8 : Int32) then (
      if (l4 + (1 : Int32)) < 0 then none else
      (xs[Int32.toNatClampNeg (l4 + (1 : Int32))]?).bind fun v169 =>
      (gv_is h l1 0).bind fun i171 =>
      (cG_detach l1 v169 h).bind fun r174 =>
      if (l4 + (1 : Int32)) < 0 then none else
      (xs[Int32.toNatClampNeg (l4 + (1 : Int32))]?).bind fun v175 =>
      (gv_is r174.2 l2 7).bind fun i177 =>
      (mM_detach l2 v175 r174.2).bind fun r180 =>
      lw_law_1033 xs (lw_law_23 xs n) l1 l2 l3 l4 r180.2) else
    if (v2 &&& (31 : Int32)) = (9 : Int32) then (
      (gv_is h l1 0).bind fun i182 =>
      (cG_clear l1 h).bind fun r185 =>
      (gv_is r185.2 l2 7).bind fun i186 =>
      (mM_clear l2 r185.2).bind fun r189 =>
      lw_law_1033 xs (lw_law_23 xs n) l1 l2 l3 l4 r189.2) else
    if (v2 &&& (31 : Int32)) = (10 : Int32) then (
      (gv_is h l1 0).bind fun i191 =>
      (cG_objects l1 h).bind fun v192 =>
      (gv_is h l2 7).bind fun i193 =>
      (mM_objects l2 h).bind fun r196 =>
      lw_law_1033 xs (lw_law_23 xs n) l1 l2 l3 l4 r196.2) else
    if (v2 &&& (31 : Int32)) = (11 : Int32) then (
      if (l4 + (1 : Int32)) < 0 then none else
      (xs[Int32.toNatClampNeg (l4 + (1 : Int32))]?).bind fun v198 =>
      (gv_is h l1 0).bind fun i200 =>
      (cG_type l1 v198 h).bind fun v201 =>
      if (l4 + (1 : Int32)) < 0 then none else
      (xs[Int32.toNatClampNeg (l4 + (1 : Int32))]?).bind fun v202 =>
      (gv_is h l2 7).bind fun i204 =>
      (mM_type l2 v202 h).bind fun r207 =>
      lw_law_1033 xs (lw_law_23 xs n) l1 l2 l3 l4 r207.2) else
    if (v2 &&& (31 : Int32)) = (12 : Int32) then (
      if (l4 + (1 : Int32)) < 0 then none else
      (xs[Int32.toNatClampNeg (l4 + (1 : Int32))]?).bind fun v209 =>
      (gv_is h l1 0).bind fun i211 =>
      (cG_size l1 v209 h).bind fun v212 =>
      if (l4 + (1 : Int32)) < 0 then none else
      (xs[Int32.toNatClampNeg (l4 + (1 : Int32))]?).bind fun v213 =>
      (gv_is h l2 7).bind fun i215 =>
      (mM_size l2 v213 h).bind fun r218 =>
      lw_law_1033 xs (lw_law_23 xs n) l1 l2 l3 l4 r218.2) else
    if (v2 &&& (31 : Int32)) = (13 : Int32) then (
      if (l4 + (1 : Int32)) < 0 then none else
      (xs[Int32.toNatClampNeg (l4 + (1 : Int32))]?).bind fun v220 =>
      if (l4 + (2 : Int32)) < 0 then none else
      (xs[Int32.toNatClampNeg (l4 + (2 : Int32))]?).bind fun v222 =>
      if (l4 + (3 : Int32)) < 0 then none else
      (xs[Int32.toNatClampNeg (l4 + (3 : Int32))]?).bind fun v224 =>
      (lw_get l1 v220 v222 v224 l3 h).bind fun r228 =>
      if (l4 + (1 : Int32)) < 0 then none else
      (xs[Int32.toNatClampNeg (l4 + (1 : Int32))]?).bind fun v229 =>
      if (l4 + (2 : Int32)) < 0 then none else
      (xs[Int32.toNatClampNeg (l4 + (2 : Int32))]?).bind fun v231 =>
      if (l4 + (3 : Int32)) < 0 then none else
      (xs[Int32.toNatClampNeg (l4 + (3 : Int32))]?).bind fun v233 =>
      (gv_is r228.2 l2 7).bind fun i235 =>
      (mM_get l2 v229 v231 v233 r228.2).bind fun r238 =>
      lw_law_1033 xs (lw_law_23 xs n) l1 l2 l3 l4 r238.2) else
    if (v2 &&& (31 : Int32)) = (14 : Int32) then (
      if (l4 + (1 : Int32)) < 0 then none else
      (xs[Int32.toNatClampNeg (l4 + (1 : Int32))]?).bind fun v240 =>
      (lw_pass l1 v240 l3 h).bind fun r244 =>
      if (l4 + (1 : Int32)) < 0 then none else
      (xs[Int32.toNatClampNeg (l4 + (1 : Int32))]?).bind fun v245 =>
      (gv_is r244.2 l2 7).bind fun i247 =>
      (mM_pass l2 v245 r244.2).bind fun r250 =>
      lw_law_1033 xs (lw_law_23 xs n) l1 l2 l3 l4 r250.2) else
    if (v2 &&& (31 : Int32)) = (15 : Int32) then (
      (gv_is h l1 0).bind fun i252 =>
      (cG_holders l1 h).bind fun v253 =>
      (gv_is h l2 7).bind fun i254 =>
      (mM_holders l2 h).bind fun r257 =>
      lw_law_1033 xs (lw_law_23 xs n) l1 l2 l3 l4 r257.2) else
    if (v2 &&& (31 : Int32)) = (16 : Int32) then (
      if (l4 + (1 : Int32)) < 0 then none else
      (xs[Int32.toNatClampNeg (l4 + (1 : Int32))]?).bind fun v259 =>
      if (l4 + (2 : Int32)) < 0 then none else
      (xs[Int32.toNatClampNeg (l4 + (2 : Int32))]?).bind fun v261 =>
      (lw_write l1 v259 v261 l3 h).bind fun r265 =>
      if (l4 + (1 : Int32)) < 0 then none else
      (xs[Int32.toNatClampNeg (l4 + (1 : Int32))]?).bind fun v266 =>
      if (l4 + (2 : Int32)) < 0 then none else
      (xs[Int32.toNatClampNeg (l4 + (2 : Int32))]?).bind fun v268 =>
      (gv_is r265.2 l2 7).bind fun i270 =>
      (mM_write l2 v266 v268 r265.2).bind fun r273 =>
      lw_law_1033 xs (lw_law_23 xs n) l1 l2 l3 l4 r273.2) else
    if (v2 &&& (31 : Int32)) = (17 : Int32) then (
      (lw_read l1 l3 h).bind fun r277 =>
      (gv_is r277.2 l2 7).bind fun i278 =>
      (mM_read l2 r277.2).bind fun r281 =>
      lw_law_1033 xs (lw_law_23 xs n) l1 l2 l3 l4 r281.2) else
    if (v2 &&& (31 : Int32)) = (18 : Int32) then (
      (gv_is h l1 0).bind fun i283 =>
      (cG_found l1 h).bind fun v284 =>
      (gv_is h l2 7).bind fun i285 =>
      (mM_found l2 h).bind fun r288 =>
      lw_law_1033 xs (lw_law_23 xs n) l1 l2 l3 l4 r288.2) else
    if (v2 &&& (31 : Int32)) = (19 : Int32) then (
      if (l4 + (1 : Int32)) < 0 then none else
      (xs[Int32.toNatClampNeg (l4 + (1 : Int32))]?).bind fun v290 =>
      if (l4 + (2 : Int32)) < 0 then none else
      (xs[Int32.toNatClampNeg (l4 + (2 : Int32))]?).bind fun v292 =>
      if (l4 + (3 : Int32)) < 0 then none else
      (xs[Int32.toNatClampNeg (l4 + (3 : Int32))]?).bind fun v294 =>
      (gv_is h l1 0).bind fun i296 =>
      (cG_feed l1 (((Int32.toInt64 v290) <<< (Int32.toInt64 (32 : Int32) &&& 63)) ||| ((Int32.toInt64 v292) &&& (4294967295 : Int64))) v294 h).bind fun r299 =>
      if (l4 + (1 : Int32)) < 0 then none else
      (xs[Int32.toNatClampNeg (l4 + (1 : Int32))]?).bind fun v300 =>
      if (l4 + (2 : Int32)) < 0 then none else
      (xs[Int32.toNatClampNeg (l4 + (2 : Int32))]?).bind fun v302 =>
      if (l4 + (3 : Int32)) < 0 then none else
      (xs[Int32.toNatClampNeg (l4 + (3 : Int32))]?).bind fun v304 =>
      (gv_is r299.2 l2 7).bind fun i306 =>
      (mM_feed l2 (((Int32.toInt64 v300) <<< (Int32.toInt64 (32 : Int32) &&& 63)) ||| ((Int32.toInt64 v302) &&& (4294967295 : Int64))) v304 r299.2).bind fun r309 =>
      lw_law_1033 xs (lw_law_23 xs n) l1 l2 l3 l4 r309.2) else
    if (v2 &&& (31 : Int32)) = (20 : Int32) then (
      (gv_is h l1 0).bind fun i311 =>
      (cG_wipe l1 h).bind fun r314 =>
      (gv_is r314.2 l2 7).bind fun i315 =>
      (mM_wipe l2 r314.2).bind fun r318 =>
      lw_law_1033 xs (lw_law_23 xs n) l1 l2 l3 l4 r318.2) else
    if (v2 &&& (31 : Int32)) = (21 : Int32) then (
      if (l4 + (1 : Int32)) < 0 then none else
      (xs[Int32.toNatClampNeg (l4 + (1 : Int32))]?).bind fun v320 =>
      if (l4 + (2 : Int32)) < 0 then none else
      (xs[Int32.toNatClampNeg (l4 + (2 : Int32))]?).bind fun v322 =>
      (gv_is h l1 0).bind fun i324 =>
      (cG_spoil l1 v320 v322 h).bind fun r327 =>
      if (l4 + (1 : Int32)) < 0 then none else
      (xs[Int32.toNatClampNeg (l4 + (1 : Int32))]?).bind fun v328 =>
      if (l4 + (2 : Int32)) < 0 then none else
      (xs[Int32.toNatClampNeg (l4 + (2 : Int32))]?).bind fun v330 =>
      (gv_is r327.2 l2 7).bind fun i332 =>
      (mM_spoil l2 v328 v330 r327.2).bind fun r335 =>
      lw_law_1033 xs (lw_law_23 xs n) l1 l2 l3 l4 r335.2) else
    if (v2 &&& (31 : Int32)) = (22 : Int32) then (
      if (l4 + (1 : Int32)) < 0 then none else
      (xs[Int32.toNatClampNeg (l4 + (1 : Int32))]?).bind fun v337 =>
      (gv_is h l1 0).bind fun i339 =>
      (cG_byteAt l1 v337 h).bind fun v340 =>
      if (l4 + (1 : Int32)) < 0 then none else
      (xs[Int32.toNatClampNeg (l4 + (1 : Int32))]?).bind fun v341 =>
      (gv_is h l2 7).bind fun i343 =>
      (mM_byteAt l2 v341 h).bind fun r346 =>
      lw_law_1033 xs (lw_law_23 xs n) l1 l2 l3 l4 r346.2) else
    lw_law_1033 xs (lw_law_23 xs n) l1 l2 l3 l4 h
theorem lw_law_23_ok {xs : List Int32} : ∀ (n : Nat) (l1 : Option Nat) (l2 : Option Nat) (l3 : Option Nat) (l4 : Int32) (h : gx_H) (r : (Int32 × gx_H)), lw_law_23 xs n l1 l2 l3 l4 h = some r → gv_V (some xs) 116 195 23 [(0, .float 0), (1, gv_u l1), (2, gv_u l2), (3, gv_u l3), (4, .int l4)] [] h (.returned (some (.int r.1))) r.2 := by
  intro n
  induction n with
  | zero => intro l1 l2 l3 l4 h r e; cases e
  | succ n ih =>
    intro l1 l2 l3 l4 h r e
    rw [lw_law_23] at e
    refine gv_ild (pc' := 25) rfl rfl rfl ?_
    refine gv_xld (pc' := 26) rfl rfl rfl ?_
    refine gv_xlen (pc' := 27) rfl rfl rfl ?_
    refine gv_bp (pc' := 29) (x := 6) rfl rfl rfl ?_
    refine gv_isub (pc' := 30) rfl rfl ?_
    by_cases c1 : (xs.length.toInt32 - (6 : Int32)) < l4
    · rw [if_pos c1] at e
      refine gv_cmT (pc' := 1039) rfl (gv_gtT2 c1) rfl ?_
      refine gv_ic (pc' := 1040) (x := 1) rfl rfl rfl ?_
      cases e
      exact gv_retZ rfl rfl (by decide)
    rw [if_neg c1] at e
    refine gv_cmF (pc' := 33) rfl (gv_gtF2 c1) rfl rfl ?_
    refine gv_xld (pc' := 34) rfl rfl rfl ?_
    refine gv_ild (pc' := 36) rfl rfl rfl ?_
    by_cases c3 : l4 < 0
    · rw [if_pos c3] at e; cases e
    rw [if_neg c3] at e
    obtain ⟨v2, qv2, e⟩ := gv_bind e
    refine gv_xal (pc' := 37) rfl rfl c3 qv2 rfl ?_
    refine gv_bp (pc' := 39) (x := 31) rfl rfl rfl ?_
    refine gv_iand (pc' := 40) rfl rfl ?_
    by_cases c4 : (v2 &&& (31 : Int32)) = (0 : Int32)
    · rw [if_pos c4] at e
      refine gv_sw (pc' := 148) (off := 108) rfl (by rw [c4]; rfl) rfl ?_
      refine gv_rldn (pc' := 149) rfl rfl rfl ?_
      refine gv_xld (pc' := 150) rfl rfl rfl ?_
      refine gv_ild (pc' := 152) rfl rfl rfl ?_
      refine gv_ic (pc' := 153) (x := 1) rfl rfl rfl ?_
      refine gv_iadd (pc' := 154) rfl rfl ?_
      by_cases c6 : (l4 + (1 : Int32)) < 0
      · rw [if_pos c6] at e; cases e
      rw [if_neg c6] at e
      obtain ⟨v5, qv5, e⟩ := gv_bind e
      refine gv_xal (pc' := 155) rfl rfl c6 qv5 rfl ?_
      refine gv_rldn (pc' := 156) rfl rfl rfl ?_
      obtain ⟨⟨v7, h8⟩, qv7, e⟩ := gv_bind e
      refine gv_sS (jc := 23) (n := 3) (rest := []) (stk := [.int v7]) (pc' := 159) rfl rfl rfl rfl rfl rfl rfl rfl rfl (gv_zR (gv_zI (gv_zR gv_z0))) rfl (gv_aR (gv_aI (gv_aR gv_a0))) (Nat.le_of_ble_eq_true rfl) (lw_make_ok qv7) rfl rfl ?_
      refine gv_ist (pc' := 161) rfl rfl (gv_Ci rfl) rfl ?_
      refine gv_rldn (pc' := 162) rfl rfl rfl ?_
      refine gv_xld (pc' := 163) rfl rfl rfl ?_
      refine gv_ild (pc' := 165) rfl rfl rfl ?_
      refine gv_ic (pc' := 166) (x := 1) rfl rfl rfl ?_
      refine gv_iadd (pc' := 167) rfl rfl ?_
      by_cases c11 : (l4 + (1 : Int32)) < 0
      · rw [if_pos c11] at e; cases e
      rw [if_neg c11] at e
      obtain ⟨v10, qv10, e⟩ := gv_bind e
      refine gv_xal (pc' := 168) rfl rfl c11 qv10 rfl ?_
      obtain ⟨i12, qi12, e⟩ := gv_bind e
      obtain ⟨⟨v13, h14⟩, qv13, e⟩ := gv_bind e
      refine gv_vS (jc := 121) (n := 1) (rest := []) (stk := [.int v13]) (pc' := 171) rfl rfl rfl rfl rfl rfl rfl rfl rfl (gv_zR (gv_zI gv_z0)) rfl (gv_aR (gv_aI gv_a0)) (Nat.le_of_ble_eq_true rfl) qi12 (mM_make_ok qv13) rfl rfl ?_
      refine gv_ist (pc' := 173) rfl rfl (gv_Ci rfl) rfl ?_
      refine gv_rldn (pc' := 174) rfl rfl rfl ?_
      obtain ⟨i16, qi16, e⟩ := gv_bind e
      obtain ⟨v17, qv17, e⟩ := gv_bind e
      refine gv_vS (jc := 120) (n := 0) (rest := []) (stk := [.int v17]) (pc' := 177) rfl rfl rfl rfl rfl rfl rfl rfl rfl (gv_zR gv_z0) rfl (gv_aR gv_a0) (Nat.le_of_ble_eq_true rfl) qi16 (mM_thrown_ok qv17) rfl rfl ?_
      refine gv_ild (pc' := 179) rfl rfl rfl ?_
      by_cases c18 : v17 = v7
      · rw [if_pos c18] at e
        refine gv_cmT (pc' := 184) rfl (gv_eqT2 c18) rfl ?_
        refine gv_ild (pc' := 186) rfl rfl rfl ?_
        by_cases c19 : v7 = 0
        · rw [if_pos c19] at e
          refine gv_ifF (pc' := 189) rfl (gv_neF c19) rfl rfl ?_
          refine gv_rldn (pc' := 190) rfl rfl rfl ?_
          refine gv_ic (pc' := 191) (x := 0) rfl rfl rfl ?_
          obtain ⟨v20, qv20, e⟩ := gv_bind e
          refine gv_lald (pc' := 192) rfl qv20 rfl ?_
          refine gv_ild (pc' := 194) rfl rfl rfl ?_
          refine gv_i2l (pc' := 195) rfl rfl ?_
          refine gv_lcmp (pc' := 196) rfl rfl ?_
          by_cases c21 : v20 = (Int32.toInt64 v13)
          · rw [if_pos c21] at e
            refine gv_ifT (pc' := 201) rfl (gv_eqTL c21) rfl ?_
            exact gv_weak (lw_law_201_ok ih e) (gv_S1 rfl (gv_S1 rfl (gv_S1 rfl (gv_S1 rfl (gv_S1 rfl gv_S0)))))
          rw [if_neg c21] at e
          refine gv_ifF (pc' := 199) rfl (gv_eqFL c21) rfl rfl ?_
          refine gv_ic (pc' := 200) (x := 0) rfl rfl rfl ?_
          cases e
          exact gv_retZ rfl rfl (by decide)
        rw [if_neg c19] at e
        refine gv_ifT (pc' := 201) rfl (gv_neT c19) rfl ?_
        exact gv_weak (lw_law_201_ok ih e) (gv_S1 rfl (gv_S1 rfl (gv_S1 rfl (gv_S1 rfl (gv_S1 rfl gv_S0)))))
      rw [if_neg c18] at e
      refine gv_cmF (pc' := 182) rfl (gv_eqF2 c18) rfl rfl ?_
      refine gv_ic (pc' := 183) (x := 0) rfl rfl rfl ?_
      cases e
      exact gv_retZ rfl rfl (by decide)
    rw [if_neg c4] at e
    by_cases c22 : (v2 &&& (31 : Int32)) = (1 : Int32)
    · rw [if_pos c22] at e
      refine gv_sw (pc' := 204) (off := 164) rfl (by rw [c22]; rfl) rfl ?_
      refine gv_rldn (pc' := 205) rfl rfl rfl ?_
      refine gv_xld (pc' := 206) rfl rfl rfl ?_
      refine gv_ild (pc' := 208) rfl rfl rfl ?_
      refine gv_ic (pc' := 209) (x := 1) rfl rfl rfl ?_
      refine gv_iadd (pc' := 210) rfl rfl ?_
      by_cases c24 : (l4 + (1 : Int32)) < 0
      · rw [if_pos c24] at e; cases e
      rw [if_neg c24] at e
      obtain ⟨v23, qv23, e⟩ := gv_bind e
      refine gv_xal (pc' := 211) rfl rfl c24 qv23 rfl ?_
      refine gv_i2l (pc' := 212) rfl rfl ?_
      refine gv_bp (pc' := 214) (x := 32) rfl rfl rfl ?_
      refine gv_lshl (pc' := 215) rfl rfl ?_
      refine gv_xld (pc' := 216) rfl rfl rfl ?_
      refine gv_ild (pc' := 218) rfl rfl rfl ?_
      refine gv_ic (pc' := 219) (x := 2) rfl rfl rfl ?_
      refine gv_iadd (pc' := 220) rfl rfl ?_
      by_cases c26 : (l4 + (2 : Int32)) < 0
      · rw [if_pos c26] at e; cases e
      rw [if_neg c26] at e
      obtain ⟨v25, qv25, e⟩ := gv_bind e
      refine gv_xal (pc' := 221) rfl rfl c26 qv25 rfl ?_
      refine gv_i2l (pc' := 222) rfl rfl ?_
      refine gv_ld (pc' := 225) (x := 4294967295) rfl rfl rfl ?_
      refine gv_land (pc' := 226) rfl rfl ?_
      refine gv_lor (pc' := 227) rfl rfl ?_
      refine gv_xld (pc' := 228) rfl rfl rfl ?_
      refine gv_ild (pc' := 230) rfl rfl rfl ?_
      refine gv_ic (pc' := 231) (x := 3) rfl rfl rfl ?_
      refine gv_iadd (pc' := 232) rfl rfl ?_
      by_cases c28 : (l4 + (3 : Int32)) < 0
      · rw [if_pos c28] at e; cases e
      rw [if_neg c28] at e
      obtain ⟨v27, qv27, e⟩ := gv_bind e
      refine gv_xal (pc' := 233) rfl rfl c28 qv27 rfl ?_
      refine gv_rldn (pc' := 234) rfl rfl rfl ?_
      obtain ⟨⟨v29, h30⟩, qv29, e⟩ := gv_bind e
      refine gv_sS (jc := 28) (n := 4) (rest := []) (stk := [.int v29]) (pc' := 237) rfl rfl rfl rfl rfl rfl rfl rfl rfl (gv_zR (gv_zJ (gv_zI (gv_zR gv_z0)))) rfl (gv_aR (gv_aJ (gv_aI (gv_aR gv_a0)))) (Nat.le_of_ble_eq_true rfl) (lw_buffer_ok qv29) rfl rfl ?_
      refine gv_ist (pc' := 239) rfl rfl (gv_Ci rfl) rfl ?_
      refine gv_rldn (pc' := 240) rfl rfl rfl ?_
      refine gv_xld (pc' := 241) rfl rfl rfl ?_
      refine gv_ild (pc' := 243) rfl rfl rfl ?_
      refine gv_ic (pc' := 244) (x := 1) rfl rfl rfl ?_
      refine gv_iadd (pc' := 245) rfl rfl ?_
      by_cases c33 : (l4 + (1 : Int32)) < 0
      · rw [if_pos c33] at e; cases e
      rw [if_neg c33] at e
      obtain ⟨v32, qv32, e⟩ := gv_bind e
      refine gv_xal (pc' := 246) rfl rfl c33 qv32 rfl ?_
      refine gv_i2l (pc' := 247) rfl rfl ?_
      refine gv_bp (pc' := 249) (x := 32) rfl rfl rfl ?_
      refine gv_lshl (pc' := 250) rfl rfl ?_
      refine gv_xld (pc' := 251) rfl rfl rfl ?_
      refine gv_ild (pc' := 253) rfl rfl rfl ?_
      refine gv_ic (pc' := 254) (x := 2) rfl rfl rfl ?_
      refine gv_iadd (pc' := 255) rfl rfl ?_
      by_cases c35 : (l4 + (2 : Int32)) < 0
      · rw [if_pos c35] at e; cases e
      rw [if_neg c35] at e
      obtain ⟨v34, qv34, e⟩ := gv_bind e
      refine gv_xal (pc' := 256) rfl rfl c35 qv34 rfl ?_
      refine gv_i2l (pc' := 257) rfl rfl ?_
      refine gv_ld (pc' := 260) (x := 4294967295) rfl rfl rfl ?_
      refine gv_land (pc' := 261) rfl rfl ?_
      refine gv_lor (pc' := 262) rfl rfl ?_
      refine gv_xld (pc' := 263) rfl rfl rfl ?_
      refine gv_ild (pc' := 265) rfl rfl rfl ?_
      refine gv_ic (pc' := 266) (x := 3) rfl rfl rfl ?_
      refine gv_iadd (pc' := 267) rfl rfl ?_
      by_cases c37 : (l4 + (3 : Int32)) < 0
      · rw [if_pos c37] at e; cases e
      rw [if_neg c37] at e
      obtain ⟨v36, qv36, e⟩ := gv_bind e
      refine gv_xal (pc' := 268) rfl rfl c37 qv36 rfl ?_
      obtain ⟨i38, qi38, e⟩ := gv_bind e
      obtain ⟨⟨v39, h40⟩, qv39, e⟩ := gv_bind e
      refine gv_vS (jc := 125) (n := 2) (rest := []) (stk := [.int v39]) (pc' := 271) rfl rfl rfl rfl rfl rfl rfl rfl rfl (gv_zR (gv_zJ (gv_zI gv_z0))) rfl (gv_aR (gv_aJ (gv_aI gv_a0))) (Nat.le_of_ble_eq_true rfl) qi38 (mM_buffer_ok qv39) rfl rfl ?_
      refine gv_ist (pc' := 273) rfl rfl (gv_Ci rfl) rfl ?_
      refine gv_goto (pc' := 1033) rfl rfl ?_
      exact gv_weak (lw_law_1033_ok ih e) (gv_S1 rfl (gv_S1 rfl (gv_S1 rfl (gv_S1 rfl (gv_S1 rfl gv_S0)))))
    rw [if_neg c22] at e
    by_cases c42 : (v2 &&& (31 : Int32)) = (2 : Int32)
    · rw [if_pos c42] at e
      refine gv_sw (pc' := 276) (off := 236) rfl (by rw [c42]; rfl) rfl ?_
      refine gv_rldn (pc' := 277) rfl rfl rfl ?_
      refine gv_xld (pc' := 278) rfl rfl rfl ?_
      refine gv_ild (pc' := 280) rfl rfl rfl ?_
      refine gv_ic (pc' := 281) (x := 1) rfl rfl rfl ?_
      refine gv_iadd (pc' := 282) rfl rfl ?_
      by_cases c44 : (l4 + (1 : Int32)) < 0
      · rw [if_pos c44] at e; cases e
      rw [if_neg c44] at e
      obtain ⟨v43, qv43, e⟩ := gv_bind e
      refine gv_xal (pc' := 283) rfl rfl c44 qv43 rfl ?_
      refine gv_xld (pc' := 284) rfl rfl rfl ?_
      refine gv_ild (pc' := 286) rfl rfl rfl ?_
      refine gv_ic (pc' := 287) (x := 2) rfl rfl rfl ?_
      refine gv_iadd (pc' := 288) rfl rfl ?_
      by_cases c46 : (l4 + (2 : Int32)) < 0
      · rw [if_pos c46] at e; cases e
      rw [if_neg c46] at e
      obtain ⟨v45, qv45, e⟩ := gv_bind e
      refine gv_xal (pc' := 289) rfl rfl c46 qv45 rfl ?_
      refine gv_xld (pc' := 290) rfl rfl rfl ?_
      refine gv_ild (pc' := 292) rfl rfl rfl ?_
      refine gv_ic (pc' := 293) (x := 3) rfl rfl rfl ?_
      refine gv_iadd (pc' := 294) rfl rfl ?_
      by_cases c48 : (l4 + (3 : Int32)) < 0
      · rw [if_pos c48] at e; cases e
      rw [if_neg c48] at e
      obtain ⟨v47, qv47, e⟩ := gv_bind e
      refine gv_xal (pc' := 295) rfl rfl c48 qv47 rfl ?_
      refine gv_xld (pc' := 296) rfl rfl rfl ?_
      refine gv_ild (pc' := 298) rfl rfl rfl ?_
      refine gv_ic (pc' := 299) (x := 4) rfl rfl rfl ?_
      refine gv_iadd (pc' := 300) rfl rfl ?_
      by_cases c50 : (l4 + (4 : Int32)) < 0
      · rw [if_pos c50] at e; cases e
      rw [if_neg c50] at e
      obtain ⟨v49, qv49, e⟩ := gv_bind e
      refine gv_xal (pc' := 301) rfl rfl c50 qv49 rfl ?_
      refine gv_rldn (pc' := 302) rfl rfl rfl ?_
      obtain ⟨⟨v51, h52⟩, qv51, e⟩ := gv_bind e
      refine gv_sS (jc := 31) (n := 6) (rest := []) (stk := [.int v51]) (pc' := 305) rfl rfl rfl rfl rfl rfl rfl rfl rfl (gv_zR (gv_zI (gv_zI (gv_zI (gv_zI (gv_zR gv_z0)))))) rfl (gv_aR (gv_aI (gv_aI (gv_aI (gv_aI (gv_aR gv_a0)))))) (Nat.le_of_ble_eq_true rfl) (lw_view_ok qv51) rfl rfl ?_
      refine gv_ist (pc' := 307) rfl rfl (gv_Ci rfl) rfl ?_
      refine gv_rldn (pc' := 308) rfl rfl rfl ?_
      refine gv_xld (pc' := 309) rfl rfl rfl ?_
      refine gv_ild (pc' := 311) rfl rfl rfl ?_
      refine gv_ic (pc' := 312) (x := 1) rfl rfl rfl ?_
      refine gv_iadd (pc' := 313) rfl rfl ?_
      by_cases c55 : (l4 + (1 : Int32)) < 0
      · rw [if_pos c55] at e; cases e
      rw [if_neg c55] at e
      obtain ⟨v54, qv54, e⟩ := gv_bind e
      refine gv_xal (pc' := 314) rfl rfl c55 qv54 rfl ?_
      refine gv_xld (pc' := 315) rfl rfl rfl ?_
      refine gv_ild (pc' := 317) rfl rfl rfl ?_
      refine gv_ic (pc' := 318) (x := 2) rfl rfl rfl ?_
      refine gv_iadd (pc' := 319) rfl rfl ?_
      by_cases c57 : (l4 + (2 : Int32)) < 0
      · rw [if_pos c57] at e; cases e
      rw [if_neg c57] at e
      obtain ⟨v56, qv56, e⟩ := gv_bind e
      refine gv_xal (pc' := 320) rfl rfl c57 qv56 rfl ?_
      refine gv_xld (pc' := 321) rfl rfl rfl ?_
      refine gv_ild (pc' := 323) rfl rfl rfl ?_
      refine gv_ic (pc' := 324) (x := 3) rfl rfl rfl ?_
      refine gv_iadd (pc' := 325) rfl rfl ?_
      by_cases c59 : (l4 + (3 : Int32)) < 0
      · rw [if_pos c59] at e; cases e
      rw [if_neg c59] at e
      obtain ⟨v58, qv58, e⟩ := gv_bind e
      refine gv_xal (pc' := 326) rfl rfl c59 qv58 rfl ?_
      refine gv_xld (pc' := 327) rfl rfl rfl ?_
      refine gv_ild (pc' := 329) rfl rfl rfl ?_
      refine gv_ic (pc' := 330) (x := 4) rfl rfl rfl ?_
      refine gv_iadd (pc' := 331) rfl rfl ?_
      by_cases c61 : (l4 + (4 : Int32)) < 0
      · rw [if_pos c61] at e; cases e
      rw [if_neg c61] at e
      obtain ⟨v60, qv60, e⟩ := gv_bind e
      refine gv_xal (pc' := 332) rfl rfl c61 qv60 rfl ?_
      obtain ⟨i62, qi62, e⟩ := gv_bind e
      obtain ⟨⟨v63, h64⟩, qv63, e⟩ := gv_bind e
      refine gv_vS (jc := 126) (n := 4) (rest := []) (stk := [.int v63]) (pc' := 335) rfl rfl rfl rfl rfl rfl rfl rfl rfl (gv_zR (gv_zI (gv_zI (gv_zI (gv_zI gv_z0))))) rfl (gv_aR (gv_aI (gv_aI (gv_aI (gv_aI gv_a0))))) (Nat.le_of_ble_eq_true rfl) qi62 (mM_view_ok qv63) rfl rfl ?_
      refine gv_ist (pc' := 337) rfl rfl (gv_Ci rfl) rfl ?_
      refine gv_goto (pc' := 1033) rfl rfl ?_
      exact gv_weak (lw_law_1033_ok ih e) (gv_S1 rfl (gv_S1 rfl (gv_S1 rfl (gv_S1 rfl (gv_S1 rfl gv_S0)))))
    rw [if_neg c42] at e
    by_cases c66 : (v2 &&& (31 : Int32)) = (3 : Int32)
    · rw [if_pos c66] at e
      refine gv_sw (pc' := 340) (off := 300) rfl (by rw [c66]; rfl) rfl ?_
      refine gv_rldn (pc' := 341) rfl rfl rfl ?_
      refine gv_xld (pc' := 342) rfl rfl rfl ?_
      refine gv_ild (pc' := 344) rfl rfl rfl ?_
      refine gv_ic (pc' := 345) (x := 1) rfl rfl rfl ?_
      refine gv_iadd (pc' := 346) rfl rfl ?_
      by_cases c68 : (l4 + (1 : Int32)) < 0
      · rw [if_pos c68] at e; cases e
      rw [if_neg c68] at e
      obtain ⟨v67, qv67, e⟩ := gv_bind e
      refine gv_xal (pc' := 347) rfl rfl c68 qv67 rfl ?_
      refine gv_i2l (pc' := 348) rfl rfl ?_
      refine gv_bp (pc' := 350) (x := 32) rfl rfl rfl ?_
      refine gv_lshl (pc' := 351) rfl rfl ?_
      refine gv_xld (pc' := 352) rfl rfl rfl ?_
      refine gv_ild (pc' := 354) rfl rfl rfl ?_
      refine gv_ic (pc' := 355) (x := 2) rfl rfl rfl ?_
      refine gv_iadd (pc' := 356) rfl rfl ?_
      by_cases c70 : (l4 + (2 : Int32)) < 0
      · rw [if_pos c70] at e; cases e
      rw [if_neg c70] at e
      obtain ⟨v69, qv69, e⟩ := gv_bind e
      refine gv_xal (pc' := 357) rfl rfl c70 qv69 rfl ?_
      refine gv_i2l (pc' := 358) rfl rfl ?_
      refine gv_ld (pc' := 361) (x := 4294967295) rfl rfl rfl ?_
      refine gv_land (pc' := 362) rfl rfl ?_
      refine gv_lor (pc' := 363) rfl rfl ?_
      refine gv_rldn (pc' := 364) rfl rfl rfl ?_
      obtain ⟨⟨v71, h72⟩, qv71, e⟩ := gv_bind e
      refine gv_sS (jc := 35) (n := 3) (rest := []) (stk := [.int v71]) (pc' := 367) rfl rfl rfl rfl rfl rfl rfl rfl rfl (gv_zR (gv_zJ (gv_zR gv_z0))) rfl (gv_aR (gv_aJ (gv_aR gv_a0))) (Nat.le_of_ble_eq_true rfl) (lw_stamp_ok qv71) rfl rfl ?_
      refine gv_ist (pc' := 369) rfl rfl (gv_Ci rfl) rfl ?_
      refine gv_rldn (pc' := 370) rfl rfl rfl ?_
      refine gv_xld (pc' := 371) rfl rfl rfl ?_
      refine gv_ild (pc' := 373) rfl rfl rfl ?_
      refine gv_ic (pc' := 374) (x := 1) rfl rfl rfl ?_
      refine gv_iadd (pc' := 375) rfl rfl ?_
      by_cases c75 : (l4 + (1 : Int32)) < 0
      · rw [if_pos c75] at e; cases e
      rw [if_neg c75] at e
      obtain ⟨v74, qv74, e⟩ := gv_bind e
      refine gv_xal (pc' := 376) rfl rfl c75 qv74 rfl ?_
      refine gv_i2l (pc' := 377) rfl rfl ?_
      refine gv_bp (pc' := 379) (x := 32) rfl rfl rfl ?_
      refine gv_lshl (pc' := 380) rfl rfl ?_
      refine gv_xld (pc' := 381) rfl rfl rfl ?_
      refine gv_ild (pc' := 383) rfl rfl rfl ?_
      refine gv_ic (pc' := 384) (x := 2) rfl rfl rfl ?_
      refine gv_iadd (pc' := 385) rfl rfl ?_
      by_cases c77 : (l4 + (2 : Int32)) < 0
      · rw [if_pos c77] at e; cases e
      rw [if_neg c77] at e
      obtain ⟨v76, qv76, e⟩ := gv_bind e
      refine gv_xal (pc' := 386) rfl rfl c77 qv76 rfl ?_
      refine gv_i2l (pc' := 387) rfl rfl ?_
      refine gv_ld (pc' := 390) (x := 4294967295) rfl rfl rfl ?_
      refine gv_land (pc' := 391) rfl rfl ?_
      refine gv_lor (pc' := 392) rfl rfl ?_
      obtain ⟨i78, qi78, e⟩ := gv_bind e
      obtain ⟨⟨v79, h80⟩, qv79, e⟩ := gv_bind e
      refine gv_vS (jc := 132) (n := 1) (rest := []) (stk := [.int v79]) (pc' := 395) rfl rfl rfl rfl rfl rfl rfl rfl rfl (gv_zR (gv_zJ gv_z0)) rfl (gv_aR (gv_aJ gv_a0)) (Nat.le_of_ble_eq_true rfl) qi78 (mM_stamp_ok qv79) rfl rfl ?_
      refine gv_ist (pc' := 397) rfl rfl (gv_Ci rfl) rfl ?_
      refine gv_goto (pc' := 1033) rfl rfl ?_
      exact gv_weak (lw_law_1033_ok ih e) (gv_S1 rfl (gv_S1 rfl (gv_S1 rfl (gv_S1 rfl (gv_S1 rfl gv_S0)))))
    rw [if_neg c66] at e
    by_cases c82 : (v2 &&& (31 : Int32)) = (4 : Int32)
    · rw [if_pos c82] at e
      refine gv_sw (pc' := 400) (off := 360) rfl (by rw [c82]; rfl) rfl ?_
      refine gv_rldn (pc' := 401) rfl rfl rfl ?_
      refine gv_xld (pc' := 402) rfl rfl rfl ?_
      refine gv_ild (pc' := 404) rfl rfl rfl ?_
      refine gv_ic (pc' := 405) (x := 1) rfl rfl rfl ?_
      refine gv_iadd (pc' := 406) rfl rfl ?_
      by_cases c84 : (l4 + (1 : Int32)) < 0
      · rw [if_pos c84] at e; cases e
      rw [if_neg c84] at e
      obtain ⟨v83, qv83, e⟩ := gv_bind e
      refine gv_xal (pc' := 407) rfl rfl c84 qv83 rfl ?_
      refine gv_xld (pc' := 408) rfl rfl rfl ?_
      refine gv_ild (pc' := 410) rfl rfl rfl ?_
      refine gv_ic (pc' := 411) (x := 2) rfl rfl rfl ?_
      refine gv_iadd (pc' := 412) rfl rfl ?_
      by_cases c86 : (l4 + (2 : Int32)) < 0
      · rw [if_pos c86] at e; cases e
      rw [if_neg c86] at e
      obtain ⟨v85, qv85, e⟩ := gv_bind e
      refine gv_xal (pc' := 413) rfl rfl c86 qv85 rfl ?_
      refine gv_xld (pc' := 414) rfl rfl rfl ?_
      refine gv_ild (pc' := 416) rfl rfl rfl ?_
      refine gv_ic (pc' := 417) (x := 3) rfl rfl rfl ?_
      refine gv_iadd (pc' := 418) rfl rfl ?_
      by_cases c88 : (l4 + (3 : Int32)) < 0
      · rw [if_pos c88] at e; cases e
      rw [if_neg c88] at e
      obtain ⟨v87, qv87, e⟩ := gv_bind e
      refine gv_xal (pc' := 419) rfl rfl c88 qv87 rfl ?_
      refine gv_xld (pc' := 420) rfl rfl rfl ?_
      refine gv_ild (pc' := 422) rfl rfl rfl ?_
      refine gv_ic (pc' := 423) (x := 4) rfl rfl rfl ?_
      refine gv_iadd (pc' := 424) rfl rfl ?_
      by_cases c90 : (l4 + (4 : Int32)) < 0
      · rw [if_pos c90] at e; cases e
      rw [if_neg c90] at e
      obtain ⟨v89, qv89, e⟩ := gv_bind e
      refine gv_xal (pc' := 425) rfl rfl c90 qv89 rfl ?_
      obtain ⟨⟨v91, h92⟩, qv91, e⟩ := gv_bind e
      refine gv_sS (jc := 37) (n := 5) (rest := []) (stk := [.int v91]) (pc' := 428) rfl rfl rfl rfl rfl rfl rfl rfl rfl (gv_zR (gv_zI (gv_zI (gv_zI (gv_zI gv_z0))))) rfl (gv_aR (gv_aI (gv_aI (gv_aI (gv_aI gv_a0))))) (Nat.le_of_ble_eq_true rfl) (lw_put_ok qv91) rfl rfl ?_
      refine gv_ist (pc' := 430) rfl rfl (gv_Ci rfl) rfl ?_
      refine gv_rldn (pc' := 431) rfl rfl rfl ?_
      refine gv_xld (pc' := 432) rfl rfl rfl ?_
      refine gv_ild (pc' := 434) rfl rfl rfl ?_
      refine gv_ic (pc' := 435) (x := 1) rfl rfl rfl ?_
      refine gv_iadd (pc' := 436) rfl rfl ?_
      by_cases c95 : (l4 + (1 : Int32)) < 0
      · rw [if_pos c95] at e; cases e
      rw [if_neg c95] at e
      obtain ⟨v94, qv94, e⟩ := gv_bind e
      refine gv_xal (pc' := 437) rfl rfl c95 qv94 rfl ?_
      refine gv_xld (pc' := 438) rfl rfl rfl ?_
      refine gv_ild (pc' := 440) rfl rfl rfl ?_
      refine gv_ic (pc' := 441) (x := 2) rfl rfl rfl ?_
      refine gv_iadd (pc' := 442) rfl rfl ?_
      by_cases c97 : (l4 + (2 : Int32)) < 0
      · rw [if_pos c97] at e; cases e
      rw [if_neg c97] at e
      obtain ⟨v96, qv96, e⟩ := gv_bind e
      refine gv_xal (pc' := 443) rfl rfl c97 qv96 rfl ?_
      refine gv_xld (pc' := 444) rfl rfl rfl ?_
      refine gv_ild (pc' := 446) rfl rfl rfl ?_
      refine gv_ic (pc' := 447) (x := 3) rfl rfl rfl ?_
      refine gv_iadd (pc' := 448) rfl rfl ?_
      by_cases c99 : (l4 + (3 : Int32)) < 0
      · rw [if_pos c99] at e; cases e
      rw [if_neg c99] at e
      obtain ⟨v98, qv98, e⟩ := gv_bind e
      refine gv_xal (pc' := 449) rfl rfl c99 qv98 rfl ?_
      refine gv_xld (pc' := 450) rfl rfl rfl ?_
      refine gv_ild (pc' := 452) rfl rfl rfl ?_
      refine gv_ic (pc' := 453) (x := 4) rfl rfl rfl ?_
      refine gv_iadd (pc' := 454) rfl rfl ?_
      by_cases c101 : (l4 + (4 : Int32)) < 0
      · rw [if_pos c101] at e; cases e
      rw [if_neg c101] at e
      obtain ⟨v100, qv100, e⟩ := gv_bind e
      refine gv_xal (pc' := 455) rfl rfl c101 qv100 rfl ?_
      obtain ⟨i102, qi102, e⟩ := gv_bind e
      obtain ⟨h104, qv103, e⟩ := gv_bind e
      refine gv_vS (jc := 133) (n := 4) (rest := []) (stk := []) (pc' := 458) rfl rfl rfl rfl rfl rfl rfl rfl rfl (gv_zR (gv_zI (gv_zI (gv_zI (gv_zI gv_z0))))) rfl (gv_aR (gv_aI (gv_aI (gv_aI (gv_aI gv_a0))))) (Nat.le_of_ble_eq_true rfl) qi102 (mM_put_ok qv103) rfl rfl ?_
      refine gv_goto (pc' := 1033) rfl rfl ?_
      exact gv_weak (lw_law_1033_ok ih e) (gv_S1 rfl (gv_S1 rfl (gv_S1 rfl (gv_S1 rfl (gv_S1 rfl gv_S0)))))
    rw [if_neg c82] at e
    by_cases c105 : (v2 &&& (31 : Int32)) = (5 : Int32)
    · rw [if_pos c105] at e
      refine gv_sw (pc' := 461) (off := 421) rfl (by rw [c105]; rfl) rfl ?_
      refine gv_rldn (pc' := 462) rfl rfl rfl ?_
      refine gv_xld (pc' := 463) rfl rfl rfl ?_
      refine gv_ild (pc' := 465) rfl rfl rfl ?_
      refine gv_ic (pc' := 466) (x := 1) rfl rfl rfl ?_
      refine gv_iadd (pc' := 467) rfl rfl ?_
      by_cases c107 : (l4 + (1 : Int32)) < 0
      · rw [if_pos c107] at e; cases e
      rw [if_neg c107] at e
      obtain ⟨v106, qv106, e⟩ := gv_bind e
      refine gv_xal (pc' := 468) rfl rfl c107 qv106 rfl ?_
      refine gv_xld (pc' := 469) rfl rfl rfl ?_
      refine gv_ild (pc' := 471) rfl rfl rfl ?_
      refine gv_ic (pc' := 472) (x := 2) rfl rfl rfl ?_
      refine gv_iadd (pc' := 473) rfl rfl ?_
      by_cases c109 : (l4 + (2 : Int32)) < 0
      · rw [if_pos c109] at e; cases e
      rw [if_neg c109] at e
      obtain ⟨v108, qv108, e⟩ := gv_bind e
      refine gv_xal (pc' := 474) rfl rfl c109 qv108 rfl ?_
      refine gv_rldn (pc' := 475) rfl rfl rfl ?_
      obtain ⟨⟨v110, h111⟩, qv110, e⟩ := gv_bind e
      refine gv_sS (jc := 50) (n := 4) (rest := []) (stk := [.int v110]) (pc' := 478) rfl rfl rfl rfl rfl rfl rfl rfl rfl (gv_zR (gv_zI (gv_zI (gv_zR gv_z0)))) rfl (gv_aR (gv_aI (gv_aI (gv_aR gv_a0)))) (Nat.le_of_ble_eq_true rfl) (lw_take_ok qv110) rfl rfl ?_
      refine gv_ist (pc' := 480) rfl rfl (gv_Ci rfl) rfl ?_
      refine gv_rldn (pc' := 481) rfl rfl rfl ?_
      refine gv_xld (pc' := 482) rfl rfl rfl ?_
      refine gv_ild (pc' := 484) rfl rfl rfl ?_
      refine gv_ic (pc' := 485) (x := 1) rfl rfl rfl ?_
      refine gv_iadd (pc' := 486) rfl rfl ?_
      by_cases c114 : (l4 + (1 : Int32)) < 0
      · rw [if_pos c114] at e; cases e
      rw [if_neg c114] at e
      obtain ⟨v113, qv113, e⟩ := gv_bind e
      refine gv_xal (pc' := 487) rfl rfl c114 qv113 rfl ?_
      refine gv_xld (pc' := 488) rfl rfl rfl ?_
      refine gv_ild (pc' := 490) rfl rfl rfl ?_
      refine gv_ic (pc' := 491) (x := 2) rfl rfl rfl ?_
      refine gv_iadd (pc' := 492) rfl rfl ?_
      by_cases c116 : (l4 + (2 : Int32)) < 0
      · rw [if_pos c116] at e; cases e
      rw [if_neg c116] at e
      obtain ⟨v115, qv115, e⟩ := gv_bind e
      refine gv_xal (pc' := 493) rfl rfl c116 qv115 rfl ?_
      obtain ⟨i117, qi117, e⟩ := gv_bind e
      obtain ⟨⟨v118, h119⟩, qv118, e⟩ := gv_bind e
      refine gv_vS (jc := 141) (n := 2) (rest := []) (stk := [.int v118]) (pc' := 496) rfl rfl rfl rfl rfl rfl rfl rfl rfl (gv_zR (gv_zI (gv_zI gv_z0))) rfl (gv_aR (gv_aI (gv_aI gv_a0))) (Nat.le_of_ble_eq_true rfl) qi117 (mM_take_ok qv118) rfl rfl ?_
      refine gv_ist (pc' := 498) rfl rfl (gv_Ci rfl) rfl ?_
      refine gv_goto (pc' := 1033) rfl rfl ?_
      exact gv_weak (lw_law_1033_ok ih e) (gv_S1 rfl (gv_S1 rfl (gv_S1 rfl (gv_S1 rfl (gv_S1 rfl gv_S0)))))
    rw [if_neg c105] at e
    by_cases c121 : (v2 &&& (31 : Int32)) = (6 : Int32)
    · rw [if_pos c121] at e
      refine gv_sw (pc' := 501) (off := 461) rfl (by rw [c121]; rfl) rfl ?_
      refine gv_rldn (pc' := 502) rfl rfl rfl ?_
      refine gv_xld (pc' := 503) rfl rfl rfl ?_
      refine gv_ild (pc' := 505) rfl rfl rfl ?_
      refine gv_ic (pc' := 506) (x := 1) rfl rfl rfl ?_
      refine gv_iadd (pc' := 507) rfl rfl ?_
      by_cases c123 : (l4 + (1 : Int32)) < 0
      · rw [if_pos c123] at e; cases e
      rw [if_neg c123] at e
      obtain ⟨v122, qv122, e⟩ := gv_bind e
      refine gv_xal (pc' := 508) rfl rfl c123 qv122 rfl ?_
      refine gv_xld (pc' := 509) rfl rfl rfl ?_
      refine gv_ild (pc' := 511) rfl rfl rfl ?_
      refine gv_ic (pc' := 512) (x := 2) rfl rfl rfl ?_
      refine gv_iadd (pc' := 513) rfl rfl ?_
      by_cases c125 : (l4 + (2 : Int32)) < 0
      · rw [if_pos c125] at e; cases e
      rw [if_neg c125] at e
      obtain ⟨v124, qv124, e⟩ := gv_bind e
      refine gv_xal (pc' := 514) rfl rfl c125 qv124 rfl ?_
      refine gv_xld (pc' := 515) rfl rfl rfl ?_
      refine gv_ild (pc' := 517) rfl rfl rfl ?_
      refine gv_ic (pc' := 518) (x := 3) rfl rfl rfl ?_
      refine gv_iadd (pc' := 519) rfl rfl ?_
      by_cases c127 : (l4 + (3 : Int32)) < 0
      · rw [if_pos c127] at e; cases e
      rw [if_neg c127] at e
      obtain ⟨v126, qv126, e⟩ := gv_bind e
      refine gv_xal (pc' := 520) rfl rfl c127 qv126 rfl ?_
      refine gv_xld (pc' := 521) rfl rfl rfl ?_
      refine gv_ild (pc' := 523) rfl rfl rfl ?_
      refine gv_ic (pc' := 524) (x := 4) rfl rfl rfl ?_
      refine gv_iadd (pc' := 525) rfl rfl ?_
      by_cases c129 : (l4 + (4 : Int32)) < 0
      · rw [if_pos c129] at e; cases e
      rw [if_neg c129] at e
      obtain ⟨v128, qv128, e⟩ := gv_bind e
      refine gv_xal (pc' := 526) rfl rfl c129 qv128 rfl ?_
      refine gv_xld (pc' := 527) rfl rfl rfl ?_
      refine gv_ild (pc' := 529) rfl rfl rfl ?_
      refine gv_ic (pc' := 530) (x := 5) rfl rfl rfl ?_
      refine gv_iadd (pc' := 531) rfl rfl ?_
      by_cases c131 : (l4 + (5 : Int32)) < 0
      · rw [if_pos c131] at e; cases e
      rw [if_neg c131] at e
      obtain ⟨v130, qv130, e⟩ := gv_bind e
      refine gv_xal (pc' := 532) rfl rfl c131 qv130 rfl ?_
      obtain ⟨⟨v132, h133⟩, qv132, e⟩ := gv_bind e
      refine gv_sS (jc := 54) (n := 6) (rest := []) (stk := [.int v132]) (pc' := 535) rfl rfl rfl rfl rfl rfl rfl rfl rfl (gv_zR (gv_zI (gv_zI (gv_zI (gv_zI (gv_zI gv_z0)))))) rfl (gv_aR (gv_aI (gv_aI (gv_aI (gv_aI (gv_aI gv_a0)))))) (Nat.le_of_ble_eq_true rfl) (lw_entry_ok qv132) rfl rfl ?_
      refine gv_ist (pc' := 537) rfl rfl (gv_Ci rfl) rfl ?_
      refine gv_rldn (pc' := 538) rfl rfl rfl ?_
      refine gv_xld (pc' := 539) rfl rfl rfl ?_
      refine gv_ild (pc' := 541) rfl rfl rfl ?_
      refine gv_ic (pc' := 542) (x := 1) rfl rfl rfl ?_
      refine gv_iadd (pc' := 543) rfl rfl ?_
      by_cases c136 : (l4 + (1 : Int32)) < 0
      · rw [if_pos c136] at e; cases e
      rw [if_neg c136] at e
      obtain ⟨v135, qv135, e⟩ := gv_bind e
      refine gv_xal (pc' := 544) rfl rfl c136 qv135 rfl ?_
      refine gv_xld (pc' := 545) rfl rfl rfl ?_
      refine gv_ild (pc' := 547) rfl rfl rfl ?_
      refine gv_ic (pc' := 548) (x := 2) rfl rfl rfl ?_
      refine gv_iadd (pc' := 549) rfl rfl ?_
      by_cases c138 : (l4 + (2 : Int32)) < 0
      · rw [if_pos c138] at e; cases e
      rw [if_neg c138] at e
      obtain ⟨v137, qv137, e⟩ := gv_bind e
      refine gv_xal (pc' := 550) rfl rfl c138 qv137 rfl ?_
      refine gv_xld (pc' := 551) rfl rfl rfl ?_
      refine gv_ild (pc' := 553) rfl rfl rfl ?_
      refine gv_ic (pc' := 554) (x := 3) rfl rfl rfl ?_
      refine gv_iadd (pc' := 555) rfl rfl ?_
      by_cases c140 : (l4 + (3 : Int32)) < 0
      · rw [if_pos c140] at e; cases e
      rw [if_neg c140] at e
      obtain ⟨v139, qv139, e⟩ := gv_bind e
      refine gv_xal (pc' := 556) rfl rfl c140 qv139 rfl ?_
      refine gv_xld (pc' := 557) rfl rfl rfl ?_
      refine gv_ild (pc' := 559) rfl rfl rfl ?_
      refine gv_ic (pc' := 560) (x := 4) rfl rfl rfl ?_
      refine gv_iadd (pc' := 561) rfl rfl ?_
      by_cases c142 : (l4 + (4 : Int32)) < 0
      · rw [if_pos c142] at e; cases e
      rw [if_neg c142] at e
      obtain ⟨v141, qv141, e⟩ := gv_bind e
      refine gv_xal (pc' := 562) rfl rfl c142 qv141 rfl ?_
      refine gv_xld (pc' := 563) rfl rfl rfl ?_
      refine gv_ild (pc' := 565) rfl rfl rfl ?_
      refine gv_ic (pc' := 566) (x := 5) rfl rfl rfl ?_
      refine gv_iadd (pc' := 567) rfl rfl ?_
      by_cases c144 : (l4 + (5 : Int32)) < 0
      · rw [if_pos c144] at e; cases e
      rw [if_neg c144] at e
      obtain ⟨v143, qv143, e⟩ := gv_bind e
      refine gv_xal (pc' := 568) rfl rfl c144 qv143 rfl ?_
      obtain ⟨i145, qi145, e⟩ := gv_bind e
      obtain ⟨h147, qv146, e⟩ := gv_bind e
      refine gv_vS (jc := 143) (n := 5) (rest := []) (stk := []) (pc' := 571) rfl rfl rfl rfl rfl rfl rfl rfl rfl (gv_zR (gv_zI (gv_zI (gv_zI (gv_zI (gv_zI gv_z0)))))) rfl (gv_aR (gv_aI (gv_aI (gv_aI (gv_aI (gv_aI gv_a0)))))) (Nat.le_of_ble_eq_true rfl) qi145 (mM_entry_ok qv146) rfl rfl ?_
      refine gv_goto (pc' := 1033) rfl rfl ?_
      exact gv_weak (lw_law_1033_ok ih e) (gv_S1 rfl (gv_S1 rfl (gv_S1 rfl (gv_S1 rfl (gv_S1 rfl gv_S0)))))
    rw [if_neg c121] at e
    by_cases c148 : (v2 &&& (31 : Int32)) = (7 : Int32)
    · rw [if_pos c148] at e
      refine gv_sw (pc' := 574) (off := 534) rfl (by rw [c148]; rfl) rfl ?_
      refine gv_rldn (pc' := 575) rfl rfl rfl ?_
      refine gv_xld (pc' := 576) rfl rfl rfl ?_
      refine gv_ild (pc' := 578) rfl rfl rfl ?_
      refine gv_ic (pc' := 579) (x := 1) rfl rfl rfl ?_
      refine gv_iadd (pc' := 580) rfl rfl ?_
      by_cases c150 : (l4 + (1 : Int32)) < 0
      · rw [if_pos c150] at e; cases e
      rw [if_neg c150] at e
      obtain ⟨v149, qv149, e⟩ := gv_bind e
      refine gv_xal (pc' := 581) rfl rfl c150 qv149 rfl ?_
      refine gv_xld (pc' := 582) rfl rfl rfl ?_
      refine gv_ild (pc' := 584) rfl rfl rfl ?_
      refine gv_ic (pc' := 585) (x := 2) rfl rfl rfl ?_
      refine gv_iadd (pc' := 586) rfl rfl ?_
      by_cases c152 : (l4 + (2 : Int32)) < 0
      · rw [if_pos c152] at e; cases e
      rw [if_neg c152] at e
      obtain ⟨v151, qv151, e⟩ := gv_bind e
      refine gv_xal (pc' := 587) rfl rfl c152 qv151 rfl ?_
      refine gv_xld (pc' := 588) rfl rfl rfl ?_
      refine gv_ild (pc' := 590) rfl rfl rfl ?_
      refine gv_ic (pc' := 591) (x := 3) rfl rfl rfl ?_
      refine gv_iadd (pc' := 592) rfl rfl ?_
      by_cases c154 : (l4 + (3 : Int32)) < 0
      · rw [if_pos c154] at e; cases e
      rw [if_neg c154] at e
      obtain ⟨v153, qv153, e⟩ := gv_bind e
      refine gv_xal (pc' := 593) rfl rfl c154 qv153 rfl ?_
      refine gv_rldn (pc' := 594) rfl rfl rfl ?_
      obtain ⟨⟨v155, h156⟩, qv155, e⟩ := gv_bind e
      refine gv_sS (jc := 57) (n := 5) (rest := []) (stk := [.int v155]) (pc' := 597) rfl rfl rfl rfl rfl rfl rfl rfl rfl (gv_zR (gv_zI (gv_zI (gv_zI (gv_zR gv_z0))))) rfl (gv_aR (gv_aI (gv_aI (gv_aI (gv_aR gv_a0))))) (Nat.le_of_ble_eq_true rfl) (lw_add_ok qv155) rfl rfl ?_
      refine gv_ist (pc' := 599) rfl rfl (gv_Ci rfl) rfl ?_
      refine gv_rldn (pc' := 600) rfl rfl rfl ?_
      refine gv_xld (pc' := 601) rfl rfl rfl ?_
      refine gv_ild (pc' := 603) rfl rfl rfl ?_
      refine gv_ic (pc' := 604) (x := 1) rfl rfl rfl ?_
      refine gv_iadd (pc' := 605) rfl rfl ?_
      by_cases c159 : (l4 + (1 : Int32)) < 0
      · rw [if_pos c159] at e; cases e
      rw [if_neg c159] at e
      obtain ⟨v158, qv158, e⟩ := gv_bind e
      refine gv_xal (pc' := 606) rfl rfl c159 qv158 rfl ?_
      refine gv_xld (pc' := 607) rfl rfl rfl ?_
      refine gv_ild (pc' := 609) rfl rfl rfl ?_
      refine gv_ic (pc' := 610) (x := 2) rfl rfl rfl ?_
      refine gv_iadd (pc' := 611) rfl rfl ?_
      by_cases c161 : (l4 + (2 : Int32)) < 0
      · rw [if_pos c161] at e; cases e
      rw [if_neg c161] at e
      obtain ⟨v160, qv160, e⟩ := gv_bind e
      refine gv_xal (pc' := 612) rfl rfl c161 qv160 rfl ?_
      refine gv_xld (pc' := 613) rfl rfl rfl ?_
      refine gv_ild (pc' := 615) rfl rfl rfl ?_
      refine gv_ic (pc' := 616) (x := 3) rfl rfl rfl ?_
      refine gv_iadd (pc' := 617) rfl rfl ?_
      by_cases c163 : (l4 + (3 : Int32)) < 0
      · rw [if_pos c163] at e; cases e
      rw [if_neg c163] at e
      obtain ⟨v162, qv162, e⟩ := gv_bind e
      refine gv_xal (pc' := 618) rfl rfl c163 qv162 rfl ?_
      obtain ⟨i164, qi164, e⟩ := gv_bind e
      obtain ⟨⟨v165, h166⟩, qv165, e⟩ := gv_bind e
      refine gv_vS (jc := 145) (n := 3) (rest := []) (stk := [.int v165]) (pc' := 621) rfl rfl rfl rfl rfl rfl rfl rfl rfl (gv_zR (gv_zI (gv_zI (gv_zI gv_z0)))) rfl (gv_aR (gv_aI (gv_aI (gv_aI gv_a0)))) (Nat.le_of_ble_eq_true rfl) qi164 (mM_add_ok qv165) rfl rfl ?_
      refine gv_ist (pc' := 623) rfl rfl (gv_Ci rfl) rfl ?_
      refine gv_goto (pc' := 1033) rfl rfl ?_
      exact gv_weak (lw_law_1033_ok ih e) (gv_S1 rfl (gv_S1 rfl (gv_S1 rfl (gv_S1 rfl (gv_S1 rfl gv_S0)))))
    rw [if_neg c148] at e
    by_cases c168 : (v2 &&& (31 : Int32)) = (8 : Int32)
    · rw [if_pos c168] at e
      refine gv_sw (pc' := 626) (off := 586) rfl (by rw [c168]; rfl) rfl ?_
      refine gv_rldn (pc' := 627) rfl rfl rfl ?_
      refine gv_xld (pc' := 628) rfl rfl rfl ?_
      refine gv_ild (pc' := 630) rfl rfl rfl ?_
      refine gv_ic (pc' := 631) (x := 1) rfl rfl rfl ?_
      refine gv_iadd (pc' := 632) rfl rfl ?_
      by_cases c170 : (l4 + (1 : Int32)) < 0
      · rw [if_pos c170] at e; cases e
      rw [if_neg c170] at e
      obtain ⟨v169, qv169, e⟩ := gv_bind e
      refine gv_xal (pc' := 633) rfl rfl c170 qv169 rfl ?_
      obtain ⟨i171, qi171, e⟩ := gv_bind e
      obtain ⟨⟨v172, h173⟩, qv172, e⟩ := gv_bind e
      refine gv_vS (jc := 7) (n := 1) (rest := []) (stk := [.int v172]) (pc' := 636) rfl rfl rfl rfl rfl rfl rfl rfl rfl (gv_zR (gv_zI gv_z0)) rfl (gv_aR (gv_aI gv_a0)) (Nat.le_of_ble_eq_true rfl) qi171 (cG_detach_ok qv172) rfl rfl ?_
      refine gv_pop (pc' := 637) rfl rfl rfl ?_
      refine gv_rldn (pc' := 638) rfl rfl rfl ?_
      refine gv_xld (pc' := 639) rfl rfl rfl ?_
      refine gv_ild (pc' := 641) rfl rfl rfl ?_
      refine gv_ic (pc' := 642) (x := 1) rfl rfl rfl ?_
      refine gv_iadd (pc' := 643) rfl rfl ?_
      by_cases c176 : (l4 + (1 : Int32)) < 0
      · rw [if_pos c176] at e; cases e
      rw [if_neg c176] at e
      obtain ⟨v175, qv175, e⟩ := gv_bind e
      refine gv_xal (pc' := 644) rfl rfl c176 qv175 rfl ?_
      obtain ⟨i177, qi177, e⟩ := gv_bind e
      obtain ⟨⟨v178, h179⟩, qv178, e⟩ := gv_bind e
      refine gv_vS (jc := 147) (n := 1) (rest := []) (stk := [.int v178]) (pc' := 647) rfl rfl rfl rfl rfl rfl rfl rfl rfl (gv_zR (gv_zI gv_z0)) rfl (gv_aR (gv_aI gv_a0)) (Nat.le_of_ble_eq_true rfl) qi177 (mM_detach_ok qv178) rfl rfl ?_
      refine gv_pop (pc' := 648) rfl rfl rfl ?_
      refine gv_goto (pc' := 1033) rfl rfl ?_
      exact gv_weak (lw_law_1033_ok ih e) (gv_S1 rfl (gv_S1 rfl (gv_S1 rfl (gv_S1 rfl (gv_S1 rfl gv_S0)))))
    rw [if_neg c168] at e
    by_cases c181 : (v2 &&& (31 : Int32)) = (9 : Int32)
    · rw [if_pos c181] at e
      refine gv_sw (pc' := 651) (off := 611) rfl (by rw [c181]; rfl) rfl ?_
      refine gv_rldn (pc' := 652) rfl rfl rfl ?_
      obtain ⟨i182, qi182, e⟩ := gv_bind e
      obtain ⟨⟨v183, h184⟩, qv183, e⟩ := gv_bind e
      refine gv_vS (jc := 11) (n := 0) (rest := []) (stk := [.int v183]) (pc' := 655) rfl rfl rfl rfl rfl rfl rfl rfl rfl (gv_zR gv_z0) rfl (gv_aR gv_a0) (Nat.le_of_ble_eq_true rfl) qi182 (cG_clear_ok qv183) rfl rfl ?_
      refine gv_pop (pc' := 656) rfl rfl rfl ?_
      refine gv_rldn (pc' := 657) rfl rfl rfl ?_
      obtain ⟨i186, qi186, e⟩ := gv_bind e
      obtain ⟨⟨v187, h188⟩, qv187, e⟩ := gv_bind e
      refine gv_vS (jc := 149) (n := 0) (rest := []) (stk := [.int v187]) (pc' := 660) rfl rfl rfl rfl rfl rfl rfl rfl rfl (gv_zR gv_z0) rfl (gv_aR gv_a0) (Nat.le_of_ble_eq_true rfl) qi186 (mM_clear_ok qv187) rfl rfl ?_
      refine gv_pop (pc' := 661) rfl rfl rfl ?_
      refine gv_goto (pc' := 1033) rfl rfl ?_
      exact gv_weak (lw_law_1033_ok ih e) (gv_S1 rfl (gv_S1 rfl (gv_S1 rfl (gv_S1 rfl (gv_S1 rfl gv_S0)))))
    rw [if_neg c181] at e
    by_cases c190 : (v2 &&& (31 : Int32)) = (10 : Int32)
    · rw [if_pos c190] at e
      refine gv_sw (pc' := 664) (off := 624) rfl (by rw [c190]; rfl) rfl ?_
      refine gv_rldn (pc' := 665) rfl rfl rfl ?_
      obtain ⟨i191, qi191, e⟩ := gv_bind e
      obtain ⟨v192, qv192, e⟩ := gv_bind e
      refine gv_vS (jc := 12) (n := 0) (rest := []) (stk := [.int v192]) (pc' := 668) rfl rfl rfl rfl rfl rfl rfl rfl rfl (gv_zR gv_z0) rfl (gv_aR gv_a0) (Nat.le_of_ble_eq_true rfl) qi191 (cG_objects_ok qv192) rfl rfl ?_
      refine gv_pop (pc' := 669) rfl rfl rfl ?_
      refine gv_rldn (pc' := 670) rfl rfl rfl ?_
      obtain ⟨i193, qi193, e⟩ := gv_bind e
      obtain ⟨⟨v194, h195⟩, qv194, e⟩ := gv_bind e
      refine gv_vS (jc := 150) (n := 0) (rest := []) (stk := [.int v194]) (pc' := 673) rfl rfl rfl rfl rfl rfl rfl rfl rfl (gv_zR gv_z0) rfl (gv_aR gv_a0) (Nat.le_of_ble_eq_true rfl) qi193 (mM_objects_ok qv194) rfl rfl ?_
      refine gv_pop (pc' := 674) rfl rfl rfl ?_
      refine gv_goto (pc' := 1033) rfl rfl ?_
      exact gv_weak (lw_law_1033_ok ih e) (gv_S1 rfl (gv_S1 rfl (gv_S1 rfl (gv_S1 rfl (gv_S1 rfl gv_S0)))))
    rw [if_neg c190] at e
    by_cases c197 : (v2 &&& (31 : Int32)) = (11 : Int32)
    · rw [if_pos c197] at e
      refine gv_sw (pc' := 677) (off := 637) rfl (by rw [c197]; rfl) rfl ?_
      refine gv_rldn (pc' := 678) rfl rfl rfl ?_
      refine gv_xld (pc' := 679) rfl rfl rfl ?_
      refine gv_ild (pc' := 681) rfl rfl rfl ?_
      refine gv_ic (pc' := 682) (x := 1) rfl rfl rfl ?_
      refine gv_iadd (pc' := 683) rfl rfl ?_
      by_cases c199 : (l4 + (1 : Int32)) < 0
      · rw [if_pos c199] at e; cases e
      rw [if_neg c199] at e
      obtain ⟨v198, qv198, e⟩ := gv_bind e
      refine gv_xal (pc' := 684) rfl rfl c199 qv198 rfl ?_
      obtain ⟨i200, qi200, e⟩ := gv_bind e
      obtain ⟨v201, qv201, e⟩ := gv_bind e
      refine gv_vS (jc := 13) (n := 1) (rest := []) (stk := [.int v201]) (pc' := 687) rfl rfl rfl rfl rfl rfl rfl rfl rfl (gv_zR (gv_zI gv_z0)) rfl (gv_aR (gv_aI gv_a0)) (Nat.le_of_ble_eq_true rfl) qi200 (cG_type_ok qv201) rfl rfl ?_
      refine gv_pop (pc' := 688) rfl rfl rfl ?_
      refine gv_rldn (pc' := 689) rfl rfl rfl ?_
      refine gv_xld (pc' := 690) rfl rfl rfl ?_
      refine gv_ild (pc' := 692) rfl rfl rfl ?_
      refine gv_ic (pc' := 693) (x := 1) rfl rfl rfl ?_
      refine gv_iadd (pc' := 694) rfl rfl ?_
      by_cases c203 : (l4 + (1 : Int32)) < 0
      · rw [if_pos c203] at e; cases e
      rw [if_neg c203] at e
      obtain ⟨v202, qv202, e⟩ := gv_bind e
      refine gv_xal (pc' := 695) rfl rfl c203 qv202 rfl ?_
      obtain ⟨i204, qi204, e⟩ := gv_bind e
      obtain ⟨⟨v205, h206⟩, qv205, e⟩ := gv_bind e
      refine gv_vS (jc := 151) (n := 1) (rest := []) (stk := [.int v205]) (pc' := 698) rfl rfl rfl rfl rfl rfl rfl rfl rfl (gv_zR (gv_zI gv_z0)) rfl (gv_aR (gv_aI gv_a0)) (Nat.le_of_ble_eq_true rfl) qi204 (mM_type_ok qv205) rfl rfl ?_
      refine gv_pop (pc' := 699) rfl rfl rfl ?_
      refine gv_goto (pc' := 1033) rfl rfl ?_
      exact gv_weak (lw_law_1033_ok ih e) (gv_S1 rfl (gv_S1 rfl (gv_S1 rfl (gv_S1 rfl (gv_S1 rfl gv_S0)))))
    rw [if_neg c197] at e
    by_cases c208 : (v2 &&& (31 : Int32)) = (12 : Int32)
    · rw [if_pos c208] at e
      refine gv_sw (pc' := 702) (off := 662) rfl (by rw [c208]; rfl) rfl ?_
      refine gv_rldn (pc' := 703) rfl rfl rfl ?_
      refine gv_xld (pc' := 704) rfl rfl rfl ?_
      refine gv_ild (pc' := 706) rfl rfl rfl ?_
      refine gv_ic (pc' := 707) (x := 1) rfl rfl rfl ?_
      refine gv_iadd (pc' := 708) rfl rfl ?_
      by_cases c210 : (l4 + (1 : Int32)) < 0
      · rw [if_pos c210] at e; cases e
      rw [if_neg c210] at e
      obtain ⟨v209, qv209, e⟩ := gv_bind e
      refine gv_xal (pc' := 709) rfl rfl c210 qv209 rfl ?_
      obtain ⟨i211, qi211, e⟩ := gv_bind e
      obtain ⟨v212, qv212, e⟩ := gv_bind e
      refine gv_vS (jc := 14) (n := 1) (rest := []) (stk := [.int v212]) (pc' := 712) rfl rfl rfl rfl rfl rfl rfl rfl rfl (gv_zR (gv_zI gv_z0)) rfl (gv_aR (gv_aI gv_a0)) (Nat.le_of_ble_eq_true rfl) qi211 (cG_size_ok qv212) rfl rfl ?_
      refine gv_pop (pc' := 713) rfl rfl rfl ?_
      refine gv_rldn (pc' := 714) rfl rfl rfl ?_
      refine gv_xld (pc' := 715) rfl rfl rfl ?_
      refine gv_ild (pc' := 717) rfl rfl rfl ?_
      refine gv_ic (pc' := 718) (x := 1) rfl rfl rfl ?_
      refine gv_iadd (pc' := 719) rfl rfl ?_
      by_cases c214 : (l4 + (1 : Int32)) < 0
      · rw [if_pos c214] at e; cases e
      rw [if_neg c214] at e
      obtain ⟨v213, qv213, e⟩ := gv_bind e
      refine gv_xal (pc' := 720) rfl rfl c214 qv213 rfl ?_
      obtain ⟨i215, qi215, e⟩ := gv_bind e
      obtain ⟨⟨v216, h217⟩, qv216, e⟩ := gv_bind e
      refine gv_vS (jc := 152) (n := 1) (rest := []) (stk := [.int v216]) (pc' := 723) rfl rfl rfl rfl rfl rfl rfl rfl rfl (gv_zR (gv_zI gv_z0)) rfl (gv_aR (gv_aI gv_a0)) (Nat.le_of_ble_eq_true rfl) qi215 (mM_size_ok qv216) rfl rfl ?_
      refine gv_pop (pc' := 724) rfl rfl rfl ?_
      refine gv_goto (pc' := 1033) rfl rfl ?_
      exact gv_weak (lw_law_1033_ok ih e) (gv_S1 rfl (gv_S1 rfl (gv_S1 rfl (gv_S1 rfl (gv_S1 rfl gv_S0)))))
    rw [if_neg c208] at e
    by_cases c219 : (v2 &&& (31 : Int32)) = (13 : Int32)
    · rw [if_pos c219] at e
      refine gv_sw (pc' := 727) (off := 687) rfl (by rw [c219]; rfl) rfl ?_
      refine gv_rldn (pc' := 728) rfl rfl rfl ?_
      refine gv_xld (pc' := 729) rfl rfl rfl ?_
      refine gv_ild (pc' := 731) rfl rfl rfl ?_
      refine gv_ic (pc' := 732) (x := 1) rfl rfl rfl ?_
      refine gv_iadd (pc' := 733) rfl rfl ?_
      by_cases c221 : (l4 + (1 : Int32)) < 0
      · rw [if_pos c221] at e; cases e
      rw [if_neg c221] at e
      obtain ⟨v220, qv220, e⟩ := gv_bind e
      refine gv_xal (pc' := 734) rfl rfl c221 qv220 rfl ?_
      refine gv_xld (pc' := 735) rfl rfl rfl ?_
      refine gv_ild (pc' := 737) rfl rfl rfl ?_
      refine gv_ic (pc' := 738) (x := 2) rfl rfl rfl ?_
      refine gv_iadd (pc' := 739) rfl rfl ?_
      by_cases c223 : (l4 + (2 : Int32)) < 0
      · rw [if_pos c223] at e; cases e
      rw [if_neg c223] at e
      obtain ⟨v222, qv222, e⟩ := gv_bind e
      refine gv_xal (pc' := 740) rfl rfl c223 qv222 rfl ?_
      refine gv_xld (pc' := 741) rfl rfl rfl ?_
      refine gv_ild (pc' := 743) rfl rfl rfl ?_
      refine gv_ic (pc' := 744) (x := 3) rfl rfl rfl ?_
      refine gv_iadd (pc' := 745) rfl rfl ?_
      by_cases c225 : (l4 + (3 : Int32)) < 0
      · rw [if_pos c225] at e; cases e
      rw [if_neg c225] at e
      obtain ⟨v224, qv224, e⟩ := gv_bind e
      refine gv_xal (pc' := 746) rfl rfl c225 qv224 rfl ?_
      refine gv_rldn (pc' := 747) rfl rfl rfl ?_
      obtain ⟨⟨v226, h227⟩, qv226, e⟩ := gv_bind e
      refine gv_sS (jc := 61) (n := 5) (rest := []) (stk := [.int v226]) (pc' := 750) rfl rfl rfl rfl rfl rfl rfl rfl rfl (gv_zR (gv_zI (gv_zI (gv_zI (gv_zR gv_z0))))) rfl (gv_aR (gv_aI (gv_aI (gv_aI (gv_aR gv_a0))))) (Nat.le_of_ble_eq_true rfl) (lw_get_ok qv226) rfl rfl ?_
      refine gv_ist (pc' := 752) rfl rfl (gv_Ci rfl) rfl ?_
      refine gv_rldn (pc' := 753) rfl rfl rfl ?_
      refine gv_xld (pc' := 754) rfl rfl rfl ?_
      refine gv_ild (pc' := 756) rfl rfl rfl ?_
      refine gv_ic (pc' := 757) (x := 1) rfl rfl rfl ?_
      refine gv_iadd (pc' := 758) rfl rfl ?_
      by_cases c230 : (l4 + (1 : Int32)) < 0
      · rw [if_pos c230] at e; cases e
      rw [if_neg c230] at e
      obtain ⟨v229, qv229, e⟩ := gv_bind e
      refine gv_xal (pc' := 759) rfl rfl c230 qv229 rfl ?_
      refine gv_xld (pc' := 760) rfl rfl rfl ?_
      refine gv_ild (pc' := 762) rfl rfl rfl ?_
      refine gv_ic (pc' := 763) (x := 2) rfl rfl rfl ?_
      refine gv_iadd (pc' := 764) rfl rfl ?_
      by_cases c232 : (l4 + (2 : Int32)) < 0
      · rw [if_pos c232] at e; cases e
      rw [if_neg c232] at e
      obtain ⟨v231, qv231, e⟩ := gv_bind e
      refine gv_xal (pc' := 765) rfl rfl c232 qv231 rfl ?_
      refine gv_xld (pc' := 766) rfl rfl rfl ?_
      refine gv_ild (pc' := 768) rfl rfl rfl ?_
      refine gv_ic (pc' := 769) (x := 3) rfl rfl rfl ?_
      refine gv_iadd (pc' := 770) rfl rfl ?_
      by_cases c234 : (l4 + (3 : Int32)) < 0
      · rw [if_pos c234] at e; cases e
      rw [if_neg c234] at e
      obtain ⟨v233, qv233, e⟩ := gv_bind e
      refine gv_xal (pc' := 771) rfl rfl c234 qv233 rfl ?_
      obtain ⟨i235, qi235, e⟩ := gv_bind e
      obtain ⟨⟨v236, h237⟩, qv236, e⟩ := gv_bind e
      refine gv_vS (jc := 153) (n := 3) (rest := []) (stk := [.long v236]) (pc' := 774) rfl rfl rfl rfl rfl rfl rfl rfl rfl (gv_zR (gv_zI (gv_zI (gv_zI gv_z0)))) rfl (gv_aR (gv_aI (gv_aI (gv_aI gv_a0)))) (Nat.le_of_ble_eq_true rfl) qi235 (mM_get_ok qv236) rfl rfl ?_
      refine gv_jst (pc' := 776) rfl rfl (gv_Ci rfl) rfl rfl ?_
      refine gv_goto (pc' := 1033) rfl rfl ?_
      exact gv_weak (lw_law_1033_ok ih e) (gv_S1 rfl (gv_S1 rfl (gv_S1 rfl (gv_S1 rfl (gv_S1 rfl gv_S0)))))
    rw [if_neg c219] at e
    by_cases c239 : (v2 &&& (31 : Int32)) = (14 : Int32)
    · rw [if_pos c239] at e
      refine gv_sw (pc' := 779) (off := 739) rfl (by rw [c239]; rfl) rfl ?_
      refine gv_rldn (pc' := 780) rfl rfl rfl ?_
      refine gv_xld (pc' := 781) rfl rfl rfl ?_
      refine gv_ild (pc' := 783) rfl rfl rfl ?_
      refine gv_ic (pc' := 784) (x := 1) rfl rfl rfl ?_
      refine gv_iadd (pc' := 785) rfl rfl ?_
      by_cases c241 : (l4 + (1 : Int32)) < 0
      · rw [if_pos c241] at e; cases e
      rw [if_neg c241] at e
      obtain ⟨v240, qv240, e⟩ := gv_bind e
      refine gv_xal (pc' := 786) rfl rfl c241 qv240 rfl ?_
      refine gv_rldn (pc' := 787) rfl rfl rfl ?_
      obtain ⟨⟨v242, h243⟩, qv242, e⟩ := gv_bind e
      refine gv_sS (jc := 68) (n := 3) (rest := []) (stk := [.int v242]) (pc' := 790) rfl rfl rfl rfl rfl rfl rfl rfl rfl (gv_zR (gv_zI (gv_zR gv_z0))) rfl (gv_aR (gv_aI (gv_aR gv_a0))) (Nat.le_of_ble_eq_true rfl) (lw_pass_ok qv242) rfl rfl ?_
      refine gv_ist (pc' := 792) rfl rfl (gv_Ci rfl) rfl ?_
      refine gv_rldn (pc' := 793) rfl rfl rfl ?_
      refine gv_xld (pc' := 794) rfl rfl rfl ?_
      refine gv_ild (pc' := 796) rfl rfl rfl ?_
      refine gv_ic (pc' := 797) (x := 1) rfl rfl rfl ?_
      refine gv_iadd (pc' := 798) rfl rfl ?_
      by_cases c246 : (l4 + (1 : Int32)) < 0
      · rw [if_pos c246] at e; cases e
      rw [if_neg c246] at e
      obtain ⟨v245, qv245, e⟩ := gv_bind e
      refine gv_xal (pc' := 799) rfl rfl c246 qv245 rfl ?_
      obtain ⟨i247, qi247, e⟩ := gv_bind e
      obtain ⟨⟨v248, h249⟩, qv248, e⟩ := gv_bind e
      refine gv_vS (jc := 154) (n := 1) (rest := []) (stk := [.int v248]) (pc' := 802) rfl rfl rfl rfl rfl rfl rfl rfl rfl (gv_zR (gv_zI gv_z0)) rfl (gv_aR (gv_aI gv_a0)) (Nat.le_of_ble_eq_true rfl) qi247 (mM_pass_ok qv248) rfl rfl ?_
      refine gv_ist (pc' := 804) rfl rfl (gv_Ci rfl) rfl ?_
      refine gv_goto (pc' := 1033) rfl rfl ?_
      exact gv_weak (lw_law_1033_ok ih e) (gv_S1 rfl (gv_S1 rfl (gv_S1 rfl (gv_S1 rfl (gv_S1 rfl gv_S0)))))
    rw [if_neg c239] at e
    by_cases c251 : (v2 &&& (31 : Int32)) = (15 : Int32)
    · rw [if_pos c251] at e
      refine gv_sw (pc' := 807) (off := 767) rfl (by rw [c251]; rfl) rfl ?_
      refine gv_rldn (pc' := 808) rfl rfl rfl ?_
      obtain ⟨i252, qi252, e⟩ := gv_bind e
      obtain ⟨v253, qv253, e⟩ := gv_bind e
      refine gv_vS (jc := 15) (n := 0) (rest := []) (stk := [.int v253]) (pc' := 811) rfl rfl rfl rfl rfl rfl rfl rfl rfl (gv_zR gv_z0) rfl (gv_aR gv_a0) (Nat.le_of_ble_eq_true rfl) qi252 (cG_holders_ok qv253) rfl rfl ?_
      refine gv_pop (pc' := 812) rfl rfl rfl ?_
      refine gv_rldn (pc' := 813) rfl rfl rfl ?_
      obtain ⟨i254, qi254, e⟩ := gv_bind e
      obtain ⟨⟨v255, h256⟩, qv255, e⟩ := gv_bind e
      refine gv_vS (jc := 155) (n := 0) (rest := []) (stk := [.int v255]) (pc' := 816) rfl rfl rfl rfl rfl rfl rfl rfl rfl (gv_zR gv_z0) rfl (gv_aR gv_a0) (Nat.le_of_ble_eq_true rfl) qi254 (mM_holders_ok qv255) rfl rfl ?_
      refine gv_pop (pc' := 817) rfl rfl rfl ?_
      refine gv_goto (pc' := 1033) rfl rfl ?_
      exact gv_weak (lw_law_1033_ok ih e) (gv_S1 rfl (gv_S1 rfl (gv_S1 rfl (gv_S1 rfl (gv_S1 rfl gv_S0)))))
    rw [if_neg c251] at e
    by_cases c258 : (v2 &&& (31 : Int32)) = (16 : Int32)
    · rw [if_pos c258] at e
      refine gv_sw (pc' := 820) (off := 780) rfl (by rw [c258]; rfl) rfl ?_
      refine gv_rldn (pc' := 821) rfl rfl rfl ?_
      refine gv_xld (pc' := 822) rfl rfl rfl ?_
      refine gv_ild (pc' := 824) rfl rfl rfl ?_
      refine gv_ic (pc' := 825) (x := 1) rfl rfl rfl ?_
      refine gv_iadd (pc' := 826) rfl rfl ?_
      by_cases c260 : (l4 + (1 : Int32)) < 0
      · rw [if_pos c260] at e; cases e
      rw [if_neg c260] at e
      obtain ⟨v259, qv259, e⟩ := gv_bind e
      refine gv_xal (pc' := 827) rfl rfl c260 qv259 rfl ?_
      refine gv_xld (pc' := 828) rfl rfl rfl ?_
      refine gv_ild (pc' := 830) rfl rfl rfl ?_
      refine gv_ic (pc' := 831) (x := 2) rfl rfl rfl ?_
      refine gv_iadd (pc' := 832) rfl rfl ?_
      by_cases c262 : (l4 + (2 : Int32)) < 0
      · rw [if_pos c262] at e; cases e
      rw [if_neg c262] at e
      obtain ⟨v261, qv261, e⟩ := gv_bind e
      refine gv_xal (pc' := 833) rfl rfl c262 qv261 rfl ?_
      refine gv_rldn (pc' := 834) rfl rfl rfl ?_
      obtain ⟨⟨v263, h264⟩, qv263, e⟩ := gv_bind e
      refine gv_sS (jc := 71) (n := 4) (rest := []) (stk := [.int v263]) (pc' := 837) rfl rfl rfl rfl rfl rfl rfl rfl rfl (gv_zR (gv_zI (gv_zI (gv_zR gv_z0)))) rfl (gv_aR (gv_aI (gv_aI (gv_aR gv_a0)))) (Nat.le_of_ble_eq_true rfl) (lw_write_ok qv263) rfl rfl ?_
      refine gv_ist (pc' := 839) rfl rfl (gv_Ci rfl) rfl ?_
      refine gv_rldn (pc' := 840) rfl rfl rfl ?_
      refine gv_xld (pc' := 841) rfl rfl rfl ?_
      refine gv_ild (pc' := 843) rfl rfl rfl ?_
      refine gv_ic (pc' := 844) (x := 1) rfl rfl rfl ?_
      refine gv_iadd (pc' := 845) rfl rfl ?_
      by_cases c267 : (l4 + (1 : Int32)) < 0
      · rw [if_pos c267] at e; cases e
      rw [if_neg c267] at e
      obtain ⟨v266, qv266, e⟩ := gv_bind e
      refine gv_xal (pc' := 846) rfl rfl c267 qv266 rfl ?_
      refine gv_xld (pc' := 847) rfl rfl rfl ?_
      refine gv_ild (pc' := 849) rfl rfl rfl ?_
      refine gv_ic (pc' := 850) (x := 2) rfl rfl rfl ?_
      refine gv_iadd (pc' := 851) rfl rfl ?_
      by_cases c269 : (l4 + (2 : Int32)) < 0
      · rw [if_pos c269] at e; cases e
      rw [if_neg c269] at e
      obtain ⟨v268, qv268, e⟩ := gv_bind e
      refine gv_xal (pc' := 852) rfl rfl c269 qv268 rfl ?_
      obtain ⟨i270, qi270, e⟩ := gv_bind e
      obtain ⟨⟨v271, h272⟩, qv271, e⟩ := gv_bind e
      refine gv_vS (jc := 156) (n := 2) (rest := []) (stk := [.int v271]) (pc' := 855) rfl rfl rfl rfl rfl rfl rfl rfl rfl (gv_zR (gv_zI (gv_zI gv_z0))) rfl (gv_aR (gv_aI (gv_aI gv_a0))) (Nat.le_of_ble_eq_true rfl) qi270 (mM_write_ok qv271) rfl rfl ?_
      refine gv_ist (pc' := 857) rfl rfl (gv_Ci rfl) rfl ?_
      refine gv_goto (pc' := 1033) rfl rfl ?_
      exact gv_weak (lw_law_1033_ok ih e) (gv_S1 rfl (gv_S1 rfl (gv_S1 rfl (gv_S1 rfl (gv_S1 rfl gv_S0)))))
    rw [if_neg c258] at e
    by_cases c274 : (v2 &&& (31 : Int32)) = (17 : Int32)
    · rw [if_pos c274] at e
      refine gv_sw (pc' := 860) (off := 820) rfl (by rw [c274]; rfl) rfl ?_
      refine gv_rldn (pc' := 861) rfl rfl rfl ?_
      refine gv_rldn (pc' := 862) rfl rfl rfl ?_
      obtain ⟨⟨v275, h276⟩, qv275, e⟩ := gv_bind e
      refine gv_sS (jc := 97) (n := 2) (rest := []) (stk := [.int v275]) (pc' := 865) rfl rfl rfl rfl rfl rfl rfl rfl rfl (gv_zR (gv_zR gv_z0)) rfl (gv_aR (gv_aR gv_a0)) (Nat.le_of_ble_eq_true rfl) (lw_read_ok qv275) rfl rfl ?_
      refine gv_ist (pc' := 867) rfl rfl (gv_Ci rfl) rfl ?_
      refine gv_rldn (pc' := 868) rfl rfl rfl ?_
      obtain ⟨i278, qi278, e⟩ := gv_bind e
      obtain ⟨⟨v279, h280⟩, qv279, e⟩ := gv_bind e
      refine gv_vS (jc := 171) (n := 0) (rest := []) (stk := [.int v279]) (pc' := 871) rfl rfl rfl rfl rfl rfl rfl rfl rfl (gv_zR gv_z0) rfl (gv_aR gv_a0) (Nat.le_of_ble_eq_true rfl) qi278 (mM_read_ok qv279) rfl rfl ?_
      refine gv_ist (pc' := 873) rfl rfl (gv_Ci rfl) rfl ?_
      refine gv_goto (pc' := 1033) rfl rfl ?_
      exact gv_weak (lw_law_1033_ok ih e) (gv_S1 rfl (gv_S1 rfl (gv_S1 rfl (gv_S1 rfl (gv_S1 rfl gv_S0)))))
    rw [if_neg c274] at e
    by_cases c282 : (v2 &&& (31 : Int32)) = (18 : Int32)
    · rw [if_pos c282] at e
      refine gv_sw (pc' := 876) (off := 836) rfl (by rw [c282]; rfl) rfl ?_
      refine gv_rldn (pc' := 877) rfl rfl rfl ?_
      obtain ⟨i283, qi283, e⟩ := gv_bind e
      obtain ⟨v284, qv284, e⟩ := gv_bind e
      refine gv_vS (jc := 16) (n := 0) (rest := []) (stk := [.int v284]) (pc' := 880) rfl rfl rfl rfl rfl rfl rfl rfl rfl (gv_zR gv_z0) rfl (gv_aR gv_a0) (Nat.le_of_ble_eq_true rfl) qi283 (cG_found_ok qv284) rfl rfl ?_
      refine gv_pop (pc' := 881) rfl rfl rfl ?_
      refine gv_rldn (pc' := 882) rfl rfl rfl ?_
      obtain ⟨i285, qi285, e⟩ := gv_bind e
      obtain ⟨⟨v286, h287⟩, qv286, e⟩ := gv_bind e
      refine gv_vS (jc := 190) (n := 0) (rest := []) (stk := [.int v286]) (pc' := 885) rfl rfl rfl rfl rfl rfl rfl rfl rfl (gv_zR gv_z0) rfl (gv_aR gv_a0) (Nat.le_of_ble_eq_true rfl) qi285 (mM_found_ok qv286) rfl rfl ?_
      refine gv_pop (pc' := 886) rfl rfl rfl ?_
      refine gv_goto (pc' := 1033) rfl rfl ?_
      exact gv_weak (lw_law_1033_ok ih e) (gv_S1 rfl (gv_S1 rfl (gv_S1 rfl (gv_S1 rfl (gv_S1 rfl gv_S0)))))
    rw [if_neg c282] at e
    by_cases c289 : (v2 &&& (31 : Int32)) = (19 : Int32)
    · rw [if_pos c289] at e
      refine gv_sw (pc' := 889) (off := 849) rfl (by rw [c289]; rfl) rfl ?_
      refine gv_rldn (pc' := 890) rfl rfl rfl ?_
      refine gv_xld (pc' := 891) rfl rfl rfl ?_
      refine gv_ild (pc' := 893) rfl rfl rfl ?_
      refine gv_ic (pc' := 894) (x := 1) rfl rfl rfl ?_
      refine gv_iadd (pc' := 895) rfl rfl ?_
      by_cases c291 : (l4 + (1 : Int32)) < 0
      · rw [if_pos c291] at e; cases e
      rw [if_neg c291] at e
      obtain ⟨v290, qv290, e⟩ := gv_bind e
      refine gv_xal (pc' := 896) rfl rfl c291 qv290 rfl ?_
      refine gv_i2l (pc' := 897) rfl rfl ?_
      refine gv_bp (pc' := 899) (x := 32) rfl rfl rfl ?_
      refine gv_lshl (pc' := 900) rfl rfl ?_
      refine gv_xld (pc' := 901) rfl rfl rfl ?_
      refine gv_ild (pc' := 903) rfl rfl rfl ?_
      refine gv_ic (pc' := 904) (x := 2) rfl rfl rfl ?_
      refine gv_iadd (pc' := 905) rfl rfl ?_
      by_cases c293 : (l4 + (2 : Int32)) < 0
      · rw [if_pos c293] at e; cases e
      rw [if_neg c293] at e
      obtain ⟨v292, qv292, e⟩ := gv_bind e
      refine gv_xal (pc' := 906) rfl rfl c293 qv292 rfl ?_
      refine gv_i2l (pc' := 907) rfl rfl ?_
      refine gv_ld (pc' := 910) (x := 4294967295) rfl rfl rfl ?_
      refine gv_land (pc' := 911) rfl rfl ?_
      refine gv_lor (pc' := 912) rfl rfl ?_
      refine gv_xld (pc' := 913) rfl rfl rfl ?_
      refine gv_ild (pc' := 915) rfl rfl rfl ?_
      refine gv_ic (pc' := 916) (x := 3) rfl rfl rfl ?_
      refine gv_iadd (pc' := 917) rfl rfl ?_
      by_cases c295 : (l4 + (3 : Int32)) < 0
      · rw [if_pos c295] at e; cases e
      rw [if_neg c295] at e
      obtain ⟨v294, qv294, e⟩ := gv_bind e
      refine gv_xal (pc' := 918) rfl rfl c295 qv294 rfl ?_
      obtain ⟨i296, qi296, e⟩ := gv_bind e
      obtain ⟨⟨v297, h298⟩, qv297, e⟩ := gv_bind e
      refine gv_vS (jc := 17) (n := 2) (rest := []) (stk := [.int v297]) (pc' := 921) rfl rfl rfl rfl rfl rfl rfl rfl rfl (gv_zR (gv_zJ (gv_zI gv_z0))) rfl (gv_aR (gv_aJ (gv_aI gv_a0))) (Nat.le_of_ble_eq_true rfl) qi296 (cG_feed_ok qv297) rfl rfl ?_
      refine gv_pop (pc' := 922) rfl rfl rfl ?_
      refine gv_rldn (pc' := 923) rfl rfl rfl ?_
      refine gv_xld (pc' := 924) rfl rfl rfl ?_
      refine gv_ild (pc' := 926) rfl rfl rfl ?_
      refine gv_ic (pc' := 927) (x := 1) rfl rfl rfl ?_
      refine gv_iadd (pc' := 928) rfl rfl ?_
      by_cases c301 : (l4 + (1 : Int32)) < 0
      · rw [if_pos c301] at e; cases e
      rw [if_neg c301] at e
      obtain ⟨v300, qv300, e⟩ := gv_bind e
      refine gv_xal (pc' := 929) rfl rfl c301 qv300 rfl ?_
      refine gv_i2l (pc' := 930) rfl rfl ?_
      refine gv_bp (pc' := 932) (x := 32) rfl rfl rfl ?_
      refine gv_lshl (pc' := 933) rfl rfl ?_
      refine gv_xld (pc' := 934) rfl rfl rfl ?_
      refine gv_ild (pc' := 936) rfl rfl rfl ?_
      refine gv_ic (pc' := 937) (x := 2) rfl rfl rfl ?_
      refine gv_iadd (pc' := 938) rfl rfl ?_
      by_cases c303 : (l4 + (2 : Int32)) < 0
      · rw [if_pos c303] at e; cases e
      rw [if_neg c303] at e
      obtain ⟨v302, qv302, e⟩ := gv_bind e
      refine gv_xal (pc' := 939) rfl rfl c303 qv302 rfl ?_
      refine gv_i2l (pc' := 940) rfl rfl ?_
      refine gv_ld (pc' := 943) (x := 4294967295) rfl rfl rfl ?_
      refine gv_land (pc' := 944) rfl rfl ?_
      refine gv_lor (pc' := 945) rfl rfl ?_
      refine gv_xld (pc' := 946) rfl rfl rfl ?_
      refine gv_ild (pc' := 948) rfl rfl rfl ?_
      refine gv_ic (pc' := 949) (x := 3) rfl rfl rfl ?_
      refine gv_iadd (pc' := 950) rfl rfl ?_
      by_cases c305 : (l4 + (3 : Int32)) < 0
      · rw [if_pos c305] at e; cases e
      rw [if_neg c305] at e
      obtain ⟨v304, qv304, e⟩ := gv_bind e
      refine gv_xal (pc' := 951) rfl rfl c305 qv304 rfl ?_
      obtain ⟨i306, qi306, e⟩ := gv_bind e
      obtain ⟨⟨v307, h308⟩, qv307, e⟩ := gv_bind e
      refine gv_vS (jc := 191) (n := 2) (rest := []) (stk := [.int v307]) (pc' := 954) rfl rfl rfl rfl rfl rfl rfl rfl rfl (gv_zR (gv_zJ (gv_zI gv_z0))) rfl (gv_aR (gv_aJ (gv_aI gv_a0))) (Nat.le_of_ble_eq_true rfl) qi306 (mM_feed_ok qv307) rfl rfl ?_
      refine gv_pop (pc' := 955) rfl rfl rfl ?_
      refine gv_goto (pc' := 1033) rfl rfl ?_
      exact gv_weak (lw_law_1033_ok ih e) (gv_S1 rfl (gv_S1 rfl (gv_S1 rfl (gv_S1 rfl (gv_S1 rfl gv_S0)))))
    rw [if_neg c289] at e
    by_cases c310 : (v2 &&& (31 : Int32)) = (20 : Int32)
    · rw [if_pos c310] at e
      refine gv_sw (pc' := 958) (off := 918) rfl (by rw [c310]; rfl) rfl ?_
      refine gv_rldn (pc' := 959) rfl rfl rfl ?_
      obtain ⟨i311, qi311, e⟩ := gv_bind e
      obtain ⟨⟨v312, h313⟩, qv312, e⟩ := gv_bind e
      refine gv_vS (jc := 20) (n := 0) (rest := []) (stk := [.int v312]) (pc' := 962) rfl rfl rfl rfl rfl rfl rfl rfl rfl (gv_zR gv_z0) rfl (gv_aR gv_a0) (Nat.le_of_ble_eq_true rfl) qi311 (cG_wipe_ok qv312) rfl rfl ?_
      refine gv_pop (pc' := 963) rfl rfl rfl ?_
      refine gv_rldn (pc' := 964) rfl rfl rfl ?_
      obtain ⟨i315, qi315, e⟩ := gv_bind e
      obtain ⟨⟨v316, h317⟩, qv316, e⟩ := gv_bind e
      refine gv_vS (jc := 192) (n := 0) (rest := []) (stk := [.int v316]) (pc' := 967) rfl rfl rfl rfl rfl rfl rfl rfl rfl (gv_zR gv_z0) rfl (gv_aR gv_a0) (Nat.le_of_ble_eq_true rfl) qi315 (mM_wipe_ok qv316) rfl rfl ?_
      refine gv_pop (pc' := 968) rfl rfl rfl ?_
      refine gv_goto (pc' := 1033) rfl rfl ?_
      exact gv_weak (lw_law_1033_ok ih e) (gv_S1 rfl (gv_S1 rfl (gv_S1 rfl (gv_S1 rfl (gv_S1 rfl gv_S0)))))
    rw [if_neg c310] at e
    by_cases c319 : (v2 &&& (31 : Int32)) = (21 : Int32)
    · rw [if_pos c319] at e
      refine gv_sw (pc' := 971) (off := 931) rfl (by rw [c319]; rfl) rfl ?_
      refine gv_rldn (pc' := 972) rfl rfl rfl ?_
      refine gv_xld (pc' := 973) rfl rfl rfl ?_
      refine gv_ild (pc' := 975) rfl rfl rfl ?_
      refine gv_ic (pc' := 976) (x := 1) rfl rfl rfl ?_
      refine gv_iadd (pc' := 977) rfl rfl ?_
      by_cases c321 : (l4 + (1 : Int32)) < 0
      · rw [if_pos c321] at e; cases e
      rw [if_neg c321] at e
      obtain ⟨v320, qv320, e⟩ := gv_bind e
      refine gv_xal (pc' := 978) rfl rfl c321 qv320 rfl ?_
      refine gv_xld (pc' := 979) rfl rfl rfl ?_
      refine gv_ild (pc' := 981) rfl rfl rfl ?_
      refine gv_ic (pc' := 982) (x := 2) rfl rfl rfl ?_
      refine gv_iadd (pc' := 983) rfl rfl ?_
      by_cases c323 : (l4 + (2 : Int32)) < 0
      · rw [if_pos c323] at e; cases e
      rw [if_neg c323] at e
      obtain ⟨v322, qv322, e⟩ := gv_bind e
      refine gv_xal (pc' := 984) rfl rfl c323 qv322 rfl ?_
      obtain ⟨i324, qi324, e⟩ := gv_bind e
      obtain ⟨⟨v325, h326⟩, qv325, e⟩ := gv_bind e
      refine gv_vS (jc := 21) (n := 2) (rest := []) (stk := [.int v325]) (pc' := 987) rfl rfl rfl rfl rfl rfl rfl rfl rfl (gv_zR (gv_zI (gv_zI gv_z0))) rfl (gv_aR (gv_aI (gv_aI gv_a0))) (Nat.le_of_ble_eq_true rfl) qi324 (cG_spoil_ok qv325) rfl rfl ?_
      refine gv_pop (pc' := 988) rfl rfl rfl ?_
      refine gv_rldn (pc' := 989) rfl rfl rfl ?_
      refine gv_xld (pc' := 990) rfl rfl rfl ?_
      refine gv_ild (pc' := 992) rfl rfl rfl ?_
      refine gv_ic (pc' := 993) (x := 1) rfl rfl rfl ?_
      refine gv_iadd (pc' := 994) rfl rfl ?_
      by_cases c329 : (l4 + (1 : Int32)) < 0
      · rw [if_pos c329] at e; cases e
      rw [if_neg c329] at e
      obtain ⟨v328, qv328, e⟩ := gv_bind e
      refine gv_xal (pc' := 995) rfl rfl c329 qv328 rfl ?_
      refine gv_xld (pc' := 996) rfl rfl rfl ?_
      refine gv_ild (pc' := 998) rfl rfl rfl ?_
      refine gv_ic (pc' := 999) (x := 2) rfl rfl rfl ?_
      refine gv_iadd (pc' := 1000) rfl rfl ?_
      by_cases c331 : (l4 + (2 : Int32)) < 0
      · rw [if_pos c331] at e; cases e
      rw [if_neg c331] at e
      obtain ⟨v330, qv330, e⟩ := gv_bind e
      refine gv_xal (pc' := 1001) rfl rfl c331 qv330 rfl ?_
      obtain ⟨i332, qi332, e⟩ := gv_bind e
      obtain ⟨⟨v333, h334⟩, qv333, e⟩ := gv_bind e
      refine gv_vS (jc := 193) (n := 2) (rest := []) (stk := [.int v333]) (pc' := 1004) rfl rfl rfl rfl rfl rfl rfl rfl rfl (gv_zR (gv_zI (gv_zI gv_z0))) rfl (gv_aR (gv_aI (gv_aI gv_a0))) (Nat.le_of_ble_eq_true rfl) qi332 (mM_spoil_ok qv333) rfl rfl ?_
      refine gv_pop (pc' := 1005) rfl rfl rfl ?_
      refine gv_goto (pc' := 1033) rfl rfl ?_
      exact gv_weak (lw_law_1033_ok ih e) (gv_S1 rfl (gv_S1 rfl (gv_S1 rfl (gv_S1 rfl (gv_S1 rfl gv_S0)))))
    rw [if_neg c319] at e
    by_cases c336 : (v2 &&& (31 : Int32)) = (22 : Int32)
    · rw [if_pos c336] at e
      refine gv_sw (pc' := 1008) (off := 968) rfl (by rw [c336]; rfl) rfl ?_
      refine gv_rldn (pc' := 1009) rfl rfl rfl ?_
      refine gv_xld (pc' := 1010) rfl rfl rfl ?_
      refine gv_ild (pc' := 1012) rfl rfl rfl ?_
      refine gv_ic (pc' := 1013) (x := 1) rfl rfl rfl ?_
      refine gv_iadd (pc' := 1014) rfl rfl ?_
      by_cases c338 : (l4 + (1 : Int32)) < 0
      · rw [if_pos c338] at e; cases e
      rw [if_neg c338] at e
      obtain ⟨v337, qv337, e⟩ := gv_bind e
      refine gv_xal (pc' := 1015) rfl rfl c338 qv337 rfl ?_
      obtain ⟨i339, qi339, e⟩ := gv_bind e
      obtain ⟨v340, qv340, e⟩ := gv_bind e
      refine gv_vS (jc := 22) (n := 1) (rest := []) (stk := [.int v340]) (pc' := 1018) rfl rfl rfl rfl rfl rfl rfl rfl rfl (gv_zR (gv_zI gv_z0)) rfl (gv_aR (gv_aI gv_a0)) (Nat.le_of_ble_eq_true rfl) qi339 (cG_byteAt_ok qv340) rfl rfl ?_
      refine gv_pop (pc' := 1019) rfl rfl rfl ?_
      refine gv_rldn (pc' := 1020) rfl rfl rfl ?_
      refine gv_xld (pc' := 1021) rfl rfl rfl ?_
      refine gv_ild (pc' := 1023) rfl rfl rfl ?_
      refine gv_ic (pc' := 1024) (x := 1) rfl rfl rfl ?_
      refine gv_iadd (pc' := 1025) rfl rfl ?_
      by_cases c342 : (l4 + (1 : Int32)) < 0
      · rw [if_pos c342] at e; cases e
      rw [if_neg c342] at e
      obtain ⟨v341, qv341, e⟩ := gv_bind e
      refine gv_xal (pc' := 1026) rfl rfl c342 qv341 rfl ?_
      obtain ⟨i343, qi343, e⟩ := gv_bind e
      obtain ⟨⟨v344, h345⟩, qv344, e⟩ := gv_bind e
      refine gv_vS (jc := 194) (n := 1) (rest := []) (stk := [.int v344]) (pc' := 1029) rfl rfl rfl rfl rfl rfl rfl rfl rfl (gv_zR (gv_zI gv_z0)) rfl (gv_aR (gv_aI gv_a0)) (Nat.le_of_ble_eq_true rfl) qi343 (mM_byteAt_ok qv344) rfl rfl ?_
      refine gv_pop (pc' := 1030) rfl rfl rfl ?_
      refine gv_goto (pc' := 1033) rfl rfl ?_
      exact gv_weak (lw_law_1033_ok ih e) (gv_S1 rfl (gv_S1 rfl (gv_S1 rfl (gv_S1 rfl (gv_S1 rfl gv_S0)))))
    rw [if_neg c336] at e
    refine gv_sw (pc' := 1033) (off := 993) rfl (gv_tabd (gv_N1 c4 (gv_N1 c22 (gv_N1 c42 (gv_N1 c66 (gv_N1 c82 (gv_N1 c105 (gv_N1 c121 (gv_N1 c148 (gv_N1 c168 (gv_N1 c181 (gv_N1 c190 (gv_N1 c197 (gv_N1 c208 (gv_N1 c219 (gv_N1 c239 (gv_N1 c251 (gv_N1 c258 (gv_N1 c274 (gv_N1 c282 (gv_N1 c289 (gv_N1 c310 (gv_N1 c319 (gv_N1 c336 gv_N0))))))))))))))))))))))) (by decide)) rfl ?_
    exact gv_weak (lw_law_1033_ok ih e) (gv_S1 rfl (gv_S1 rfl (gv_S1 rfl (gv_S1 rfl (gv_S1 rfl gv_S0)))))
