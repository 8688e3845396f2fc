/-! ===== the law: every script (written by gen/lawloop.py) ===== -/
def bR (x : Option (Int × jMem)) (y : jMem → Option (Int × jMem)) : Prop := ∃ t' d' rt', wm t' d' rt' x (fun r J => wm t' d' rt' (y (mm t' d' rt' J)) (fun r' K => jd_wr r = jd_wr r' ∧ INV t' d' rt' K))
theorem bR_b {t d rt : Nat} {x : Option (Int × jMem)} {y : jMem → Option (Int × jMem)} (h : both t d rt x y) : bR x y := ⟨t, d, rt, h⟩
theorem bR_o {x : Option (Int × jMem)} {y : jMem → Option (Int × jMem)} (h : bR x y) : ∃ t' d' rt' r J r' K, x = some (r, mm t' d' rt' J) ∧ y (mm t' d' rt' J) = some (r', mm t' d' rt' K) ∧ jd_wr r = jd_wr r' ∧ INV t' d' rt' K := by
  obtain ⟨t', d', rt', r, J, e, r', K, e2, h1, h2⟩ := h
  exact ⟨t', d', rt', r, J, r', K, e, e2, h1, h2⟩
theorem lp2_st {body : (Int → jMem → Option (Int × jMem)) → Int → jMem → Option (Int × jMem)} (c N : Nat) (Inv : jMem → Prop) (Out : Option (Int × jMem) → Prop) (hs : ∀ i, i ≤ N → ∀ M, Inv M → ∀ rec : Int → jMem → Option (Int × jMem), (i < N → ∀ M', Inv M' → Out (rec ((c * (i + 1) : Nat) : Int) M')) → Out (body rec ((c * i : Nat) : Int) M)) : ∀ (fuel : Nat) (M : jMem), N < fuel → Inv M → Out (jlp2 body fuel 0 M) := by
  have key : ∀ k i fuel M, i + k = N → k < fuel → Inv M → Out (jlp2 body fuel ((c * i : Nat) : Int) M) := by
    intro k
    induction k with
    | zero =>
      intro i fuel M hi hf hM
      obtain ⟨f, rfl⟩ : ∃ f, fuel = f + 1 := ⟨fuel - 1, by omega⟩
      rw [jlp2_s]
      exact hs i (by omega) M hM _ (fun h => absurd h (by omega))
    | succ k ih =>
      intro i fuel M hi hf hM
      obtain ⟨f, rfl⟩ : ∃ f, fuel = f + 1 := ⟨fuel - 1, by omega⟩
      rw [jlp2_s]
      exact hs i (by omega) M hM _ (fun _ M' hM' => ih (i + 1) f M' (by omega) (by omega) hM')
  intro fuel M hf hM
  have := key N 0 fuel M (by omega) hf hM
  rw [Nat.mul_zero] at this
  exact this
theorem i32_in (x : Int32) : in32 x.toInt := ⟨Int32.le_toInt _, Int32.toInt_lt _⟩
theorem xs_at {L : Nat} {xs : Nat → Int32} {i j : Nat} {z : Int} (hz : z = ((i + j : Nat) : Int)) (h : i + j < L) (hL : L ≤ 384) : jm_xs L xs z = some (xs (i + j)).toInt := by
  have w : jd_wr z = ((i + j : Nat) : Int) := by rw [hz]; exact wr_n _ (by omega)
  unfold jm_xs
  rw [if_pos (by rw [w]; omega), w, Int.toNat_natCast]
section LAW
variable {t d rt : Nat} {I : Nat → Nat → Int}
end LAW
set_option maxHeartbeats 40000000 in
theorem law_step {L : Nat} {xs : Nat → Int32} (hL : L ≤ 384) {t d rt : Nat} {I : Nat → Nat → Int} (hI : INV t d rt I) {i : Nat} (hi : 6 * i + 6 ≤ L) {rec : Int → jMem → Option (Int × jMem)} (go : ∀ t' d' rt' K, INV t' d' rt' K → ∃ M', rec (((6 * i : Nat) : Int) + 6) (mm t' d' rt' K) = some (1, M')) : ∃ M', ((jm_xs L xs ((6 * i : Nat) : Int)).bind fun v9 =>
jjq (fun (M_1049 : jMem) =>
rec (((6 * i : Nat) : Int) + 6) M_1049) fun j_1049 =>
if jd_wr (jd_and v9 63) = 0 then ((jm_xs L xs (((6 * i : Nat) : Int) + 1)).bind fun v10 =>
(jm_xs L xs (((6 * i : Nat) : Int) + 2)).bind fun v11 =>
(jm_xs L xs (((6 * i : Nat) : Int) + 3)).bind fun v12 =>
(jm_xs L xs (((6 * i : Nat) : Int) + 4)).bind fun v13 =>
(jm_xs L xs (((6 * i : Nat) : Int) + 5)).bind fun v14 =>
jcall 11 (mm t d rt I) 0 (f_X11_feed 0 v10 v11 v12 v13 v14 (mm t d rt I)) fun v15 M16 =>
(jm_xs L xs (((6 * i : Nat) : Int) + 1)).bind fun v17 =>
(jm_xs L xs (((6 * i : Nat) : Int) + 2)).bind fun v18 =>
(jm_xs L xs (((6 * i : Nat) : Int) + 3)).bind fun v19 =>
(jm_xs L xs (((6 * i : Nat) : Int) + 4)).bind fun v20 =>
(jm_xs L xs (((6 * i : Nat) : Int) + 5)).bind fun v21 =>
jcall 12 M16 369 (f_X12_feed 369 v17 v18 v19 v20 v21 M16) fun v22 M23 =>
if jd_wr v15 = jd_wr v22 then (j_1049 M23)
else (jm_z 0 M23))
else if jd_wr (jd_and v9 63) = 1 then ((jm_xs L xs (((6 * i : Nat) : Int) + 1)).bind fun v24 =>
jcall 11 (mm t d rt I) 0 (f_X11_back 0 v24 (mm t d rt I)) fun v25 M26 =>
(jm_xs L xs (((6 * i : Nat) : Int) + 1)).bind fun v27 =>
jcall 12 M26 369 (f_X12_back 369 v27 M26) fun v28 M29 =>
if jd_wr v25 = jd_wr v28 then (j_1049 M29)
else (jm_z 0 M29))
else if jd_wr (jd_and v9 63) = 2 then (jcall 11 (mm t d rt I) 0 (f_X11_read 0 (mm t d rt I)) fun v30 M31 =>
jcall 12 M31 369 (f_X12_read 369 M31) fun v32 M33 =>
if jd_wr v30 = jd_wr v32 then (j_1049 M33)
else (jm_z 0 M33))
else if jd_wr (jd_and v9 63) = 3 then (jcall 11 (mm t d rt I) 0 (f_X11_place 0 (mm t d rt I)) fun v34 M35 =>
jcall 12 M35 369 (f_X12_place 369 M35) fun v36 M37 =>
if jd_wr v34 = jd_wr v36 then (j_1049 M37)
else (jm_z 0 M37))
else if jd_wr (jd_and v9 63) = 4 then ((jm_xs L xs (((6 * i : Nat) : Int) + 1)).bind fun v38 =>
(jm_xs L xs (((6 * i : Nat) : Int) + 2)).bind fun v39 =>
jcall 11 (mm t d rt I) 0 (f_X11_cell 0 v38 v39 (mm t d rt I)) fun v40 M41 =>
(jm_xs L xs (((6 * i : Nat) : Int) + 1)).bind fun v42 =>
(jm_xs L xs (((6 * i : Nat) : Int) + 2)).bind fun v43 =>
jcall 12 M41 369 (f_X12_cell 369 v42 v43 M41) fun v44 M45 =>
if jd_wr v40 = jd_wr v44 then (j_1049 M45)
else (jm_z 0 M45))
else if jd_wr (jd_and v9 63) = 5 then ((jm_xs L xs (((6 * i : Nat) : Int) + 1)).bind fun v46 =>
(jm_xs L xs (((6 * i : Nat) : Int) + 2)).bind fun v47 =>
jcall 11 (mm t d rt I) 0 (f_X11_stone 0 v46 v47 (mm t d rt I)) fun v48 M49 =>
(jm_xs L xs (((6 * i : Nat) : Int) + 1)).bind fun v50 =>
(jm_xs L xs (((6 * i : Nat) : Int) + 2)).bind fun v51 =>
jcall 12 M49 369 (f_X12_stone 369 v50 v51 M49) fun v52 M53 =>
if jd_wr v48 = jd_wr v52 then (j_1049 M53)
else (jm_z 0 M53))
else if jd_wr (jd_and v9 63) = 6 then ((jm_xs L xs (((6 * i : Nat) : Int) + 1)).bind fun v54 =>
(jm_xs L xs (((6 * i : Nat) : Int) + 2)).bind fun v55 =>
jcall 11 (mm t d rt I) 0 (f_X11_lay 0 v54 v55 (mm t d rt I)) fun v56 M57 =>
(jm_xs L xs (((6 * i : Nat) : Int) + 1)).bind fun v58 =>
(jm_xs L xs (((6 * i : Nat) : Int) + 2)).bind fun v59 =>
jcall 12 M57 369 (f_X12_lay 369 v58 v59 M57) fun v60 M61 =>
if jd_wr v56 = jd_wr v60 then (j_1049 M61)
else (jm_z 0 M61))
else if jd_wr (jd_and v9 63) = 7 then ((jm_xs L xs (((6 * i : Nat) : Int) + 1)).bind fun v62 =>
jcall 11 (mm t d rt I) 0 (f_X11_lift 0 v62 (mm t d rt I)) fun v63 M64 =>
(jm_xs L xs (((6 * i : Nat) : Int) + 1)).bind fun v65 =>
jcall 12 M64 369 (f_X12_lift 369 v65 M64) fun v66 M67 =>
if jd_wr v63 = jd_wr v66 then (j_1049 M67)
else (jm_z 0 M67))
else if jd_wr (jd_and v9 63) = 8 then ((jm_xs L xs (((6 * i : Nat) : Int) + 1)).bind fun v68 =>
jcall 11 (mm t d rt I) 0 (f_X11_turn 0 v68 (mm t d rt I)) fun v69 M70 =>
(jm_xs L xs (((6 * i : Nat) : Int) + 1)).bind fun v71 =>
jcall 12 M70 369 (f_X12_turn 369 v71 M70) fun v72 M73 =>
if jd_wr v69 = jd_wr v72 then (j_1049 M73)
else (jm_z 0 M73))
else if jd_wr (jd_and v9 63) = 9 then ((jm_xs L xs (((6 * i : Nat) : Int) + 1)).bind fun v74 =>
jcall 11 (mm t d rt I) 0 (f_X11_pave 0 v74 (mm t d rt I)) fun v75 M76 =>
(jm_xs L xs (((6 * i : Nat) : Int) + 1)).bind fun v77 =>
jcall 12 M76 369 (f_X12_pave 369 v77 M76) fun v78 M79 =>
if jd_wr v75 = jd_wr v78 then (j_1049 M79)
else (jm_z 0 M79))
else if jd_wr (jd_and v9 63) = 10 then ((jm_xs L xs (((6 * i : Nat) : Int) + 1)).bind fun v80 =>
jcall 11 (mm t d rt I) 0 (f_X11_seasons 0 v80 (mm t d rt I)) fun v81 M82 =>
(jm_xs L xs (((6 * i : Nat) : Int) + 1)).bind fun v83 =>
jcall 12 M82 369 (f_X12_seasons 369 v83 M82) fun v84 M85 =>
if jd_wr v81 = jd_wr v84 then (j_1049 M85)
else (jm_z 0 M85))
else if jd_wr (jd_and v9 63) = 11 then (jcall 11 (mm t d rt I) 0 (f_X11_undo 0 (mm t d rt I)) fun v86 M87 =>
jcall 12 M87 369 (f_X12_undo 369 M87) fun v88 M89 =>
if jd_wr v86 = jd_wr v88 then (j_1049 M89)
else (jm_z 0 M89))
else if jd_wr (jd_and v9 63) = 12 then (jcall 11 (mm t d rt I) 0 (f_X11_all 0 (mm t d rt I)) fun v90 M91 =>
jcall 12 M91 369 (f_X12_all 369 M91) fun v92 M93 =>
if jd_wr v90 = jd_wr v92 then (j_1049 M93)
else (jm_z 0 M93))
else if jd_wr (jd_and v9 63) = 13 then (jcall 11 (mm t d rt I) 0 (f_X11_rest 0 (mm t d rt I)) fun v94 M95 =>
jcall 12 M95 369 (f_X12_rest 369 M95) fun v96 M97 =>
if jd_wr v94 = jd_wr v96 then (j_1049 M97)
else (jm_z 0 M97))
else if jd_wr (jd_and v9 63) = 14 then ((jm_xs L xs (((6 * i : Nat) : Int) + 1)).bind fun v98 =>
jcall 11 (mm t d rt I) 0 (f_X11_across 0 v98 (mm t d rt I)) fun v99 M100 =>
(jm_xs L xs (((6 * i : Nat) : Int) + 1)).bind fun v101 =>
jcall 12 M100 369 (f_X12_across 369 v101 M100) fun v102 M103 =>
if jd_wr v99 = jd_wr v102 then (j_1049 M103)
else (jm_z 0 M103))
else if jd_wr (jd_and v9 63) = 15 then ((jm_xs L xs (((6 * i : Nat) : Int) + 1)).bind fun v104 =>
jcall 11 (mm t d rt I) 0 (f_X11_frozen 0 v104 (mm t d rt I)) fun v105 M106 =>
(jm_xs L xs (((6 * i : Nat) : Int) + 1)).bind fun v107 =>
jcall 12 M106 369 (f_X12_frozen 369 v107 M106) fun v108 M109 =>
if jd_wr v105 = jd_wr v108 then (j_1049 M109)
else (jm_z 0 M109))
else if jd_wr (jd_and v9 63) = 16 then (jcall 11 (mm t d rt I) 0 (f_X11_more 0 (mm t d rt I)) fun v110 M111 =>
jcall 12 M111 369 (f_X12_more 369 M111) fun v112 M113 =>
if jd_wr v110 = jd_wr v112 then (j_1049 M113)
else (jm_z 0 M113))
else if jd_wr (jd_and v9 63) = 17 then (jcall 11 (mm t d rt I) 0 (f_X11_shortBy 0 (mm t d rt I)) fun v114 M115 =>
jcall 12 M115 369 (f_X12_shortBy 369 M115) fun v116 M117 =>
if jd_wr v114 = jd_wr v116 then (j_1049 M117)
else (jm_z 0 M117))
else if jd_wr (jd_and v9 63) = 18 then (jcall 11 (mm t d rt I) 0 (f_X11_rank 0 (mm t d rt I)) fun v118 M119 =>
jcall 12 M119 369 (f_X12_rank 369 M119) fun v120 M121 =>
if jd_wr v118 = jd_wr v120 then (j_1049 M121)
else (jm_z 0 M121))
else if jd_wr (jd_and v9 63) = 19 then ((jm_xs L xs (((6 * i : Nat) : Int) + 1)).bind fun v122 =>
(jm_xs L xs (((6 * i : Nat) : Int) + 2)).bind fun v123 =>
jcall 11 (mm t d rt I) 0 (f_X11_hill 0 v122 v123 (mm t d rt I)) fun v124 M125 =>
(jm_xs L xs (((6 * i : Nat) : Int) + 1)).bind fun v126 =>
(jm_xs L xs (((6 * i : Nat) : Int) + 2)).bind fun v127 =>
jcall 12 M125 369 (f_X12_hill 369 v126 v127 M125) fun v128 M129 =>
if jd_wr v124 = jd_wr v128 then (j_1049 M129)
else (jm_z 0 M129))
else if jd_wr (jd_and v9 63) = 20 then ((jm_xs L xs (((6 * i : Nat) : Int) + 1)).bind fun v130 =>
jcall 11 (mm t d rt I) 0 (f_X11_way 0 v130 (mm t d rt I)) fun v131 M132 =>
(jm_xs L xs (((6 * i : Nat) : Int) + 1)).bind fun v133 =>
jcall 12 M132 369 (f_X12_way 369 v133 M132) fun v134 M135 =>
if jd_wr v131 = jd_wr v134 then (j_1049 M135)
else (jm_z 0 M135))
else if jd_wr (jd_and v9 63) = 21 then ((jm_xs L xs (((6 * i : Nat) : Int) + 1)).bind fun v136 =>
jcall 11 (mm t d rt I) 0 (f_X11_farthest 0 v136 (mm t d rt I)) fun v137 M138 =>
(jm_xs L xs (((6 * i : Nat) : Int) + 1)).bind fun v139 =>
jcall 12 M138 369 (f_X12_farthest 369 v139 M138) fun v140 M141 =>
if jd_wr v137 = jd_wr v140 then (j_1049 M141)
else (jm_z 0 M141))
else if jd_wr (jd_and v9 63) = 22 then ((jm_xs L xs (((6 * i : Nat) : Int) + 1)).bind fun v142 =>
jcall 11 (mm t d rt I) 0 (f_X11_lowest 0 v142 (mm t d rt I)) fun v143 M144 =>
(jm_xs L xs (((6 * i : Nat) : Int) + 1)).bind fun v145 =>
jcall 12 M144 369 (f_X12_lowest 369 v145 M144) fun v146 M147 =>
if jd_wr v143 = jd_wr v146 then (j_1049 M147)
else (jm_z 0 M147))
else if jd_wr (jd_and v9 63) = 23 then ((jm_xs L xs (((6 * i : Nat) : Int) + 1)).bind fun v148 =>
jcall 11 (mm t d rt I) 0 (f_X11_turns 0 v148 (mm t d rt I)) fun v149 M150 =>
(jm_xs L xs (((6 * i : Nat) : Int) + 1)).bind fun v151 =>
jcall 12 M150 369 (f_X12_turns 369 v151 M150) fun v152 M153 =>
if jd_wr v149 = jd_wr v152 then (j_1049 M153)
else (jm_z 0 M153))
else if jd_wr (jd_and v9 63) = 24 then ((jm_xs L xs (((6 * i : Nat) : Int) + 1)).bind fun v154 =>
jcall 11 (mm t d rt I) 0 (f_X11_cheapest 0 v154 (mm t d rt I)) fun v155 M156 =>
(jm_xs L xs (((6 * i : Nat) : Int) + 1)).bind fun v157 =>
jcall 12 M156 369 (f_X12_cheapest 369 v157 M156) fun v158 M159 =>
if jd_wr v155 = jd_wr v158 then (j_1049 M159)
else (jm_z 0 M159))
else if jd_wr (jd_and v9 63) = 25 then ((jm_xs L xs (((6 * i : Nat) : Int) + 1)).bind fun v160 =>
(jm_xs L xs (((6 * i : Nat) : Int) + 2)).bind fun v161 =>
jcall 11 (mm t d rt I) 0 (f_X11_widows 0 v160 v161 (mm t d rt I)) fun v162 M163 =>
(jm_xs L xs (((6 * i : Nat) : Int) + 1)).bind fun v164 =>
(jm_xs L xs (((6 * i : Nat) : Int) + 2)).bind fun v165 =>
jcall 12 M163 369 (f_X12_widows 369 v164 v165 M163) fun v166 M167 =>
if jd_wr v162 = jd_wr v166 then (j_1049 M167)
else (jm_z 0 M167))
else if jd_wr (jd_and v9 63) = 26 then ((jm_xs L xs (((6 * i : Nat) : Int) + 1)).bind fun v168 =>
(jm_xs L xs (((6 * i : Nat) : Int) + 2)).bind fun v169 =>
jcall 11 (mm t d rt I) 0 (f_X11_then 0 v168 v169 (mm t d rt I)) fun v170 M171 =>
(jm_xs L xs (((6 * i : Nat) : Int) + 1)).bind fun v172 =>
(jm_xs L xs (((6 * i : Nat) : Int) + 2)).bind fun v173 =>
jcall 12 M171 369 (f_X12_then 369 v172 v173 M171) fun v174 M175 =>
if jd_wr v170 = jd_wr v174 then (j_1049 M175)
else (jm_z 0 M175))
else if jd_wr (jd_and v9 63) = 27 then ((jm_xs L xs (((6 * i : Nat) : Int) + 1)).bind fun v176 =>
(jm_xs L xs (((6 * i : Nat) : Int) + 2)).bind fun v177 =>
jcall 11 (mm t d rt I) 0 (f_X11_year 0 v176 v177 (mm t d rt I)) fun v178 M179 =>
(jm_xs L xs (((6 * i : Nat) : Int) + 1)).bind fun v180 =>
(jm_xs L xs (((6 * i : Nat) : Int) + 2)).bind fun v181 =>
jcall 12 M179 369 (f_X12_year 369 v180 v181 M179) fun v182 M183 =>
if jd_wr v178 = jd_wr v182 then (j_1049 M183)
else (jm_z 0 M183))
else if jd_wr (jd_and v9 63) = 28 then ((jm_xs L xs (((6 * i : Nat) : Int) + 1)).bind fun v184 =>
(jm_xs L xs (((6 * i : Nat) : Int) + 2)).bind fun v185 =>
jjq (fun (z0_881 : Int) =>
jcall 11 (mm t d rt I) 0 (f_X11_tell 0 v184 z0_881 (mm t d rt I)) fun v186 M187 =>
(jm_xs L xs (((6 * i : Nat) : Int) + 1)).bind fun v188 =>
(jm_xs L xs (((6 * i : Nat) : Int) + 2)).bind fun v189 =>
jjq (fun (z0_903 : Int) =>
jcall 12 M187 369 (f_X12_tell 369 v188 z0_903 M187) fun v190 M191 =>
if jd_wr v186 = jd_wr v190 then (j_1049 M191)
else (jm_z 0 M191)) fun j_903 =>
if jd_wr v189 = 0 then (j_903 0)
else (j_903 1)) fun j_881 =>
if jd_wr v185 = 0 then (j_881 0)
else (j_881 1))
else if jd_wr (jd_and v9 63) = 29 then (jcall 11 (mm t d rt I) 0 (f_X11_forget 0 (mm t d rt I)) fun v192 M193 =>
jcall 12 M193 369 (f_X12_forget 369 M193) fun v194 M195 =>
if jd_wr v192 = jd_wr v194 then (j_1049 M195)
else (jm_z 0 M195))
else if jd_wr (jd_and v9 63) = 30 then ((jm_xs L xs (((6 * i : Nat) : Int) + 1)).bind fun v196 =>
(jm_xs L xs (((6 * i : Nat) : Int) + 2)).bind fun v197 =>
jcall 11 (mm t d rt I) 0 (f_X11_fit 0 v196 v197 (mm t d rt I)) fun v198 M199 =>
(jm_xs L xs (((6 * i : Nat) : Int) + 1)).bind fun v200 =>
(jm_xs L xs (((6 * i : Nat) : Int) + 2)).bind fun v201 =>
jcall 12 M199 369 (f_X12_fit 369 v200 v201 M199) fun v202 M203 =>
if jd_wr v198 = jd_wr v202 then (j_1049 M203)
else (jm_z 0 M203))
else if jd_wr (jd_and v9 63) = 31 then ((jm_xs L xs (((6 * i : Nat) : Int) + 1)).bind fun v204 =>
jcall 11 (mm t d rt I) 0 (f_X11_look 0 v204 (mm t d rt I)) fun v205 M206 =>
(jm_xs L xs (((6 * i : Nat) : Int) + 1)).bind fun v207 =>
jcall 12 M206 369 (f_X12_look 369 v207 M206) fun v208 M209 =>
if jd_wr v205 = jd_wr v208 then (j_1049 M209)
else (jm_z 0 M209))
else if jd_wr (jd_and v9 63) = 32 then ((jm_xs L xs (((6 * i : Nat) : Int) + 1)).bind fun v210 =>
jcall 11 (mm t d rt I) 0 (f_X11_hold 0 v210 (mm t d rt I)) fun v211 M212 =>
(jm_xs L xs (((6 * i : Nat) : Int) + 1)).bind fun v213 =>
jcall 12 M212 369 (f_X12_hold 369 v213 M212) fun v214 M215 =>
if jd_wr v211 = jd_wr v214 then (j_1049 M215)
else (jm_z 0 M215))
else if jd_wr (jd_and v9 63) = 33 then ((jm_xs L xs (((6 * i : Nat) : Int) + 1)).bind fun v216 =>
jcall 11 (mm t d rt I) 0 (f_X11_restore 0 v216 (mm t d rt I)) fun v217 M218 =>
(jm_xs L xs (((6 * i : Nat) : Int) + 1)).bind fun v219 =>
jcall 12 M218 369 (f_X12_restore 369 v219 M218) fun v220 M221 =>
if jd_wr v217 = jd_wr v220 then (j_1049 M221)
else (jm_z 0 M221))
else if jd_wr (jd_and v9 63) = 34 then ((jm_xs L xs (((6 * i : Nat) : Int) + 1)).bind fun v222 =>
jcall 11 (mm t d rt I) 0 (f_X11_count 0 v222 (mm t d rt I)) fun v223 M224 =>
(jm_xs L xs (((6 * i : Nat) : Int) + 1)).bind fun v225 =>
jcall 12 M224 369 (f_X12_count 369 v225 M224) fun v226 M227 =>
if jd_wr v223 = jd_wr v226 then (j_1049 M227)
else (jm_z 0 M227))
else (j_1049 (mm t d rt I))) = some (1, M') := by
  have k11 : (K0 0).1 = 11 ∧ 0 < 418 := by decide +kernel
  have k12 : (K0 369).1 = 12 ∧ 369 < 418 := by decide +kernel
  have hx0 : jm_xs L xs ((6 * i : Nat) : Int) = some (xs (6 * i + 0)).toInt := xs_at rfl (by omega) hL
  have hx1 : jm_xs L xs (((6 * i : Nat) : Int) + 1) = some (xs (6 * i + 1)).toInt := xs_at (by omega) (by omega) hL
  have hi1 := i32_in (xs (6 * i + 1))
  have hx2 : jm_xs L xs (((6 * i : Nat) : Int) + 2) = some (xs (6 * i + 2)).toInt := xs_at (by omega) (by omega) hL
  have hi2 := i32_in (xs (6 * i + 2))
  have hx3 : jm_xs L xs (((6 * i : Nat) : Int) + 3) = some (xs (6 * i + 3)).toInt := xs_at (by omega) (by omega) hL
  have hi3 := i32_in (xs (6 * i + 3))
  have hx4 : jm_xs L xs (((6 * i : Nat) : Int) + 4) = some (xs (6 * i + 4)).toInt := xs_at (by omega) (by omega) hL
  have hi4 := i32_in (xs (6 * i + 4))
  have hx5 : jm_xs L xs (((6 * i : Nat) : Int) + 5) = some (xs (6 * i + 5)).toInt := xs_at (by omega) (by omega) hL
  have hi5 := i32_in (xs (6 * i + 5))
  generalize (xs (6 * i + 1)).toInt = v1 at hx1 hi1
  generalize (xs (6 * i + 2)).toInt = v2 at hx2 hi2
  generalize (xs (6 * i + 3)).toInt = v3 at hx3 hi3
  generalize (xs (6 * i + 4)).toInt = v4 at hx4 hi4
  generalize (xs (6 * i + 5)).toInt = v5 at hx5 hi5
  rw [hx0, Option.bind_some]
  generalize jd_wr (jd_and (xs (6 * i + 0)).toInt 63) = a
  simp only [jjq]
  by_cases c0 : a = 0
  · obtain ⟨t', d', rt', r, J, r', K, e1, e2, hw, hI'⟩ := bR_o (bR_b (P_feed hI v1 v2 v3 v4 v5))
    rw [if_pos c0, hx1, hx2, hx3, hx4, hx5, Option.bind_some, Option.bind_some, Option.bind_some, Option.bind_some, Option.bind_some, mm_call k11, e1, jbd_s, Option.bind_some, Option.bind_some, Option.bind_some, Option.bind_some, Option.bind_some, mm_call k12, e2, jbd_s, if_pos hw]
    exact go _ _ _ _ hI'
  rw [if_neg c0]
  by_cases c1 : a = 1
  · obtain ⟨t', d', rt', r, J, r', K, e1, e2, hw, hI'⟩ := bR_o (bR_b (P_back hI hi1))
    rw [if_pos c1, hx1, Option.bind_some, mm_call k11, e1, jbd_s, Option.bind_some, mm_call k12, e2, jbd_s, if_pos hw]
    exact go _ _ _ _ hI'
  rw [if_neg c1]
  by_cases c2 : a = 2
  · obtain ⟨t', d', rt', r, J, r', K, e1, e2, hw, hI'⟩ := bR_o (P_read hI)
    rw [if_pos c2, mm_call k11, e1, jbd_s, mm_call k12, e2, jbd_s, if_pos hw]
    exact go _ _ _ _ hI'
  rw [if_neg c2]
  by_cases c3 : a = 3
  · obtain ⟨t', d', rt', r, J, r', K, e1, e2, hw, hI'⟩ := bR_o (bR_b (P_place hI))
    rw [if_pos c3, mm_call k11, e1, jbd_s, mm_call k12, e2, jbd_s, if_pos hw]
    exact go _ _ _ _ hI'
  rw [if_neg c3]
  by_cases c4 : a = 4
  · obtain ⟨t', d', rt', r, J, r', K, e1, e2, hw, hI'⟩ := bR_o (bR_b (P_cell hI hi1 hi2))
    rw [if_pos c4, hx1, hx2, Option.bind_some, Option.bind_some, mm_call k11, e1, jbd_s, Option.bind_some, Option.bind_some, mm_call k12, e2, jbd_s, if_pos hw]
    exact go _ _ _ _ hI'
  rw [if_neg c4]
  by_cases c5 : a = 5
  · obtain ⟨t', d', rt', r, J, r', K, e1, e2, hw, hI'⟩ := bR_o (bR_b (P_stone hI hi1 hi2))
    rw [if_pos c5, hx1, hx2, Option.bind_some, Option.bind_some, mm_call k11, e1, jbd_s, Option.bind_some, Option.bind_some, mm_call k12, e2, jbd_s, if_pos hw]
    exact go _ _ _ _ hI'
  rw [if_neg c5]
  by_cases c6 : a = 6
  · obtain ⟨t', d', rt', r, J, r', K, e1, e2, hw, hI'⟩ := bR_o (bR_b (P_lay hI hi1 hi2))
    rw [if_pos c6, hx1, hx2, Option.bind_some, Option.bind_some, mm_call k11, e1, jbd_s, Option.bind_some, Option.bind_some, mm_call k12, e2, jbd_s, if_pos hw]
    exact go _ _ _ _ hI'
  rw [if_neg c6]
  by_cases c7 : a = 7
  · obtain ⟨t', d', rt', r, J, r', K, e1, e2, hw, hI'⟩ := bR_o (bR_b (P_lift hI hi1))
    rw [if_pos c7, hx1, Option.bind_some, mm_call k11, e1, jbd_s, Option.bind_some, mm_call k12, e2, jbd_s, if_pos hw]
    exact go _ _ _ _ hI'
  rw [if_neg c7]
  by_cases c8 : a = 8
  · obtain ⟨t', d', rt', r, J, r', K, e1, e2, hw, hI'⟩ := bR_o (bR_b (P_turn hI hi1))
    rw [if_pos c8, hx1, Option.bind_some, mm_call k11, e1, jbd_s, Option.bind_some, mm_call k12, e2, jbd_s, if_pos hw]
    exact go _ _ _ _ hI'
  rw [if_neg c8]
  by_cases c9 : a = 9
  · obtain ⟨t', d', rt', r, J, r', K, e1, e2, hw, hI'⟩ := bR_o (bR_b (P_pave hI hi1))
    rw [if_pos c9, hx1, Option.bind_some, mm_call k11, e1, jbd_s, Option.bind_some, mm_call k12, e2, jbd_s, if_pos hw]
    exact go _ _ _ _ hI'
  rw [if_neg c9]
  by_cases c10 : a = 10
  · obtain ⟨t', d', rt', r, J, r', K, e1, e2, hw, hI'⟩ := bR_o (bR_b (P_seasons hI hi1))
    rw [if_pos c10, hx1, Option.bind_some, mm_call k11, e1, jbd_s, Option.bind_some, mm_call k12, e2, jbd_s, if_pos hw]
    exact go _ _ _ _ hI'
  rw [if_neg c10]
  by_cases c11 : a = 11
  · obtain ⟨t', d', rt', r, J, r', K, e1, e2, hw, hI'⟩ := bR_o (bR_b (P_undo hI))
    rw [if_pos c11, mm_call k11, e1, jbd_s, mm_call k12, e2, jbd_s, if_pos hw]
    exact go _ _ _ _ hI'
  rw [if_neg c11]
  by_cases c12 : a = 12
  · obtain ⟨t', d', rt', r, J, r', K, e1, e2, hw, hI'⟩ := bR_o (bR_b (P_all hI))
    rw [if_pos c12, mm_call k11, e1, jbd_s, mm_call k12, e2, jbd_s, if_pos hw]
    exact go _ _ _ _ hI'
  rw [if_neg c12]
  by_cases c13 : a = 13
  · obtain ⟨t', d', rt', r, J, r', K, e1, e2, hw, hI'⟩ := bR_o (bR_b (P_rest hI))
    rw [if_pos c13, mm_call k11, e1, jbd_s, mm_call k12, e2, jbd_s, if_pos hw]
    exact go _ _ _ _ hI'
  rw [if_neg c13]
  by_cases c14 : a = 14
  · obtain ⟨t', d', rt', r, J, r', K, e1, e2, hw, hI'⟩ := bR_o (bR_b (P_across hI hi1))
    rw [if_pos c14, hx1, Option.bind_some, mm_call k11, e1, jbd_s, Option.bind_some, mm_call k12, e2, jbd_s, if_pos hw]
    exact go _ _ _ _ hI'
  rw [if_neg c14]
  by_cases c15 : a = 15
  · obtain ⟨t', d', rt', r, J, r', K, e1, e2, hw, hI'⟩ := bR_o (bR_b (P_frozen hI hi1))
    rw [if_pos c15, hx1, Option.bind_some, mm_call k11, e1, jbd_s, Option.bind_some, mm_call k12, e2, jbd_s, if_pos hw]
    exact go _ _ _ _ hI'
  rw [if_neg c15]
  by_cases c16 : a = 16
  · obtain ⟨t', d', rt', r, J, r', K, e1, e2, hw, hI'⟩ := bR_o (bR_b (P_more hI))
    rw [if_pos c16, mm_call k11, e1, jbd_s, mm_call k12, e2, jbd_s, if_pos hw]
    exact go _ _ _ _ hI'
  rw [if_neg c16]
  by_cases c17 : a = 17
  · obtain ⟨t', d', rt', r, J, r', K, e1, e2, hw, hI'⟩ := bR_o (bR_b (P_shortBy hI))
    rw [if_pos c17, mm_call k11, e1, jbd_s, mm_call k12, e2, jbd_s, if_pos hw]
    exact go _ _ _ _ hI'
  rw [if_neg c17]
  by_cases c18 : a = 18
  · obtain ⟨t', d', rt', r, J, r', K, e1, e2, hw, hI'⟩ := bR_o (bR_b (P_rank hI))
    rw [if_pos c18, mm_call k11, e1, jbd_s, mm_call k12, e2, jbd_s, if_pos hw]
    exact go _ _ _ _ hI'
  rw [if_neg c18]
  by_cases c19 : a = 19
  · obtain ⟨t', d', rt', r, J, r', K, e1, e2, hw, hI'⟩ := bR_o (bR_b (P_hill hI hi1 hi2))
    rw [if_pos c19, hx1, hx2, Option.bind_some, Option.bind_some, mm_call k11, e1, jbd_s, Option.bind_some, Option.bind_some, mm_call k12, e2, jbd_s, if_pos hw]
    exact go _ _ _ _ hI'
  rw [if_neg c19]
  by_cases c20 : a = 20
  · obtain ⟨t', d', rt', r, J, r', K, e1, e2, hw, hI'⟩ := bR_o (bR_b (P_way hI hi1))
    rw [if_pos c20, hx1, Option.bind_some, mm_call k11, e1, jbd_s, Option.bind_some, mm_call k12, e2, jbd_s, if_pos hw]
    exact go _ _ _ _ hI'
  rw [if_neg c20]
  by_cases c21 : a = 21
  · obtain ⟨t', d', rt', r, J, r', K, e1, e2, hw, hI'⟩ := bR_o (bR_b (P_farthest hI hi1))
    rw [if_pos c21, hx1, Option.bind_some, mm_call k11, e1, jbd_s, Option.bind_some, mm_call k12, e2, jbd_s, if_pos hw]
    exact go _ _ _ _ hI'
  rw [if_neg c21]
  by_cases c22 : a = 22
  · obtain ⟨t', d', rt', r, J, r', K, e1, e2, hw, hI'⟩ := bR_o (bR_b (P_lowest hI hi1))
    rw [if_pos c22, hx1, Option.bind_some, mm_call k11, e1, jbd_s, Option.bind_some, mm_call k12, e2, jbd_s, if_pos hw]
    exact go _ _ _ _ hI'
  rw [if_neg c22]
  by_cases c23 : a = 23
  · obtain ⟨t', d', rt', r, J, r', K, e1, e2, hw, hI'⟩ := bR_o (bR_b (P_turns hI hi1))
    rw [if_pos c23, hx1, Option.bind_some, mm_call k11, e1, jbd_s, Option.bind_some, mm_call k12, e2, jbd_s, if_pos hw]
    exact go _ _ _ _ hI'
  rw [if_neg c23]
  by_cases c24 : a = 24
  · obtain ⟨t', d', rt', r, J, r', K, e1, e2, hw, hI'⟩ := bR_o (bR_b (P_cheapest hI hi1))
    rw [if_pos c24, hx1, Option.bind_some, mm_call k11, e1, jbd_s, Option.bind_some, mm_call k12, e2, jbd_s, if_pos hw]
    exact go _ _ _ _ hI'
  rw [if_neg c24]
  by_cases c25 : a = 25
  · obtain ⟨t', d', rt', r, J, r', K, e1, e2, hw, hI'⟩ := bR_o (bR_b (P_widows hI hi1 hi2))
    rw [if_pos c25, hx1, hx2, Option.bind_some, Option.bind_some, mm_call k11, e1, jbd_s, Option.bind_some, Option.bind_some, mm_call k12, e2, jbd_s, if_pos hw]
    exact go _ _ _ _ hI'
  rw [if_neg c25]
  by_cases c26 : a = 26
  · obtain ⟨t', d', rt', r, J, r', K, e1, e2, hw, hI'⟩ := bR_o (bR_b (P_then hI hi1 hi2))
    rw [if_pos c26, hx1, hx2, Option.bind_some, Option.bind_some, mm_call k11, e1, jbd_s, Option.bind_some, Option.bind_some, mm_call k12, e2, jbd_s, if_pos hw]
    exact go _ _ _ _ hI'
  rw [if_neg c26]
  by_cases c27 : a = 27
  · obtain ⟨t', d', rt', r, J, r', K, e1, e2, hw, hI'⟩ := bR_o (bR_b (P_year hI hi1 hi2))
    rw [if_pos c27, hx1, hx2, Option.bind_some, Option.bind_some, mm_call k11, e1, jbd_s, Option.bind_some, Option.bind_some, mm_call k12, e2, jbd_s, if_pos hw]
    exact go _ _ _ _ hI'
  rw [if_neg c27]
  by_cases c28 : a = 28
  · rw [if_pos c28, hx1, hx2, Option.bind_some, Option.bind_some]
    by_cases z : jd_wr v2 = 0
    · obtain ⟨t', d', rt', r, J, r', K, e1, e2, hw, hI'⟩ := bR_o (bR_b (P_tell hI (b := 0) hi1 (Or.inl rfl)))
      rw [if_pos z, mm_call k11, e1, jbd_s, Option.bind_some, Option.bind_some, if_pos z, mm_call k12, e2, jbd_s, if_pos hw]
      exact go _ _ _ _ hI'
    · obtain ⟨t', d', rt', r, J, r', K, e1, e2, hw, hI'⟩ := bR_o (bR_b (P_tell hI (b := 1) hi1 (Or.inr rfl)))
      rw [if_neg z, mm_call k11, e1, jbd_s, Option.bind_some, Option.bind_some, if_neg z, mm_call k12, e2, jbd_s, if_pos hw]
      exact go _ _ _ _ hI'
  rw [if_neg c28]
  by_cases c29 : a = 29
  · obtain ⟨t', d', rt', r, J, r', K, e1, e2, hw, hI'⟩ := bR_o (bR_b (P_forget hI))
    rw [if_pos c29, mm_call k11, e1, jbd_s, mm_call k12, e2, jbd_s, if_pos hw]
    exact go _ _ _ _ hI'
  rw [if_neg c29]
  by_cases c30 : a = 30
  · obtain ⟨t', d', rt', r, J, r', K, e1, e2, hw, hI'⟩ := bR_o (bR_b (P_fit hI hi1 hi2))
    rw [if_pos c30, hx1, hx2, Option.bind_some, Option.bind_some, mm_call k11, e1, jbd_s, Option.bind_some, Option.bind_some, mm_call k12, e2, jbd_s, if_pos hw]
    exact go _ _ _ _ hI'
  rw [if_neg c30]
  by_cases c31 : a = 31
  · obtain ⟨t', d', rt', r, J, r', K, e1, e2, hw, hI'⟩ := bR_o (bR_b (P_look hI hi1))
    rw [if_pos c31, hx1, Option.bind_some, mm_call k11, e1, jbd_s, Option.bind_some, mm_call k12, e2, jbd_s, if_pos hw]
    exact go _ _ _ _ hI'
  rw [if_neg c31]
  by_cases c32 : a = 32
  · obtain ⟨t', d', rt', r, J, r', K, e1, e2, hw, hI'⟩ := bR_o (bR_b (P_hold hI hi1))
    rw [if_pos c32, hx1, Option.bind_some, mm_call k11, e1, jbd_s, Option.bind_some, mm_call k12, e2, jbd_s, if_pos hw]
    exact go _ _ _ _ hI'
  rw [if_neg c32]
  by_cases c33 : a = 33
  · obtain ⟨t', d', rt', r, J, r', K, e1, e2, hw, hI'⟩ := bR_o (bR_b (P_restore hI hi1))
    rw [if_pos c33, hx1, Option.bind_some, mm_call k11, e1, jbd_s, Option.bind_some, mm_call k12, e2, jbd_s, if_pos hw]
    exact go _ _ _ _ hI'
  rw [if_neg c33]
  by_cases c34 : a = 34
  · obtain ⟨t', d', rt', r, J, r', K, e1, e2, hw, hI'⟩ := bR_o (bR_b (P_count hI hi1))
    rw [if_pos c34, hx1, Option.bind_some, mm_call k11, e1, jbd_s, Option.bind_some, mm_call k12, e2, jbd_s, if_pos hw]
    exact go _ _ _ _ hI'
  rw [if_neg c34]
  exact go _ _ _ _ hI
theorem jPure_ok : jPure := by
  intro L xs hL
  obtain ⟨J, e1, hc⟩ := x_class
  have hz : zI J (kT.take 369).length := by rw [kT_n.2.1]; exact hc.1
  have hr : (rT.take 369).length = (kT.take 369).length := by rw [kT_n.2.1, kT_n.2.2]
  have e2 := e_X12 (I := J) hr hz
  rw [mM_eq, kT_n.2.1] at e2
  obtain ⟨r, K, e3, hI⟩ := w_x12 hc
  have e0 : jM0 = ml [] [] (fun _ _ => 0) := rfl
  have e4 : ∀ f : Nat → jMem → Option (Int × jMem), jnw jM0 11 0 f = f 0 (ml lc0 rc0 (fun _ _ => 0)) := fun f => by
    rw [e0, gg_nw rfl (fun _ => rfl)]; rfl
  have e5 : ∀ f : Nat → jMem → Option (Int × jMem), jnw (ml (kT.take 369) (rT.take 369) J) 12 0 f = f 369 (ml (kT.take 369 ++ [(12, 0)]) (rT.take 369 ++ [[]]) J) := fun f => by
    rw [gg_nw hr (fun j => hz _ (Nat.le_refl _) j), kT_n.2.1]
  unfold f_L_law
  rw [e4, e1, jbd_s, e5, e2, e3, jbd_s]
  refine lp2_st 6 64 (fun M => ∃ t d rt I, M = mm t d rt I ∧ INV t d rt I) (fun x => ∃ M', x = some (1, M')) ?_ jfuel _ (jfuel_n (by decide)) ⟨3, 16, 16, K, rfl, hI⟩
  rintro i hi M ⟨t, d, rt, I, rfl, hI⟩ rec hrec
  have w1 : jd_wr ((6 * i : Nat) : Int) = ((6 * i : Nat) : Int) := wr_n _ (by omega)
  have w2 : jd_wr ((L : Int) - 6) = (L : Int) - 6 := wr_id (by omega) (by omega)
  by_cases c : 6 * i + 6 ≤ L
  · refine Exists.elim (law_step (L := L) (xs := xs) hL hI c (rec := rec) (fun t' d' rt' K' hK' => ?_)) (fun M' hM' => ⟨M', ?_⟩)
    · have := hrec (by omega) (mm t' d' rt' K') ⟨t', d', rt', K', rfl, hK'⟩
      rw [show ((6 * (i + 1) : Nat) : Int) = ((6 * i : Nat) : Int) + 6 by omega] at this
      exact this
    · exact (if_pos (by rw [w1, w2]; omega)).trans hM'
  · refine ⟨mm t d rt I, (if_neg (by rw [w1, w2]; omega)).trans ?_⟩
    exact jz1 _
