/-! ===== the law's own walk: by program ===== -/
/-- the script's int at i -/
def jm_xs (L : Nat) (xs : Nat → Int32) (i : Int) : Option Int := if 0 ≤ jd_wr i ∧ jd_wr i < (L : Int) then some (xs (jd_wr i).toNat).toInt else none
/-- the memory ahead of all -/
def jM0 : jMem := ((0, fun _ => (0, 0)), (fun _ _ => 0), fun _ _ => none)
def jSc (E : jE) (X : jX) (b L : Nat) (xs : Nat → Int32) : Prop := va_X b L xs X.2.2.2.1 X.2.2.2.1.heap ∧ b < X.2.2.2.1.heap.size ∧ ¬ jA E b ∧ L < 2147483648
section JLAW
variable {E : jE} {X : jX} {cc : ByteArray} {own : String} {nL d mc ms k n pc n' b L : Nat} {xs : Nat → Int32} {M : jMem} {lv : List (Nat × Value)} {st : List Value} {ρ : Type} {res : ρ}
theorem jr_xs (hC : jCx E X cc nL own d mc ms) (hX : jSc E X b L xs) {i : Int} {f : Int → Option ρ} (hd : jD cc pc n' .iaload 1) (h : (jm_xs L xs i).bind f = some res) (kk : ∀ v, f v = some res → JW E X nL k n M n' lv (q_i v :: st)) : JW E X nL k n M pc lv (q_i i :: .ref b :: st) := by
  obtain ⟨hd, rfl⟩ := hd
  obtain ⟨v, h1, h2⟩ := jo_b h
  obtain ⟨hk, h1⟩ := jo_if h1
  cases h1
  intro H locs ls hH hS hl
  refine va_sld hC.1 hC.2.1 hX.1 hX.2.1 hX.2.2.1 hS (jw_in hk) hd ?_
  have := kk _ h2 H locs ls hH hS hl
  rw [jw_clamp]
  rw [show (q_i (xs (jd_wr i).toNat).toInt) = Value.int (xs (jd_wr i).toNat) from congrArg Value.int (jw_ofInt _)] at this
  exact this
theorem jr_xlen (hC : jCx E X cc nL own d mc ms) (hX : jSc E X b L xs) (hd : jD cc pc n' .arraylength 1) (kk : JW E X nL k n M n' lv (q_i (L : Int) :: st)) : JW E X nL k n M pc lv (.ref b :: st) := by
  obtain ⟨hd, rfl⟩ := hd
  intro H locs ls hH hS hl
  exact va_slen hC.1 hC.2.1 hX.1 hX.2.1 hX.2.2.1 hS hd (kk H locs ls hH hS hl)
/-- the law's end -/
theorem jr_lawret (hC : jCx E X code nL own d mc ms) (hQ : X.2.2.1 = room_1 ∧ X.2.2.2.2.2.1 = #[Value.ref b] ∧ X.2.2.2.2.2.2.2.2.2 = lw_Z X.2.2.2.2.2.2.1 #[Value.ref b] X.2.2.2.1 ∧ k ≤ 600000 ∧ n ≤ 7302250 ∧ X.2.2.2.1.heap.size ≤ jb E) (hr : X.2.2.2.2.2.2.2.1.sig.returnType = ret) {v r : Int} {M' : jMem} (hr1 : r = 1) (hd : jD code pc n' .ireturn 1) (h : jm_z v M = some (r, M')) : JW E X nL k n M pc lv [q_i v] := by
  obtain ⟨-, h⟩ := jo_if h
  cases h
  subst hr1
  obtain ⟨q1, q2, q3, q4, q5, q6⟩ := hQ
  intro H locs ls hH hS hl
  rw [q1, q2, q3]
  refine va_forget (fun q hq => Nat.le_trans q6 (hS.2.2 q hq)) ?_
  refine W.widen (k := 600000) (n := 7302250) q4 q5 ?_
  exact lw_ret hC.1 hC.2.1 hr hC.2.2.2.2.2.2.2 hd.1
end JLAW

def f_L_law (L : Nat) (xs : Nat → Int32) (M : jMem) : Option (Int × jMem) :=
jnw M 11 0 fun q1 M2 =>
jbd (f_X11_init q1 M2) fun _ M4 =>
jnw M4 12 0 fun q5 M6 =>
jbd (f_X12_init q5 M6) fun _ M8 =>
jlp2 (fun rec_18 (y3_18 : Int) (M_18 : jMem) =>
if jd_wr y3_18 ≤ jd_wr ((L : Int) - 6) then ((jm_xs L xs y3_18).bind fun v9 =>
jjq (fun (M_1049 : jMem) =>
rec_18 (y3_18 + 6) M_1049) fun j_1049 =>
if jd_wr (jd_and v9 63) = 0 then ((jm_xs L xs (y3_18 + 1)).bind fun v10 =>
(jm_xs L xs (y3_18 + 2)).bind fun v11 =>
(jm_xs L xs (y3_18 + 3)).bind fun v12 =>
(jm_xs L xs (y3_18 + 4)).bind fun v13 =>
(jm_xs L xs (y3_18 + 5)).bind fun v14 =>
jcall 11 M_18 q1 (f_X11_feed q1 v10 v11 v12 v13 v14 M_18) fun v15 M16 =>
(jm_xs L xs (y3_18 + 1)).bind fun v17 =>
(jm_xs L xs (y3_18 + 2)).bind fun v18 =>
(jm_xs L xs (y3_18 + 3)).bind fun v19 =>
(jm_xs L xs (y3_18 + 4)).bind fun v20 =>
(jm_xs L xs (y3_18 + 5)).bind fun v21 =>
jcall 12 M16 q5 (f_X12_feed q5 v17 v18 v19 v20 v21 M16) fun v22 M23 =>
if jd_wr v15 = jd_wr v22 then (j_1049 M23)
else (jm_z 0 M23))
else if jd_wr (jd_and v9 63) = 1 then ((jm_xs L xs (y3_18 + 1)).bind fun v24 =>
jcall 11 M_18 q1 (f_X11_back q1 v24 M_18) fun v25 M26 =>
(jm_xs L xs (y3_18 + 1)).bind fun v27 =>
jcall 12 M26 q5 (f_X12_back q5 v27 M26) fun v28 M29 =>
if jd_wr v25 = jd_wr v28 then (j_1049 M29)
else (jm_z 0 M29))
else if jd_wr (jd_and v9 63) = 2 then (jcall 11 M_18 q1 (f_X11_read q1 M_18) fun v30 M31 =>
jcall 12 M31 q5 (f_X12_read q5 M31) fun v32 M33 =>
if jd_wr v30 = jd_wr v32 then (j_1049 M33)
else (jm_z 0 M33))
else if jd_wr (jd_and v9 63) = 3 then (jcall 11 M_18 q1 (f_X11_place q1 M_18) fun v34 M35 =>
jcall 12 M35 q5 (f_X12_place q5 M35) fun v36 M37 =>
if jd_wr v34 = jd_wr v36 then (j_1049 M37)
else (jm_z 0 M37))
else if jd_wr (jd_and v9 63) = 4 then ((jm_xs L xs (y3_18 + 1)).bind fun v38 =>
(jm_xs L xs (y3_18 + 2)).bind fun v39 =>
jcall 11 M_18 q1 (f_X11_cell q1 v38 v39 M_18) fun v40 M41 =>
(jm_xs L xs (y3_18 + 1)).bind fun v42 =>
(jm_xs L xs (y3_18 + 2)).bind fun v43 =>
jcall 12 M41 q5 (f_X12_cell q5 v42 v43 M41) fun v44 M45 =>
if jd_wr v40 = jd_wr v44 then (j_1049 M45)
else (jm_z 0 M45))
else if jd_wr (jd_and v9 63) = 5 then ((jm_xs L xs (y3_18 + 1)).bind fun v46 =>
(jm_xs L xs (y3_18 + 2)).bind fun v47 =>
jcall 11 M_18 q1 (f_X11_stone q1 v46 v47 M_18) fun v48 M49 =>
(jm_xs L xs (y3_18 + 1)).bind fun v50 =>
(jm_xs L xs (y3_18 + 2)).bind fun v51 =>
jcall 12 M49 q5 (f_X12_stone q5 v50 v51 M49) fun v52 M53 =>
if jd_wr v48 = jd_wr v52 then (j_1049 M53)
else (jm_z 0 M53))
else if jd_wr (jd_and v9 63) = 6 then ((jm_xs L xs (y3_18 + 1)).bind fun v54 =>
(jm_xs L xs (y3_18 + 2)).bind fun v55 =>
jcall 11 M_18 q1 (f_X11_lay q1 v54 v55 M_18) fun v56 M57 =>
(jm_xs L xs (y3_18 + 1)).bind fun v58 =>
(jm_xs L xs (y3_18 + 2)).bind fun v59 =>
jcall 12 M57 q5 (f_X12_lay q5 v58 v59 M57) fun v60 M61 =>
if jd_wr v56 = jd_wr v60 then (j_1049 M61)
else (jm_z 0 M61))
else if jd_wr (jd_and v9 63) = 7 then ((jm_xs L xs (y3_18 + 1)).bind fun v62 =>
jcall 11 M_18 q1 (f_X11_lift q1 v62 M_18) fun v63 M64 =>
(jm_xs L xs (y3_18 + 1)).bind fun v65 =>
jcall 12 M64 q5 (f_X12_lift q5 v65 M64) fun v66 M67 =>
if jd_wr v63 = jd_wr v66 then (j_1049 M67)
else (jm_z 0 M67))
else if jd_wr (jd_and v9 63) = 8 then ((jm_xs L xs (y3_18 + 1)).bind fun v68 =>
jcall 11 M_18 q1 (f_X11_turn q1 v68 M_18) fun v69 M70 =>
(jm_xs L xs (y3_18 + 1)).bind fun v71 =>
jcall 12 M70 q5 (f_X12_turn q5 v71 M70) fun v72 M73 =>
if jd_wr v69 = jd_wr v72 then (j_1049 M73)
else (jm_z 0 M73))
else if jd_wr (jd_and v9 63) = 9 then ((jm_xs L xs (y3_18 + 1)).bind fun v74 =>
jcall 11 M_18 q1 (f_X11_pave q1 v74 M_18) fun v75 M76 =>
(jm_xs L xs (y3_18 + 1)).bind fun v77 =>
jcall 12 M76 q5 (f_X12_pave q5 v77 M76) fun v78 M79 =>
if jd_wr v75 = jd_wr v78 then (j_1049 M79)
else (jm_z 0 M79))
else if jd_wr (jd_and v9 63) = 10 then ((jm_xs L xs (y3_18 + 1)).bind fun v80 =>
jcall 11 M_18 q1 (f_X11_seasons q1 v80 M_18) fun v81 M82 =>
(jm_xs L xs (y3_18 + 1)).bind fun v83 =>
jcall 12 M82 q5 (f_X12_seasons q5 v83 M82) fun v84 M85 =>
if jd_wr v81 = jd_wr v84 then (j_1049 M85)
else (jm_z 0 M85))
else if jd_wr (jd_and v9 63) = 11 then (jcall 11 M_18 q1 (f_X11_undo q1 M_18) fun v86 M87 =>
jcall 12 M87 q5 (f_X12_undo q5 M87) fun v88 M89 =>
if jd_wr v86 = jd_wr v88 then (j_1049 M89)
else (jm_z 0 M89))
else if jd_wr (jd_and v9 63) = 12 then (jcall 11 M_18 q1 (f_X11_all q1 M_18) fun v90 M91 =>
jcall 12 M91 q5 (f_X12_all q5 M91) fun v92 M93 =>
if jd_wr v90 = jd_wr v92 then (j_1049 M93)
else (jm_z 0 M93))
else if jd_wr (jd_and v9 63) = 13 then (jcall 11 M_18 q1 (f_X11_rest q1 M_18) fun v94 M95 =>
jcall 12 M95 q5 (f_X12_rest q5 M95) fun v96 M97 =>
if jd_wr v94 = jd_wr v96 then (j_1049 M97)
else (jm_z 0 M97))
else if jd_wr (jd_and v9 63) = 14 then ((jm_xs L xs (y3_18 + 1)).bind fun v98 =>
jcall 11 M_18 q1 (f_X11_across q1 v98 M_18) fun v99 M100 =>
(jm_xs L xs (y3_18 + 1)).bind fun v101 =>
jcall 12 M100 q5 (f_X12_across q5 v101 M100) fun v102 M103 =>
if jd_wr v99 = jd_wr v102 then (j_1049 M103)
else (jm_z 0 M103))
else if jd_wr (jd_and v9 63) = 15 then ((jm_xs L xs (y3_18 + 1)).bind fun v104 =>
jcall 11 M_18 q1 (f_X11_frozen q1 v104 M_18) fun v105 M106 =>
(jm_xs L xs (y3_18 + 1)).bind fun v107 =>
jcall 12 M106 q5 (f_X12_frozen q5 v107 M106) fun v108 M109 =>
if jd_wr v105 = jd_wr v108 then (j_1049 M109)
else (jm_z 0 M109))
else if jd_wr (jd_and v9 63) = 16 then (jcall 11 M_18 q1 (f_X11_more q1 M_18) fun v110 M111 =>
jcall 12 M111 q5 (f_X12_more q5 M111) fun v112 M113 =>
if jd_wr v110 = jd_wr v112 then (j_1049 M113)
else (jm_z 0 M113))
else if jd_wr (jd_and v9 63) = 17 then (jcall 11 M_18 q1 (f_X11_shortBy q1 M_18) fun v114 M115 =>
jcall 12 M115 q5 (f_X12_shortBy q5 M115) fun v116 M117 =>
if jd_wr v114 = jd_wr v116 then (j_1049 M117)
else (jm_z 0 M117))
else if jd_wr (jd_and v9 63) = 18 then (jcall 11 M_18 q1 (f_X11_rank q1 M_18) fun v118 M119 =>
jcall 12 M119 q5 (f_X12_rank q5 M119) fun v120 M121 =>
if jd_wr v118 = jd_wr v120 then (j_1049 M121)
else (jm_z 0 M121))
else if jd_wr (jd_and v9 63) = 19 then ((jm_xs L xs (y3_18 + 1)).bind fun v122 =>
(jm_xs L xs (y3_18 + 2)).bind fun v123 =>
jcall 11 M_18 q1 (f_X11_hill q1 v122 v123 M_18) fun v124 M125 =>
(jm_xs L xs (y3_18 + 1)).bind fun v126 =>
(jm_xs L xs (y3_18 + 2)).bind fun v127 =>
jcall 12 M125 q5 (f_X12_hill q5 v126 v127 M125) fun v128 M129 =>
if jd_wr v124 = jd_wr v128 then (j_1049 M129)
else (jm_z 0 M129))
else if jd_wr (jd_and v9 63) = 20 then ((jm_xs L xs (y3_18 + 1)).bind fun v130 =>
jcall 11 M_18 q1 (f_X11_way q1 v130 M_18) fun v131 M132 =>
(jm_xs L xs (y3_18 + 1)).bind fun v133 =>
jcall 12 M132 q5 (f_X12_way q5 v133 M132) fun v134 M135 =>
if jd_wr v131 = jd_wr v134 then (j_1049 M135)
else (jm_z 0 M135))
else if jd_wr (jd_and v9 63) = 21 then ((jm_xs L xs (y3_18 + 1)).bind fun v136 =>
jcall 11 M_18 q1 (f_X11_farthest q1 v136 M_18) fun v137 M138 =>
(jm_xs L xs (y3_18 + 1)).bind fun v139 =>
jcall 12 M138 q5 (f_X12_farthest q5 v139 M138) fun v140 M141 =>
if jd_wr v137 = jd_wr v140 then (j_1049 M141)
else (jm_z 0 M141))
else if jd_wr (jd_and v9 63) = 22 then ((jm_xs L xs (y3_18 + 1)).bind fun v142 =>
jcall 11 M_18 q1 (f_X11_lowest q1 v142 M_18) fun v143 M144 =>
(jm_xs L xs (y3_18 + 1)).bind fun v145 =>
jcall 12 M144 q5 (f_X12_lowest q5 v145 M144) fun v146 M147 =>
if jd_wr v143 = jd_wr v146 then (j_1049 M147)
else (jm_z 0 M147))
else if jd_wr (jd_and v9 63) = 23 then ((jm_xs L xs (y3_18 + 1)).bind fun v148 =>
jcall 11 M_18 q1 (f_X11_turns q1 v148 M_18) fun v149 M150 =>
(jm_xs L xs (y3_18 + 1)).bind fun v151 =>
jcall 12 M150 q5 (f_X12_turns q5 v151 M150) fun v152 M153 =>
if jd_wr v149 = jd_wr v152 then (j_1049 M153)
else (jm_z 0 M153))
else if jd_wr (jd_and v9 63) = 24 then ((jm_xs L xs (y3_18 + 1)).bind fun v154 =>
jcall 11 M_18 q1 (f_X11_cheapest q1 v154 M_18) fun v155 M156 =>
(jm_xs L xs (y3_18 + 1)).bind fun v157 =>
jcall 12 M156 q5 (f_X12_cheapest q5 v157 M156) fun v158 M159 =>
if jd_wr v155 = jd_wr v158 then (j_1049 M159)
else (jm_z 0 M159))
else if jd_wr (jd_and v9 63) = 25 then ((jm_xs L xs (y3_18 + 1)).bind fun v160 =>
(jm_xs L xs (y3_18 + 2)).bind fun v161 =>
jcall 11 M_18 q1 (f_X11_widows q1 v160 v161 M_18) fun v162 M163 =>
(jm_xs L xs (y3_18 + 1)).bind fun v164 =>
(jm_xs L xs (y3_18 + 2)).bind fun v165 =>
jcall 12 M163 q5 (f_X12_widows q5 v164 v165 M163) fun v166 M167 =>
if jd_wr v162 = jd_wr v166 then (j_1049 M167)
else (jm_z 0 M167))
else if jd_wr (jd_and v9 63) = 26 then ((jm_xs L xs (y3_18 + 1)).bind fun v168 =>
(jm_xs L xs (y3_18 + 2)).bind fun v169 =>
jcall 11 M_18 q1 (f_X11_then q1 v168 v169 M_18) fun v170 M171 =>
(jm_xs L xs (y3_18 + 1)).bind fun v172 =>
(jm_xs L xs (y3_18 + 2)).bind fun v173 =>
jcall 12 M171 q5 (f_X12_then q5 v172 v173 M171) fun v174 M175 =>
if jd_wr v170 = jd_wr v174 then (j_1049 M175)
else (jm_z 0 M175))
else if jd_wr (jd_and v9 63) = 27 then ((jm_xs L xs (y3_18 + 1)).bind fun v176 =>
(jm_xs L xs (y3_18 + 2)).bind fun v177 =>
jcall 11 M_18 q1 (f_X11_year q1 v176 v177 M_18) fun v178 M179 =>
(jm_xs L xs (y3_18 + 1)).bind fun v180 =>
(jm_xs L xs (y3_18 + 2)).bind fun v181 =>
jcall 12 M179 q5 (f_X12_year q5 v180 v181 M179) fun v182 M183 =>
if jd_wr v178 = jd_wr v182 then (j_1049 M183)
else (jm_z 0 M183))
else if jd_wr (jd_and v9 63) = 28 then ((jm_xs L xs (y3_18 + 1)).bind fun v184 =>
(jm_xs L xs (y3_18 + 2)).bind fun v185 =>
jjq (fun (z0_881 : Int) =>
jcall 11 M_18 q1 (f_X11_tell q1 v184 z0_881 M_18) fun v186 M187 =>
(jm_xs L xs (y3_18 + 1)).bind fun v188 =>
(jm_xs L xs (y3_18 + 2)).bind fun v189 =>
jjq (fun (z0_903 : Int) =>
jcall 12 M187 q5 (f_X12_tell q5 v188 z0_903 M187) fun v190 M191 =>
if jd_wr v186 = jd_wr v190 then (j_1049 M191)
else (jm_z 0 M191)) fun j_903 =>
if jd_wr v189 = 0 then (j_903 0)
else (j_903 1)) fun j_881 =>
if jd_wr v185 = 0 then (j_881 0)
else (j_881 1))
else if jd_wr (jd_and v9 63) = 29 then (jcall 11 M_18 q1 (f_X11_forget q1 M_18) fun v192 M193 =>
jcall 12 M193 q5 (f_X12_forget q5 M193) fun v194 M195 =>
if jd_wr v192 = jd_wr v194 then (j_1049 M195)
else (jm_z 0 M195))
else if jd_wr (jd_and v9 63) = 30 then ((jm_xs L xs (y3_18 + 1)).bind fun v196 =>
(jm_xs L xs (y3_18 + 2)).bind fun v197 =>
jcall 11 M_18 q1 (f_X11_fit q1 v196 v197 M_18) fun v198 M199 =>
(jm_xs L xs (y3_18 + 1)).bind fun v200 =>
(jm_xs L xs (y3_18 + 2)).bind fun v201 =>
jcall 12 M199 q5 (f_X12_fit q5 v200 v201 M199) fun v202 M203 =>
if jd_wr v198 = jd_wr v202 then (j_1049 M203)
else (jm_z 0 M203))
else if jd_wr (jd_and v9 63) = 31 then ((jm_xs L xs (y3_18 + 1)).bind fun v204 =>
jcall 11 M_18 q1 (f_X11_look q1 v204 M_18) fun v205 M206 =>
(jm_xs L xs (y3_18 + 1)).bind fun v207 =>
jcall 12 M206 q5 (f_X12_look q5 v207 M206) fun v208 M209 =>
if jd_wr v205 = jd_wr v208 then (j_1049 M209)
else (jm_z 0 M209))
else if jd_wr (jd_and v9 63) = 32 then ((jm_xs L xs (y3_18 + 1)).bind fun v210 =>
jcall 11 M_18 q1 (f_X11_hold q1 v210 M_18) fun v211 M212 =>
(jm_xs L xs (y3_18 + 1)).bind fun v213 =>
jcall 12 M212 q5 (f_X12_hold q5 v213 M212) fun v214 M215 =>
if jd_wr v211 = jd_wr v214 then (j_1049 M215)
else (jm_z 0 M215))
else if jd_wr (jd_and v9 63) = 33 then ((jm_xs L xs (y3_18 + 1)).bind fun v216 =>
jcall 11 M_18 q1 (f_X11_restore q1 v216 M_18) fun v217 M218 =>
(jm_xs L xs (y3_18 + 1)).bind fun v219 =>
jcall 12 M218 q5 (f_X12_restore q5 v219 M218) fun v220 M221 =>
if jd_wr v217 = jd_wr v220 then (j_1049 M221)
else (jm_z 0 M221))
else if jd_wr (jd_and v9 63) = 34 then ((jm_xs L xs (y3_18 + 1)).bind fun v222 =>
jcall 11 M_18 q1 (f_X11_count q1 v222 M_18) fun v223 M224 =>
(jm_xs L xs (y3_18 + 1)).bind fun v225 =>
jcall 12 M224 q5 (f_X12_count q5 v225 M224) fun v226 M227 =>
if jd_wr v223 = jd_wr v226 then (j_1049 M227)
else (jm_z 0 M227))
else (j_1049 M_18))
else (jm_z 1 M_18)) jfuel 0 M8
set_option maxRecDepth 100000 in
set_option maxHeartbeats 8000000 in
theorem c_L_law {E : jE} {X : jX} {b L : Nat} {xs : Nat → Int32} {M : jMem} {r : Int} {M' : jMem} (h : f_L_law L xs M = some (r, M')) (hr1 : r = 1) (hC : jCx E X code 4 RL 100 600000 7302250) (hX : jSc E X b L xs) (hr : X.2.2.2.2.2.2.2.1.sig.returnType = ret) (hQ : X.2.2.1 = room_1 ∧ X.2.2.2.2.2.1 = #[Value.ref b] ∧ X.2.2.2.2.2.2.2.2.2 = lw_Z X.2.2.2.2.2.2.1 #[Value.ref b] X.2.2.2.1 ∧ 418 ≤ 600000 ∧ 31046 ≤ 7302250 ∧ X.2.2.2.1.heap.size ≤ jb E) : JW E X 4 0 0 M 0 [(0, .ref b)] [] := by
  unfold f_L_law at h
  refine jr_new hC jc11 (jt_all [146, 147, 124] (by decide +kernel) (by decide +kernel)) (D_L_law_0.g 0 rfl) ⟨Nat.le_of_ble_eq_true rfl, Nat.le_of_ble_eq_true rfl⟩ 1 14 rfl rfl h (fun q1 M2 h => ?_)
  refine jr_dup hC (D_L_law_0.g 1 rfl) rfl ?_
  refine jr_cN hC 368 13214 cl_L_9 (D_L_law_0.g 2 rfl) [] h (fun r M' e => c_X11_init e) rfl rfl ⟨by decide, by decide⟩ (Nat.le_of_ble_eq_true rfl) ⟨Nat.le_of_ble_eq_true rfl, Nat.le_of_ble_eq_true rfl⟩ 369 13228 rfl rfl (fun _ M4 h => ?_)
  refine jr_astore_n hC (D_L_law_0.g 3 rfl) (by decide) rfl ?_
  refine jr_new hC jc12 (jt_all [1334, 1335, 137] (by decide +kernel) (by decide +kernel)) (D_L_law_0.g 4 rfl) ⟨Nat.le_of_ble_eq_true rfl, Nat.le_of_ble_eq_true rfl⟩ 370 13296 rfl rfl h (fun q5 M6 h => ?_)
  refine jr_dup hC (D_L_law_0.g 5 rfl) rfl ?_
  refine jr_cN hC 48 17750 cl_L_12 (D_L_law_0.g 6 rfl) [] h (fun r M' e => c_X12_init e) rfl rfl ⟨by decide, by decide⟩ (Nat.le_of_ble_eq_true rfl) ⟨Nat.le_of_ble_eq_true rfl, Nat.le_of_ble_eq_true rfl⟩ 418 31046 rfl rfl (fun _ M8 h => ?_)
  refine jr_astore_n hC (D_L_law_0.g 7 rfl) (by decide) rfl ?_
  refine jr_iconst hC (D_L_law_0.g 8 rfl) ?_
  refine jr_istore_n hC (D_L_law_0.g 9 rfl) (by decide) rfl ?_
  refine jr_pick [3, 2, 1, 0] rfl ?_
  refine jr_lp2 (fun (y3_18 : Int) (M_18 : jMem) => JW E X 4 418 31046 M_18 18 [(0, .ref b), (1, q_r E q1), (2, q_r E q5), (3, q_i y3_18)] []) ?_ jfuel 0 M8 h
  intro rec_18 hrec_18 y3_18 M_18 h
  refine jr_iload_n hC (D_L_law_0.g 10 rfl) 3 rfl ?_
  refine jr_aload_n hC (D_L_law_0.g 11 rfl) 0 rfl ?_
  refine jr_xlen hC hX (D_L_law_0.g 12 rfl) ?_
  refine jr_bipush hC (D_L_law_0.g 13 rfl) bp_6 ?_
  refine jr_isub hC (D_L_law_0.g 14 rfl) ?_
  refine jr_icmp_gt hC (D_L_law_0.g 15 rfl) 1055 rfl h (fun h => ?_) (fun h => ?_)
  · refine jr_aload_n hC (D_L_law_0.g 16 rfl) 0 rfl ?_
    refine jr_iload_n hC (D_L_law_0.g 17 rfl) 3 rfl ?_
    refine jr_xs hC hX (D_L_law_0.g 18 rfl) h (fun v9 h => ?_)
    refine jr_bipush hC (D_L_law_0.g 19 rfl) bp_63 ?_
    refine jr_iand hC (D_L_law_0.g 20 rfl) ?_
    refine jr_join h (fun j => ∀ (M_1049 : jMem), j M_1049 = some (r, M') → JW E X 4 418 31046 M_1049 1049 [(0, .ref b), (1, q_r E q1), (2, q_r E q5), (3, q_i y3_18)] []) ?_ ?_
    · intro M_1049 h
      refine jr_iinc hC (D_L_law_26.g 15 rfl) 3 rfl (by decide) rfl ?_
      refine jr_goto hC (D_L_law_26.g 16 rfl) 18 rfl ?_
      refine jr_pick [1, 2, 3, 0] rfl ?_
      exact hrec_18 (y3_18 + 6) M_1049 h
    intro j_1049 hj_1049 h
    by_cases c_0 : jd_wr (jd_and v9 63) = 0
    · have h := jif_t h c_0
      refine jr_tswIn hC (D_L_law_0.g 21 rfl) 0 c_0 (by decide) rfl 188 rfl ?_
      refine jr_aload_n hC (D_L_law_0.g 22 rfl) 1 rfl ?_
      refine jr_aload_n hC (D_L_law_0.g 23 rfl) 0 rfl ?_
      refine jr_iload_n hC (D_L_law_0.g 24 rfl) 3 rfl ?_
      refine jr_iconst hC (D_L_law_1.g 0 rfl) ?_
      refine jr_iadd hC (D_L_law_1.g 1 rfl) ?_
      refine jr_xs hC hX (D_L_law_1.g 2 rfl) h (fun v10 h => ?_)
      refine jr_aload_n hC (D_L_law_1.g 3 rfl) 0 rfl ?_
      refine jr_iload_n hC (D_L_law_1.g 4 rfl) 3 rfl ?_
      refine jr_iconst hC (D_L_law_1.g 5 rfl) ?_
      refine jr_iadd hC (D_L_law_1.g 6 rfl) ?_
      refine jr_xs hC hX (D_L_law_1.g 7 rfl) h (fun v11 h => ?_)
      refine jr_aload_n hC (D_L_law_1.g 8 rfl) 0 rfl ?_
      refine jr_iload_n hC (D_L_law_1.g 9 rfl) 3 rfl ?_
      refine jr_iconst hC (D_L_law_1.g 10 rfl) ?_
      refine jr_iadd hC (D_L_law_1.g 11 rfl) ?_
      refine jr_xs hC hX (D_L_law_1.g 12 rfl) h (fun v12 h => ?_)
      refine jr_aload_n hC (D_L_law_1.g 13 rfl) 0 rfl ?_
      refine jr_iload_n hC (D_L_law_1.g 14 rfl) 3 rfl ?_
      refine jr_iconst hC (D_L_law_1.g 15 rfl) ?_
      refine jr_iadd hC (D_L_law_1.g 16 rfl) ?_
      refine jr_xs hC hX (D_L_law_1.g 17 rfl) h (fun v13 h => ?_)
      refine jr_aload_n hC (D_L_law_1.g 18 rfl) 0 rfl ?_
      refine jr_iload_n hC (D_L_law_1.g 19 rfl) 3 rfl ?_
      refine jr_iconst hC (D_L_law_1.g 20 rfl) ?_
      refine jr_iadd hC (D_L_law_1.g 21 rfl) ?_
      refine jr_xs hC hX (D_L_law_1.g 22 rfl) h (fun v14 h => ?_)
      refine jr_cVi hC cl_L_13 ⟨rfl, by decide⟩ (D_L_law_1.g 23 rfl) [q_i v10, q_i v11, q_i v12, q_i v13, q_i v14] h (fun r M' e => c_X11_feed e) rfl rfl ⟨by decide, by decide⟩ (Nat.le_of_ble_eq_true rfl) ⟨Nat.le_of_ble_eq_true rfl, Nat.le_of_ble_eq_true rfl⟩ (fun v15 M16 h => ?_)
      refine jr_aload_n hC (D_L_law_1.g 24 rfl) 2 rfl ?_
      refine jr_aload_n hC (D_L_law_2.g 0 rfl) 0 rfl ?_
      refine jr_iload_n hC (D_L_law_2.g 1 rfl) 3 rfl ?_
      refine jr_iconst hC (D_L_law_2.g 2 rfl) ?_
      refine jr_iadd hC (D_L_law_2.g 3 rfl) ?_
      refine jr_xs hC hX (D_L_law_2.g 4 rfl) h (fun v17 h => ?_)
      refine jr_aload_n hC (D_L_law_2.g 5 rfl) 0 rfl ?_
      refine jr_iload_n hC (D_L_law_2.g 6 rfl) 3 rfl ?_
      refine jr_iconst hC (D_L_law_2.g 7 rfl) ?_
      refine jr_iadd hC (D_L_law_2.g 8 rfl) ?_
      refine jr_xs hC hX (D_L_law_2.g 9 rfl) h (fun v18 h => ?_)
      refine jr_aload_n hC (D_L_law_2.g 10 rfl) 0 rfl ?_
      refine jr_iload_n hC (D_L_law_2.g 11 rfl) 3 rfl ?_
      refine jr_iconst hC (D_L_law_2.g 12 rfl) ?_
      refine jr_iadd hC (D_L_law_2.g 13 rfl) ?_
      refine jr_xs hC hX (D_L_law_2.g 14 rfl) h (fun v19 h => ?_)
      refine jr_aload_n hC (D_L_law_2.g 15 rfl) 0 rfl ?_
      refine jr_iload_n hC (D_L_law_2.g 16 rfl) 3 rfl ?_
      refine jr_iconst hC (D_L_law_2.g 17 rfl) ?_
      refine jr_iadd hC (D_L_law_2.g 18 rfl) ?_
      refine jr_xs hC hX (D_L_law_2.g 19 rfl) h (fun v20 h => ?_)
      refine jr_aload_n hC (D_L_law_2.g 20 rfl) 0 rfl ?_
      refine jr_iload_n hC (D_L_law_2.g 21 rfl) 3 rfl ?_
      refine jr_iconst hC (D_L_law_2.g 22 rfl) ?_
      refine jr_iadd hC (D_L_law_2.g 23 rfl) ?_
      refine jr_xs hC hX (D_L_law_2.g 24 rfl) h (fun v21 h => ?_)
      refine jr_cVi hC cl_L_17 ⟨rfl, by decide⟩ (D_L_law_3.g 0 rfl) [q_i v17, q_i v18, q_i v19, q_i v20, q_i v21] h (fun r M' e => c_X12_feed e) rfl rfl ⟨by decide, by decide⟩ (Nat.le_of_ble_eq_true rfl) ⟨Nat.le_of_ble_eq_true rfl, Nat.le_of_ble_eq_true rfl⟩ (fun v22 M23 h => ?_)
      refine jr_icmp_eq hC (D_L_law_3.g 1 rfl) 1049 rfl h (fun h => ?_) (fun h => ?_)
      · exact hj_1049 M23 h
      refine jr_iconst hC (D_L_law_3.g 2 rfl) ?_
      exact jr_lawret hC hQ hr hr1 (D_L_law_3.g 3 rfl) h
    replace h := jif_f h c_0
    by_cases c_1 : jd_wr (jd_and v9 63) = 1
    · have h := jif_t h c_1
      refine jr_tswIn hC (D_L_law_0.g 21 rfl) 1 c_1 (by decide) rfl 251 rfl ?_
      refine jr_aload_n hC (D_L_law_3.g 4 rfl) 1 rfl ?_
      refine jr_aload_n hC (D_L_law_3.g 5 rfl) 0 rfl ?_
      refine jr_iload_n hC (D_L_law_3.g 6 rfl) 3 rfl ?_
      refine jr_iconst hC (D_L_law_3.g 7 rfl) ?_
      refine jr_iadd hC (D_L_law_3.g 8 rfl) ?_
      refine jr_xs hC hX (D_L_law_3.g 9 rfl) h (fun v24 h => ?_)
      refine jr_cVi hC cl_L_18 ⟨rfl, by decide⟩ (D_L_law_3.g 10 rfl) [q_i v24] h (fun r M' e => c_X11_back e) rfl rfl ⟨by decide, by decide⟩ (Nat.le_of_ble_eq_true rfl) ⟨Nat.le_of_ble_eq_true rfl, Nat.le_of_ble_eq_true rfl⟩ (fun v25 M26 h => ?_)
      refine jr_aload_n hC (D_L_law_3.g 11 rfl) 2 rfl ?_
      refine jr_aload_n hC (D_L_law_3.g 12 rfl) 0 rfl ?_
      refine jr_iload_n hC (D_L_law_3.g 13 rfl) 3 rfl ?_
      refine jr_iconst hC (D_L_law_3.g 14 rfl) ?_
      refine jr_iadd hC (D_L_law_3.g 15 rfl) ?_
      refine jr_xs hC hX (D_L_law_3.g 16 rfl) h (fun v27 h => ?_)
      refine jr_cVi hC cl_L_22 ⟨rfl, by decide⟩ (D_L_law_3.g 17 rfl) [q_i v27] h (fun r M' e => c_X12_back e) rfl rfl ⟨by decide, by decide⟩ (Nat.le_of_ble_eq_true rfl) ⟨Nat.le_of_ble_eq_true rfl, Nat.le_of_ble_eq_true rfl⟩ (fun v28 M29 h => ?_)
      refine jr_icmp_eq hC (D_L_law_3.g 18 rfl) 1049 rfl h (fun h => ?_) (fun h => ?_)
      · exact hj_1049 M29 h
      refine jr_iconst hC (D_L_law_3.g 19 rfl) ?_
      exact jr_lawret hC hQ hr hr1 (D_L_law_3.g 20 rfl) h
    replace h := jif_f h c_1
    by_cases c_2 : jd_wr (jd_and v9 63) = 2
    · have h := jif_t h c_2
      refine jr_tswIn hC (D_L_law_0.g 21 rfl) 2 c_2 (by decide) rfl 274 rfl ?_
      refine jr_aload_n hC (D_L_law_3.g 21 rfl) 1 rfl ?_
      refine jr_cVi hC cl_L_23 ⟨rfl, by decide⟩ (D_L_law_3.g 22 rfl) [] h (fun r M' e => c_X11_read e) rfl rfl ⟨by decide, by decide⟩ (Nat.le_of_ble_eq_true rfl) ⟨Nat.le_of_ble_eq_true rfl, Nat.le_of_ble_eq_true rfl⟩ (fun v30 M31 h => ?_)
      refine jr_aload_n hC (D_L_law_3.g 23 rfl) 2 rfl ?_
      refine jr_cVi hC cl_L_27 ⟨rfl, by decide⟩ (D_L_law_3.g 24 rfl) [] h (fun r M' e => c_X12_read e) rfl rfl ⟨by decide, by decide⟩ (Nat.le_of_ble_eq_true rfl) ⟨Nat.le_of_ble_eq_true rfl, Nat.le_of_ble_eq_true rfl⟩ (fun v32 M33 h => ?_)
      refine jr_icmp_eq hC (D_L_law_4.g 0 rfl) 1049 rfl h (fun h => ?_) (fun h => ?_)
      · exact hj_1049 M33 h
      refine jr_iconst hC (D_L_law_4.g 1 rfl) ?_
      exact jr_lawret hC hQ hr hr1 (D_L_law_4.g 2 rfl) h
    replace h := jif_f h c_2
    by_cases c_3 : jd_wr (jd_and v9 63) = 3
    · have h := jif_t h c_3
      refine jr_tswIn hC (D_L_law_0.g 21 rfl) 3 c_3 (by decide) rfl 287 rfl ?_
      refine jr_aload_n hC (D_L_law_4.g 3 rfl) 1 rfl ?_
      refine jr_cVi hC cl_L_28 ⟨rfl, by decide⟩ (D_L_law_4.g 4 rfl) [] h (fun r M' e => c_X11_place e) rfl rfl ⟨by decide, by decide⟩ (Nat.le_of_ble_eq_true rfl) ⟨Nat.le_of_ble_eq_true rfl, Nat.le_of_ble_eq_true rfl⟩ (fun v34 M35 h => ?_)
      refine jr_aload_n hC (D_L_law_4.g 5 rfl) 2 rfl ?_
      refine jr_cVi hC cl_L_31 ⟨rfl, by decide⟩ (D_L_law_4.g 6 rfl) [] h (fun r M' e => c_X12_place e) rfl rfl ⟨by decide, by decide⟩ (Nat.le_of_ble_eq_true rfl) ⟨Nat.le_of_ble_eq_true rfl, Nat.le_of_ble_eq_true rfl⟩ (fun v36 M37 h => ?_)
      refine jr_icmp_eq hC (D_L_law_4.g 7 rfl) 1049 rfl h (fun h => ?_) (fun h => ?_)
      · exact hj_1049 M37 h
      refine jr_iconst hC (D_L_law_4.g 8 rfl) ?_
      exact jr_lawret hC hQ hr hr1 (D_L_law_4.g 9 rfl) h
    replace h := jif_f h c_3
    by_cases c_4 : jd_wr (jd_and v9 63) = 4
    · have h := jif_t h c_4
      refine jr_tswIn hC (D_L_law_0.g 21 rfl) 4 c_4 (by decide) rfl 300 rfl ?_
      refine jr_aload_n hC (D_L_law_4.g 10 rfl) 1 rfl ?_
      refine jr_aload_n hC (D_L_law_4.g 11 rfl) 0 rfl ?_
      refine jr_iload_n hC (D_L_law_4.g 12 rfl) 3 rfl ?_
      refine jr_iconst hC (D_L_law_4.g 13 rfl) ?_
      refine jr_iadd hC (D_L_law_4.g 14 rfl) ?_
      refine jr_xs hC hX (D_L_law_4.g 15 rfl) h (fun v38 h => ?_)
      refine jr_aload_n hC (D_L_law_4.g 16 rfl) 0 rfl ?_
      refine jr_iload_n hC (D_L_law_4.g 17 rfl) 3 rfl ?_
      refine jr_iconst hC (D_L_law_4.g 18 rfl) ?_
      refine jr_iadd hC (D_L_law_4.g 19 rfl) ?_
      refine jr_xs hC hX (D_L_law_4.g 20 rfl) h (fun v39 h => ?_)
      refine jr_cVi hC cl_L_32 ⟨rfl, by decide⟩ (D_L_law_4.g 21 rfl) [q_i v38, q_i v39] h (fun r M' e => c_X11_cell e) rfl rfl ⟨by decide, by decide⟩ (Nat.le_of_ble_eq_true rfl) ⟨Nat.le_of_ble_eq_true rfl, Nat.le_of_ble_eq_true rfl⟩ (fun v40 M41 h => ?_)
      refine jr_aload_n hC (D_L_law_4.g 22 rfl) 2 rfl ?_
      refine jr_aload_n hC (D_L_law_4.g 23 rfl) 0 rfl ?_
      refine jr_iload_n hC (D_L_law_4.g 24 rfl) 3 rfl ?_
      refine jr_iconst hC (D_L_law_5.g 0 rfl) ?_
      refine jr_iadd hC (D_L_law_5.g 1 rfl) ?_
      refine jr_xs hC hX (D_L_law_5.g 2 rfl) h (fun v42 h => ?_)
      refine jr_aload_n hC (D_L_law_5.g 3 rfl) 0 rfl ?_
      refine jr_iload_n hC (D_L_law_5.g 4 rfl) 3 rfl ?_
      refine jr_iconst hC (D_L_law_5.g 5 rfl) ?_
      refine jr_iadd hC (D_L_law_5.g 6 rfl) ?_
      refine jr_xs hC hX (D_L_law_5.g 7 rfl) h (fun v43 h => ?_)
      refine jr_cVi hC cl_L_36 ⟨rfl, by decide⟩ (D_L_law_5.g 8 rfl) [q_i v42, q_i v43] h (fun r M' e => c_X12_cell e) rfl rfl ⟨by decide, by decide⟩ (Nat.le_of_ble_eq_true rfl) ⟨Nat.le_of_ble_eq_true rfl, Nat.le_of_ble_eq_true rfl⟩ (fun v44 M45 h => ?_)
      refine jr_icmp_eq hC (D_L_law_5.g 9 rfl) 1049 rfl h (fun h => ?_) (fun h => ?_)
      · exact hj_1049 M45 h
      refine jr_iconst hC (D_L_law_5.g 10 rfl) ?_
      exact jr_lawret hC hQ hr hr1 (D_L_law_5.g 11 rfl) h
    replace h := jif_f h c_4
    by_cases c_5 : jd_wr (jd_and v9 63) = 5
    · have h := jif_t h c_5
      refine jr_tswIn hC (D_L_law_0.g 21 rfl) 5 c_5 (by decide) rfl 333 rfl ?_
      refine jr_aload_n hC (D_L_law_5.g 12 rfl) 1 rfl ?_
      refine jr_aload_n hC (D_L_law_5.g 13 rfl) 0 rfl ?_
      refine jr_iload_n hC (D_L_law_5.g 14 rfl) 3 rfl ?_
      refine jr_iconst hC (D_L_law_5.g 15 rfl) ?_
      refine jr_iadd hC (D_L_law_5.g 16 rfl) ?_
      refine jr_xs hC hX (D_L_law_5.g 17 rfl) h (fun v46 h => ?_)
      refine jr_aload_n hC (D_L_law_5.g 18 rfl) 0 rfl ?_
      refine jr_iload_n hC (D_L_law_5.g 19 rfl) 3 rfl ?_
      refine jr_iconst hC (D_L_law_5.g 20 rfl) ?_
      refine jr_iadd hC (D_L_law_5.g 21 rfl) ?_
      refine jr_xs hC hX (D_L_law_5.g 22 rfl) h (fun v47 h => ?_)
      refine jr_cVi hC cl_L_37 ⟨rfl, by decide⟩ (D_L_law_5.g 23 rfl) [q_i v46, q_i v47] h (fun r M' e => c_X11_stone e) rfl rfl ⟨by decide, by decide⟩ (Nat.le_of_ble_eq_true rfl) ⟨Nat.le_of_ble_eq_true rfl, Nat.le_of_ble_eq_true rfl⟩ (fun v48 M49 h => ?_)
      refine jr_aload_n hC (D_L_law_5.g 24 rfl) 2 rfl ?_
      refine jr_aload_n hC (D_L_law_6.g 0 rfl) 0 rfl ?_
      refine jr_iload_n hC (D_L_law_6.g 1 rfl) 3 rfl ?_
      refine jr_iconst hC (D_L_law_6.g 2 rfl) ?_
      refine jr_iadd hC (D_L_law_6.g 3 rfl) ?_
      refine jr_xs hC hX (D_L_law_6.g 4 rfl) h (fun v50 h => ?_)
      refine jr_aload_n hC (D_L_law_6.g 5 rfl) 0 rfl ?_
      refine jr_iload_n hC (D_L_law_6.g 6 rfl) 3 rfl ?_
      refine jr_iconst hC (D_L_law_6.g 7 rfl) ?_
      refine jr_iadd hC (D_L_law_6.g 8 rfl) ?_
      refine jr_xs hC hX (D_L_law_6.g 9 rfl) h (fun v51 h => ?_)
      refine jr_cVi hC cl_L_40 ⟨rfl, by decide⟩ (D_L_law_6.g 10 rfl) [q_i v50, q_i v51] h (fun r M' e => c_X12_stone e) rfl rfl ⟨by decide, by decide⟩ (Nat.le_of_ble_eq_true rfl) ⟨Nat.le_of_ble_eq_true rfl, Nat.le_of_ble_eq_true rfl⟩ (fun v52 M53 h => ?_)
      refine jr_icmp_eq hC (D_L_law_6.g 11 rfl) 1049 rfl h (fun h => ?_) (fun h => ?_)
      · exact hj_1049 M53 h
      refine jr_iconst hC (D_L_law_6.g 12 rfl) ?_
      exact jr_lawret hC hQ hr hr1 (D_L_law_6.g 13 rfl) h
    replace h := jif_f h c_5
    by_cases c_6 : jd_wr (jd_and v9 63) = 6
    · have h := jif_t h c_6
      refine jr_tswIn hC (D_L_law_0.g 21 rfl) 6 c_6 (by decide) rfl 366 rfl ?_
      refine jr_aload_n hC (D_L_law_6.g 14 rfl) 1 rfl ?_
      refine jr_aload_n hC (D_L_law_6.g 15 rfl) 0 rfl ?_
      refine jr_iload_n hC (D_L_law_6.g 16 rfl) 3 rfl ?_
      refine jr_iconst hC (D_L_law_6.g 17 rfl) ?_
      refine jr_iadd hC (D_L_law_6.g 18 rfl) ?_
      refine jr_xs hC hX (D_L_law_6.g 19 rfl) h (fun v54 h => ?_)
      refine jr_aload_n hC (D_L_law_6.g 20 rfl) 0 rfl ?_
      refine jr_iload_n hC (D_L_law_6.g 21 rfl) 3 rfl ?_
      refine jr_iconst hC (D_L_law_6.g 22 rfl) ?_
      refine jr_iadd hC (D_L_law_6.g 23 rfl) ?_
      refine jr_xs hC hX (D_L_law_6.g 24 rfl) h (fun v55 h => ?_)
      refine jr_cVi hC cl_L_41 ⟨rfl, by decide⟩ (D_L_law_7.g 0 rfl) [q_i v54, q_i v55] h (fun r M' e => c_X11_lay e) rfl rfl ⟨by decide, by decide⟩ (Nat.le_of_ble_eq_true rfl) ⟨Nat.le_of_ble_eq_true rfl, Nat.le_of_ble_eq_true rfl⟩ (fun v56 M57 h => ?_)
      refine jr_aload_n hC (D_L_law_7.g 1 rfl) 2 rfl ?_
      refine jr_aload_n hC (D_L_law_7.g 2 rfl) 0 rfl ?_
      refine jr_iload_n hC (D_L_law_7.g 3 rfl) 3 rfl ?_
      refine jr_iconst hC (D_L_law_7.g 4 rfl) ?_
      refine jr_iadd hC (D_L_law_7.g 5 rfl) ?_
      refine jr_xs hC hX (D_L_law_7.g 6 rfl) h (fun v58 h => ?_)
      refine jr_aload_n hC (D_L_law_7.g 7 rfl) 0 rfl ?_
      refine jr_iload_n hC (D_L_law_7.g 8 rfl) 3 rfl ?_
      refine jr_iconst hC (D_L_law_7.g 9 rfl) ?_
      refine jr_iadd hC (D_L_law_7.g 10 rfl) ?_
      refine jr_xs hC hX (D_L_law_7.g 11 rfl) h (fun v59 h => ?_)
      refine jr_cVi hC cl_L_44 ⟨rfl, by decide⟩ (D_L_law_7.g 12 rfl) [q_i v58, q_i v59] h (fun r M' e => c_X12_lay e) rfl rfl ⟨by decide, by decide⟩ (Nat.le_of_ble_eq_true rfl) ⟨Nat.le_of_ble_eq_true rfl, Nat.le_of_ble_eq_true rfl⟩ (fun v60 M61 h => ?_)
      refine jr_icmp_eq hC (D_L_law_7.g 13 rfl) 1049 rfl h (fun h => ?_) (fun h => ?_)
      · exact hj_1049 M61 h
      refine jr_iconst hC (D_L_law_7.g 14 rfl) ?_
      exact jr_lawret hC hQ hr hr1 (D_L_law_7.g 15 rfl) h
    replace h := jif_f h c_6
    by_cases c_7 : jd_wr (jd_and v9 63) = 7
    · have h := jif_t h c_7
      refine jr_tswIn hC (D_L_law_0.g 21 rfl) 7 c_7 (by decide) rfl 399 rfl ?_
      refine jr_aload_n hC (D_L_law_7.g 16 rfl) 1 rfl ?_
      refine jr_aload_n hC (D_L_law_7.g 17 rfl) 0 rfl ?_
      refine jr_iload_n hC (D_L_law_7.g 18 rfl) 3 rfl ?_
      refine jr_iconst hC (D_L_law_7.g 19 rfl) ?_
      refine jr_iadd hC (D_L_law_7.g 20 rfl) ?_
      refine jr_xs hC hX (D_L_law_7.g 21 rfl) h (fun v62 h => ?_)
      refine jr_cVi hC cl_L_45 ⟨rfl, by decide⟩ (D_L_law_7.g 22 rfl) [q_i v62] h (fun r M' e => c_X11_lift e) rfl rfl ⟨by decide, by decide⟩ (Nat.le_of_ble_eq_true rfl) ⟨Nat.le_of_ble_eq_true rfl, Nat.le_of_ble_eq_true rfl⟩ (fun v63 M64 h => ?_)
      refine jr_aload_n hC (D_L_law_7.g 23 rfl) 2 rfl ?_
      refine jr_aload_n hC (D_L_law_7.g 24 rfl) 0 rfl ?_
      refine jr_iload_n hC (D_L_law_8.g 0 rfl) 3 rfl ?_
      refine jr_iconst hC (D_L_law_8.g 1 rfl) ?_
      refine jr_iadd hC (D_L_law_8.g 2 rfl) ?_
      refine jr_xs hC hX (D_L_law_8.g 3 rfl) h (fun v65 h => ?_)
      refine jr_cVi hC cl_L_49 ⟨rfl, by decide⟩ (D_L_law_8.g 4 rfl) [q_i v65] h (fun r M' e => c_X12_lift e) rfl rfl ⟨by decide, by decide⟩ (Nat.le_of_ble_eq_true rfl) ⟨Nat.le_of_ble_eq_true rfl, Nat.le_of_ble_eq_true rfl⟩ (fun v66 M67 h => ?_)
      refine jr_icmp_eq hC (D_L_law_8.g 5 rfl) 1049 rfl h (fun h => ?_) (fun h => ?_)
      · exact hj_1049 M67 h
      refine jr_iconst hC (D_L_law_8.g 6 rfl) ?_
      exact jr_lawret hC hQ hr hr1 (D_L_law_8.g 7 rfl) h
    replace h := jif_f h c_7
    by_cases c_8 : jd_wr (jd_and v9 63) = 8
    · have h := jif_t h c_8
      refine jr_tswIn hC (D_L_law_0.g 21 rfl) 8 c_8 (by decide) rfl 422 rfl ?_
      refine jr_aload_n hC (D_L_law_8.g 8 rfl) 1 rfl ?_
      refine jr_aload_n hC (D_L_law_8.g 9 rfl) 0 rfl ?_
      refine jr_iload_n hC (D_L_law_8.g 10 rfl) 3 rfl ?_
      refine jr_iconst hC (D_L_law_8.g 11 rfl) ?_
      refine jr_iadd hC (D_L_law_8.g 12 rfl) ?_
      refine jr_xs hC hX (D_L_law_8.g 13 rfl) h (fun v68 h => ?_)
      refine jr_cVi hC cl_L_50 ⟨rfl, by decide⟩ (D_L_law_8.g 14 rfl) [q_i v68] h (fun r M' e => c_X11_turn e) rfl rfl ⟨by decide, by decide⟩ (Nat.le_of_ble_eq_true rfl) ⟨Nat.le_of_ble_eq_true rfl, Nat.le_of_ble_eq_true rfl⟩ (fun v69 M70 h => ?_)
      refine jr_aload_n hC (D_L_law_8.g 15 rfl) 2 rfl ?_
      refine jr_aload_n hC (D_L_law_8.g 16 rfl) 0 rfl ?_
      refine jr_iload_n hC (D_L_law_8.g 17 rfl) 3 rfl ?_
      refine jr_iconst hC (D_L_law_8.g 18 rfl) ?_
      refine jr_iadd hC (D_L_law_8.g 19 rfl) ?_
      refine jr_xs hC hX (D_L_law_8.g 20 rfl) h (fun v71 h => ?_)
      refine jr_cVi hC cl_L_53 ⟨rfl, by decide⟩ (D_L_law_8.g 21 rfl) [q_i v71] h (fun r M' e => c_X12_turn e) rfl rfl ⟨by decide, by decide⟩ (Nat.le_of_ble_eq_true rfl) ⟨Nat.le_of_ble_eq_true rfl, Nat.le_of_ble_eq_true rfl⟩ (fun v72 M73 h => ?_)
      refine jr_icmp_eq hC (D_L_law_8.g 22 rfl) 1049 rfl h (fun h => ?_) (fun h => ?_)
      · exact hj_1049 M73 h
      refine jr_iconst hC (D_L_law_8.g 23 rfl) ?_
      exact jr_lawret hC hQ hr hr1 (D_L_law_8.g 24 rfl) h
    replace h := jif_f h c_8
    by_cases c_9 : jd_wr (jd_and v9 63) = 9
    · have h := jif_t h c_9
      refine jr_tswIn hC (D_L_law_0.g 21 rfl) 9 c_9 (by decide) rfl 445 rfl ?_
      refine jr_aload_n hC (D_L_law_9.g 0 rfl) 1 rfl ?_
      refine jr_aload_n hC (D_L_law_9.g 1 rfl) 0 rfl ?_
      refine jr_iload_n hC (D_L_law_9.g 2 rfl) 3 rfl ?_
      refine jr_iconst hC (D_L_law_9.g 3 rfl) ?_
      refine jr_iadd hC (D_L_law_9.g 4 rfl) ?_
      refine jr_xs hC hX (D_L_law_9.g 5 rfl) h (fun v74 h => ?_)
      refine jr_cVi hC cl_L_54 ⟨rfl, by decide⟩ (D_L_law_9.g 6 rfl) [q_i v74] h (fun r M' e => c_X11_pave e) rfl rfl ⟨by decide, by decide⟩ (Nat.le_of_ble_eq_true rfl) ⟨Nat.le_of_ble_eq_true rfl, Nat.le_of_ble_eq_true rfl⟩ (fun v75 M76 h => ?_)
      refine jr_aload_n hC (D_L_law_9.g 7 rfl) 2 rfl ?_
      refine jr_aload_n hC (D_L_law_9.g 8 rfl) 0 rfl ?_
      refine jr_iload_n hC (D_L_law_9.g 9 rfl) 3 rfl ?_
      refine jr_iconst hC (D_L_law_9.g 10 rfl) ?_
      refine jr_iadd hC (D_L_law_9.g 11 rfl) ?_
      refine jr_xs hC hX (D_L_law_9.g 12 rfl) h (fun v77 h => ?_)
      refine jr_cVi hC cl_L_57 ⟨rfl, by decide⟩ (D_L_law_9.g 13 rfl) [q_i v77] h (fun r M' e => c_X12_pave e) rfl rfl ⟨by decide, by decide⟩ (Nat.le_of_ble_eq_true rfl) ⟨Nat.le_of_ble_eq_true rfl, Nat.le_of_ble_eq_true rfl⟩ (fun v78 M79 h => ?_)
      refine jr_icmp_eq hC (D_L_law_9.g 14 rfl) 1049 rfl h (fun h => ?_) (fun h => ?_)
      · exact hj_1049 M79 h
      refine jr_iconst hC (D_L_law_9.g 15 rfl) ?_
      exact jr_lawret hC hQ hr hr1 (D_L_law_9.g 16 rfl) h
    replace h := jif_f h c_9
    by_cases c_10 : jd_wr (jd_and v9 63) = 10
    · have h := jif_t h c_10
      refine jr_tswIn hC (D_L_law_0.g 21 rfl) 10 c_10 (by decide) rfl 468 rfl ?_
      refine jr_aload_n hC (D_L_law_9.g 17 rfl) 1 rfl ?_
      refine jr_aload_n hC (D_L_law_9.g 18 rfl) 0 rfl ?_
      refine jr_iload_n hC (D_L_law_9.g 19 rfl) 3 rfl ?_
      refine jr_iconst hC (D_L_law_9.g 20 rfl) ?_
      refine jr_iadd hC (D_L_law_9.g 21 rfl) ?_
      refine jr_xs hC hX (D_L_law_9.g 22 rfl) h (fun v80 h => ?_)
      refine jr_cVi hC cl_L_58 ⟨rfl, by decide⟩ (D_L_law_9.g 23 rfl) [q_i v80] h (fun r M' e => c_X11_seasons e) rfl rfl ⟨by decide, by decide⟩ (Nat.le_of_ble_eq_true rfl) ⟨Nat.le_of_ble_eq_true rfl, Nat.le_of_ble_eq_true rfl⟩ (fun v81 M82 h => ?_)
      refine jr_aload_n hC (D_L_law_9.g 24 rfl) 2 rfl ?_
      refine jr_aload_n hC (D_L_law_10.g 0 rfl) 0 rfl ?_
      refine jr_iload_n hC (D_L_law_10.g 1 rfl) 3 rfl ?_
      refine jr_iconst hC (D_L_law_10.g 2 rfl) ?_
      refine jr_iadd hC (D_L_law_10.g 3 rfl) ?_
      refine jr_xs hC hX (D_L_law_10.g 4 rfl) h (fun v83 h => ?_)
      refine jr_cVi hC cl_L_61 ⟨rfl, by decide⟩ (D_L_law_10.g 5 rfl) [q_i v83] h (fun r M' e => c_X12_seasons e) rfl rfl ⟨by decide, by decide⟩ (Nat.le_of_ble_eq_true rfl) ⟨Nat.le_of_ble_eq_true rfl, Nat.le_of_ble_eq_true rfl⟩ (fun v84 M85 h => ?_)
      refine jr_icmp_eq hC (D_L_law_10.g 6 rfl) 1049 rfl h (fun h => ?_) (fun h => ?_)
      · exact hj_1049 M85 h
      refine jr_iconst hC (D_L_law_10.g 7 rfl) ?_
      exact jr_lawret hC hQ hr hr1 (D_L_law_10.g 8 rfl) h
    replace h := jif_f h c_10
    by_cases c_11 : jd_wr (jd_and v9 63) = 11
    · have h := jif_t h c_11
      refine jr_tswIn hC (D_L_law_0.g 21 rfl) 11 c_11 (by decide) rfl 491 rfl ?_
      refine jr_aload_n hC (D_L_law_10.g 9 rfl) 1 rfl ?_
      refine jr_cVi hC cl_L_62 ⟨rfl, by decide⟩ (D_L_law_10.g 10 rfl) [] h (fun r M' e => c_X11_undo e) rfl rfl ⟨by decide, by decide⟩ (Nat.le_of_ble_eq_true rfl) ⟨Nat.le_of_ble_eq_true rfl, Nat.le_of_ble_eq_true rfl⟩ (fun v86 M87 h => ?_)
      refine jr_aload_n hC (D_L_law_10.g 11 rfl) 2 rfl ?_
      refine jr_cVi hC cl_L_66 ⟨rfl, by decide⟩ (D_L_law_10.g 12 rfl) [] h (fun r M' e => c_X12_undo e) rfl rfl ⟨by decide, by decide⟩ (Nat.le_of_ble_eq_true rfl) ⟨Nat.le_of_ble_eq_true rfl, Nat.le_of_ble_eq_true rfl⟩ (fun v88 M89 h => ?_)
      refine jr_icmp_eq hC (D_L_law_10.g 13 rfl) 1049 rfl h (fun h => ?_) (fun h => ?_)
      · exact hj_1049 M89 h
      refine jr_iconst hC (D_L_law_10.g 14 rfl) ?_
      exact jr_lawret hC hQ hr hr1 (D_L_law_10.g 15 rfl) h
    replace h := jif_f h c_11
    by_cases c_12 : jd_wr (jd_and v9 63) = 12
    · have h := jif_t h c_12
      refine jr_tswIn hC (D_L_law_0.g 21 rfl) 12 c_12 (by decide) rfl 504 rfl ?_
      refine jr_aload_n hC (D_L_law_10.g 16 rfl) 1 rfl ?_
      refine jr_cVi hC cl_L_67 ⟨rfl, by decide⟩ (D_L_law_10.g 17 rfl) [] h (fun r M' e => c_X11_all e) rfl rfl ⟨by decide, by decide⟩ (Nat.le_of_ble_eq_true rfl) ⟨Nat.le_of_ble_eq_true rfl, Nat.le_of_ble_eq_true rfl⟩ (fun v90 M91 h => ?_)
      refine jr_aload_n hC (D_L_law_10.g 18 rfl) 2 rfl ?_
      refine jr_cVi hC cl_L_70 ⟨rfl, by decide⟩ (D_L_law_10.g 19 rfl) [] h (fun r M' e => c_X12_all e) rfl rfl ⟨by decide, by decide⟩ (Nat.le_of_ble_eq_true rfl) ⟨Nat.le_of_ble_eq_true rfl, Nat.le_of_ble_eq_true rfl⟩ (fun v92 M93 h => ?_)
      refine jr_icmp_eq hC (D_L_law_10.g 20 rfl) 1049 rfl h (fun h => ?_) (fun h => ?_)
      · exact hj_1049 M93 h
      refine jr_iconst hC (D_L_law_10.g 21 rfl) ?_
      exact jr_lawret hC hQ hr hr1 (D_L_law_10.g 22 rfl) h
    replace h := jif_f h c_12
    by_cases c_13 : jd_wr (jd_and v9 63) = 13
    · have h := jif_t h c_13
      refine jr_tswIn hC (D_L_law_0.g 21 rfl) 13 c_13 (by decide) rfl 517 rfl ?_
      refine jr_aload_n hC (D_L_law_10.g 23 rfl) 1 rfl ?_
      refine jr_cVi hC cl_L_71 ⟨rfl, by decide⟩ (D_L_law_10.g 24 rfl) [] h (fun r M' e => c_X11_rest e) rfl rfl ⟨by decide, by decide⟩ (Nat.le_of_ble_eq_true rfl) ⟨Nat.le_of_ble_eq_true rfl, Nat.le_of_ble_eq_true rfl⟩ (fun v94 M95 h => ?_)
      refine jr_aload_n hC (D_L_law_11.g 0 rfl) 2 rfl ?_
      refine jr_cVi hC cl_L_74 ⟨rfl, by decide⟩ (D_L_law_11.g 1 rfl) [] h (fun r M' e => c_X12_rest e) rfl rfl ⟨by decide, by decide⟩ (Nat.le_of_ble_eq_true rfl) ⟨Nat.le_of_ble_eq_true rfl, Nat.le_of_ble_eq_true rfl⟩ (fun v96 M97 h => ?_)
      refine jr_icmp_eq hC (D_L_law_11.g 2 rfl) 1049 rfl h (fun h => ?_) (fun h => ?_)
      · exact hj_1049 M97 h
      refine jr_iconst hC (D_L_law_11.g 3 rfl) ?_
      exact jr_lawret hC hQ hr hr1 (D_L_law_11.g 4 rfl) h
    replace h := jif_f h c_13
    by_cases c_14 : jd_wr (jd_and v9 63) = 14
    · have h := jif_t h c_14
      refine jr_tswIn hC (D_L_law_0.g 21 rfl) 14 c_14 (by decide) rfl 530 rfl ?_
      refine jr_aload_n hC (D_L_law_11.g 5 rfl) 1 rfl ?_
      refine jr_aload_n hC (D_L_law_11.g 6 rfl) 0 rfl ?_
      refine jr_iload_n hC (D_L_law_11.g 7 rfl) 3 rfl ?_
      refine jr_iconst hC (D_L_law_11.g 8 rfl) ?_
      refine jr_iadd hC (D_L_law_11.g 9 rfl) ?_
      refine jr_xs hC hX (D_L_law_11.g 10 rfl) h (fun v98 h => ?_)
      refine jr_cVi hC cl_L_75 ⟨rfl, by decide⟩ (D_L_law_11.g 11 rfl) [q_i v98] h (fun r M' e => c_X11_across e) rfl rfl ⟨by decide, by decide⟩ (Nat.le_of_ble_eq_true rfl) ⟨Nat.le_of_ble_eq_true rfl, Nat.le_of_ble_eq_true rfl⟩ (fun v99 M100 h => ?_)
      refine jr_aload_n hC (D_L_law_11.g 12 rfl) 2 rfl ?_
      refine jr_aload_n hC (D_L_law_11.g 13 rfl) 0 rfl ?_
      refine jr_iload_n hC (D_L_law_11.g 14 rfl) 3 rfl ?_
      refine jr_iconst hC (D_L_law_11.g 15 rfl) ?_
      refine jr_iadd hC (D_L_law_11.g 16 rfl) ?_
      refine jr_xs hC hX (D_L_law_11.g 17 rfl) h (fun v101 h => ?_)
      refine jr_cVi hC cl_L_78 ⟨rfl, by decide⟩ (D_L_law_11.g 18 rfl) [q_i v101] h (fun r M' e => c_X12_across e) rfl rfl ⟨by decide, by decide⟩ (Nat.le_of_ble_eq_true rfl) ⟨Nat.le_of_ble_eq_true rfl, Nat.le_of_ble_eq_true rfl⟩ (fun v102 M103 h => ?_)
      refine jr_icmp_eq hC (D_L_law_11.g 19 rfl) 1049 rfl h (fun h => ?_) (fun h => ?_)
      · exact hj_1049 M103 h
      refine jr_iconst hC (D_L_law_11.g 20 rfl) ?_
      exact jr_lawret hC hQ hr hr1 (D_L_law_11.g 21 rfl) h
    replace h := jif_f h c_14
    by_cases c_15 : jd_wr (jd_and v9 63) = 15
    · have h := jif_t h c_15
      refine jr_tswIn hC (D_L_law_0.g 21 rfl) 15 c_15 (by decide) rfl 553 rfl ?_
      refine jr_aload_n hC (D_L_law_11.g 22 rfl) 1 rfl ?_
      refine jr_aload_n hC (D_L_law_11.g 23 rfl) 0 rfl ?_
      refine jr_iload_n hC (D_L_law_11.g 24 rfl) 3 rfl ?_
      refine jr_iconst hC (D_L_law_12.g 0 rfl) ?_
      refine jr_iadd hC (D_L_law_12.g 1 rfl) ?_
      refine jr_xs hC hX (D_L_law_12.g 2 rfl) h (fun v104 h => ?_)
      refine jr_cVi hC cl_L_79 ⟨rfl, by decide⟩ (D_L_law_12.g 3 rfl) [q_i v104] h (fun r M' e => c_X11_frozen e) rfl rfl ⟨by decide, by decide⟩ (Nat.le_of_ble_eq_true rfl) ⟨Nat.le_of_ble_eq_true rfl, Nat.le_of_ble_eq_true rfl⟩ (fun v105 M106 h => ?_)
      refine jr_aload_n hC (D_L_law_12.g 4 rfl) 2 rfl ?_
      refine jr_aload_n hC (D_L_law_12.g 5 rfl) 0 rfl ?_
      refine jr_iload_n hC (D_L_law_12.g 6 rfl) 3 rfl ?_
      refine jr_iconst hC (D_L_law_12.g 7 rfl) ?_
      refine jr_iadd hC (D_L_law_12.g 8 rfl) ?_
      refine jr_xs hC hX (D_L_law_12.g 9 rfl) h (fun v107 h => ?_)
      refine jr_cVi hC cl_L_82 ⟨rfl, by decide⟩ (D_L_law_12.g 10 rfl) [q_i v107] h (fun r M' e => c_X12_frozen e) rfl rfl ⟨by decide, by decide⟩ (Nat.le_of_ble_eq_true rfl) ⟨Nat.le_of_ble_eq_true rfl, Nat.le_of_ble_eq_true rfl⟩ (fun v108 M109 h => ?_)
      refine jr_icmp_eq hC (D_L_law_12.g 11 rfl) 1049 rfl h (fun h => ?_) (fun h => ?_)
      · exact hj_1049 M109 h
      refine jr_iconst hC (D_L_law_12.g 12 rfl) ?_
      exact jr_lawret hC hQ hr hr1 (D_L_law_12.g 13 rfl) h
    replace h := jif_f h c_15
    by_cases c_16 : jd_wr (jd_and v9 63) = 16
    · have h := jif_t h c_16
      refine jr_tswIn hC (D_L_law_0.g 21 rfl) 16 c_16 (by decide) rfl 576 rfl ?_
      refine jr_aload_n hC (D_L_law_12.g 14 rfl) 1 rfl ?_
      refine jr_cVi hC cl_L_83 ⟨rfl, by decide⟩ (D_L_law_12.g 15 rfl) [] h (fun r M' e => c_X11_more e) rfl rfl ⟨by decide, by decide⟩ (Nat.le_of_ble_eq_true rfl) ⟨Nat.le_of_ble_eq_true rfl, Nat.le_of_ble_eq_true rfl⟩ (fun v110 M111 h => ?_)
      refine jr_aload_n hC (D_L_law_12.g 16 rfl) 2 rfl ?_
      refine jr_cVi hC cl_L_86 ⟨rfl, by decide⟩ (D_L_law_12.g 17 rfl) [] h (fun r M' e => c_X12_more e) rfl rfl ⟨by decide, by decide⟩ (Nat.le_of_ble_eq_true rfl) ⟨Nat.le_of_ble_eq_true rfl, Nat.le_of_ble_eq_true rfl⟩ (fun v112 M113 h => ?_)
      refine jr_icmp_eq hC (D_L_law_12.g 18 rfl) 1049 rfl h (fun h => ?_) (fun h => ?_)
      · exact hj_1049 M113 h
      refine jr_iconst hC (D_L_law_12.g 19 rfl) ?_
      exact jr_lawret hC hQ hr hr1 (D_L_law_12.g 20 rfl) h
    replace h := jif_f h c_16
    by_cases c_17 : jd_wr (jd_and v9 63) = 17
    · have h := jif_t h c_17
      refine jr_tswIn hC (D_L_law_0.g 21 rfl) 17 c_17 (by decide) rfl 589 rfl ?_
      refine jr_aload_n hC (D_L_law_12.g 21 rfl) 1 rfl ?_
      refine jr_cVi hC cl_L_87 ⟨rfl, by decide⟩ (D_L_law_12.g 22 rfl) [] h (fun r M' e => c_X11_shortBy e) rfl rfl ⟨by decide, by decide⟩ (Nat.le_of_ble_eq_true rfl) ⟨Nat.le_of_ble_eq_true rfl, Nat.le_of_ble_eq_true rfl⟩ (fun v114 M115 h => ?_)
      refine jr_aload_n hC (D_L_law_12.g 23 rfl) 2 rfl ?_
      refine jr_cVi hC cl_L_90 ⟨rfl, by decide⟩ (D_L_law_12.g 24 rfl) [] h (fun r M' e => c_X12_shortBy e) rfl rfl ⟨by decide, by decide⟩ (Nat.le_of_ble_eq_true rfl) ⟨Nat.le_of_ble_eq_true rfl, Nat.le_of_ble_eq_true rfl⟩ (fun v116 M117 h => ?_)
      refine jr_icmp_eq hC (D_L_law_13.g 0 rfl) 1049 rfl h (fun h => ?_) (fun h => ?_)
      · exact hj_1049 M117 h
      refine jr_iconst hC (D_L_law_13.g 1 rfl) ?_
      exact jr_lawret hC hQ hr hr1 (D_L_law_13.g 2 rfl) h
    replace h := jif_f h c_17
    by_cases c_18 : jd_wr (jd_and v9 63) = 18
    · have h := jif_t h c_18
      refine jr_tswIn hC (D_L_law_0.g 21 rfl) 18 c_18 (by decide) rfl 602 rfl ?_
      refine jr_aload_n hC (D_L_law_13.g 3 rfl) 1 rfl ?_
      refine jr_cVi hC cl_L_91 ⟨rfl, by decide⟩ (D_L_law_13.g 4 rfl) [] h (fun r M' e => c_X11_rank e) rfl rfl ⟨by decide, by decide⟩ (Nat.le_of_ble_eq_true rfl) ⟨Nat.le_of_ble_eq_true rfl, Nat.le_of_ble_eq_true rfl⟩ (fun v118 M119 h => ?_)
      refine jr_aload_n hC (D_L_law_13.g 5 rfl) 2 rfl ?_
      refine jr_cVi hC cl_L_94 ⟨rfl, by decide⟩ (D_L_law_13.g 6 rfl) [] h (fun r M' e => c_X12_rank e) rfl rfl ⟨by decide, by decide⟩ (Nat.le_of_ble_eq_true rfl) ⟨Nat.le_of_ble_eq_true rfl, Nat.le_of_ble_eq_true rfl⟩ (fun v120 M121 h => ?_)
      refine jr_icmp_eq hC (D_L_law_13.g 7 rfl) 1049 rfl h (fun h => ?_) (fun h => ?_)
      · exact hj_1049 M121 h
      refine jr_iconst hC (D_L_law_13.g 8 rfl) ?_
      exact jr_lawret hC hQ hr hr1 (D_L_law_13.g 9 rfl) h
    replace h := jif_f h c_18
    by_cases c_19 : jd_wr (jd_and v9 63) = 19
    · have h := jif_t h c_19
      refine jr_tswIn hC (D_L_law_0.g 21 rfl) 19 c_19 (by decide) rfl 615 rfl ?_
      refine jr_aload_n hC (D_L_law_13.g 10 rfl) 1 rfl ?_
      refine jr_aload_n hC (D_L_law_13.g 11 rfl) 0 rfl ?_
      refine jr_iload_n hC (D_L_law_13.g 12 rfl) 3 rfl ?_
      refine jr_iconst hC (D_L_law_13.g 13 rfl) ?_
      refine jr_iadd hC (D_L_law_13.g 14 rfl) ?_
      refine jr_xs hC hX (D_L_law_13.g 15 rfl) h (fun v122 h => ?_)
      refine jr_aload_n hC (D_L_law_13.g 16 rfl) 0 rfl ?_
      refine jr_iload_n hC (D_L_law_13.g 17 rfl) 3 rfl ?_
      refine jr_iconst hC (D_L_law_13.g 18 rfl) ?_
      refine jr_iadd hC (D_L_law_13.g 19 rfl) ?_
      refine jr_xs hC hX (D_L_law_13.g 20 rfl) h (fun v123 h => ?_)
      refine jr_cVi hC cl_L_95 ⟨rfl, by decide⟩ (D_L_law_13.g 21 rfl) [q_i v122, q_i v123] h (fun r M' e => c_X11_hill e) rfl rfl ⟨by decide, by decide⟩ (Nat.le_of_ble_eq_true rfl) ⟨Nat.le_of_ble_eq_true rfl, Nat.le_of_ble_eq_true rfl⟩ (fun v124 M125 h => ?_)
      refine jr_aload_n hC (D_L_law_13.g 22 rfl) 2 rfl ?_
      refine jr_aload_n hC (D_L_law_13.g 23 rfl) 0 rfl ?_
      refine jr_iload_n hC (D_L_law_13.g 24 rfl) 3 rfl ?_
      refine jr_iconst hC (D_L_law_14.g 0 rfl) ?_
      refine jr_iadd hC (D_L_law_14.g 1 rfl) ?_
      refine jr_xs hC hX (D_L_law_14.g 2 rfl) h (fun v126 h => ?_)
      refine jr_aload_n hC (D_L_law_14.g 3 rfl) 0 rfl ?_
      refine jr_iload_n hC (D_L_law_14.g 4 rfl) 3 rfl ?_
      refine jr_iconst hC (D_L_law_14.g 5 rfl) ?_
      refine jr_iadd hC (D_L_law_14.g 6 rfl) ?_
      refine jr_xs hC hX (D_L_law_14.g 7 rfl) h (fun v127 h => ?_)
      refine jr_cVi hC cl_L_98 ⟨rfl, by decide⟩ (D_L_law_14.g 8 rfl) [q_i v126, q_i v127] h (fun r M' e => c_X12_hill e) rfl rfl ⟨by decide, by decide⟩ (Nat.le_of_ble_eq_true rfl) ⟨Nat.le_of_ble_eq_true rfl, Nat.le_of_ble_eq_true rfl⟩ (fun v128 M129 h => ?_)
      refine jr_icmp_eq hC (D_L_law_14.g 9 rfl) 1049 rfl h (fun h => ?_) (fun h => ?_)
      · exact hj_1049 M129 h
      refine jr_iconst hC (D_L_law_14.g 10 rfl) ?_
      exact jr_lawret hC hQ hr hr1 (D_L_law_14.g 11 rfl) h
    replace h := jif_f h c_19
    by_cases c_20 : jd_wr (jd_and v9 63) = 20
    · have h := jif_t h c_20
      refine jr_tswIn hC (D_L_law_0.g 21 rfl) 20 c_20 (by decide) rfl 648 rfl ?_
      refine jr_aload_n hC (D_L_law_14.g 12 rfl) 1 rfl ?_
      refine jr_aload_n hC (D_L_law_14.g 13 rfl) 0 rfl ?_
      refine jr_iload_n hC (D_L_law_14.g 14 rfl) 3 rfl ?_
      refine jr_iconst hC (D_L_law_14.g 15 rfl) ?_
      refine jr_iadd hC (D_L_law_14.g 16 rfl) ?_
      refine jr_xs hC hX (D_L_law_14.g 17 rfl) h (fun v130 h => ?_)
      refine jr_cVi hC cl_L_99 ⟨rfl, by decide⟩ (D_L_law_14.g 18 rfl) [q_i v130] h (fun r M' e => c_X11_way e) rfl rfl ⟨by decide, by decide⟩ (Nat.le_of_ble_eq_true rfl) ⟨Nat.le_of_ble_eq_true rfl, Nat.le_of_ble_eq_true rfl⟩ (fun v131 M132 h => ?_)
      refine jr_aload_n hC (D_L_law_14.g 19 rfl) 2 rfl ?_
      refine jr_aload_n hC (D_L_law_14.g 20 rfl) 0 rfl ?_
      refine jr_iload_n hC (D_L_law_14.g 21 rfl) 3 rfl ?_
      refine jr_iconst hC (D_L_law_14.g 22 rfl) ?_
      refine jr_iadd hC (D_L_law_14.g 23 rfl) ?_
      refine jr_xs hC hX (D_L_law_14.g 24 rfl) h (fun v133 h => ?_)
      refine jr_cVi hC cl_L_102 ⟨rfl, by decide⟩ (D_L_law_15.g 0 rfl) [q_i v133] h (fun r M' e => c_X12_way e) rfl rfl ⟨by decide, by decide⟩ (Nat.le_of_ble_eq_true rfl) ⟨Nat.le_of_ble_eq_true rfl, Nat.le_of_ble_eq_true rfl⟩ (fun v134 M135 h => ?_)
      refine jr_icmp_eq hC (D_L_law_15.g 1 rfl) 1049 rfl h (fun h => ?_) (fun h => ?_)
      · exact hj_1049 M135 h
      refine jr_iconst hC (D_L_law_15.g 2 rfl) ?_
      exact jr_lawret hC hQ hr hr1 (D_L_law_15.g 3 rfl) h
    replace h := jif_f h c_20
    by_cases c_21 : jd_wr (jd_and v9 63) = 21
    · have h := jif_t h c_21
      refine jr_tswIn hC (D_L_law_0.g 21 rfl) 21 c_21 (by decide) rfl 671 rfl ?_
      refine jr_aload_n hC (D_L_law_15.g 4 rfl) 1 rfl ?_
      refine jr_aload_n hC (D_L_law_15.g 5 rfl) 0 rfl ?_
      refine jr_iload_n hC (D_L_law_15.g 6 rfl) 3 rfl ?_
      refine jr_iconst hC (D_L_law_15.g 7 rfl) ?_
      refine jr_iadd hC (D_L_law_15.g 8 rfl) ?_
      refine jr_xs hC hX (D_L_law_15.g 9 rfl) h (fun v136 h => ?_)
      refine jr_cVi hC cl_L_103 ⟨rfl, by decide⟩ (D_L_law_15.g 10 rfl) [q_i v136] h (fun r M' e => c_X11_farthest e) rfl rfl ⟨by decide, by decide⟩ (Nat.le_of_ble_eq_true rfl) ⟨Nat.le_of_ble_eq_true rfl, Nat.le_of_ble_eq_true rfl⟩ (fun v137 M138 h => ?_)
      refine jr_aload_n hC (D_L_law_15.g 11 rfl) 2 rfl ?_
      refine jr_aload_n hC (D_L_law_15.g 12 rfl) 0 rfl ?_
      refine jr_iload_n hC (D_L_law_15.g 13 rfl) 3 rfl ?_
      refine jr_iconst hC (D_L_law_15.g 14 rfl) ?_
      refine jr_iadd hC (D_L_law_15.g 15 rfl) ?_
      refine jr_xs hC hX (D_L_law_15.g 16 rfl) h (fun v139 h => ?_)
      refine jr_cVi hC cl_L_106 ⟨rfl, by decide⟩ (D_L_law_15.g 17 rfl) [q_i v139] h (fun r M' e => c_X12_farthest e) rfl rfl ⟨by decide, by decide⟩ (Nat.le_of_ble_eq_true rfl) ⟨Nat.le_of_ble_eq_true rfl, Nat.le_of_ble_eq_true rfl⟩ (fun v140 M141 h => ?_)
      refine jr_icmp_eq hC (D_L_law_15.g 18 rfl) 1049 rfl h (fun h => ?_) (fun h => ?_)
      · exact hj_1049 M141 h
      refine jr_iconst hC (D_L_law_15.g 19 rfl) ?_
      exact jr_lawret hC hQ hr hr1 (D_L_law_15.g 20 rfl) h
    replace h := jif_f h c_21
    by_cases c_22 : jd_wr (jd_and v9 63) = 22
    · have h := jif_t h c_22
      refine jr_tswIn hC (D_L_law_0.g 21 rfl) 22 c_22 (by decide) rfl 694 rfl ?_
      refine jr_aload_n hC (D_L_law_15.g 21 rfl) 1 rfl ?_
      refine jr_aload_n hC (D_L_law_15.g 22 rfl) 0 rfl ?_
      refine jr_iload_n hC (D_L_law_15.g 23 rfl) 3 rfl ?_
      refine jr_iconst hC (D_L_law_15.g 24 rfl) ?_
      refine jr_iadd hC (D_L_law_16.g 0 rfl) ?_
      refine jr_xs hC hX (D_L_law_16.g 1 rfl) h (fun v142 h => ?_)
      refine jr_cVi hC cl_L_107 ⟨rfl, by decide⟩ (D_L_law_16.g 2 rfl) [q_i v142] h (fun r M' e => c_X11_lowest e) rfl rfl ⟨by decide, by decide⟩ (Nat.le_of_ble_eq_true rfl) ⟨Nat.le_of_ble_eq_true rfl, Nat.le_of_ble_eq_true rfl⟩ (fun v143 M144 h => ?_)
      refine jr_aload_n hC (D_L_law_16.g 3 rfl) 2 rfl ?_
      refine jr_aload_n hC (D_L_law_16.g 4 rfl) 0 rfl ?_
      refine jr_iload_n hC (D_L_law_16.g 5 rfl) 3 rfl ?_
      refine jr_iconst hC (D_L_law_16.g 6 rfl) ?_
      refine jr_iadd hC (D_L_law_16.g 7 rfl) ?_
      refine jr_xs hC hX (D_L_law_16.g 8 rfl) h (fun v145 h => ?_)
      refine jr_cVi hC cl_L_110 ⟨rfl, by decide⟩ (D_L_law_16.g 9 rfl) [q_i v145] h (fun r M' e => c_X12_lowest e) rfl rfl ⟨by decide, by decide⟩ (Nat.le_of_ble_eq_true rfl) ⟨Nat.le_of_ble_eq_true rfl, Nat.le_of_ble_eq_true rfl⟩ (fun v146 M147 h => ?_)
      refine jr_icmp_eq hC (D_L_law_16.g 10 rfl) 1049 rfl h (fun h => ?_) (fun h => ?_)
      · exact hj_1049 M147 h
      refine jr_iconst hC (D_L_law_16.g 11 rfl) ?_
      exact jr_lawret hC hQ hr hr1 (D_L_law_16.g 12 rfl) h
    replace h := jif_f h c_22
    by_cases c_23 : jd_wr (jd_and v9 63) = 23
    · have h := jif_t h c_23
      refine jr_tswIn hC (D_L_law_0.g 21 rfl) 23 c_23 (by decide) rfl 717 rfl ?_
      refine jr_aload_n hC (D_L_law_16.g 13 rfl) 1 rfl ?_
      refine jr_aload_n hC (D_L_law_16.g 14 rfl) 0 rfl ?_
      refine jr_iload_n hC (D_L_law_16.g 15 rfl) 3 rfl ?_
      refine jr_iconst hC (D_L_law_16.g 16 rfl) ?_
      refine jr_iadd hC (D_L_law_16.g 17 rfl) ?_
      refine jr_xs hC hX (D_L_law_16.g 18 rfl) h (fun v148 h => ?_)
      refine jr_cVi hC cl_L_111 ⟨rfl, by decide⟩ (D_L_law_16.g 19 rfl) [q_i v148] h (fun r M' e => c_X11_turns e) rfl rfl ⟨by decide, by decide⟩ (Nat.le_of_ble_eq_true rfl) ⟨Nat.le_of_ble_eq_true rfl, Nat.le_of_ble_eq_true rfl⟩ (fun v149 M150 h => ?_)
      refine jr_aload_n hC (D_L_law_16.g 20 rfl) 2 rfl ?_
      refine jr_aload_n hC (D_L_law_16.g 21 rfl) 0 rfl ?_
      refine jr_iload_n hC (D_L_law_16.g 22 rfl) 3 rfl ?_
      refine jr_iconst hC (D_L_law_16.g 23 rfl) ?_
      refine jr_iadd hC (D_L_law_16.g 24 rfl) ?_
      refine jr_xs hC hX (D_L_law_17.g 0 rfl) h (fun v151 h => ?_)
      refine jr_cVi hC cl_L_114 ⟨rfl, by decide⟩ (D_L_law_17.g 1 rfl) [q_i v151] h (fun r M' e => c_X12_turns e) rfl rfl ⟨by decide, by decide⟩ (Nat.le_of_ble_eq_true rfl) ⟨Nat.le_of_ble_eq_true rfl, Nat.le_of_ble_eq_true rfl⟩ (fun v152 M153 h => ?_)
      refine jr_icmp_eq hC (D_L_law_17.g 2 rfl) 1049 rfl h (fun h => ?_) (fun h => ?_)
      · exact hj_1049 M153 h
      refine jr_iconst hC (D_L_law_17.g 3 rfl) ?_
      exact jr_lawret hC hQ hr hr1 (D_L_law_17.g 4 rfl) h
    replace h := jif_f h c_23
    by_cases c_24 : jd_wr (jd_and v9 63) = 24
    · have h := jif_t h c_24
      refine jr_tswIn hC (D_L_law_0.g 21 rfl) 24 c_24 (by decide) rfl 740 rfl ?_
      refine jr_aload_n hC (D_L_law_17.g 5 rfl) 1 rfl ?_
      refine jr_aload_n hC (D_L_law_17.g 6 rfl) 0 rfl ?_
      refine jr_iload_n hC (D_L_law_17.g 7 rfl) 3 rfl ?_
      refine jr_iconst hC (D_L_law_17.g 8 rfl) ?_
      refine jr_iadd hC (D_L_law_17.g 9 rfl) ?_
      refine jr_xs hC hX (D_L_law_17.g 10 rfl) h (fun v154 h => ?_)
      refine jr_cVi hC cl_L_115 ⟨rfl, by decide⟩ (D_L_law_17.g 11 rfl) [q_i v154] h (fun r M' e => c_X11_cheapest e) rfl rfl ⟨by decide, by decide⟩ (Nat.le_of_ble_eq_true rfl) ⟨Nat.le_of_ble_eq_true rfl, Nat.le_of_ble_eq_true rfl⟩ (fun v155 M156 h => ?_)
      refine jr_aload_n hC (D_L_law_17.g 12 rfl) 2 rfl ?_
      refine jr_aload_n hC (D_L_law_17.g 13 rfl) 0 rfl ?_
      refine jr_iload_n hC (D_L_law_17.g 14 rfl) 3 rfl ?_
      refine jr_iconst hC (D_L_law_17.g 15 rfl) ?_
      refine jr_iadd hC (D_L_law_17.g 16 rfl) ?_
      refine jr_xs hC hX (D_L_law_17.g 17 rfl) h (fun v157 h => ?_)
      refine jr_cVi hC cl_L_118 ⟨rfl, by decide⟩ (D_L_law_17.g 18 rfl) [q_i v157] h (fun r M' e => c_X12_cheapest e) rfl rfl ⟨by decide, by decide⟩ (Nat.le_of_ble_eq_true rfl) ⟨Nat.le_of_ble_eq_true rfl, Nat.le_of_ble_eq_true rfl⟩ (fun v158 M159 h => ?_)
      refine jr_icmp_eq hC (D_L_law_17.g 19 rfl) 1049 rfl h (fun h => ?_) (fun h => ?_)
      · exact hj_1049 M159 h
      refine jr_iconst hC (D_L_law_17.g 20 rfl) ?_
      exact jr_lawret hC hQ hr hr1 (D_L_law_17.g 21 rfl) h
    replace h := jif_f h c_24
    by_cases c_25 : jd_wr (jd_and v9 63) = 25
    · have h := jif_t h c_25
      refine jr_tswIn hC (D_L_law_0.g 21 rfl) 25 c_25 (by decide) rfl 763 rfl ?_
      refine jr_aload_n hC (D_L_law_17.g 22 rfl) 1 rfl ?_
      refine jr_aload_n hC (D_L_law_17.g 23 rfl) 0 rfl ?_
      refine jr_iload_n hC (D_L_law_17.g 24 rfl) 3 rfl ?_
      refine jr_iconst hC (D_L_law_18.g 0 rfl) ?_
      refine jr_iadd hC (D_L_law_18.g 1 rfl) ?_
      refine jr_xs hC hX (D_L_law_18.g 2 rfl) h (fun v160 h => ?_)
      refine jr_aload_n hC (D_L_law_18.g 3 rfl) 0 rfl ?_
      refine jr_iload_n hC (D_L_law_18.g 4 rfl) 3 rfl ?_
      refine jr_iconst hC (D_L_law_18.g 5 rfl) ?_
      refine jr_iadd hC (D_L_law_18.g 6 rfl) ?_
      refine jr_xs hC hX (D_L_law_18.g 7 rfl) h (fun v161 h => ?_)
      refine jr_cVi hC cl_L_119 ⟨rfl, by decide⟩ (D_L_law_18.g 8 rfl) [q_i v160, q_i v161] h (fun r M' e => c_X11_widows e) rfl rfl ⟨by decide, by decide⟩ (Nat.le_of_ble_eq_true rfl) ⟨Nat.le_of_ble_eq_true rfl, Nat.le_of_ble_eq_true rfl⟩ (fun v162 M163 h => ?_)
      refine jr_aload_n hC (D_L_law_18.g 9 rfl) 2 rfl ?_
      refine jr_aload_n hC (D_L_law_18.g 10 rfl) 0 rfl ?_
      refine jr_iload_n hC (D_L_law_18.g 11 rfl) 3 rfl ?_
      refine jr_iconst hC (D_L_law_18.g 12 rfl) ?_
      refine jr_iadd hC (D_L_law_18.g 13 rfl) ?_
      refine jr_xs hC hX (D_L_law_18.g 14 rfl) h (fun v164 h => ?_)
      refine jr_aload_n hC (D_L_law_18.g 15 rfl) 0 rfl ?_
      refine jr_iload_n hC (D_L_law_18.g 16 rfl) 3 rfl ?_
      refine jr_iconst hC (D_L_law_18.g 17 rfl) ?_
      refine jr_iadd hC (D_L_law_18.g 18 rfl) ?_
      refine jr_xs hC hX (D_L_law_18.g 19 rfl) h (fun v165 h => ?_)
      refine jr_cVi hC cl_L_122 ⟨rfl, by decide⟩ (D_L_law_18.g 20 rfl) [q_i v164, q_i v165] h (fun r M' e => c_X12_widows e) rfl rfl ⟨by decide, by decide⟩ (Nat.le_of_ble_eq_true rfl) ⟨Nat.le_of_ble_eq_true rfl, Nat.le_of_ble_eq_true rfl⟩ (fun v166 M167 h => ?_)
      refine jr_icmp_eq hC (D_L_law_18.g 21 rfl) 1049 rfl h (fun h => ?_) (fun h => ?_)
      · exact hj_1049 M167 h
      refine jr_iconst hC (D_L_law_18.g 22 rfl) ?_
      exact jr_lawret hC hQ hr hr1 (D_L_law_18.g 23 rfl) h
    replace h := jif_f h c_25
    by_cases c_26 : jd_wr (jd_and v9 63) = 26
    · have h := jif_t h c_26
      refine jr_tswIn hC (D_L_law_0.g 21 rfl) 26 c_26 (by decide) rfl 796 rfl ?_
      refine jr_aload_n hC (D_L_law_18.g 24 rfl) 1 rfl ?_
      refine jr_aload_n hC (D_L_law_19.g 0 rfl) 0 rfl ?_
      refine jr_iload_n hC (D_L_law_19.g 1 rfl) 3 rfl ?_
      refine jr_iconst hC (D_L_law_19.g 2 rfl) ?_
      refine jr_iadd hC (D_L_law_19.g 3 rfl) ?_
      refine jr_xs hC hX (D_L_law_19.g 4 rfl) h (fun v168 h => ?_)
      refine jr_aload_n hC (D_L_law_19.g 5 rfl) 0 rfl ?_
      refine jr_iload_n hC (D_L_law_19.g 6 rfl) 3 rfl ?_
      refine jr_iconst hC (D_L_law_19.g 7 rfl) ?_
      refine jr_iadd hC (D_L_law_19.g 8 rfl) ?_
      refine jr_xs hC hX (D_L_law_19.g 9 rfl) h (fun v169 h => ?_)
      refine jr_cVi hC cl_L_123 ⟨rfl, by decide⟩ (D_L_law_19.g 10 rfl) [q_i v168, q_i v169] h (fun r M' e => c_X11_then e) rfl rfl ⟨by decide, by decide⟩ (Nat.le_of_ble_eq_true rfl) ⟨Nat.le_of_ble_eq_true rfl, Nat.le_of_ble_eq_true rfl⟩ (fun v170 M171 h => ?_)
      refine jr_aload_n hC (D_L_law_19.g 11 rfl) 2 rfl ?_
      refine jr_aload_n hC (D_L_law_19.g 12 rfl) 0 rfl ?_
      refine jr_iload_n hC (D_L_law_19.g 13 rfl) 3 rfl ?_
      refine jr_iconst hC (D_L_law_19.g 14 rfl) ?_
      refine jr_iadd hC (D_L_law_19.g 15 rfl) ?_
      refine jr_xs hC hX (D_L_law_19.g 16 rfl) h (fun v172 h => ?_)
      refine jr_aload_n hC (D_L_law_19.g 17 rfl) 0 rfl ?_
      refine jr_iload_n hC (D_L_law_19.g 18 rfl) 3 rfl ?_
      refine jr_iconst hC (D_L_law_19.g 19 rfl) ?_
      refine jr_iadd hC (D_L_law_19.g 20 rfl) ?_
      refine jr_xs hC hX (D_L_law_19.g 21 rfl) h (fun v173 h => ?_)
      refine jr_cVi hC cl_L_126 ⟨rfl, by decide⟩ (D_L_law_19.g 22 rfl) [q_i v172, q_i v173] h (fun r M' e => c_X12_then e) rfl rfl ⟨by decide, by decide⟩ (Nat.le_of_ble_eq_true rfl) ⟨Nat.le_of_ble_eq_true rfl, Nat.le_of_ble_eq_true rfl⟩ (fun v174 M175 h => ?_)
      refine jr_icmp_eq hC (D_L_law_19.g 23 rfl) 1049 rfl h (fun h => ?_) (fun h => ?_)
      · exact hj_1049 M175 h
      refine jr_iconst hC (D_L_law_19.g 24 rfl) ?_
      exact jr_lawret hC hQ hr hr1 (D_L_law_20.g 0 rfl) h
    replace h := jif_f h c_26
    by_cases c_27 : jd_wr (jd_and v9 63) = 27
    · have h := jif_t h c_27
      refine jr_tswIn hC (D_L_law_0.g 21 rfl) 27 c_27 (by decide) rfl 829 rfl ?_
      refine jr_aload_n hC (D_L_law_20.g 1 rfl) 1 rfl ?_
      refine jr_aload_n hC (D_L_law_20.g 2 rfl) 0 rfl ?_
      refine jr_iload_n hC (D_L_law_20.g 3 rfl) 3 rfl ?_
      refine jr_iconst hC (D_L_law_20.g 4 rfl) ?_
      refine jr_iadd hC (D_L_law_20.g 5 rfl) ?_
      refine jr_xs hC hX (D_L_law_20.g 6 rfl) h (fun v176 h => ?_)
      refine jr_aload_n hC (D_L_law_20.g 7 rfl) 0 rfl ?_
      refine jr_iload_n hC (D_L_law_20.g 8 rfl) 3 rfl ?_
      refine jr_iconst hC (D_L_law_20.g 9 rfl) ?_
      refine jr_iadd hC (D_L_law_20.g 10 rfl) ?_
      refine jr_xs hC hX (D_L_law_20.g 11 rfl) h (fun v177 h => ?_)
      refine jr_cVi hC cl_L_127 ⟨rfl, by decide⟩ (D_L_law_20.g 12 rfl) [q_i v176, q_i v177] h (fun r M' e => c_X11_year e) rfl rfl ⟨by decide, by decide⟩ (Nat.le_of_ble_eq_true rfl) ⟨Nat.le_of_ble_eq_true rfl, Nat.le_of_ble_eq_true rfl⟩ (fun v178 M179 h => ?_)
      refine jr_aload_n hC (D_L_law_20.g 13 rfl) 2 rfl ?_
      refine jr_aload_n hC (D_L_law_20.g 14 rfl) 0 rfl ?_
      refine jr_iload_n hC (D_L_law_20.g 15 rfl) 3 rfl ?_
      refine jr_iconst hC (D_L_law_20.g 16 rfl) ?_
      refine jr_iadd hC (D_L_law_20.g 17 rfl) ?_
      refine jr_xs hC hX (D_L_law_20.g 18 rfl) h (fun v180 h => ?_)
      refine jr_aload_n hC (D_L_law_20.g 19 rfl) 0 rfl ?_
      refine jr_iload_n hC (D_L_law_20.g 20 rfl) 3 rfl ?_
      refine jr_iconst hC (D_L_law_20.g 21 rfl) ?_
      refine jr_iadd hC (D_L_law_20.g 22 rfl) ?_
      refine jr_xs hC hX (D_L_law_20.g 23 rfl) h (fun v181 h => ?_)
      refine jr_cVi hC cl_L_130 ⟨rfl, by decide⟩ (D_L_law_20.g 24 rfl) [q_i v180, q_i v181] h (fun r M' e => c_X12_year e) rfl rfl ⟨by decide, by decide⟩ (Nat.le_of_ble_eq_true rfl) ⟨Nat.le_of_ble_eq_true rfl, Nat.le_of_ble_eq_true rfl⟩ (fun v182 M183 h => ?_)
      refine jr_icmp_eq hC (D_L_law_21.g 0 rfl) 1049 rfl h (fun h => ?_) (fun h => ?_)
      · exact hj_1049 M183 h
      refine jr_iconst hC (D_L_law_21.g 1 rfl) ?_
      exact jr_lawret hC hQ hr hr1 (D_L_law_21.g 2 rfl) h
    replace h := jif_f h c_27
    by_cases c_28 : jd_wr (jd_and v9 63) = 28
    · have h := jif_t h c_28
      refine jr_tswIn hC (D_L_law_0.g 21 rfl) 28 c_28 (by decide) rfl 862 rfl ?_
      refine jr_aload_n hC (D_L_law_21.g 3 rfl) 1 rfl ?_
      refine jr_aload_n hC (D_L_law_21.g 4 rfl) 0 rfl ?_
      refine jr_iload_n hC (D_L_law_21.g 5 rfl) 3 rfl ?_
      refine jr_iconst hC (D_L_law_21.g 6 rfl) ?_
      refine jr_iadd hC (D_L_law_21.g 7 rfl) ?_
      refine jr_xs hC hX (D_L_law_21.g 8 rfl) h (fun v184 h => ?_)
      refine jr_aload_n hC (D_L_law_21.g 9 rfl) 0 rfl ?_
      refine jr_iload_n hC (D_L_law_21.g 10 rfl) 3 rfl ?_
      refine jr_iconst hC (D_L_law_21.g 11 rfl) ?_
      refine jr_iadd hC (D_L_law_21.g 12 rfl) ?_
      refine jr_xs hC hX (D_L_law_21.g 13 rfl) h (fun v185 h => ?_)
      refine jr_join h (fun j => ∀ (z0_881 : Int), j z0_881 = some (r, M') → JW E X 4 418 31046 M_18 881 [(0, .ref b), (1, q_r E q1), (2, q_r E q5), (3, q_i y3_18)] [q_i z0_881, q_i v184, q_r E q1]) ?_ ?_
      · intro z0_881 h
        refine jr_cVi hC cl_L_131 ⟨rfl, by decide⟩ (D_L_law_21.g 18 rfl) [q_i v184, q_i z0_881] h (fun r M' e => c_X11_tell e) rfl rfl ⟨by decide, by decide⟩ (Nat.le_of_ble_eq_true rfl) ⟨Nat.le_of_ble_eq_true rfl, Nat.le_of_ble_eq_true rfl⟩ (fun v186 M187 h => ?_)
        refine jr_aload_n hC (D_L_law_21.g 19 rfl) 2 rfl ?_
        refine jr_aload_n hC (D_L_law_21.g 20 rfl) 0 rfl ?_
        refine jr_iload_n hC (D_L_law_21.g 21 rfl) 3 rfl ?_
        refine jr_iconst hC (D_L_law_21.g 22 rfl) ?_
        refine jr_iadd hC (D_L_law_21.g 23 rfl) ?_
        refine jr_xs hC hX (D_L_law_21.g 24 rfl) h (fun v188 h => ?_)
        refine jr_aload_n hC (D_L_law_22.g 0 rfl) 0 rfl ?_
        refine jr_iload_n hC (D_L_law_22.g 1 rfl) 3 rfl ?_
        refine jr_iconst hC (D_L_law_22.g 2 rfl) ?_
        refine jr_iadd hC (D_L_law_22.g 3 rfl) ?_
        refine jr_xs hC hX (D_L_law_22.g 4 rfl) h (fun v189 h => ?_)
        refine jr_join h (fun j => ∀ (z0_903 : Int), j z0_903 = some (r, M') → JW E X 4 418 31046 M187 903 [(0, .ref b), (1, q_r E q1), (2, q_r E q5), (3, q_i y3_18)] [q_i z0_903, q_i v188, q_r E q5, q_i v186]) ?_ ?_
        · intro z0_903 h
          refine jr_cVi hC cl_L_135 ⟨rfl, by decide⟩ (D_L_law_22.g 9 rfl) [q_i v188, q_i z0_903] h (fun r M' e => c_X12_tell e) rfl rfl ⟨by decide, by decide⟩ (Nat.le_of_ble_eq_true rfl) ⟨Nat.le_of_ble_eq_true rfl, Nat.le_of_ble_eq_true rfl⟩ (fun v190 M191 h => ?_)
          refine jr_icmp_eq hC (D_L_law_22.g 10 rfl) 1049 rfl h (fun h => ?_) (fun h => ?_)
          · exact hj_1049 M191 h
          refine jr_iconst hC (D_L_law_22.g 11 rfl) ?_
          exact jr_lawret hC hQ hr hr1 (D_L_law_22.g 12 rfl) h
        intro j_903 hj_903 h
        refine jr_if_eq hC (D_L_law_22.g 5 rfl) 902 rfl h (fun h => ?_) (fun h => ?_)
        · refine jr_iconst hC (D_L_law_22.g 8 rfl) ?_
          exact hj_903 0 h
        refine jr_iconst hC (D_L_law_22.g 6 rfl) ?_
        refine jr_goto hC (D_L_law_22.g 7 rfl) 903 rfl ?_
        exact hj_903 1 h
      intro j_881 hj_881 h
      refine jr_if_eq hC (D_L_law_21.g 14 rfl) 880 rfl h (fun h => ?_) (fun h => ?_)
      · refine jr_iconst hC (D_L_law_21.g 17 rfl) ?_
        exact hj_881 0 h
      refine jr_iconst hC (D_L_law_21.g 15 rfl) ?_
      refine jr_goto hC (D_L_law_21.g 16 rfl) 881 rfl ?_
      exact hj_881 1 h
    replace h := jif_f h c_28
    by_cases c_29 : jd_wr (jd_and v9 63) = 29
    · have h := jif_t h c_29
      refine jr_tswIn hC (D_L_law_0.g 21 rfl) 29 c_29 (by decide) rfl 911 rfl ?_
      refine jr_aload_n hC (D_L_law_22.g 13 rfl) 1 rfl ?_
      refine jr_cVi hC cl_L_136 ⟨rfl, by decide⟩ (D_L_law_22.g 14 rfl) [] h (fun r M' e => c_X11_forget e) rfl rfl ⟨by decide, by decide⟩ (Nat.le_of_ble_eq_true rfl) ⟨Nat.le_of_ble_eq_true rfl, Nat.le_of_ble_eq_true rfl⟩ (fun v192 M193 h => ?_)
      refine jr_aload_n hC (D_L_law_22.g 15 rfl) 2 rfl ?_
      refine jr_cVi hC cl_L_139 ⟨rfl, by decide⟩ (D_L_law_22.g 16 rfl) [] h (fun r M' e => c_X12_forget e) rfl rfl ⟨by decide, by decide⟩ (Nat.le_of_ble_eq_true rfl) ⟨Nat.le_of_ble_eq_true rfl, Nat.le_of_ble_eq_true rfl⟩ (fun v194 M195 h => ?_)
      refine jr_icmp_eq hC (D_L_law_22.g 17 rfl) 1049 rfl h (fun h => ?_) (fun h => ?_)
      · exact hj_1049 M195 h
      refine jr_iconst hC (D_L_law_22.g 18 rfl) ?_
      exact jr_lawret hC hQ hr hr1 (D_L_law_22.g 19 rfl) h
    replace h := jif_f h c_29
    by_cases c_30 : jd_wr (jd_and v9 63) = 30
    · have h := jif_t h c_30
      refine jr_tswIn hC (D_L_law_0.g 21 rfl) 30 c_30 (by decide) rfl 924 rfl ?_
      refine jr_aload_n hC (D_L_law_22.g 20 rfl) 1 rfl ?_
      refine jr_aload_n hC (D_L_law_22.g 21 rfl) 0 rfl ?_
      refine jr_iload_n hC (D_L_law_22.g 22 rfl) 3 rfl ?_
      refine jr_iconst hC (D_L_law_22.g 23 rfl) ?_
      refine jr_iadd hC (D_L_law_22.g 24 rfl) ?_
      refine jr_xs hC hX (D_L_law_23.g 0 rfl) h (fun v196 h => ?_)
      refine jr_aload_n hC (D_L_law_23.g 1 rfl) 0 rfl ?_
      refine jr_iload_n hC (D_L_law_23.g 2 rfl) 3 rfl ?_
      refine jr_iconst hC (D_L_law_23.g 3 rfl) ?_
      refine jr_iadd hC (D_L_law_23.g 4 rfl) ?_
      refine jr_xs hC hX (D_L_law_23.g 5 rfl) h (fun v197 h => ?_)
      refine jr_cVi hC cl_L_140 ⟨rfl, by decide⟩ (D_L_law_23.g 6 rfl) [q_i v196, q_i v197] h (fun r M' e => c_X11_fit e) rfl rfl ⟨by decide, by decide⟩ (Nat.le_of_ble_eq_true rfl) ⟨Nat.le_of_ble_eq_true rfl, Nat.le_of_ble_eq_true rfl⟩ (fun v198 M199 h => ?_)
      refine jr_aload_n hC (D_L_law_23.g 7 rfl) 2 rfl ?_
      refine jr_aload_n hC (D_L_law_23.g 8 rfl) 0 rfl ?_
      refine jr_iload_n hC (D_L_law_23.g 9 rfl) 3 rfl ?_
      refine jr_iconst hC (D_L_law_23.g 10 rfl) ?_
      refine jr_iadd hC (D_L_law_23.g 11 rfl) ?_
      refine jr_xs hC hX (D_L_law_23.g 12 rfl) h (fun v200 h => ?_)
      refine jr_aload_n hC (D_L_law_23.g 13 rfl) 0 rfl ?_
      refine jr_iload_n hC (D_L_law_23.g 14 rfl) 3 rfl ?_
      refine jr_iconst hC (D_L_law_23.g 15 rfl) ?_
      refine jr_iadd hC (D_L_law_23.g 16 rfl) ?_
      refine jr_xs hC hX (D_L_law_23.g 17 rfl) h (fun v201 h => ?_)
      refine jr_cVi hC cl_L_143 ⟨rfl, by decide⟩ (D_L_law_23.g 18 rfl) [q_i v200, q_i v201] h (fun r M' e => c_X12_fit e) rfl rfl ⟨by decide, by decide⟩ (Nat.le_of_ble_eq_true rfl) ⟨Nat.le_of_ble_eq_true rfl, Nat.le_of_ble_eq_true rfl⟩ (fun v202 M203 h => ?_)
      refine jr_icmp_eq hC (D_L_law_23.g 19 rfl) 1049 rfl h (fun h => ?_) (fun h => ?_)
      · exact hj_1049 M203 h
      refine jr_iconst hC (D_L_law_23.g 20 rfl) ?_
      exact jr_lawret hC hQ hr hr1 (D_L_law_23.g 21 rfl) h
    replace h := jif_f h c_30
    by_cases c_31 : jd_wr (jd_and v9 63) = 31
    · have h := jif_t h c_31
      refine jr_tswIn hC (D_L_law_0.g 21 rfl) 31 c_31 (by decide) rfl 957 rfl ?_
      refine jr_aload_n hC (D_L_law_23.g 22 rfl) 1 rfl ?_
      refine jr_aload_n hC (D_L_law_23.g 23 rfl) 0 rfl ?_
      refine jr_iload_n hC (D_L_law_23.g 24 rfl) 3 rfl ?_
      refine jr_iconst hC (D_L_law_24.g 0 rfl) ?_
      refine jr_iadd hC (D_L_law_24.g 1 rfl) ?_
      refine jr_xs hC hX (D_L_law_24.g 2 rfl) h (fun v204 h => ?_)
      refine jr_cVi hC cl_L_144 ⟨rfl, by decide⟩ (D_L_law_24.g 3 rfl) [q_i v204] h (fun r M' e => c_X11_look e) rfl rfl ⟨by decide, by decide⟩ (Nat.le_of_ble_eq_true rfl) ⟨Nat.le_of_ble_eq_true rfl, Nat.le_of_ble_eq_true rfl⟩ (fun v205 M206 h => ?_)
      refine jr_aload_n hC (D_L_law_24.g 4 rfl) 2 rfl ?_
      refine jr_aload_n hC (D_L_law_24.g 5 rfl) 0 rfl ?_
      refine jr_iload_n hC (D_L_law_24.g 6 rfl) 3 rfl ?_
      refine jr_iconst hC (D_L_law_24.g 7 rfl) ?_
      refine jr_iadd hC (D_L_law_24.g 8 rfl) ?_
      refine jr_xs hC hX (D_L_law_24.g 9 rfl) h (fun v207 h => ?_)
      refine jr_cVi hC cl_L_147 ⟨rfl, by decide⟩ (D_L_law_24.g 10 rfl) [q_i v207] h (fun r M' e => c_X12_look e) rfl rfl ⟨by decide, by decide⟩ (Nat.le_of_ble_eq_true rfl) ⟨Nat.le_of_ble_eq_true rfl, Nat.le_of_ble_eq_true rfl⟩ (fun v208 M209 h => ?_)
      refine jr_icmp_eq hC (D_L_law_24.g 11 rfl) 1049 rfl h (fun h => ?_) (fun h => ?_)
      · exact hj_1049 M209 h
      refine jr_iconst hC (D_L_law_24.g 12 rfl) ?_
      exact jr_lawret hC hQ hr hr1 (D_L_law_24.g 13 rfl) h
    replace h := jif_f h c_31
    by_cases c_32 : jd_wr (jd_and v9 63) = 32
    · have h := jif_t h c_32
      refine jr_tswIn hC (D_L_law_0.g 21 rfl) 32 c_32 (by decide) rfl 980 rfl ?_
      refine jr_aload_n hC (D_L_law_24.g 14 rfl) 1 rfl ?_
      refine jr_aload_n hC (D_L_law_24.g 15 rfl) 0 rfl ?_
      refine jr_iload_n hC (D_L_law_24.g 16 rfl) 3 rfl ?_
      refine jr_iconst hC (D_L_law_24.g 17 rfl) ?_
      refine jr_iadd hC (D_L_law_24.g 18 rfl) ?_
      refine jr_xs hC hX (D_L_law_24.g 19 rfl) h (fun v210 h => ?_)
      refine jr_cVi hC cl_L_148 ⟨rfl, by decide⟩ (D_L_law_24.g 20 rfl) [q_i v210] h (fun r M' e => c_X11_hold e) rfl rfl ⟨by decide, by decide⟩ (Nat.le_of_ble_eq_true rfl) ⟨Nat.le_of_ble_eq_true rfl, Nat.le_of_ble_eq_true rfl⟩ (fun v211 M212 h => ?_)
      refine jr_aload_n hC (D_L_law_24.g 21 rfl) 2 rfl ?_
      refine jr_aload_n hC (D_L_law_24.g 22 rfl) 0 rfl ?_
      refine jr_iload_n hC (D_L_law_24.g 23 rfl) 3 rfl ?_
      refine jr_iconst hC (D_L_law_24.g 24 rfl) ?_
      refine jr_iadd hC (D_L_law_25.g 0 rfl) ?_
      refine jr_xs hC hX (D_L_law_25.g 1 rfl) h (fun v213 h => ?_)
      refine jr_cVi hC cl_L_151 ⟨rfl, by decide⟩ (D_L_law_25.g 2 rfl) [q_i v213] h (fun r M' e => c_X12_hold e) rfl rfl ⟨by decide, by decide⟩ (Nat.le_of_ble_eq_true rfl) ⟨Nat.le_of_ble_eq_true rfl, Nat.le_of_ble_eq_true rfl⟩ (fun v214 M215 h => ?_)
      refine jr_icmp_eq hC (D_L_law_25.g 3 rfl) 1049 rfl h (fun h => ?_) (fun h => ?_)
      · exact hj_1049 M215 h
      refine jr_iconst hC (D_L_law_25.g 4 rfl) ?_
      exact jr_lawret hC hQ hr hr1 (D_L_law_25.g 5 rfl) h
    replace h := jif_f h c_32
    by_cases c_33 : jd_wr (jd_and v9 63) = 33
    · have h := jif_t h c_33
      refine jr_tswIn hC (D_L_law_0.g 21 rfl) 33 c_33 (by decide) rfl 1003 rfl ?_
      refine jr_aload_n hC (D_L_law_25.g 6 rfl) 1 rfl ?_
      refine jr_aload_n hC (D_L_law_25.g 7 rfl) 0 rfl ?_
      refine jr_iload_n hC (D_L_law_25.g 8 rfl) 3 rfl ?_
      refine jr_iconst hC (D_L_law_25.g 9 rfl) ?_
      refine jr_iadd hC (D_L_law_25.g 10 rfl) ?_
      refine jr_xs hC hX (D_L_law_25.g 11 rfl) h (fun v216 h => ?_)
      refine jr_cVi hC cl_L_152 ⟨rfl, by decide⟩ (D_L_law_25.g 12 rfl) [q_i v216] h (fun r M' e => c_X11_restore e) rfl rfl ⟨by decide, by decide⟩ (Nat.le_of_ble_eq_true rfl) ⟨Nat.le_of_ble_eq_true rfl, Nat.le_of_ble_eq_true rfl⟩ (fun v217 M218 h => ?_)
      refine jr_aload_n hC (D_L_law_25.g 13 rfl) 2 rfl ?_
      refine jr_aload_n hC (D_L_law_25.g 14 rfl) 0 rfl ?_
      refine jr_iload_n hC (D_L_law_25.g 15 rfl) 3 rfl ?_
      refine jr_iconst hC (D_L_law_25.g 16 rfl) ?_
      refine jr_iadd hC (D_L_law_25.g 17 rfl) ?_
      refine jr_xs hC hX (D_L_law_25.g 18 rfl) h (fun v219 h => ?_)
      refine jr_cVi hC cl_L_155 ⟨rfl, by decide⟩ (D_L_law_25.g 19 rfl) [q_i v219] h (fun r M' e => c_X12_restore e) rfl rfl ⟨by decide, by decide⟩ (Nat.le_of_ble_eq_true rfl) ⟨Nat.le_of_ble_eq_true rfl, Nat.le_of_ble_eq_true rfl⟩ (fun v220 M221 h => ?_)
      refine jr_icmp_eq hC (D_L_law_25.g 20 rfl) 1049 rfl h (fun h => ?_) (fun h => ?_)
      · exact hj_1049 M221 h
      refine jr_iconst hC (D_L_law_25.g 21 rfl) ?_
      exact jr_lawret hC hQ hr hr1 (D_L_law_25.g 22 rfl) h
    replace h := jif_f h c_33
    by_cases c_34 : jd_wr (jd_and v9 63) = 34
    · have h := jif_t h c_34
      refine jr_tswIn hC (D_L_law_0.g 21 rfl) 34 c_34 (by decide) rfl 1026 rfl ?_
      refine jr_aload_n hC (D_L_law_25.g 23 rfl) 1 rfl ?_
      refine jr_aload_n hC (D_L_law_25.g 24 rfl) 0 rfl ?_
      refine jr_iload_n hC (D_L_law_26.g 0 rfl) 3 rfl ?_
      refine jr_iconst hC (D_L_law_26.g 1 rfl) ?_
      refine jr_iadd hC (D_L_law_26.g 2 rfl) ?_
      refine jr_xs hC hX (D_L_law_26.g 3 rfl) h (fun v222 h => ?_)
      refine jr_cVi hC cl_L_156 ⟨rfl, by decide⟩ (D_L_law_26.g 4 rfl) [q_i v222] h (fun r M' e => c_X11_count e) rfl rfl ⟨by decide, by decide⟩ (Nat.le_of_ble_eq_true rfl) ⟨Nat.le_of_ble_eq_true rfl, Nat.le_of_ble_eq_true rfl⟩ (fun v223 M224 h => ?_)
      refine jr_aload_n hC (D_L_law_26.g 5 rfl) 2 rfl ?_
      refine jr_aload_n hC (D_L_law_26.g 6 rfl) 0 rfl ?_
      refine jr_iload_n hC (D_L_law_26.g 7 rfl) 3 rfl ?_
      refine jr_iconst hC (D_L_law_26.g 8 rfl) ?_
      refine jr_iadd hC (D_L_law_26.g 9 rfl) ?_
      refine jr_xs hC hX (D_L_law_26.g 10 rfl) h (fun v225 h => ?_)
      refine jr_cVi hC cl_L_159 ⟨rfl, by decide⟩ (D_L_law_26.g 11 rfl) [q_i v225] h (fun r M' e => c_X12_count e) rfl rfl ⟨by decide, by decide⟩ (Nat.le_of_ble_eq_true rfl) ⟨Nat.le_of_ble_eq_true rfl, Nat.le_of_ble_eq_true rfl⟩ (fun v226 M227 h => ?_)
      refine jr_icmp_eq hC (D_L_law_26.g 12 rfl) 1049 rfl h (fun h => ?_) (fun h => ?_)
      · exact hj_1049 M227 h
      refine jr_iconst hC (D_L_law_26.g 13 rfl) ?_
      exact jr_lawret hC hQ hr hr1 (D_L_law_26.g 14 rfl) h
    replace h := jif_f h c_34
    refine jr_tswOut hC (D_L_law_0.g 21 rfl) (by omega) 1049 rfl ?_
    exact hj_1049 M_18 h
  refine jr_iconst hC (D_L_law_26.g 17 rfl) ?_
  exact jr_lawret hC hQ hr hr1 (D_L_law_26.g 18 rfl) h
