/-! ===== the model, as it comes to be (written by gen/x12.py) ===== -/
/-- what follows when all its cells stand -/
def x12R (th : Nat) (M : jMem) : Option (Int × jMem) :=
jcall 12 M th (f_X12_plain th 0 M) fun _ M147 =>
jcall 12 M147 th (f_X12_plain th 1 M147) fun _ M149 =>
(jm_gR 12 9 M149 th).bind fun r150 =>
jbd (f_X12_word 115 113 117 97 114 101 0 M149) fun v151 M152 =>
(jm_st 23 M152 r150 0 v151).bind fun M153 =>
(jm_gR 12 9 M153 th).bind fun r154 =>
jbd (f_X12_word 104 111 108 101 0 0 0 M153) fun v155 M156 =>
(jm_st 23 M156 r154 1 v155).bind fun M157 =>
(jm_gR 12 9 M157 th).bind fun r158 =>
jbd (f_X12_word 115 116 111 110 101 0 0 M157) fun v159 M160 =>
(jm_st 23 M160 r158 2 v159).bind fun M161 =>
(jm_gR 12 9 M161 th).bind fun r162 =>
jbd (f_X12_word 97 115 107 115 0 0 0 M161) fun v163 M164 =>
(jm_st 23 M164 r162 3 v163).bind fun M165 =>
(jm_gR 12 9 M165 th).bind fun r166 =>
jbd (f_X12_word 108 111 111 115 101 110 115 M165) fun v167 M168 =>
(jm_st 23 M168 r166 4 v167).bind fun M169 =>
(jm_gR 12 9 M169 th).bind fun r170 =>
jbd (f_X12_word 108 97 121 115 0 0 0 M169) fun v171 M172 =>
(jm_st 23 M172 r170 5 v171).bind fun M173 =>
(jm_gR 12 9 M173 th).bind fun r174 =>
jbd (f_X12_word 115 101 101 100 0 0 0 M173) fun v175 M176 =>
(jm_st 23 M176 r174 6 v175).bind fun M177 =>
(jm_gR 12 9 M177 th).bind fun r178 =>
jbd (f_X12_word 105 102 0 0 0 0 0 M177) fun v179 M180 =>
(jm_st 23 M180 r178 7 v179).bind fun M181 =>
(jm_gR 12 9 M181 th).bind fun r182 =>
jbd (f_X12_word 116 104 101 110 0 0 0 M181) fun v183 M184 =>
(jm_st 23 M184 r182 8 v183).bind fun M185 =>
(jm_gR 12 9 M185 th).bind fun r186 =>
jbd (f_X12_word 101 108 115 101 0 0 0 M185) fun v187 M188 =>
(jm_st 23 M188 r186 9 v187).bind fun M189 =>
(jm_gR 12 9 M189 th).bind fun r190 =>
jbd (f_X12_word 97 99 114 111 115 115 0 M189) fun v191 M192 =>
(jm_st 23 M192 r190 10 v191).bind fun M193 =>
(jm_gR 12 9 M193 th).bind fun r194 =>
jbd (f_X12_word 108 101 102 116 0 0 0 M193) fun v195 M196 =>
(jm_st 23 M196 r194 11 v195).bind fun M197 =>
(jm_gR 12 9 M197 th).bind fun r198 =>
jbd (f_X12_word 116 111 112 0 0 0 0 M197) fun v199 M200 =>
(jm_st 23 M200 r198 12 v199).bind fun M201 =>
(jm_gR 12 9 M201 th).bind fun r202 =>
jbd (f_X12_word 116 117 114 110 101 100 0 M201) fun v203 M204 =>
(jm_st 23 M204 r202 13 v203).bind fun M205 =>
(jm_gR 12 9 M205 th).bind fun r206 =>
jbd (f_X12_word 97 103 101 0 0 0 0 M205) fun v207 M208 =>
(jm_st 23 M208 r206 14 v207).bind fun M209 =>
(jm_gR 12 9 M209 th).bind fun r210 =>
jbd (f_X12_word 115 101 97 115 111 110 0 M209) fun v211 M212 =>
(jm_st 23 M212 r210 15 v211).bind fun M213 =>
(jm_gR 12 9 M213 th).bind fun r214 =>
jbd (f_X12_word 119 104 105 99 104 0 0 M213) fun v215 M216 =>
(jm_st 23 M216 r214 16 v215).bind fun M217 =>
(jm_gR 12 9 M217 th).bind fun r218 =>
jbd (f_X12_word 115 116 111 110 101 115 0 M217) fun v219 M220 =>
(jm_st 23 M220 r218 17 v219).bind fun M221 =>
(jm_gR 12 9 M221 th).bind fun r222 =>
jbd (f_X12_word 104 111 108 101 115 0 0 M221) fun v223 M224 =>
(jm_st 23 M224 r222 18 v223).bind fun M225 =>
jcall 12 M225 th (f_X12_begins th M225) fun _ M227 =>
jcall 12 M227 th (f_X12_keepsRow th M227) fun _ M229 =>
some (0, M229)
def sgM : List (Nat × Nat) := [(12, 0), (21, 2000), (21, 2000), (20, 403), (20, 403), (20, 403), (23, 403), (23, 19), (20, 2), (20, 2), (20, 2), (20, 24), (20, 24), (20, 2), (20, 36), (20, 36), (20, 36), (20, 2), (20, 6), (20, 6), (22, 260), (20, 260), (20, 260), (20, 260), (20, 260), (20, 840), (20, 840), (22, 36), (20, 64), (20, 9), (20, 400), (20, 75), (20, 75), (22, 36), (20, 2), (22, 18), (20, 3000), (20, 2368), (20, 2368), (22, 36), (22, 36), (22, 36), (20, 36), (20, 49), (20, 49), (20, 20), (22, 20), (22, 3), (20, 225)]
def rwMM (s : Nat) : List (Option Nat) := (pset (pset (pset (pset (pset (pset (pset (pset (pset (pset (pset (pset (pset (pset (pset (pset (pset (pset (pset (pset (pset (pset (pset (pset (pset (pset (pset (pset (pset (pset (pset (pset (pset (pset (pset (pset (pset (pset (pset (pset (pset (pset (pset (pset (pset (pset (pset (pset [] 1 (some (s + 1))) 3 (some (s + 2))) 5 (some (s + 3))) 6 (some (s + 4))) 7 (some (s + 5))) 8 (some (s + 6))) 9 (some (s + 7))) 20 (some (s + 8))) 21 (some (s + 9))) 22 (some (s + 10))) 23 (some (s + 11))) 24 (some (s + 12))) 25 (some (s + 13))) 26 (some (s + 14))) 27 (some (s + 15))) 28 (some (s + 16))) 29 (some (s + 17))) 30 (some (s + 18))) 31 (some (s + 19))) 33 (some (s + 20))) 34 (some (s + 21))) 35 (some (s + 22))) 36 (some (s + 23))) 37 (some (s + 24))) 39 (some (s + 25))) 40 (some (s + 26))) 41 (some (s + 27))) 42 (some (s + 28))) 44 (some (s + 29))) 45 (some (s + 30))) 47 (some (s + 31))) 48 (some (s + 32))) 50 (some (s + 33))) 51 (some (s + 34))) 52 (some (s + 35))) 54 (some (s + 36))) 55 (some (s + 37))) 56 (some (s + 38))) 57 (some (s + 39))) 58 (some (s + 40))) 59 (some (s + 41))) 60 (some (s + 42))) 61 (some (s + 43))) 62 (some (s + 44))) 64 (some (s + 45))) 65 (some (s + 46))) 66 (some (s + 47))) 67 (some (s + 48)))
def mS (l : List (Nat × Nat)) (r : List (List (Option Nat))) (m : Nat) (row : List (Option Nat)) (I : Nat → Nat → Int) : jMem := ml (l ++ sgM.take (m + 1)) (r ++ (row :: List.replicate m [])) I
theorem rep_s : ∀ m : Nat, List.replicate m ([] : List (Option Nat)) ++ [[]] = List.replicate (m + 1) []
  | 0 => rfl
  | m + 1 => by
    show [] :: (List.replicate m [] ++ [[]]) = [] :: List.replicate (m + 1) []
    rw [rep_s m]
theorem tk_n : ∀ m, m < 49 → (sgM.take (m + 1)).length = m + 1 := by decide +kernel
theorem tk_0 : ∀ m, m < 49 → ((sgM.take (m + 1)).getD 0 (0, 0)).1 = 12 := by decide +kernel
section NM
variable {I : Nat → Nat → Int} {l : List (Nat × Nat)} {r : List (List (Option Nat))} {m : Nat} {row : List (Option Nat)}
theorem n_M {β : Type} (hr : r.length = l.length) {k n : Nat} (h : sgM.take (m + 1) ++ [(k, n)] = sgM.take (m + 1 + 1)) (hm : m < 49) (hz : ∀ j, I (l.length + (m + 1)) j = 0) {f : Nat → jMem → β} : jnw (mS l r m row I) k n f = f (l.length + (m + 1)) (mS l r (m + 1) row I) := by
  unfold mS
  have e : (row :: List.replicate m ([] : List (Option Nat))) ++ [[]] = row :: List.replicate (m + 1) [] := by
    show row :: (List.replicate m [] ++ [[]]) = _
    rw [rep_s]
  rw [sg_nw (m := m + 1) hr (tk_n m hm) (by rw [List.length_cons, List.length_replicate]) hz, h, e]
theorem p_M (hr : r.length = l.length) (hm : m < 49) {k q : Nat} : jm_pR 12 k (mS l r m row I) l.length q = some (mS l r m (pset row k (some q)) I) := by
  unfold mS
  rw [sg_p0 (m := m + 1) hr (tk_n m hm) (by omega) (by rw [List.length_cons, List.length_replicate]) (tk_0 m hm)]
  rfl
theorem i_M (hm : m < 49) {k : Nat} {v : Int} : jm_pI 12 k (mS l r m row I) l.length v = some (mS l r m row (up I l.length k v)) := ml_pI (sg_k0 (m := m + 1) (tk_n m hm) (by omega) (tk_0 m hm))
end NM
theorem e_X12 {I : Nat → Nat → Int} {l : List (Nat × Nat)} {r : List (List (Option Nat))} (hr : r.length = l.length) (hz : zI I l.length) : f_X12_init l.length (ml (l ++ [(12, 0)]) (r ++ [[]]) I) = x12R l.length (mS l r 48 (rwMM l.length) (up I l.length 17 (-1))) := by
  rw [show ml (l ++ [(12, 0)]) (r ++ [[]]) I = mS l r 0 [] I from rfl]
  unfold f_X12_init
  rw [n_M (m := 0) hr (by rfl) (by decide) (fun j => hz _ (by omega) j), p_M (m := 1) hr (by decide), Option.bind_some, n_M (m := 1) hr (by rfl) (by decide) (fun j => hz _ (by omega) j), p_M (m := 2) hr (by decide), Option.bind_some, n_M (m := 2) hr (by rfl) (by decide) (fun j => hz _ (by omega) j), p_M (m := 3) hr (by decide), Option.bind_some, n_M (m := 3) hr (by rfl) (by decide) (fun j => hz _ (by omega) j), p_M (m := 4) hr (by decide), Option.bind_some, n_M (m := 4) hr (by rfl) (by decide) (fun j => hz _ (by omega) j), p_M (m := 5) hr (by decide), Option.bind_some, n_M (m := 5) hr (by rfl) (by decide) (fun j => hz _ (by omega) j), p_M (m := 6) hr (by decide), Option.bind_some]
  rw [n_M (m := 6) hr (by rfl) (by decide) (fun j => hz _ (by omega) j), p_M (m := 7) hr (by decide), Option.bind_some, i_M (m := 7) (by decide), Option.bind_some, n_M (m := 7) hr (by rfl) (by decide) (fun j => by rw [up_ne (by omega)]; exact hz _ (by omega) j), p_M (m := 8) hr (by decide), Option.bind_some, n_M (m := 8) hr (by rfl) (by decide) (fun j => by rw [up_ne (by omega)]; exact hz _ (by omega) j), p_M (m := 9) hr (by decide), Option.bind_some, n_M (m := 9) hr (by rfl) (by decide) (fun j => by rw [up_ne (by omega)]; exact hz _ (by omega) j), p_M (m := 10) hr (by decide), Option.bind_some, n_M (m := 10) hr (by rfl) (by decide) (fun j => by rw [up_ne (by omega)]; exact hz _ (by omega) j), p_M (m := 11) hr (by decide), Option.bind_some, n_M (m := 11) hr (by rfl) (by decide) (fun j => by rw [up_ne (by omega)]; exact hz _ (by omega) j)]
  rw [p_M (m := 12) hr (by decide), Option.bind_some, n_M (m := 12) hr (by rfl) (by decide) (fun j => by rw [up_ne (by omega)]; exact hz _ (by omega) j), p_M (m := 13) hr (by decide), Option.bind_some, n_M (m := 13) hr (by rfl) (by decide) (fun j => by rw [up_ne (by omega)]; exact hz _ (by omega) j), p_M (m := 14) hr (by decide), Option.bind_some, n_M (m := 14) hr (by rfl) (by decide) (fun j => by rw [up_ne (by omega)]; exact hz _ (by omega) j), p_M (m := 15) hr (by decide), Option.bind_some, n_M (m := 15) hr (by rfl) (by decide) (fun j => by rw [up_ne (by omega)]; exact hz _ (by omega) j), p_M (m := 16) hr (by decide), Option.bind_some, n_M (m := 16) hr (by rfl) (by decide) (fun j => by rw [up_ne (by omega)]; exact hz _ (by omega) j), p_M (m := 17) hr (by decide), Option.bind_some, n_M (m := 17) hr (by rfl) (by decide) (fun j => by rw [up_ne (by omega)]; exact hz _ (by omega) j)]
  rw [p_M (m := 18) hr (by decide), Option.bind_some, n_M (m := 18) hr (by rfl) (by decide) (fun j => by rw [up_ne (by omega)]; exact hz _ (by omega) j), p_M (m := 19) hr (by decide), Option.bind_some, n_M (m := 19) hr (by rfl) (by decide) (fun j => by rw [up_ne (by omega)]; exact hz _ (by omega) j), p_M (m := 20) hr (by decide), Option.bind_some, n_M (m := 20) hr (by rfl) (by decide) (fun j => by rw [up_ne (by omega)]; exact hz _ (by omega) j), p_M (m := 21) hr (by decide), Option.bind_some, n_M (m := 21) hr (by rfl) (by decide) (fun j => by rw [up_ne (by omega)]; exact hz _ (by omega) j), p_M (m := 22) hr (by decide), Option.bind_some, n_M (m := 22) hr (by rfl) (by decide) (fun j => by rw [up_ne (by omega)]; exact hz _ (by omega) j), p_M (m := 23) hr (by decide), Option.bind_some, n_M (m := 23) hr (by rfl) (by decide) (fun j => by rw [up_ne (by omega)]; exact hz _ (by omega) j)]
  rw [p_M (m := 24) hr (by decide), Option.bind_some, n_M (m := 24) hr (by rfl) (by decide) (fun j => by rw [up_ne (by omega)]; exact hz _ (by omega) j), p_M (m := 25) hr (by decide), Option.bind_some, n_M (m := 25) hr (by rfl) (by decide) (fun j => by rw [up_ne (by omega)]; exact hz _ (by omega) j), p_M (m := 26) hr (by decide), Option.bind_some, n_M (m := 26) hr (by rfl) (by decide) (fun j => by rw [up_ne (by omega)]; exact hz _ (by omega) j), p_M (m := 27) hr (by decide), Option.bind_some, n_M (m := 27) hr (by rfl) (by decide) (fun j => by rw [up_ne (by omega)]; exact hz _ (by omega) j), p_M (m := 28) hr (by decide), Option.bind_some, n_M (m := 28) hr (by rfl) (by decide) (fun j => by rw [up_ne (by omega)]; exact hz _ (by omega) j), p_M (m := 29) hr (by decide), Option.bind_some, n_M (m := 29) hr (by rfl) (by decide) (fun j => by rw [up_ne (by omega)]; exact hz _ (by omega) j)]
  rw [p_M (m := 30) hr (by decide), Option.bind_some, n_M (m := 30) hr (by rfl) (by decide) (fun j => by rw [up_ne (by omega)]; exact hz _ (by omega) j), p_M (m := 31) hr (by decide), Option.bind_some, n_M (m := 31) hr (by rfl) (by decide) (fun j => by rw [up_ne (by omega)]; exact hz _ (by omega) j), p_M (m := 32) hr (by decide), Option.bind_some, n_M (m := 32) hr (by rfl) (by decide) (fun j => by rw [up_ne (by omega)]; exact hz _ (by omega) j), p_M (m := 33) hr (by decide), Option.bind_some, n_M (m := 33) hr (by rfl) (by decide) (fun j => by rw [up_ne (by omega)]; exact hz _ (by omega) j), p_M (m := 34) hr (by decide), Option.bind_some, n_M (m := 34) hr (by rfl) (by decide) (fun j => by rw [up_ne (by omega)]; exact hz _ (by omega) j), p_M (m := 35) hr (by decide), Option.bind_some, n_M (m := 35) hr (by rfl) (by decide) (fun j => by rw [up_ne (by omega)]; exact hz _ (by omega) j)]
  rw [p_M (m := 36) hr (by decide), Option.bind_some, n_M (m := 36) hr (by rfl) (by decide) (fun j => by rw [up_ne (by omega)]; exact hz _ (by omega) j), p_M (m := 37) hr (by decide), Option.bind_some, n_M (m := 37) hr (by rfl) (by decide) (fun j => by rw [up_ne (by omega)]; exact hz _ (by omega) j), p_M (m := 38) hr (by decide), Option.bind_some, n_M (m := 38) hr (by rfl) (by decide) (fun j => by rw [up_ne (by omega)]; exact hz _ (by omega) j), p_M (m := 39) hr (by decide), Option.bind_some, n_M (m := 39) hr (by rfl) (by decide) (fun j => by rw [up_ne (by omega)]; exact hz _ (by omega) j), p_M (m := 40) hr (by decide), Option.bind_some, n_M (m := 40) hr (by rfl) (by decide) (fun j => by rw [up_ne (by omega)]; exact hz _ (by omega) j), p_M (m := 41) hr (by decide), Option.bind_some, n_M (m := 41) hr (by rfl) (by decide) (fun j => by rw [up_ne (by omega)]; exact hz _ (by omega) j)]
  rw [p_M (m := 42) hr (by decide), Option.bind_some, n_M (m := 42) hr (by rfl) (by decide) (fun j => by rw [up_ne (by omega)]; exact hz _ (by omega) j), p_M (m := 43) hr (by decide), Option.bind_some, n_M (m := 43) hr (by rfl) (by decide) (fun j => by rw [up_ne (by omega)]; exact hz _ (by omega) j), p_M (m := 44) hr (by decide), Option.bind_some, n_M (m := 44) hr (by rfl) (by decide) (fun j => by rw [up_ne (by omega)]; exact hz _ (by omega) j), p_M (m := 45) hr (by decide), Option.bind_some, n_M (m := 45) hr (by rfl) (by decide) (fun j => by rw [up_ne (by omega)]; exact hz _ (by omega) j), p_M (m := 46) hr (by decide), Option.bind_some, n_M (m := 46) hr (by rfl) (by decide) (fun j => by rw [up_ne (by omega)]; exact hz _ (by omega) j), p_M (m := 47) hr (by decide), Option.bind_some, n_M (m := 47) hr (by rfl) (by decide) (fun j => by rw [up_ne (by omega)]; exact hz _ (by omega) j)]
  rw [p_M (m := 48) hr (by decide), Option.bind_some]
  rfl
