/-! ===== what the model closes ===== -/
theorem jdz0 : jd_z 0 = 0 := by decide +kernel
theorem jdz1 : jd_z 1 = 1 := by decide +kernel
section MK
variable {t d rt : Nat} {I : Nat → Nat → Int} {lv w h n : Nat}
theorem s_closesHoles (k2 : b01 I 402 36) : f_X12_closesHoles 369 (mm t d rt I) = some (0, mm t d rt (fl I 408 36 (I 402))) := by
  unfold f_X12_closesHoles
  refine jlp2_seq0 (fun i => (i : Int)) (fun i => mm t d rt (fl I 408 i (I 402))) 36 _ rfl (by rw [fl_0]) (fun i hi rec => ?_) (fun rec => ?_) (jfuel_n (by decide))
  · have e : fl I 408 i (I 402) 402 i = I 402 i := fl_ne (by decide)
    have ez : jd_z (I 402 i) = I 402 i := by
      rcases k2 i hi with q | q
      · rw [q]; exact jdz0
      · rw [q]; exact jdz1
    simp (disch := omega) only [Option.bind_some, jbd_s, jjq, jz0, jz1, wr_id, Int.toNat_natCast, Int.reduceToNat, tn_lk, tn_kl, if_true, if_false, Bool.false_eq_true, reduceCtorEq, ↓reduceIte, if_pos, if_neg, FM, e, ez]
    rw [fl_s]
    rfl
  · simp (disch := omega) only [Option.bind_some, jbd_s, jjq, jz0, jz1, wr_id, Int.toNat_natCast, Int.reduceToNat, tn_lk, tn_kl, if_true, if_false, Bool.false_eq_true, reduceCtorEq, ↓reduceIte, if_pos, if_neg]
/-- closed: a hole, or a stone lies there -/
def tkF (w : Nat) (I : Nat → Nat → Int) : Nat → Int := fun x => if I 402 x = 0 then (if (rCpl w (I 401) (x : Int)).isSome then 1 else 0) else 1
theorem mCfg_fl {a m : Nat} {g : Nat → Int} (ha : a ≠ 369 ∧ a ≠ 377 ∧ a ≠ 378) (c : mCfg I lv w h n) : mCfg (fl I a m g) lv w h n := by
  obtain ⟨c1, c2, c3, c4, c⟩ := c
  exact ⟨by rw [fl_ne (Ne.symm ha.1)]; exact c1, c2, by rw [fl_ne (Ne.symm ha.2.1)]; exact c3, by rw [fl_ne (Ne.symm ha.2.2)]; exact c4, c⟩
theorem fl_row {a m x : Nat} {g : Nat → Int} (ha : x ≠ a) : fl I a m g x = I x := funext (fun _ => fl_ne ha)
theorem s_closesTaken (c : mCfg I lv w h n) (hv : vRow (I 401)) (k2 : b01 I 402 36) : f_X12_closesTaken 369 (mm t d rt I) = some (0, mm t d rt (fl I 408 36 (tkF w I))) := by
  unfold f_X12_closesTaken
  refine jlp2_seq0 (fun i => (i : Int)) (fun i => mm t d rt (fl I 408 i (tkF w I))) 36 _ rfl (by rw [fl_0]) (fun i hi rec => ?_) (fun rec => ?_) (jfuel_n (by decide))
  · have e : fl I 408 i (tkF w I) 402 i = I 402 i := fl_ne (by decide)
    have er : fl I 408 i (tkF w I) 401 = I 401 := fl_row (by decide)
    have hc := s_coupleAt (t := t) (d := d) (rt := rt) (mCfg_fl (g := tkF w I) (m := i) (a := 408) (by decide) c) (by rw [er]; exact hv) (c := (i : Int)) (by omega)
    rw [er] at hc
    show _ = rec ((i + 1 : Nat) : Int) (mm t d rt (fl I 408 (i + 1) (tkF w I)))
    rw [← fl_s, show ((i + 1 : Nat) : Int) = (i : Int) + 1 by omega]
    have hT : tkF w I i = if I 402 i = 0 then (if (rCpl w (I 401) (i : Int)).isSome then 1 else 0) else 1 := rfl
    rcases k2 i hi with q | q
    · rw [if_pos q] at hT
      cases ho : rCpl w (I 401) (i : Int) with
      | none =>
        rw [ho] at hT hc
        have hT' : tkF w I i = 0 := hT
        have hc' : f_X12_coupleAt 369 (i : Int) (mm t d rt (fl I 408 i (tkF w I))) = some (-2, mm t d rt (fl I 408 i (tkF w I))) := hc
        rw [hT']
        simp (disch := omega) only [Option.bind_some, jbd_s, jjq, jz0, jz1, wr_id, Int.toNat_natCast, Int.reduceToNat, tn_lk, tn_kl, if_true, if_false, Bool.false_eq_true, reduceCtorEq, ↓reduceIte, if_pos, if_neg, FM, e, q, hc', jdz0]
      | some k =>
        rw [ho] at hT hc
        have hT' : tkF w I i = 1 := hT
        have hc' : f_X12_coupleAt 369 (i : Int) (mm t d rt (fl I 408 i (tkF w I))) = some ((k : Int), mm t d rt (fl I 408 i (tkF w I))) := hc
        have hk : k < 18 := by
          have key : ∀ (p : Nat → Bool) (m j k : Nat), fnd p m j = some k → k < j + m := by
            intro p m
            induction m with
            | zero => intro j k hh; cases hh
            | succ m ih =>
              intro j k hh
              unfold fnd at hh
              split at hh
              · injection hh with hh; omega
              · have := ih (j + 1) k hh; omega
          have := key _ 18 0 k ho
          omega
        rw [hT']
        simp (disch := omega) only [Option.bind_some, jbd_s, jjq, jz0, jz1, wr_id, Int.toNat_natCast, Int.reduceToNat, tn_lk, tn_kl, if_true, if_false, Bool.false_eq_true, reduceCtorEq, ↓reduceIte, if_pos, if_neg, FM, e, q, hc', jdz1]
    · rw [if_neg (by omega)] at hT
      rw [hT]
      simp (disch := omega) only [Option.bind_some, jbd_s, jjq, jz0, jz1, wr_id, Int.toNat_natCast, Int.reduceToNat, tn_lk, tn_kl, if_true, if_false, Bool.false_eq_true, reduceCtorEq, ↓reduceIte, if_pos, if_neg, FM, e, q, jdz1]
  · simp (disch := omega) only [Option.bind_some, jbd_s, jjq, jz0, jz1, wr_id, Int.toNat_natCast, Int.reduceToNat, tn_lk, tn_kl, if_true, if_false, Bool.false_eq_true, reduceCtorEq, ↓reduceIte, if_pos, if_neg]
end MK
