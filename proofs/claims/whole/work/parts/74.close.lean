/-! ===== what the model closes ===== -/
theorem jdz0 : jd_z 0 = 0 := by decide +kernel
theorem jdz1 : jd_z 1 = 1 := by decide +kernel
section MK
variable {t d rt : Nat} {I : Nat → Nat → Int} {lv w h n : Nat}
theorem s_closesHoles (k2 : b01 I 402 36) : f_X12_closesHoles 369 (mm t d rt I) = some (0, mm t d rt (fl I 408 36 (I 402))) := by
  unfold f_X12_closesHoles
  refine jlp2_seq0 (fun i => (i : Int)) (fun i => mm t d rt (fl I 408 i (I 402))) 36 _ rfl (by rw [fl_0]) (fun i hi rec => ?_) (fun rec => ?_) (jfuel_n (by decide))
  · have e : fl I 408 i (I 402) 402 i = I 402 i := fl_ne (by decide)
    have ez : jd_z (I 402 i) = I 402 i := by
      rcases k2 i hi with q | q
      · rw [q]; exact jdz0
      · rw [q]; exact jdz1
    simp (disch := omega) only [Option.bind_some, jbd_s, jjq, jz0, jz1, wr_id, Int.toNat_natCast, Int.reduceToNat, tn_lk, tn_kl, if_true, if_false, Bool.false_eq_true, reduceCtorEq, ↓reduceIte, if_pos, if_neg, FM, e, ez]
    rw [fl_s]
    rfl
  · simp (disch := omega) only [Option.bind_some, jbd_s, jjq, jz0, jz1, wr_id, Int.toNat_natCast, Int.reduceToNat, tn_lk, tn_kl, if_true, if_false, Bool.false_eq_true, reduceCtorEq, ↓reduceIte, if_pos, if_neg]
end MK
