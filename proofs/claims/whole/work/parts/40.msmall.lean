/-! ===== the model: small answers ===== -/
section MSMALL
variable {M : List CT} {h : HP} {i : Int}
theorem m_thrown : Ok 174 [vR 50] (LL M) h (rt (some (vI (h 50 0))) (LL M) h) := by
  refine ok_body B_X9_thrown rfl (fun X hX => ?_)
  refine hX 6 [] 0 _ _ _ _ _ _ ?_
  exact rt_mk rfl rfl
theorem m_errorCode : Ok 209 [vR 50] (LL M) h (rt (some (vI (h 50 23))) (LL M) (up h 50 0 0)) := by
  refine ok_body B_X9_errorCode rfl (fun X hX => ?_)
  refine hX 10 [] 0 _ _ _ _ _ _ ?_
  exact rt_mk (congrArg (fun z => some (vI z)) (up_ne (show (23 : Nat) ≠ 0 by decide))) rfl
theorem m_errorPosition : Ok 210 [vR 50] (LL M) h (rt (some (vI (h 50 24))) (LL M) (up h 50 0 0)) := by
  refine ok_body B_X9_errorPosition rfl (fun X hX => ?_)
  refine hX 10 [] 0 _ _ _ _ _ _ ?_
  exact rt_mk (congrArg (fun z => some (vI z)) (up_ne (show (24 : Nat) ≠ 0 by decide))) rfl
theorem m_failed (h0 : 0 ≤ h 50 40 ∧ h 50 40 ≤ 100) (h1 : 0 ≤ h 50 41 ∧ h 50 41 ≤ 100) : Ok 234 [vR 50] (LL M) h (rt (some (vI (if h 50 41 = 0 then 0 else 10 * h 50 40 + h 50 41))) (LL M) h) := by
  refine ok_body B_X9_failed rfl (fun X hX => ?_)
  refine hX 20 [] 0 _ _ _ _ _ _ ?_
  refine And.intro (fun c4 => ?_) (fun c4 => ?_)
  · have c4 : h 50 41 ≠ 0 := c4
    refine And.intro (show inR (10 * h 50 40) from ⟨by omega, by omega⟩) ?_
    refine And.intro (show inR (10 * h 50 40 + h 50 41) from ⟨by omega, by omega⟩) ?_
    exact rt_mk (by rw [if_neg c4]) rfl
  · have c4 : h 50 41 = 0 := c4
    exact rt_mk (by rw [if_pos c4]) rfl
end MSMALL
