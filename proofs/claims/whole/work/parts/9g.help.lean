/-! ===== the law's helpers: the class's call, its exceptions as numbers (by mk9g.py) ===== -/
/-- what lies behind the model: out, outD -/
def MO : List CT := [.inr (1, 1), .inr (4, 1)]
section HELP
variable {h : HP}
theorem LW_append {post R : Post} {a0 a1 a2 a3 a4 : Int} (H : Ok 126 [vR 1, vI a0, vI a1, vI a2, vI a3, vI a4] (LL MO) h post) (h1 : ∀ o Λ' g, post o Λ' g → Λ' = LL MO ∧ ((∃ v, o = .inl (some (vI v)) ∧ R (.inl (some (vI 0))) (LL MO) (up g 77 0 v)) ∨ (o = .inr 1 ∧ R (.inl (some (vI 1))) (LL MO) g))) : Ok 282 [vR 1, vI a0, vI a1, vI a2, vI a3, vI a4, vR 77] (LL MO) h R := by
  refine ok_body B_L_append rfl (fun X hX => ?_)
  refine hX 30 [] 0 _ _ _ _ _ _ ?_
  refine Ok_mono (fun o Λ' g hp => ?_) H
  obtain ⟨e1, hh⟩ := h1 o Λ' g hp
  subst e1
  rcases hh with ⟨v, rfl, hR⟩ | ⟨rfl, hR⟩
  · refine And.intro ⟨by decide, by decide⟩ ?_
    exact hR
  · exact hR
theorem LW_truncate {post R : Post} {a0 : Int} (H : Ok 127 [vR 1, vI a0] (LL MO) h post) (h1 : ∀ o Λ' g, post o Λ' g → Λ' = LL MO ∧ ((∃ v, o = .inl (some (vI v)) ∧ R (.inl (some (vI 0))) (LL MO) (up g 77 0 v)) ∨ (o = .inr 2 ∧ R (.inl (some (vI 1))) (LL MO) g))) : Ok 283 [vR 1, vI a0, vR 77] (LL MO) h R := by
  refine ok_body B_L_truncate rfl (fun X hX => ?_)
  refine hX 30 [] 0 _ _ _ _ _ _ ?_
  refine Ok_mono (fun o Λ' g hp => ?_) H
  obtain ⟨e1, hh⟩ := h1 o Λ' g hp
  subst e1
  rcases hh with ⟨v, rfl, hR⟩ | ⟨rfl, hR⟩
  · refine And.intro ⟨by decide, by decide⟩ ?_
    exact hR
  · exact hR
theorem LW_load {post R : Post} (H : Ok 128 [vR 1] (LL MO) h post) (h1 : ∀ o Λ' g, post o Λ' g → Λ' = LL MO ∧ ((∃ v, o = .inl (some (vI v)) ∧ R (.inl (some (vI 0))) (LL MO) (up g 77 0 v)) ∨ (o = .inr 3 ∧ R (.inl (some (vI 1))) (LL MO) g))) : Ok 284 [vR 1, vR 77] (LL MO) h R := by
  refine ok_body B_L_load rfl (fun X hX => ?_)
  refine hX 30 [] 0 _ _ _ _ _ _ ?_
  refine Ok_mono (fun o Λ' g hp => ?_) H
  obtain ⟨e1, hh⟩ := h1 o Λ' g hp
  subst e1
  rcases hh with ⟨v, rfl, hR⟩ | ⟨rfl, hR⟩
  · refine And.intro ⟨by decide, by decide⟩ ?_
    exact hR
  · exact hR
theorem LW_find {post R : Post} {a0 : Int} (H : Ok 131 [vR 1, vI a0] (LL MO) h post) (h1 : ∀ o Λ' g, post o Λ' g → Λ' = LL MO ∧ ((∃ v, o = .inl (some (vI v)) ∧ R (.inl (some (vI 0))) (LL MO) (up g 77 0 v)) ∨ (o = .inr 3 ∧ R (.inl (some (vI 1))) (LL MO) g) ∨ (o = .inr 4 ∧ R (.inl (some (vI 2))) (LL MO) g))) : Ok 285 [vR 1, vI a0, vR 77] (LL MO) h R := by
  refine ok_body B_L_find rfl (fun X hX => ?_)
  refine hX 30 [] 0 _ _ _ _ _ _ ?_
  refine Ok_mono (fun o Λ' g hp => ?_) H
  obtain ⟨e1, hh⟩ := h1 o Λ' g hp
  subst e1
  rcases hh with ⟨v, rfl, hR⟩ | ⟨rfl, hR⟩ | ⟨rfl, hR⟩
  · refine And.intro ⟨by decide, by decide⟩ ?_
    exact hR
  · exact hR
  · exact hR
theorem LW_count {post R : Post} {a0 : Int} (H : Ok 132 [vR 1, vI a0] (LL MO) h post) (h1 : ∀ o Λ' g, post o Λ' g → Λ' = LL MO ∧ ((∃ v, o = .inl (some (vI v)) ∧ R (.inl (some (vI 0))) (LL MO) (up g 77 0 v)) ∨ (o = .inr 3 ∧ R (.inl (some (vI 1))) (LL MO) g))) : Ok 286 [vR 1, vI a0, vR 77] (LL MO) h R := by
  refine ok_body B_L_count rfl (fun X hX => ?_)
  refine hX 30 [] 0 _ _ _ _ _ _ ?_
  refine Ok_mono (fun o Λ' g hp => ?_) H
  obtain ⟨e1, hh⟩ := h1 o Λ' g hp
  subst e1
  rcases hh with ⟨v, rfl, hR⟩ | ⟨rfl, hR⟩
  · refine And.intro ⟨by decide, by decide⟩ ?_
    exact hR
  · exact hR
theorem LW_value {post R : Post} {a0 a1 : Int} (H : Ok 133 [vR 1, vI a0, vI a1] (LL MO) h post) (h1 : ∀ o Λ' g, post o Λ' g → Λ' = LL MO ∧ ((∃ v, o = .inl (some (vI v)) ∧ R (.inl (some (vI 0))) (LL MO) (up g 77 0 v)) ∨ (o = .inr 2 ∧ R (.inl (some (vI 1))) (LL MO) g))) : Ok 287 [vR 1, vI a0, vI a1, vR 77] (LL MO) h R := by
  refine ok_body B_L_value rfl (fun X hX => ?_)
  refine hX 30 [] 0 _ _ _ _ _ _ ?_
  refine Ok_mono (fun o Λ' g hp => ?_) H
  obtain ⟨e1, hh⟩ := h1 o Λ' g hp
  subst e1
  rcases hh with ⟨v, rfl, hR⟩ | ⟨rfl, hR⟩
  · refine And.intro ⟨by decide, by decide⟩ ?_
    exact hR
  · exact hR
theorem LW_isGraded {post R : Post} {a0 : Int} (H : Ok 134 [vR 1, vI a0] (LL MO) h post) (h1 : ∀ o Λ' g, post o Λ' g → Λ' = LL MO ∧ ((∃ v, o = .inl (some (vI v)) ∧ R (.inl (some (vI 0))) (LL MO) (up g 77 0 (if v = 0 then 0 else 1))) ∨ (o = .inr 2 ∧ R (.inl (some (vI 1))) (LL MO) g))) : Ok 288 [vR 1, vI a0, vR 77] (LL MO) h R := by
  refine ok_body B_L_isGraded rfl (fun X hX => ?_)
  refine hX 30 [] 0 _ _ _ _ _ _ ?_
  refine Ok_mono (fun o Λ' g hp => ?_) H
  obtain ⟨e1, hh⟩ := h1 o Λ' g hp
  subst e1
  rcases hh with ⟨v, rfl, hR⟩ | ⟨rfl, hR⟩
  · refine And.intro (fun c => ?_) (fun c => ?_)
    · refine And.intro ⟨by decide, by decide⟩ ?_
      rw [if_pos c] at hR
      exact hR
    · refine And.intro ⟨by decide, by decide⟩ ?_
      rw [if_neg c] at hR
      exact hR
  · exact hR
theorem LW_fits {post R : Post} {a0 a1 : Int} (H : Ok 135 [vR 1, vI a0, vI a1] (LL MO) h post) (h1 : ∀ o Λ' g, post o Λ' g → Λ' = LL MO ∧ ((∃ v, o = .inl (some (vI v)) ∧ R (.inl (some (vI 0))) (LL MO) (up g 77 0 v)) ∨ (o = .inr 2 ∧ R (.inl (some (vI 1))) (LL MO) g) ∨ (o = .inr 3 ∧ R (.inl (some (vI 2))) (LL MO) g))) : Ok 289 [vR 1, vI a0, vI a1, vR 77] (LL MO) h R := by
  refine ok_body B_L_fits rfl (fun X hX => ?_)
  refine hX 30 [] 0 _ _ _ _ _ _ ?_
  refine Ok_mono (fun o Λ' g hp => ?_) H
  obtain ⟨e1, hh⟩ := h1 o Λ' g hp
  subst e1
  rcases hh with ⟨v, rfl, hR⟩ | ⟨rfl, hR⟩ | ⟨rfl, hR⟩
  · refine And.intro ⟨by decide, by decide⟩ ?_
    exact hR
  · exact hR
  · exact hR
theorem LW_chart {post R : Post} {a0 a1 : Int} (H : Ok 136 [vR 1, vI a0, vI a1] (LL MO) h post) (h1 : ∀ o Λ' g, post o Λ' g → Λ' = LL MO ∧ ((∃ v, o = .inl (some (vI v)) ∧ R (.inl (some (vI 0))) (LL MO) (up g 77 0 v)) ∨ (o = .inr 2 ∧ R (.inl (some (vI 1))) (LL MO) g) ∨ (o = .inr 3 ∧ R (.inl (some (vI 2))) (LL MO) g))) : Ok 290 [vR 1, vI a0, vI a1, vR 77] (LL MO) h R := by
  refine ok_body B_L_chart rfl (fun X hX => ?_)
  refine hX 30 [] 0 _ _ _ _ _ _ ?_
  refine Ok_mono (fun o Λ' g hp => ?_) H
  obtain ⟨e1, hh⟩ := h1 o Λ' g hp
  subst e1
  rcases hh with ⟨v, rfl, hR⟩ | ⟨rfl, hR⟩ | ⟨rfl, hR⟩
  · refine And.intro ⟨by decide, by decide⟩ ?_
    exact hR
  · exact hR
  · exact hR
theorem LW_chartRow {post R : Post} {a0 a1 a2 : Int} (H : Ok 137 [vR 1, vI a0, vI a1, vI a2] (LL MO) h post) (h1 : ∀ o Λ' g, post o Λ' g → Λ' = LL MO ∧ ((∃ v, o = .inl (some (vI v)) ∧ R (.inl (some (vI 0))) (LL MO) (up g 77 0 v)) ∨ (o = .inr 2 ∧ R (.inl (some (vI 1))) (LL MO) g))) : Ok 291 [vR 1, vI a0, vI a1, vI a2, vR 77] (LL MO) h R := by
  refine ok_body B_L_chartRow rfl (fun X hX => ?_)
  refine hX 30 [] 0 _ _ _ _ _ _ ?_
  refine Ok_mono (fun o Λ' g hp => ?_) H
  obtain ⟨e1, hh⟩ := h1 o Λ' g hp
  subst e1
  rcases hh with ⟨v, rfl, hR⟩ | ⟨rfl, hR⟩
  · refine And.intro ⟨by decide, by decide⟩ ?_
    exact hR
  · exact hR
theorem LW_part {post R : Post} {a0 a1 a2 : Int} (H : Ok 138 [vR 1, vI a0, vI a1, vI a2] (LL MO) h post) (h1 : ∀ o Λ' g, post o Λ' g → Λ' = LL MO ∧ ((∃ v, o = .inl (some (vI v)) ∧ R (.inl (some (vI 0))) (LL MO) (up g 77 0 v)) ∨ (o = .inr 2 ∧ R (.inl (some (vI 1))) (LL MO) g) ∨ (o = .inr 3 ∧ R (.inl (some (vI 2))) (LL MO) g))) : Ok 292 [vR 1, vI a0, vI a1, vI a2, vR 77] (LL MO) h R := by
  refine ok_body B_L_part rfl (fun X hX => ?_)
  refine hX 30 [] 0 _ _ _ _ _ _ ?_
  refine Ok_mono (fun o Λ' g hp => ?_) H
  obtain ⟨e1, hh⟩ := h1 o Λ' g hp
  subst e1
  rcases hh with ⟨v, rfl, hR⟩ | ⟨rfl, hR⟩ | ⟨rfl, hR⟩
  · refine And.intro ⟨by decide, by decide⟩ ?_
    exact hR
  · exact hR
  · exact hR
theorem LW_parts {post R : Post} {a0 : Int} (H : Ok 139 [vR 1, vI a0] (LL MO) h post) (h1 : ∀ o Λ' g, post o Λ' g → Λ' = LL MO ∧ ((∃ v, o = .inl (some (vI v)) ∧ R (.inl (some (vI 0))) (LL MO) (up g 77 0 v)) ∨ (o = .inr 2 ∧ R (.inl (some (vI 1))) (LL MO) g))) : Ok 293 [vR 1, vI a0, vR 77] (LL MO) h R := by
  refine ok_body B_L_parts rfl (fun X hX => ?_)
  refine hX 30 [] 0 _ _ _ _ _ _ ?_
  refine Ok_mono (fun o Λ' g hp => ?_) H
  obtain ⟨e1, hh⟩ := h1 o Λ' g hp
  subst e1
  rcases hh with ⟨v, rfl, hR⟩ | ⟨rfl, hR⟩
  · refine And.intro ⟨by decide, by decide⟩ ?_
    exact hR
  · exact hR
theorem LW_failure {post R : Post} {a0 a1 : Int} (H : Ok 140 [vR 1, vI a0, vI a1] (LL MO) h post) (h1 : ∀ o Λ' g, post o Λ' g → Λ' = LL MO ∧ ((∃ v, o = .inl (some (vI v)) ∧ R (.inl (some (vI 0))) (LL MO) (up g 77 0 v)) ∨ (o = .inr 2 ∧ R (.inl (some (vI 1))) (LL MO) g))) : Ok 294 [vR 1, vI a0, vI a1, vR 77] (LL MO) h R := by
  refine ok_body B_L_failure rfl (fun X hX => ?_)
  refine hX 30 [] 0 _ _ _ _ _ _ ?_
  refine Ok_mono (fun o Λ' g hp => ?_) H
  obtain ⟨e1, hh⟩ := h1 o Λ' g hp
  subst e1
  rcases hh with ⟨v, rfl, hR⟩ | ⟨rfl, hR⟩
  · refine And.intro ⟨by decide, by decide⟩ ?_
    exact hR
  · exact hR
theorem LW_rows {post R : Post} {a0 a1 : Int} (H : Ok 141 [vR 1, vI a0, vI a1] (LL MO) h post) (h1 : ∀ o Λ' g, post o Λ' g → Λ' = LL MO ∧ ((∃ v, o = .inl (some (vI v)) ∧ R (.inl (some (vI 0))) (LL MO) (up g 77 0 v)) ∨ (o = .inr 2 ∧ R (.inl (some (vI 1))) (LL MO) g))) : Ok 295 [vR 1, vI a0, vI a1, vR 77] (LL MO) h R := by
  refine ok_body B_L_rows rfl (fun X hX => ?_)
  refine hX 30 [] 0 _ _ _ _ _ _ ?_
  refine Ok_mono (fun o Λ' g hp => ?_) H
  obtain ⟨e1, hh⟩ := h1 o Λ' g hp
  subst e1
  rcases hh with ⟨v, rfl, hR⟩ | ⟨rfl, hR⟩
  · refine And.intro ⟨by decide, by decide⟩ ?_
    exact hR
  · exact hR
theorem LW_partRows {post R : Post} {a0 a1 a2 : Int} (H : Ok 142 [vR 1, vI a0, vI a1, vI a2] (LL MO) h post) (h1 : ∀ o Λ' g, post o Λ' g → Λ' = LL MO ∧ ((∃ v, o = .inl (some (vI v)) ∧ R (.inl (some (vI 0))) (LL MO) (up g 77 0 v)) ∨ (o = .inr 2 ∧ R (.inl (some (vI 1))) (LL MO) g) ∨ (o = .inr 1 ∧ R (.inl (some (vI 2))) (LL MO) g))) : Ok 296 [vR 1, vI a0, vI a1, vI a2, vR 77] (LL MO) h R := by
  refine ok_body B_L_partRows rfl (fun X hX => ?_)
  refine hX 30 [] 0 _ _ _ _ _ _ ?_
  refine Ok_mono (fun o Λ' g hp => ?_) H
  obtain ⟨e1, hh⟩ := h1 o Λ' g hp
  subst e1
  rcases hh with ⟨v, rfl, hR⟩ | ⟨rfl, hR⟩ | ⟨rfl, hR⟩
  · refine And.intro ⟨by decide, by decide⟩ ?_
    exact hR
  · exact hR
  · exact hR
theorem LW_stitches {post R : Post} {a0 a1 a2 : Int} (H : Ok 143 [vR 1, vI a0, vI a1, vI a2] (LL MO) h post) (h1 : ∀ o Λ' g, post o Λ' g → Λ' = LL MO ∧ ((∃ v, o = .inl (some (vI v)) ∧ R (.inl (some (vI 0))) (LL MO) (up g 77 0 v)) ∨ (o = .inr 2 ∧ R (.inl (some (vI 1))) (LL MO) g))) : Ok 297 [vR 1, vI a0, vI a1, vI a2, vR 77] (LL MO) h R := by
  refine ok_body B_L_stitches rfl (fun X hX => ?_)
  refine hX 30 [] 0 _ _ _ _ _ _ ?_
  refine Ok_mono (fun o Λ' g hp => ?_) H
  obtain ⟨e1, hh⟩ := h1 o Λ' g hp
  subst e1
  rcases hh with ⟨v, rfl, hR⟩ | ⟨rfl, hR⟩
  · refine And.intro ⟨by decide, by decide⟩ ?_
    exact hR
  · exact hR
theorem LW_partAt {post R : Post} {a0 a1 a2 : Int} (H : Ok 144 [vR 1, vI a0, vI a1, vI a2] (LL MO) h post) (h1 : ∀ o Λ' g, post o Λ' g → Λ' = LL MO ∧ ((∃ v, o = .inl (some (vI v)) ∧ R (.inl (some (vI 0))) (LL MO) (up g 77 0 v)) ∨ (o = .inr 2 ∧ R (.inl (some (vI 1))) (LL MO) g))) : Ok 298 [vR 1, vI a0, vI a1, vI a2, vR 77] (LL MO) h R := by
  refine ok_body B_L_partAt rfl (fun X hX => ?_)
  refine hX 30 [] 0 _ _ _ _ _ _ ?_
  refine Ok_mono (fun o Λ' g hp => ?_) H
  obtain ⟨e1, hh⟩ := h1 o Λ' g hp
  subst e1
  rcases hh with ⟨v, rfl, hR⟩ | ⟨rfl, hR⟩
  · refine And.intro ⟨by decide, by decide⟩ ?_
    exact hR
  · exact hR
theorem LW_extreme {post R : Post} {a0 a1 a2 : Int} (H : Ok 145 [vR 1, vI a0, vI a1, vI a2] (LL MO) h post) (h1 : ∀ o Λ' g, post o Λ' g → Λ' = LL MO ∧ ((∃ v, o = .inl (some (vI v)) ∧ R (.inl (some (vI 0))) (LL MO) (up g 77 0 v)) ∨ (o = .inr 2 ∧ R (.inl (some (vI 1))) (LL MO) g))) : Ok 299 [vR 1, vI a0, vI a1, vI a2, vR 77] (LL MO) h R := by
  refine ok_body B_L_extreme rfl (fun X hX => ?_)
  refine hX 30 [] 0 _ _ _ _ _ _ ?_
  refine Ok_mono (fun o Λ' g hp => ?_) H
  obtain ⟨e1, hh⟩ := h1 o Λ' g hp
  subst e1
  rcases hh with ⟨v, rfl, hR⟩ | ⟨rfl, hR⟩
  · refine And.intro ⟨by decide, by decide⟩ ?_
    exact hR
  · exact hR
theorem LW_shaping {post R : Post} {a0 a1 a2 a3 : Int} (H : Ok 146 [vR 1, vI a0, vI a1, vI a2, vI a3] (LL MO) h post) (h1 : ∀ o Λ' g, post o Λ' g → Λ' = LL MO ∧ ((∃ v, o = .inl (some (vI v)) ∧ R (.inl (some (vI 0))) (LL MO) (up g 77 0 v)) ∨ (o = .inr 2 ∧ R (.inl (some (vI 1))) (LL MO) g) ∨ (o = .inr 1 ∧ R (.inl (some (vI 2))) (LL MO) g) ∨ (o = .inr 4 ∧ R (.inl (some (vI 3))) (LL MO) g))) : Ok 300 [vR 1, vI a0, vI a1, vI a2, vI a3, vR 77] (LL MO) h R := by
  refine ok_body B_L_shaping rfl (fun X hX => ?_)
  refine hX 30 [] 0 _ _ _ _ _ _ ?_
  refine Ok_mono (fun o Λ' g hp => ?_) H
  obtain ⟨e1, hh⟩ := h1 o Λ' g hp
  subst e1
  rcases hh with ⟨v, rfl, hR⟩ | ⟨rfl, hR⟩ | ⟨rfl, hR⟩ | ⟨rfl, hR⟩
  · refine And.intro ⟨by decide, by decide⟩ ?_
    exact hR
  · exact hR
  · exact hR
  · exact hR
theorem LW_width {post R : Post} {a0 a1 a2 : Int} (H : Ok 147 [vR 1, vI a0, vI a1, vI a2] (LL MO) h post) (h1 : ∀ o Λ' g, post o Λ' g → Λ' = LL MO ∧ ((∃ v, o = .inl (some (vF v)) ∧ vf_n64 (FP.f2d v) ∧ R (.inl (some (vI 0))) (LL MO) (up g 78 0 (((FP.f2d v).toNat : Nat) : Int))) ∨ (o = .inr 2 ∧ R (.inl (some (vI 1))) (LL MO) g))) : Ok 301 [vR 1, vI a0, vI a1, vI a2, vR 78] (LL MO) h R := by
  refine ok_body B_L_width rfl (fun X hX => ?_)
  refine hX 30 [] 0 _ _ _ _ _ _ ?_
  refine Ok_mono (fun o Λ' g hp => ?_) H
  obtain ⟨e1, hh⟩ := h1 o Λ' g hp
  subst e1
  rcases hh with ⟨v, rfl, fv, hR⟩ | ⟨rfl, hR⟩
  · refine And.intro fv ?_
    refine And.intro ⟨by decide, by decide⟩ ?_
    exact hR
  · exact hR
theorem LW_mean {post R : Post} {a0 a1 : Int} (H : Ok 148 [vR 1, vI a0, vI a1] (LL MO) h post) (h1 : ∀ o Λ' g, post o Λ' g → Λ' = LL MO ∧ ((∃ v, o = .inl (some (vD v)) ∧ R (.inl (some (vI 0))) (LL MO) (up g 78 0 ((v.toNat : Nat) : Int))) ∨ (o = .inr 2 ∧ R (.inl (some (vI 1))) (LL MO) g))) : Ok 302 [vR 1, vI a0, vI a1, vR 78] (LL MO) h R := by
  refine ok_body B_L_mean rfl (fun X hX => ?_)
  refine hX 30 [] 0 _ _ _ _ _ _ ?_
  refine Ok_mono (fun o Λ' g hp => ?_) H
  obtain ⟨e1, hh⟩ := h1 o Λ' g hp
  subst e1
  rcases hh with ⟨v, rfl, hR⟩ | ⟨rfl, hR⟩
  · refine And.intro ⟨by decide, by decide⟩ ?_
    exact hR
  · exact hR
theorem LW_need {post R : Post} {a0 a1 a2 : Int} (H : Ok 149 [vR 1, vI a0, vI a1, vI a2] (LL MO) h post) (h1 : ∀ o Λ' g, post o Λ' g → Λ' = LL MO ∧ ((∃ v, o = .inl (some (vL v)) ∧ R (.inl (some (vI 0))) (LL MO) (up g 77 0 v)) ∨ (o = .inr 2 ∧ R (.inl (some (vI 1))) (LL MO) g) ∨ (o = .inr 3 ∧ R (.inl (some (vI 2))) (LL MO) g))) : Ok 303 [vR 1, vI a0, vI a1, vI a2, vR 77] (LL MO) h R := by
  refine ok_body B_L_need rfl (fun X hX => ?_)
  refine hX 30 [] 0 _ _ _ _ _ _ ?_
  refine Ok_mono (fun o Λ' g hp => ?_) H
  obtain ⟨e1, hh⟩ := h1 o Λ' g hp
  subst e1
  rcases hh with ⟨v, rfl, hR⟩ | ⟨rfl, hR⟩ | ⟨rfl, hR⟩
  · refine And.intro ⟨by decide, by decide⟩ ?_
    exact hR
  · exact hR
  · exact hR
theorem LW_lot {post R : Post} {a0 a1 : Int} (H : Ok 150 [vR 1, vI a0, vI a1] (LL MO) h post) (h1 : ∀ o Λ' g, post o Λ' g → Λ' = LL MO ∧ ((∃ v, o = .inl (some (vI v)) ∧ R (.inl (some (vI 0))) (LL MO) (up g 77 0 v)) ∨ (o = .inr 2 ∧ R (.inl (some (vI 1))) (LL MO) g) ∨ (o = .inr 3 ∧ R (.inl (some (vI 2))) (LL MO) g))) : Ok 304 [vR 1, vI a0, vI a1, vR 77] (LL MO) h R := by
  refine ok_body B_L_lot rfl (fun X hX => ?_)
  refine hX 30 [] 0 _ _ _ _ _ _ ?_
  refine Ok_mono (fun o Λ' g hp => ?_) H
  obtain ⟨e1, hh⟩ := h1 o Λ' g hp
  subst e1
  rcases hh with ⟨v, rfl, hR⟩ | ⟨rfl, hR⟩ | ⟨rfl, hR⟩
  · refine And.intro ⟨by decide, by decide⟩ ?_
    exact hR
  · exact hR
  · exact hR
theorem LW_dealt {post R : Post} {a0 a1 a2 : Int} (H : Ok 151 [vR 1, vI a0, vI a1, vI a2] (LL MO) h post) (h1 : ∀ o Λ' g, post o Λ' g → Λ' = LL MO ∧ ((∃ v, o = .inl (some (vI v)) ∧ R (.inl (some (vI 0))) (LL MO) (up g 77 0 v)) ∨ (o = .inr 2 ∧ R (.inl (some (vI 1))) (LL MO) g) ∨ (o = .inr 3 ∧ R (.inl (some (vI 2))) (LL MO) g) ∨ (o = .inr 1 ∧ R (.inl (some (vI 3))) (LL MO) g) ∨ (o = .inr 4 ∧ R (.inl (some (vI 4))) (LL MO) g))) : Ok 305 [vR 1, vI a0, vI a1, vI a2, vR 77] (LL MO) h R := by
  refine ok_body B_L_dealt rfl (fun X hX => ?_)
  refine hX 30 [] 0 _ _ _ _ _ _ ?_
  refine Ok_mono (fun o Λ' g hp => ?_) H
  obtain ⟨e1, hh⟩ := h1 o Λ' g hp
  subst e1
  rcases hh with ⟨v, rfl, hR⟩ | ⟨rfl, hR⟩ | ⟨rfl, hR⟩ | ⟨rfl, hR⟩ | ⟨rfl, hR⟩
  · refine And.intro ⟨by decide, by decide⟩ ?_
    exact hR
  · exact hR
  · exact hR
  · exact hR
  · exact hR
theorem LW_lotsUsed {post R : Post} {a0 : Int} (H : Ok 152 [vR 1, vI a0] (LL MO) h post) (h1 : ∀ o Λ' g, post o Λ' g → Λ' = LL MO ∧ ((∃ v, o = .inl (some (vI v)) ∧ R (.inl (some (vI 0))) (LL MO) (up g 77 0 v)) ∨ (o = .inr 2 ∧ R (.inl (some (vI 1))) (LL MO) g) ∨ (o = .inr 1 ∧ R (.inl (some (vI 2))) (LL MO) g) ∨ (o = .inr 4 ∧ R (.inl (some (vI 3))) (LL MO) g))) : Ok 306 [vR 1, vI a0, vR 77] (LL MO) h R := by
  refine ok_body B_L_lotsUsed rfl (fun X hX => ?_)
  refine hX 30 [] 0 _ _ _ _ _ _ ?_
  refine Ok_mono (fun o Λ' g hp => ?_) H
  obtain ⟨e1, hh⟩ := h1 o Λ' g hp
  subst e1
  rcases hh with ⟨v, rfl, hR⟩ | ⟨rfl, hR⟩ | ⟨rfl, hR⟩ | ⟨rfl, hR⟩
  · refine And.intro ⟨by decide, by decide⟩ ?_
    exact hR
  · exact hR
  · exact hR
  · exact hR
theorem LW_setGauge {post R : Post} {a0 a1 a2 : Int} (H : Ok 154 [vR 1, vI a0, vI a1, vI a2] (LL MO) h post) (h1 : ∀ o Λ' g, post o Λ' g → Λ' = LL MO ∧ ((∃ v, o = .inl (some (vI v)) ∧ R (.inl (some (vI 0))) (LL MO) (up g 77 0 v)) ∨ (o = .inr 3 ∧ R (.inl (some (vI 1))) (LL MO) g))) : Ok 307 [vR 1, vI a0, vI a1, vI a2, vR 77] (LL MO) h R := by
  refine ok_body B_L_setGauge rfl (fun X hX => ?_)
  refine hX 30 [] 0 _ _ _ _ _ _ ?_
  refine Ok_mono (fun o Λ' g hp => ?_) H
  obtain ⟨e1, hh⟩ := h1 o Λ' g hp
  subst e1
  rcases hh with ⟨v, rfl, hR⟩ | ⟨rfl, hR⟩
  · refine And.intro ⟨by decide, by decide⟩ ?_
    exact hR
  · exact hR
theorem LW_setValue {post R : Post} {a0 a1 a2 : Int} (H : Ok 155 [vR 1, vI a0, vI a1, vI a2] (LL MO) h post) (h1 : ∀ o Λ' g, post o Λ' g → Λ' = LL MO ∧ ((∃ v, o = .inl (some (vI v)) ∧ R (.inl (some (vI 0))) (LL MO) (up g 77 0 v)) ∨ (o = .inr 2 ∧ R (.inl (some (vI 1))) (LL MO) g) ∨ (o = .inr 3 ∧ R (.inl (some (vI 2))) (LL MO) g))) : Ok 308 [vR 1, vI a0, vI a1, vI a2, vR 77] (LL MO) h R := by
  refine ok_body B_L_setValue rfl (fun X hX => ?_)
  refine hX 30 [] 0 _ _ _ _ _ _ ?_
  refine Ok_mono (fun o Λ' g hp => ?_) H
  obtain ⟨e1, hh⟩ := h1 o Λ' g hp
  subst e1
  rcases hh with ⟨v, rfl, hR⟩ | ⟨rfl, hR⟩ | ⟨rfl, hR⟩
  · refine And.intro ⟨by decide, by decide⟩ ?_
    exact hR
  · exact hR
  · exact hR
theorem LW_grade {post R : Post} {a0 a1 a2 : Int} (H : Ok 156 [vR 1, vI a0, vI a1, vI a2] (LL MO) h post) (h1 : ∀ o Λ' g, post o Λ' g → Λ' = LL MO ∧ ((∃ v, o = .inl (some (vI v)) ∧ R (.inl (some (vI 0))) (LL MO) (up g 77 0 v)) ∨ (o = .inr 2 ∧ R (.inl (some (vI 1))) (LL MO) g) ∨ (o = .inr 3 ∧ R (.inl (some (vI 2))) (LL MO) g))) : Ok 309 [vR 1, vI a0, vI a1, vI a2, vR 77] (LL MO) h R := by
  refine ok_body B_L_grade rfl (fun X hX => ?_)
  refine hX 30 [] 0 _ _ _ _ _ _ ?_
  refine Ok_mono (fun o Λ' g hp => ?_) H
  obtain ⟨e1, hh⟩ := h1 o Λ' g hp
  subst e1
  rcases hh with ⟨v, rfl, hR⟩ | ⟨rfl, hR⟩ | ⟨rfl, hR⟩
  · refine And.intro ⟨by decide, by decide⟩ ?_
    exact hR
  · exact hR
  · exact hR
theorem LW_setEase {post R : Post} {a0 a1 a2 : Int} (H : Ok 157 [vR 1, vI a0, vI a1, vI a2] (LL MO) h post) (h1 : ∀ o Λ' g, post o Λ' g → Λ' = LL MO ∧ ((∃ v, o = .inl (some (vI v)) ∧ R (.inl (some (vI 0))) (LL MO) (up g 77 0 v)) ∨ (o = .inr 2 ∧ R (.inl (some (vI 1))) (LL MO) g) ∨ (o = .inr 3 ∧ R (.inl (some (vI 2))) (LL MO) g) ∨ (o = .inr 1 ∧ R (.inl (some (vI 3))) (LL MO) g))) : Ok 310 [vR 1, vI a0, vI a1, vI a2, vR 77] (LL MO) h R := by
  refine ok_body B_L_setEase rfl (fun X hX => ?_)
  refine hX 30 [] 0 _ _ _ _ _ _ ?_
  refine Ok_mono (fun o Λ' g hp => ?_) H
  obtain ⟨e1, hh⟩ := h1 o Λ' g hp
  subst e1
  rcases hh with ⟨v, rfl, hR⟩ | ⟨rfl, hR⟩ | ⟨rfl, hR⟩ | ⟨rfl, hR⟩
  · refine And.intro ⟨by decide, by decide⟩ ?_
    exact hR
  · exact hR
  · exact hR
  · exact hR
theorem LW_addLot {post R : Post} {a0 a1 : Int} (H : Ok 158 [vR 1, vI a0, vI a1] (LL MO) h post) (h1 : ∀ o Λ' g, post o Λ' g → Λ' = LL MO ∧ ((∃ v, o = .inl (some (vI v)) ∧ R (.inl (some (vI 0))) (LL MO) (up g 77 0 v)) ∨ (o = .inr 3 ∧ R (.inl (some (vI 1))) (LL MO) g) ∨ (o = .inr 1 ∧ R (.inl (some (vI 2))) (LL MO) g))) : Ok 311 [vR 1, vI a0, vI a1, vR 77] (LL MO) h R := by
  refine ok_body B_L_addLot rfl (fun X hX => ?_)
  refine hX 30 [] 0 _ _ _ _ _ _ ?_
  refine Ok_mono (fun o Λ' g hp => ?_) H
  obtain ⟨e1, hh⟩ := h1 o Λ' g hp
  subst e1
  rcases hh with ⟨v, rfl, hR⟩ | ⟨rfl, hR⟩ | ⟨rfl, hR⟩
  · refine And.intro ⟨by decide, by decide⟩ ?_
    exact hR
  · exact hR
  · exact hR
theorem LW_removeLot {post R : Post} {a0 : Int} (H : Ok 159 [vR 1, vI a0] (LL MO) h post) (h1 : ∀ o Λ' g, post o Λ' g → Λ' = LL MO ∧ ((∃ v, o = .inl (some (vI v)) ∧ R (.inl (some (vI 0))) (LL MO) (up g 77 0 v)) ∨ (o = .inr 2 ∧ R (.inl (some (vI 1))) (LL MO) g))) : Ok 312 [vR 1, vI a0, vR 77] (LL MO) h R := by
  refine ok_body B_L_removeLot rfl (fun X hX => ?_)
  refine hX 30 [] 0 _ _ _ _ _ _ ?_
  refine Ok_mono (fun o Λ' g hp => ?_) H
  obtain ⟨e1, hh⟩ := h1 o Λ' g hp
  subst e1
  rcases hh with ⟨v, rfl, hR⟩ | ⟨rfl, hR⟩
  · refine And.intro ⟨by decide, by decide⟩ ?_
    exact hR
  · exact hR
theorem LW_undo {post R : Post} (H : Ok 160 [vR 1] (LL MO) h post) (h1 : ∀ o Λ' g, post o Λ' g → Λ' = LL MO ∧ ((∃ v, o = .inl (some (vI v)) ∧ R (.inl (some (vI 0))) (LL MO) (up g 77 0 v)) ∨ (o = .inr 1 ∧ R (.inl (some (vI 1))) (LL MO) g))) : Ok 313 [vR 1, vR 77] (LL MO) h R := by
  refine ok_body B_L_undo rfl (fun X hX => ?_)
  refine hX 30 [] 0 _ _ _ _ _ _ ?_
  refine Ok_mono (fun o Λ' g hp => ?_) H
  obtain ⟨e1, hh⟩ := h1 o Λ' g hp
  subst e1
  rcases hh with ⟨v, rfl, hR⟩ | ⟨rfl, hR⟩
  · refine And.intro ⟨by decide, by decide⟩ ?_
    exact hR
  · exact hR
theorem LW_save {post R : Post} {a0 : Int} (H : Ok 161 [vR 1, vI a0] (LL MO) h post) (h1 : ∀ o Λ' g, post o Λ' g → Λ' = LL MO ∧ ((o = .inl none ∧ R (.inl (some (vI 0))) (LL MO) g) ∨ (o = .inr 2 ∧ R (.inl (some (vI 1))) (LL MO) g))) : Ok 314 [vR 1, vI a0] (LL MO) h R := by
  refine ok_body B_L_save rfl (fun X hX => ?_)
  refine hX 30 [] 0 _ _ _ _ _ _ ?_
  refine Ok_mono (fun o Λ' g hp => ?_) H
  obtain ⟨e1, hh⟩ := h1 o Λ' g hp
  subst e1
  rcases hh with ⟨rfl, hR⟩ | ⟨rfl, hR⟩
  · exact hR
  · exact hR
theorem LW_restore {post R : Post} {a0 : Int} (H : Ok 162 [vR 1, vI a0] (LL MO) h post) (h1 : ∀ o Λ' g, post o Λ' g → Λ' = LL MO ∧ ((o = .inl none ∧ R (.inl (some (vI 0))) (LL MO) g) ∨ (o = .inr 2 ∧ R (.inl (some (vI 1))) (LL MO) g) ∨ (o = .inr 4 ∧ R (.inl (some (vI 2))) (LL MO) g))) : Ok 315 [vR 1, vI a0] (LL MO) h R := by
  refine ok_body B_L_restore rfl (fun X hX => ?_)
  refine hX 30 [] 0 _ _ _ _ _ _ ?_
  refine Ok_mono (fun o Λ' g hp => ?_) H
  obtain ⟨e1, hh⟩ := h1 o Λ' g hp
  subst e1
  rcases hh with ⟨rfl, hR⟩ | ⟨rfl, hR⟩ | ⟨rfl, hR⟩
  · exact hR
  · exact hR
  · exact hR
theorem LW_differences {post R : Post} {a0 : Int} (H : Ok 163 [vR 1, vI a0] (LL MO) h post) (h1 : ∀ o Λ' g, post o Λ' g → Λ' = LL MO ∧ ((∃ v, o = .inl (some (vI v)) ∧ R (.inl (some (vI 0))) (LL MO) (up g 77 0 v)) ∨ (o = .inr 2 ∧ R (.inl (some (vI 1))) (LL MO) g) ∨ (o = .inr 4 ∧ R (.inl (some (vI 2))) (LL MO) g))) : Ok 316 [vR 1, vI a0, vR 77] (LL MO) h R := by
  refine ok_body B_L_differences rfl (fun X hX => ?_)
  refine hX 30 [] 0 _ _ _ _ _ _ ?_
  refine Ok_mono (fun o Λ' g hp => ?_) H
  obtain ⟨e1, hh⟩ := h1 o Λ' g hp
  subst e1
  rcases hh with ⟨v, rfl, hR⟩ | ⟨rfl, hR⟩ | ⟨rfl, hR⟩
  · refine And.intro ⟨by decide, by decide⟩ ?_
    exact hR
  · exact hR
  · exact hR
end HELP
