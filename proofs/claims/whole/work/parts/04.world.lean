/-! ===== the picture and the heap ===== -/
/-- what a run takes as given of the machine: the classes' numbers, the arrays' classes (by kind), where the texts lie and their bytes, the script's cell, length and ints -/
abbrev GE : Type := va_G × (Nat → ClassId) × (Nat → Nat) × (Nat → Nat) × Nat × Nat × (Nat → Int32)
def tysG (g : GE) : List (ClassId × FieldType) := [(g.2.1 0, .int), (g.2.1 1, .long), (g.2.1 2, .byte), (g.2.1 3, .boolean), (g.2.1 4, .double)]
def cv (ad : Nat → Nat) : PV → Value
  | .inl x => .int (Int32.ofInt x)
  | .inr (.inl x) => .long (Int64.ofInt x)
  | .inr (.inr (.inl r)) => .ref (ad r)
  | .inr (.inr (.inr (.inl b))) => .float b
  | .inr (.inr (.inr (.inr (.inl b)))) => .double b
  | .inr (.inr (.inr (.inr (.inr _)))) => .null
def scp (n r : Nat) : Prop := (1 ≤ r ∧ r ≤ n) ∨ 900 ≤ r
def okv (n : Nat) : PV → Prop
  | .inl x => inR x
  | .inr (.inl x) => inRL x
  | .inr (.inr (.inl r)) => scp n r
  | .inr (.inr (.inr (.inl _))) => True
  | .inr (.inr (.inr (.inr (.inl _)))) => True
  | .inr (.inr (.inr (.inr (.inr _)))) => True
def rfv (ad : Nat → Nat) : Nat → Value
  | 0 => .null
  | r + 1 => .ref (ad (r + 1))
def FK (ci : Nat) : List Bool := (nth FKL ci).getD []
def vwf (ci : Nat) : vw_C := (nth vwCl ci).getD ("", fun _ => ("", "", "", false), 0)
def fsl (ad : Nat → Nat) (ci : Nat) (rs : List Nat) (f : Nat → Int) : List Value := (List.range (FK ci).length).map (fun k => if (FK ci).getD k false = true then rfv ad (rs.getD k 0) else .int (Int32.ofInt (f k)))
def ce (g : GE) (ad : Nat → Nat) : CT → (Nat → Int) → va_E
  | .inl (ci, rs), f => .inr (ci, fsl ad ci rs f)
  | .inr (kd, n), f => match kd with
    | 1 => .inl (g.2.1 1, n, .inr (.inl (fun j => Int64.ofInt (f j))))
    | 4 => .inl (g.2.1 4, n, .inr (.inr (.inr (.inl (fun j => UInt64.ofNat (f j).toNat)))))
    | kd => .inl (g.2.1 kd, n, .inl (fun j => Int32.ofInt (f j)))
def cw (g : GE) (ad : Nat → Nat) (Λ : List CT) (h : HP) : va_W := (List.range Λ.length).map (fun i => (ad (i + 1), ce g ad (Λ.getD i (.inr (0, 0))) (h (i + 1))))
def hrc (n : Nat) : CT → (Nat → Int) → Prop
  | .inl (ci, rs), f => (∀ j, inR (f j)) ∧ (∀ r ∈ rs, r = 0 ∨ scp n r) ∧ rs.length = (FK ci).length ∧ ci < 9
  | .inr (kd, _), f => match kd with
    | 1 => ∀ j, inRL (f j)
    | 4 => True
    | kd => (∀ j, inR (f j)) ∧ kd < 4
def HR (Λ : List CT) (h : HP) : Prop := ∀ i c, Λ[i]? = some c → hrc Λ.length c (h (i + 1))
theorem scp_mono {n n' r : Nat} (hn : n ≤ n') (h : scp n r) : scp n' r := by
  rcases h with h | h
  · exact Or.inl ⟨h.1, by omega⟩
  · exact Or.inr h
theorem okv_mono {n n' : Nat} (hn : n ≤ n') : ∀ {v : PV}, okv n v → okv n' v
  | .inl _, h => h
  | .inr (.inl _), h => h
  | .inr (.inr (.inl _)), h => scp_mono hn h
  | .inr (.inr (.inr (.inl _))), h => h
  | .inr (.inr (.inr (.inr (.inl _)))), h => h
  | .inr (.inr (.inr (.inr (.inr _)))), h => h
theorem hrc_mono {n n' : Nat} (hn : n ≤ n') {c : CT} {f : Nat → Int} (h : hrc n c f) : hrc n' c f := by
  obtain ⟨ci, rs⟩ | ⟨kd, m⟩ := c
  · exact ⟨h.1, fun r hr => (h.2.1 r hr).imp id (scp_mono hn), h.2.2⟩
  · exact h
theorem cv_ad {n : Nat} {ad ad' : Nat → Nat} (ha : ∀ i, scp n i → ad' i = ad i) : ∀ {v : PV}, okv n v → cv ad' v = cv ad v
  | .inl _, _ => rfl
  | .inr (.inl _), _ => rfl
  | .inr (.inr (.inl r)), h => by show Value.ref _ = Value.ref _; rw [ha r h]
  | .inr (.inr (.inr (.inl _))), _ => rfl
  | .inr (.inr (.inr (.inr (.inl _)))), _ => rfl
  | .inr (.inr (.inr (.inr (.inr _)))), _ => rfl
theorem cv_cat (ad : Nat → Nat) (v : PV) : (cv ad v).category = if cat2 v = true then 2 else 1 := by
  obtain x | x | x | x | x | x := v <;> rfl
theorem fsl_len (ad : Nat → Nat) (ci : Nat) (rs : List Nat) (f : Nat → Int) : (fsl ad ci rs f).length = (FK ci).length := by simp [fsl]
theorem fsl_get (ad : Nat → Nat) {ci k : Nat} (rs : List Nat) (f : Nat → Int) (hk : k < (FK ci).length) : (fsl ad ci rs f)[k]? = some (if (FK ci).getD k false = true then rfv ad (rs.getD k 0) else .int (Int32.ofInt (f k))) := by
  simp only [fsl, List.getElem?_map, List.getElem?_range hk, Option.map_some]
theorem fsl_int (ad : Nat → Nat) {ci k : Nat} (rs : List Nat) (f : Nat → Int) (x : Int) (hf : (FK ci).getD k false = false) : fsl ad ci rs (fun b => if b = k then x else f b) = (fsl ad ci rs f).set k (.int (Int32.ofInt x)) := by
  refine List.ext_getElem? fun j => ?_
  by_cases hj : j < (FK ci).length
  · rw [fsl_get ad rs _ hj]
    by_cases e : j = k
    · subst e
      rw [List.getElem?_set_self (by rw [fsl_len]; exact hj)]
      simp only [hf, if_true]
      rfl
    · rw [List.getElem?_set_ne (Ne.symm e), fsl_get ad rs f hj]
      simp only [if_neg e]
  · rw [List.getElem?_eq_none (by rw [fsl_len]; omega), List.getElem?_eq_none (by rw [List.length_set, fsl_len]; omega)]
theorem fsl_ref (ad : Nat → Nat) {ci k r : Nat} (rs : List Nat) (f : Nat → Int) (hf : (FK ci).getD k false = true) (hk : k < rs.length) : fsl ad ci (rs.set k (r + 1)) f = (fsl ad ci rs f).set k (.ref (ad (r + 1))) := by
  refine List.ext_getElem? fun j => ?_
  by_cases hj : j < (FK ci).length
  · rw [fsl_get ad _ _ hj]
    by_cases e : j = k
    · subst e
      rw [List.getElem?_set_self (by rw [fsl_len]; exact hj)]
      simp only [hf, if_true]
      rw [List.getD_eq_getElem?_getD, List.getElem?_set_self hk]
      rfl
    · rw [List.getElem?_set_ne (Ne.symm e), fsl_get ad rs f hj]
      rw [List.getD_eq_getElem?_getD (l := rs.set k (r + 1)), List.getElem?_set_ne (Ne.symm e), ← List.getD_eq_getElem?_getD]
  · rw [List.getElem?_eq_none (by rw [fsl_len]; omega), List.getElem?_eq_none (by rw [List.length_set, fsl_len]; omega)]
theorem fsl_ad {n : Nat} {ad ad' : Nat → Nat} (ha : ∀ i, scp n i → ad' i = ad i) {ci : Nat} {rs : List Nat} (f : Nat → Int) (hr : ∀ r ∈ rs, r = 0 ∨ scp n r) : fsl ad' ci rs f = fsl ad ci rs f := by
  refine List.map_congr_left fun k _ => ?_
  have : rfv ad' (rs.getD k 0) = rfv ad (rs.getD k 0) := by
    have hm : rs.getD k 0 = 0 ∨ scp n (rs.getD k 0) := by
      rw [List.getD_eq_getElem?_getD]
      cases hk : rs[k]? with
      | none => exact Or.inl rfl
      | some r => exact hr r (List.mem_of_getElem? hk)
    generalize rs.getD k 0 = r at hm
    cases r with
    | zero => rfl
    | succ r => rcases hm with h | h
                · cases h
                · show Value.ref _ = Value.ref _; rw [ha _ h]
  rw [this]
theorem ce_ad {n : Nat} (g : GE) {ad ad' : Nat → Nat} (ha : ∀ i, scp n i → ad' i = ad i) {c : CT} {f : Nat → Int} (h : hrc n c f) : ce g ad' c f = ce g ad c f := by
  obtain ⟨ci, rs⟩ | ⟨kd, m⟩ := c
  · show Sum.inr _ = Sum.inr _
    rw [fsl_ad ha f h.2.1]
  · rfl
theorem cw_len (g : GE) (ad : Nat → Nat) (Λ : List CT) (h : HP) : (cw g ad Λ h).length = Λ.length := by simp [cw]
theorem cw_get (g : GE) (ad : Nat → Nat) {Λ : List CT} (h : HP) {i : Nat} {c : CT} (hc : Λ[i]? = some c) : (cw g ad Λ h)[i]? = some (ad (i + 1), ce g ad c (h (i + 1))) := by
  have hl := (List.getElem?_eq_some_iff.mp hc).1
  simp only [cw, List.getElem?_map, List.getElem?_range hl, Option.map_some, List.getD_eq_getElem?_getD, hc, Option.getD_some]
theorem cw_none (g : GE) (ad : Nat → Nat) {Λ : List CT} (h : HP) {i : Nat} (hi : Λ.length ≤ i) : (cw g ad Λ h)[i]? = none := List.getElem?_eq_none (by rw [cw_len]; exact hi)
theorem cw_ext (g : GE) (ad : Nat → Nat) {Λ : List CT} {w : va_W} (h : HP) (hl : w.length = Λ.length) (hw : ∀ i c, Λ[i]? = some c → w[i]? = some (ad (i + 1), ce g ad c (h (i + 1)))) : cw g ad Λ h = w := by
  refine List.ext_getElem? fun j => ?_
  by_cases hj : j < Λ.length
  · rw [cw_get g ad h (List.getElem?_eq_getElem hj), hw j _ (List.getElem?_eq_getElem hj)]
  · rw [cw_none g ad h (by omega), List.getElem?_eq_none (by omega)]
theorem cw_set (g : GE) (ad : Nat → Nat) {Λ : List CT} {h h' : HP} {i : Nat} {c : CT} (c' : CT) (hc : Λ[i]? = some c) (hh : ∀ j, j ≠ i + 1 → j ≤ Λ.length → h' j = h j) :
    cw g ad (Λ.set i c') h' = (cw g ad Λ h).set i (ad (i + 1), ce g ad c' (h' (i + 1))) := by
  have hl := (List.getElem?_eq_some_iff.mp hc).1
  refine cw_ext g ad h' (by rw [List.length_set, cw_len, List.length_set]) fun j d hd => ?_
  by_cases e : j = i
  · subst e
    rw [List.getElem?_set_self hl] at hd
    cases hd
    exact List.getElem?_set_self (by rw [cw_len]; exact hl)
  · rw [List.getElem?_set_ne (Ne.symm e)] at hd
    rw [List.getElem?_set_ne (Ne.symm e), cw_get g ad h hd, hh (j + 1) (by omega) (by have := (List.getElem?_eq_some_iff.mp hd).1; omega)]
theorem cw_same (g : GE) (ad : Nat → Nat) {Λ : List CT} {h h' : HP} {i : Nat} {c : CT} (hc : Λ[i]? = some c) (hh : ∀ j, j ≠ i + 1 → j ≤ Λ.length → h' j = h j) :
    cw g ad Λ h' = (cw g ad Λ h).set i (ad (i + 1), ce g ad c (h' (i + 1))) := by
  have hs : Λ.set i c = Λ := by
    refine List.ext_getElem? fun j => ?_
    by_cases e : j = i
    · subst e; rw [List.getElem?_set_self (List.getElem?_eq_some_iff.mp hc).1, hc]
    · rw [List.getElem?_set_ne (Ne.symm e)]
  have := cw_set g ad c hc hh
  rw [hs] at this
  exact this
theorem cw_push (g : GE) {ad ad' : Nat → Nat} {Λ : List CT} {h h' : HP} (c : CT) (hR : HR Λ h) (ha : ∀ i, (i ≤ Λ.length ∨ 900 ≤ i) → ad' i = ad i) (hh : ∀ j, j ≤ Λ.length → h' j = h j) :
    cw g ad' (Λ ++ [c]) h' = cw g ad Λ h ++ [(ad' (Λ.length + 1), ce g ad' c (h' (Λ.length + 1)))] := by
  refine cw_ext g ad' h' (by rw [List.length_append, cw_len, List.length_append]; rfl) fun j d hd => ?_
  by_cases hj : j < Λ.length
  · rw [List.getElem?_append_left hj] at hd
    rw [List.getElem?_append_left (by rw [cw_len]; exact hj), cw_get g ad h hd, hh (j + 1) (by omega), ha (j + 1) (Or.inl (by omega)), ce_ad g (n := Λ.length) (fun i hi => ha i (hi.imp (fun q => q.2) id)) (hR j d hd)]
  · rw [List.getElem?_append_right (by omega)] at hd
    have hz : j - Λ.length < 1 := (List.getElem?_eq_some_iff.mp hd).1
    have hj2 : j = Λ.length := by omega
    subst hj2
    rw [Nat.sub_self] at hd
    cases hd
    rw [List.getElem?_append_right (by rw [cw_len]; exact Nat.le_refl _), cw_len, Nat.sub_self]
    rfl
theorem cw_ad (g : GE) {ad ad' : Nat → Nat} {Λ : List CT} {h : HP} (hR : HR Λ h) (ha : ∀ i, (i ≤ Λ.length ∨ 900 ≤ i) → ad' i = ad i) : cw g ad' Λ h = cw g ad Λ h := by
  refine cw_ext g ad' h (cw_len _ _ _ _) fun j d hd => ?_
  have hj := (List.getElem?_eq_some_iff.mp hd).1
  rw [cw_get g ad h hd, ha (j + 1) (Or.inl (by omega)), ce_ad g (n := Λ.length) (fun i hi => ha i (hi.imp (fun q => q.2) id)) (hR j d hd)]
theorem cell_at {Λ : List CT} {a : Nat} {c : CT} (h : cell Λ a = some c) : ∃ i, a = i + 1 ∧ Λ[i]? = some c := by
  cases a with
  | zero => cases h
  | succ i => exact ⟨i, rfl, by rw [← nth_eq]; exact h⟩
theorem HR_up {Λ : List CT} {h h' : HP} {i : Nat} {c : CT} (hR : HR Λ h) (hc : Λ[i]? = some c) (hh : ∀ j, j ≠ i + 1 → h' j = h j) (hn : hrc Λ.length c (h' (i + 1))) : HR Λ h' := by
  intro j d hd
  by_cases e : j = i
  · subst e; rw [hc] at hd; cases hd; exact hn
  · rw [hh (j + 1) (by omega)]; exact hR j d hd
theorem HR_set {Λ : List CT} {h : HP} {i : Nat} {c c' : CT} (hR : HR Λ h) (hc : Λ[i]? = some c) (hn : hrc Λ.length c' (h (i + 1))) : HR (Λ.set i c') h := by
  intro j d hd
  rw [List.length_set]
  by_cases e : j = i
  · subst e; rw [List.getElem?_set_self (List.getElem?_eq_some_iff.mp hc).1] at hd; cases hd; exact hn
  · rw [List.getElem?_set_ne (Ne.symm e)] at hd; exact hR j d hd
theorem HR_push {Λ : List CT} {h h' : HP} {c : CT} (hR : HR Λ h) (hh : ∀ j, j ≤ Λ.length → h' j = h j) (hn : hrc (Λ.length + 1) c (h' (Λ.length + 1))) : HR (Λ ++ [c]) h' := by
  intro j d hd
  rw [List.length_append]
  by_cases hj : j < Λ.length
  · rw [List.getElem?_append_left hj] at hd
    rw [hh (j + 1) (by omega)]
    exact hrc_mono (Nat.le_succ _) (hR j d hd)
  · rw [List.getElem?_append_right (by omega)] at hd
    have hz : j - Λ.length < 1 := (List.getElem?_eq_some_iff.mp hd).1
    have hj2 : j = Λ.length := by omega
    subst hj2
    rw [Nat.sub_self] at hd
    cases hd
    exact hn
/-- the locals -/
def LR (n : Nat) (ad : Nat → Nat) (nL : Nat) (ls : Array Slot) (L : List PV) : Prop := ls.size = nL ∧ lv_wf ls ∧ L.length = nL ∧ ∀ (i : Nat) (v : PV), L[i]? = some v → v = vU ∨ (okv n v ∧ ls[i]? = some (Slot.val (cv ad v)))
/-- what the locals hold, as the kit lists it -/
def lvL (ad : Nat → Nat) (L : List PV) : List (Nat × Value) := (List.range L.length).filterMap (fun i => match L[i]? with
  | some v => if v = vU then none else some (i, cv ad v)
  | none => none)
theorem lvL_mem {ad : Nat → Nat} {L : List PV} {i : Nat} {v : PV} (h : L[i]? = some v) (hv : v ≠ vU) : (i, cv ad v) ∈ lvL ad L := by
  refine List.mem_filterMap.mpr ⟨i, List.mem_range.mpr (List.getElem?_eq_some_iff.mp h).1, ?_⟩
  rw [h]
  simp only [if_neg hv]
theorem lvL_of {ad : Nat → Nat} {L : List PV} {q : Nat × Value} (h : q ∈ lvL ad L) : ∃ v, L[q.1]? = some v ∧ v ≠ vU ∧ q.2 = cv ad v := by
  obtain ⟨i, -, hi⟩ := List.mem_filterMap.mp h
  cases hL : L[i]? with
  | none => rw [hL] at hi; cases hi
  | some v =>
    rw [hL] at hi
    by_cases hv : v = vU
    · simp only [if_pos hv] at hi; cases hi
    · simp only [if_neg hv] at hi
      cases hi
      exact ⟨v, hL, hv, rfl⟩
theorem LR.has {n : Nat} {ad : Nat → Nat} {nL : Nat} {ls : Array Slot} {L : List PV} (h : LR n ad nL ls L) : lv_has ls nL (lvL ad L) := by
  refine ⟨h.1, h.2.1, fun q hq => ?_⟩
  obtain ⟨v, h1, h2, h3⟩ := lvL_of hq
  rcases h.2.2.2 _ _ h1 with e | ⟨-, e⟩
  · exact absurd e h2
  · rw [h3]; exact e
theorem LR.at {n : Nat} {ad : Nat → Nat} {nL : Nat} {ls : Array Slot} {L : List PV} (h : LR n ad nL ls L) {i : Nat} {v : PV} (hi : nth L i = some v) (hv : v ≠ vU) : okv n v ∧ ls[i]? = some (.val (cv ad v)) := by
  rw [nth_eq] at hi
  rcases h.2.2.2 _ _ hi with e | e
  · exact absurd e hv
  · exact e
theorem kil_len (L : List PV) (i : Nat) : (kil L i).length = L.length := by
  cases i with
  | zero => rfl
  | succ j =>
    simp only [kil]
    split
    · split
      · exact List.length_set
      · rfl
    · rfl
theorem kil_get {L : List PV} {i j : Nat} {v : PV} (h : (kil L i)[j]? = some v) : v = vU ∨ (L[j]? = some v ∧ ¬ (j + 1 = i ∧ cat2 v = true)) := by
  cases i with
  | zero => exact Or.inr ⟨h, fun q => by omega⟩
  | succ k =>
    simp only [kil, nth_eq] at h
    cases hk : L[k]? with
    | none =>
      rw [hk] at h
      refine Or.inr ⟨h, fun q => ?_⟩
      have : j = k := by omega
      subst this
      rw [hk] at h; cases h
    | some w =>
      rw [hk] at h
      dsimp only at h
      cases hc : cat2 w with
      | true =>
        rw [hc] at h
        dsimp only at h
        by_cases e : j = k
        · subst e
          rw [List.getElem?_set_self (List.getElem?_eq_some_iff.mp hk).1] at h
          cases h
          exact Or.inl rfl
        · rw [List.getElem?_set_ne (Ne.symm e)] at h
          exact Or.inr ⟨h, fun q => e (by omega)⟩
      | false =>
        rw [hc] at h
        refine Or.inr ⟨h, fun q => ?_⟩
        have : j = k := by omega
        subst this
        rw [hk] at h; cases h
        rw [hc] at q; cases q.2
/-- after a store of one slot -/
theorem LR_sto1 {n : Nat} {ad : Nat → Nat} {nL : Nat} {ls ls' : Array Slot} {L : List PV} {i : Nat} {v : PV} (h : LR n ad nL ls L) (hv : v = vU ∨ okv n v) {w : Value} (hw : v ≠ vU → w = cv ad v)
    (h' : lv_has ls' nL ((i, w) :: (lvL ad L).filter (fun q => !(q.1 == i) && !(q.1 + 1 == i && q.2.category == 2)))) : LR n ad nL ls' (sto1 L i v) := by
  refine ⟨h'.1, h'.2.1, by simp only [sto1, List.length_set, kil_len]; exact h.2.2.1, fun j u hj => ?_⟩
  unfold sto1 at hj
  by_cases e : j = i
  · subst e
    have hl : j < (kil L j).length := by
      have := (List.getElem?_eq_some_iff.mp hj).1
      rw [List.length_set] at this; exact this
    rw [List.getElem?_set_self hl] at hj
    cases hj
    by_cases hu : v = vU
    · exact Or.inl hu
    · rcases hv with q | q
      · exact absurd q hu
      · refine Or.inr ⟨q, ?_⟩
        rw [← hw hu]
        exact h'.2.2 _ List.mem_cons_self
  · rw [List.getElem?_set_ne (Ne.symm e)] at hj
    rcases kil_get hj with q | ⟨q, q2⟩
    · exact Or.inl q
    · rcases h.2.2.2 _ _ q with z | ⟨z, z2⟩
      · exact Or.inl z
      · by_cases hu : u = vU
        · exact Or.inl hu
        refine Or.inr ⟨z, ?_⟩
        refine h'.2.2 _ (List.mem_cons_of_mem _ (List.mem_filter.mpr ⟨lvL_mem q hu, ?_⟩))
        simp only [Bool.and_eq_true, Bool.not_eq_true', beq_eq_false_iff_ne, Bool.and_eq_false_iff]
        refine ⟨e, ?_⟩
        by_cases e2 : j + 1 = i
        · refine Or.inr ?_
          rw [cv_cat]
          intro hc
          by_cases hc2 : cat2 u = true
          · exact q2 ⟨e2, hc2⟩
          · rw [if_neg hc2] at hc; cases hc
        · exact Or.inl e2
theorem LR_sto2 {n : Nat} {ad : Nat → Nat} {nL : Nat} {ls ls' : Array Slot} {L : List PV} {i : Nat} {v : PV} (h : LR n ad nL ls L) (hv : okv n v)
    (h' : lv_has ls' nL ((i, cv ad v) :: (lvL ad L).filter (fun q => !(q.1 == i) && (!(q.1 == i + 1) && !(q.1 + 1 == i && q.2.category == 2))))) : LR n ad nL ls' (sto2 L i v) := by
  refine ⟨h'.1, h'.2.1, by simp only [sto2, List.length_set, kil_len]; exact h.2.2.1, fun j u hj => ?_⟩
  unfold sto2 at hj
  have hl : j < (kil L i).length := by
    have := (List.getElem?_eq_some_iff.mp hj).1
    rw [List.length_set, List.length_set] at this; exact this
  by_cases e1 : j = i + 1
  · subst e1
    rw [List.getElem?_set_self (by rw [List.length_set]; exact hl)] at hj
    cases hj
    exact Or.inl rfl
  · rw [List.getElem?_set_ne (Ne.symm e1)] at hj
    by_cases e : j = i
    · subst e
      rw [List.getElem?_set_self hl] at hj
      cases hj
      exact Or.inr ⟨hv, h'.2.2 _ List.mem_cons_self⟩
    · rw [List.getElem?_set_ne (Ne.symm e)] at hj
      rcases kil_get hj with q | ⟨q, q2⟩
      · exact Or.inl q
      · rcases h.2.2.2 _ _ q with z | ⟨z, z2⟩
        · exact Or.inl z
        · by_cases hu : u = vU
          · exact Or.inl hu
          refine Or.inr ⟨z, ?_⟩
          refine h'.2.2 _ (List.mem_cons_of_mem _ (List.mem_filter.mpr ⟨lvL_mem q hu, ?_⟩))
          simp only [Bool.and_eq_true, Bool.not_eq_true', beq_eq_false_iff_ne, Bool.and_eq_false_iff]
          refine ⟨e, e1, ?_⟩
          by_cases e2 : j + 1 = i
          · refine Or.inr ?_
            rw [cv_cat]
            intro hc
            by_cases hc2 : cat2 u = true
            · exact q2 ⟨e2, hc2⟩
            · rw [if_neg hc2] at hc; cases hc
          · exact Or.inl e2
theorem LR.mono {n n' : Nat} {ad ad' : Nat → Nat} {nL : Nat} {ls : Array Slot} {L : List PV} (h : LR n ad nL ls L) (hn : n ≤ n') (ha : ∀ i, scp n i → ad' i = ad i) : LR n' ad' nL ls L :=
  ⟨h.1, h.2.1, h.2.2.1, fun i v hi => (h.2.2.2 i v hi).imp id fun q => ⟨okv_mono hn q.1, by rw [cv_ad ha q.1]; exact q.2⟩⟩
