/-! ===== the steps that read and write the heap ===== -/
def tyf (ci k : Nat) : FieldType := (parseFieldDescriptor ((vwf ci).2.1 k).2.2.1).getD .int
def isRefTy : FieldType → Bool
  | .object _ => true
  | .array _ => true
  | _ => false
/-- what a class of the picture is, checked once -/
abbrev ClsOK (ci : Nat) : Prop := (∀ w ∈ u_ws (vwf ci).1 (vwf ci).2.1 (vwf ci).2.2, w ∈ TW) ∧ (∀ k, k < (vwf ci).2.2 → parseFieldDescriptor ((vwf ci).2.1 k).2.2.1 = some (tyf ci k)) ∧ (∀ a, a < (vwf ci).2.2 → ∀ b, b < (vwf ci).2.2 → a ≠ b → ((vwf ci).2.1 a).2.1 ≠ ((vwf ci).2.1 b).2.1) ∧ (∀ k, k < (vwf ci).2.2 → ((FK ci).getD k false = true → isRefTy (tyf ci k) = true) ∧ ((FK ci).getD k false = false → tyf ci k = .int)) ∧ (vwf ci).2.2 = (FK ci).length ∧ Cond.initialized (vwf ci).1 ∈ TW
set_option maxRecDepth 100000 in
theorem cls_ok1 : ∀ ci, ci < 9 → ∀ w ∈ u_ws (vwf ci).1 (vwf ci).2.1 (vwf ci).2.2, w ∈ TW := by decide +kernel
set_option maxRecDepth 100000 in
theorem cls_ok2 : ∀ ci, ci < 9 → ∀ k, k < (vwf ci).2.2 → parseFieldDescriptor ((vwf ci).2.1 k).2.2.1 = some (tyf ci k) := by decide +kernel
set_option maxRecDepth 100000 in
theorem cls_ok3 : ∀ ci, ci < 9 → ∀ a, a < (vwf ci).2.2 → ∀ b, b < (vwf ci).2.2 → a ≠ b → ((vwf ci).2.1 a).2.1 ≠ ((vwf ci).2.1 b).2.1 := by decide +kernel
set_option maxRecDepth 100000 in
theorem cls_ok4 : ∀ ci, ci < 9 → ∀ k, k < (vwf ci).2.2 → ((FK ci).getD k false = true → isRefTy (tyf ci k) = true) ∧ ((FK ci).getD k false = false → tyf ci k = .int) := by decide +kernel
set_option maxRecDepth 100000 in
theorem cls_ok5 : ∀ ci, ci < 9 → (vwf ci).2.2 = (FK ci).length ∧ Cond.initialized (vwf ci).1 ∈ TW := by decide +kernel
theorem cls_ok (ci : Nat) (h : ci < 9) : ClsOK ci := ⟨cls_ok1 ci h, cls_ok2 ci h, cls_ok3 ci h, cls_ok4 ci h, cls_ok5 ci h⟩
theorem vw_at : ∀ ci, ci < 9 → vwCl[ci]? = some (vwf ci) := by
  intro ci h
  have hl : ci < vwCl.length := by simpa [vwCl] using h
  have e : vwCl[ci]? = some vwCl[ci] := List.getElem?_eq_getElem hl
  rw [e]
  unfold vwf
  rw [nth_eq, e]
  rfl
/-- an entry of the pool for a field -/
abbrev FieldOK (own : String) (q : Nat × Nat × Nat × Bool) : Prop := q.2.1 < 9 ∧ q.2.2.1 < (vwf q.2.1).2.2 ∧ (FK q.2.1).getD q.2.2.1 false = q.2.2.2 ∧ ((vwf q.2.1).2.1 q.2.2.1).1 = (vwf q.2.1).1 ∧
  (Cond.fieldLink own q.1 (vwf q.2.1).1 ((vwf q.2.1).2.1 q.2.2.1).2.1 ((vwf q.2.1).2.1 q.2.2.1).2.2.1 ∈ TW ∨ Cond.fieldLinkNest own q.1 (vwf q.2.1).1 ((vwf q.2.1).2.1 q.2.2.1).2.1 ((vwf q.2.1).2.1 q.2.2.1).2.2.1 "KnitGrader" ∈ NW)
/-- .. that may be written here: by its own class; a final one in a constructor -/
abbrev PutOK (own : String) (isInit : Bool) (q : Nat × Nat × Nat × Bool) : Prop := Cond.fieldLink own q.1 (vwf q.2.1).1 ((vwf q.2.1).2.1 q.2.2.1).2.1 ((vwf q.2.1).2.1 q.2.2.1).2.2.1 ∈ TW ∧ (((vwf q.2.1).2.1 q.2.2.1).2.2.2 = true → isInit = true ∧ ((vwf q.2.1).2.1 q.2.2.1).1 = own)
theorem nar_ref {ty : FieldType} (h : isRefTy ty = true) (a : Nat) : narrow ty (.ref a) = .ref a ∧ fits ty (.ref a) = true := by
  cases ty <;> first | (cases h; done) | exact ⟨rfl, rfl⟩
theorem def_ref {ty : FieldType} (h : isRefTy ty = true) : defaultValue ty = .null := by
  cases ty <;> first | (cases h; done) | rfl
section STEP
variable {p : Program} {l : Launch} {e : Env} {R : Room} {s : State} {m : MethodId} {args : Array Value} {below : List Frame} {meth : Method} {c : Code} {Q : State → Prop}
variable {g : GE} {ad0 : Nat → Nat} {Λ0 : List CT} {h0 : HP} {A0 : Nat → Prop} {cc : ByteArray} {nL : Nat} {own : String}
theorem MR_up {ad : Nat → Nat} {Λ : List CT} {h h' : HP} {H H1 : Heap} {locs locs1 : List Loc} {i : Nat} {ct : CT} (hM : MR g ad0 Λ0 h0 A0 s ad Λ h H locs) (hc : Λ[i]? = some ct)
    (hP : va_P g.1 vwCl ((cw g ad Λ h).set i (ad (i + 1), ce g ad ct (h' (i + 1)))) H1) (hD : va_D A0 ((cw g ad Λ h).set i (ad (i + 1), ce g ad ct (h' (i + 1))))) (hS : va_S A0 s.heap H1 locs1)
    (hr : hrc Λ.length ct (h' (i + 1))) (hh : ∀ j, j ≠ i + 1 → h' j = h j) : MR g ad0 Λ0 h0 A0 s ad Λ h' H1 locs1 := by
  obtain ⟨-, -, -, m4, m5, m6, m7, m8⟩ := hM
  have e := cw_same g ad hc (fun j hj _ => hh j hj)
  have hi := (List.getElem?_eq_some_iff.mp hc).1
  exact ⟨by rw [e]; exact hP, by rw [e]; exact hD, hS, HR_up m4 hc hh hr, m5, m6, m7, fun j hj => by rw [hh j (by omega)]; exact m8 j hj⟩
theorem ts_getfI (C : CX p l s m args meth c g ad0 h0 A0 cc nL own) {pc k n : Nat} {L st : List PV} {Λ : List CT} {h : HP} {idx ci sl a : Nat} {rs : List Nat} (hF : FieldOK own (idx, ci, sl, false)) (hdg : decode cc pc = .ok (.getfield idx, 3)) (hc : cell Λ a = some (.inl (ci, rs)))
    (hs : XW p l e R s m args below meth c Q g ad0 Λ0 h0 A0 nL (pc + 3) L (vI (h a sl) :: st) Λ h k n) : XW p l e R s m args below meth c Q g ad0 Λ0 h0 A0 nL pc L (vR a :: st) Λ h k n := by
  obtain ⟨hx, hb, -, hown, hts, -, hK, hE, -⟩ := C
  obtain ⟨f1, f2, f4, f5, f6⟩ := hF
  obtain ⟨c1, c2, c3, c4, f3, -⟩ := cls_ok ci f1
  intro ad ls H locs hM hL hst
  obtain ⟨i, rfl, hi⟩ := cell_at hc
  have hw := cw_get g ad h hi
  have hv : (fsl ad ci rs (h (i + 1)))[sl]? = some (.int (Int32.ofInt (h (i + 1) sl))) := by
    rw [fsl_get ad rs _ (by rw [← f3]; exact f2)]
    have f4' : (FK ci).getD sl false = false := f4
    rw [if_neg (by rw [f4']; decide)]
  have hr : inR (h (i + 1) sl) := (hM.2.2.2.1 i _ hi).1 sl
  have hgo := hs ad ls H locs hM hL (okc hr (fun v hv => hst v (List.mem_cons_of_mem _ hv)))
  show W p l e R s m args below meth c H locs k n Q (F0 m pc ls (.ref (ad (i + 1)) :: st.map (cv ad)))
  rcases f6 with f6 | f6
  · exact va_get hx hb hts c1 hown hK hM.1 i hw (vw_at ci f1) sl f2 (hts _ f6) (fun x hx9 => by rw [← f5]; exact hx9) hv hdg hgo
  · exact va_getN hx hb hts c1 hown hK hM.1 i hw (vw_at ci f1) sl f2 (va_Nw.use rfl (hE.2.1 _ f6)) (fun x hx9 => by rw [← f5]; exact hx9) hv hdg hgo
theorem ts_getfR (C : CX p l s m args meth c g ad0 h0 A0 cc nL own) {pc k n : Nat} {L st : List PV} {Λ : List CT} {h : HP} {idx ci sl a r : Nat} {rs : List Nat} (hF : FieldOK own (idx, ci, sl, true)) (hdg : decode cc pc = .ok (.getfield idx, 3)) (hc : cell Λ a = some (.inl (ci, rs))) (hrs : nth rs sl = some (r + 1))
    (hs : XW p l e R s m args below meth c Q g ad0 Λ0 h0 A0 nL (pc + 3) L (vR (r + 1) :: st) Λ h k n) : XW p l e R s m args below meth c Q g ad0 Λ0 h0 A0 nL pc L (vR a :: st) Λ h k n := by
  obtain ⟨hx, hb, -, hown, hts, -, hK, hE, -⟩ := C
  obtain ⟨f1, f2, f4, f5, f6⟩ := hF
  obtain ⟨c1, c2, c3, c4, f3, -⟩ := cls_ok ci f1
  intro ad ls H locs hM hL hst
  obtain ⟨i, rfl, hi⟩ := cell_at hc
  have hw := cw_get g ad h hi
  rw [nth_eq] at hrs
  have hv : (fsl ad ci rs (h (i + 1)))[sl]? = some (.ref (ad (r + 1))) := by
    rw [fsl_get ad rs _ (by rw [← f3]; exact f2)]
    have f4' : (FK ci).getD sl false = true := f4
    rw [if_pos f4', List.getD_eq_getElem?_getD, hrs]
    rfl
  have hr : scp Λ.length (r + 1) := by
    rcases (hM.2.2.2.1 i _ hi).2.1 (r + 1) (List.mem_of_getElem? hrs) with z | z
    · cases z
    · exact z
  have hgo := hs ad ls H locs hM hL (okc hr (fun v hv => hst v (List.mem_cons_of_mem _ hv)))
  show W p l e R s m args below meth c H locs k n Q (F0 m pc ls (.ref (ad (i + 1)) :: st.map (cv ad)))
  rcases f6 with f6 | f6
  · exact va_get hx hb hts c1 hown hK hM.1 i hw (vw_at ci f1) sl f2 (hts _ f6) (fun x hx9 => by rw [← f5]; exact hx9) hv hdg hgo
  · exact va_getN hx hb hts c1 hown hK hM.1 i hw (vw_at ci f1) sl f2 (va_Nw.use rfl (hE.2.1 _ f6)) (fun x hx9 => by rw [← f5]; exact hx9) hv hdg hgo
theorem ts_putfI (C : CX p l s m args meth c g ad0 h0 A0 cc nL own) {isI : Bool} (hin : isI = true → meth.name = "<init>") {pc k n : Nat} {L st : List PV} {Λ : List CT} {h : HP} {idx ci sl a : Nat} {x : Int} {rs : List Nat} (hF : FieldOK own (idx, ci, sl, false)) (hPu : PutOK own isI (idx, ci, sl, false)) (hdg : decode cc pc = .ok (.putfield idx, 3)) (hc : cell Λ a = some (.inl (ci, rs)))
    (hs : XW p l e R s m args below meth c Q g ad0 Λ0 h0 A0 nL (pc + 3) L st Λ (up h a sl x) k n) : XW p l e R s m args below meth c Q g ad0 Λ0 h0 A0 nL pc L (vI x :: vR a :: st) Λ h k n := by
  obtain ⟨hx, hb, -, hown, hts, -, hK, hE, -⟩ := C
  obtain ⟨f1, f2, f4, f5, -⟩ := hF
  obtain ⟨u1, u2⟩ := hPu
  obtain ⟨c1, c2, c3, c4, f3, -⟩ := cls_ok ci f1
  intro ad ls H locs hM hL hst
  obtain ⟨i, rfl, hi⟩ := cell_at hc
  have hw := cw_get g ad h hi
  have f4' : (FK ci).getD sl false = false := f4
  have hty : tyf ci sl = .int := (c4 sl f2).2 f4'
  have hxr : inR x := hst (vI x) List.mem_cons_self
  have hh : ∀ j, j ≠ i + 1 → up h (i + 1) sl x j = h j := fun j hj => by funext b; simp [up, hj]
  have hself : up h (i + 1) sl x (i + 1) = fun b => if b = sl then x else h (i + 1) b := by funext b; simp [up]
  have hcr := hM.2.2.2.1 i _ hi
  have hr : hrc Λ.length (.inl (ci, rs)) (up h (i + 1) sl x (i + 1)) := by
    refine ⟨fun j => ?_, hcr.2⟩
    rw [hself]
    by_cases z : j = sl
    · simp only [if_pos z]; exact hxr
    · simp only [if_neg z]; exact hcr.1 j
  have he : ce g ad (.inl (ci, rs)) (up h (i + 1) sl x (i + 1)) = .inr (ci, (fsl ad ci rs (h (i + 1))).set sl (.int (Int32.ofInt x))) := by
    rw [hself]
    show Sum.inr _ = Sum.inr _
    rw [fsl_int ad rs _ x f4']
  have hlen : sl < (fsl ad ci rs (h (i + 1))).length := by rw [fsl_len, ← f3]; exact f2
  have go : ∀ (H1 : Heap) (locs1 : List Loc), va_P g.1 vwCl ((cw g ad Λ h).set i (ad (i + 1), .inr (ci, (fsl ad ci rs (h (i + 1))).set sl (.int (Int32.ofInt x))))) H1 → va_D A0 ((cw g ad Λ h).set i (ad (i + 1), .inr (ci, (fsl ad ci rs (h (i + 1))).set sl (.int (Int32.ofInt x))))) → va_S A0 s.heap H1 locs1 → W p l e R s m args below meth c H1 locs1 k n Q (F0 m (pc + 3) ls (st.map (cv ad))) := by
    intro H1 locs1 hP1 hD1 hS1
    rw [← he] at hP1 hD1
    exact hs ad ls H1 locs1 (MR_up hM hi hP1 hD1 hS1 hr hh) hL (fun v hv => hst v (List.mem_cons_of_mem _ (List.mem_cons_of_mem _ hv)))
  show W p l e R s m args below meth c H locs k n Q (F0 m pc ls (.int (Int32.ofInt x) :: .ref (ad (i + 1)) :: st.map (cv ad)))
  have hd9 := c2 sl f2
  rw [hty] at hd9
  cases hfin : ((vwf ci).2.1 sl).2.2.2 with
  | false => exact va_put hx hb hts c1 (tyf ci) c2 c3 hown hK hM.1 hM.2.1 hM.2.2.1 i hw (vw_at ci f1) sl f2 (hts _ u1) (fun x hx9 => by rw [← f5]; exact hx9) hfin hd9 rfl rfl hlen hdg go
  | true => exact va_putF hx hb hts c1 (tyf ci) c2 c3 hown hK hM.1 hM.2.1 hM.2.2.1 i hw (vw_at ci f1) sl f2 (hts _ u1) (fun x hx9 => by rw [← f5]; exact hx9) hfin (hin (u2 hfin).1) (u2 hfin).2 hd9 rfl rfl hlen hdg go
theorem ts_putfR (C : CX p l s m args meth c g ad0 h0 A0 cc nL own) {isI : Bool} (hin : isI = true → meth.name = "<init>") {pc k n : Nat} {L st : List PV} {Λ : List CT} {h : HP} {idx ci sl a r r0 : Nat} {rs : List Nat} (hF : FieldOK own (idx, ci, sl, true)) (hPu : PutOK own isI (idx, ci, sl, true)) (hdg : decode cc pc = .ok (.putfield idx, 3)) (hc : cell Λ a = some (.inl (ci, rs))) (hrs : nth rs sl = some r0)
    (hs : XW p l e R s m args below meth c Q g ad0 Λ0 h0 A0 nL (pc + 3) L st (Λ.set (a - 1) (.inl (ci, rs.set sl (r + 1)))) h k n) : XW p l e R s m args below meth c Q g ad0 Λ0 h0 A0 nL pc L (vR (r + 1) :: vR a :: st) Λ h k n := by
  obtain ⟨hx, hb, -, hown, hts, -, hK, hE, -⟩ := C
  obtain ⟨f1, f2, f4, f5, -⟩ := hF
  obtain ⟨u1, u2⟩ := hPu
  obtain ⟨c1, c2, c3, c4, f3, -⟩ := cls_ok ci f1
  intro ad ls H locs hM hL hst
  obtain ⟨i, rfl, hi⟩ := cell_at hc
  have hw := cw_get g ad h hi
  have f4' : (FK ci).getD sl false = true := f4
  have hty : isRefTy (tyf ci sl) = true := (c4 sl f2).1 f4'
  have hxr : scp Λ.length (r + 1) := hst (vR (r + 1)) List.mem_cons_self
  have hcr := hM.2.2.2.1 i _ hi
  rw [nth_eq] at hrs
  have hsl : sl < rs.length := (List.getElem?_eq_some_iff.mp hrs).1
  have hr : hrc Λ.length (.inl (ci, rs.set sl (r + 1))) (h (i + 1)) := by
    refine ⟨hcr.1, fun q hq => ?_, by rw [List.length_set]; exact hcr.2.2.1, hcr.2.2.2⟩
    rcases List.mem_or_eq_of_mem_set hq with z | z
    · exact hcr.2.1 q z
    · rw [z]; exact Or.inr hxr
  have he : ce g ad (.inl (ci, rs.set sl (r + 1))) (h (i + 1)) = .inr (ci, (fsl ad ci rs (h (i + 1))).set sl (.ref (ad (r + 1)))) := by
    show Sum.inr _ = Sum.inr _
    rw [fsl_ref ad rs _ f4' hsl]
  have hlen : sl < (fsl ad ci rs (h (i + 1))).length := by rw [fsl_len, ← f3]; exact f2
  have go : ∀ (H1 : Heap) (locs1 : List Loc), va_P g.1 vwCl ((cw g ad Λ h).set i (ad (i + 1), .inr (ci, (fsl ad ci rs (h (i + 1))).set sl (.ref (ad (r + 1)))))) H1 → va_D A0 ((cw g ad Λ h).set i (ad (i + 1), .inr (ci, (fsl ad ci rs (h (i + 1))).set sl (.ref (ad (r + 1)))))) → va_S A0 s.heap H1 locs1 → W p l e R s m args below meth c H1 locs1 k n Q (F0 m (pc + 3) ls (st.map (cv ad))) := by
    intro H1 locs1 hP1 hD1 hS1
    rw [← he] at hP1 hD1
    have ee := cw_set g ad (.inl (ci, rs.set sl (r + 1))) hi (h := h) (h' := h) (fun j _ _ => rfl)
    rw [← ee] at hP1 hD1
    obtain ⟨-, -, -, m4, m5, m6, m7, m8⟩ := hM
    have hlen2 : (Λ.set i (.inl (ci, rs.set sl (r + 1)))).length = Λ.length := List.length_set
    refine hs ad ls H1 locs1 ⟨hP1, hD1, hS1, HR_set m4 hi hr, by rw [Nat.add_sub_cancel, hlen2]; exact m5, by rw [Nat.add_sub_cancel, hlen2]; exact m6, m7, m8⟩ ?_ ?_
    · rw [Nat.add_sub_cancel, hlen2]; exact hL
    · rw [Nat.add_sub_cancel, hlen2]; exact fun v hv => hst v (List.mem_cons_of_mem _ (List.mem_cons_of_mem _ hv))
  show W p l e R s m args below meth c H locs k n Q (F0 m pc ls (.ref (ad (r + 1)) :: .ref (ad (i + 1)) :: st.map (cv ad)))
  have hd9 := c2 sl f2
  cases hfin : ((vwf ci).2.1 sl).2.2.2 with
  | false => exact va_put hx hb hts c1 (tyf ci) c2 c3 hown hK hM.1 hM.2.1 hM.2.2.1 i hw (vw_at ci f1) sl f2 (hts _ u1) (fun x hx9 => by rw [← f5]; exact hx9) hfin hd9 (nar_ref hty _).1 (nar_ref hty _).2 hlen hdg go
  | true => exact va_putF hx hb hts c1 (tyf ci) c2 c3 hown hK hM.1 hM.2.1 hM.2.2.1 i hw (vw_at ci f1) sl f2 (hts _ u1) (fun x hx9 => by rw [← f5]; exact hx9) hfin (hin (u2 hfin).1) (u2 hfin).2 hd9 (nar_ref hty _).1 (nar_ref hty _).2 hlen hdg go
end STEP
