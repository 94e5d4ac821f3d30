/-! ===== making cells; throwing; calls; what a method's contract says ===== -/
def excN : Nat → String
  | 1 => "java/lang/IllegalStateException"
  | 2 => "java/lang/IndexOutOfBoundsException"
  | 3 => "java/lang/IllegalArgumentException"
  | _ => "java/util/NoSuchElementException"
def Aft (g : GE) (ad0 : Nat → Nat) (Λ0 : List CT) (h0 : HP) (A0 : Nat → Prop) (st : State) (ad : Nat → Nat) (Λ : List CT) (h : HP) (t : State) : Prop :=
  va_P g.1 vwCl (cw g ad Λ h) t.heap ∧ va_D A0 (cw g ad Λ h) ∧ HR Λ h ∧ Λ0.length ≤ Λ.length ∧ Λ.length < 900 ∧ (∀ i, (i ≤ Λ0.length ∨ 900 ≤ i) → ad i = ad0 i) ∧ (∀ i, 900 ≤ i → h i = h0 i) ∧ va_F A0 st t
def QcP (g : GE) (ad0 : Nat → Nat) (Λ0 : List CT) (h0 : HP) (A0 : Nat → Prop) (post : Post) : Array Value → State → Outcome → State → Prop := fun _ st o t =>
  ∃ (v : Option PV) (ad : Nat → Nat) (Λ : List CT) (h : HP), o = .returned (v.map (cv ad)) ∧ (∀ w, v = some w → okv Λ.length w) ∧ Aft g ad0 Λ0 h0 A0 st ad Λ h t ∧ post (.inl v) Λ h
def XcP (g : GE) (ad0 : Nat → Nat) (Λ0 : List CT) (h0 : HP) (A0 : Nat → Prop) (post : Post) : String → State → State → Prop := fun E st t =>
  ∃ (ec : Nat) (ad : Nat → Nat) (Λ : List CT) (h : HP), E = excN ec ∧ (1 ≤ ec ∧ ec ≤ 4) ∧ Aft g ad0 Λ0 h0 A0 st ad Λ h t ∧ post (.inr ec) Λ h
def PreP (g : GE) (ad : Nat → Nat) (Λ : List CT) (h : HP) (args : List PV) (sz : Nat) (U : State) : Prop :=
  U.heap.size = sz ∧ va_P g.1 vwCl (cw g ad Λ h) U.heap ∧ va_K g.1 vwCl (tysG g) U ∧ va_D (fun _ => True) (cw g ad Λ h) ∧ HR Λ h ∧ Λ.length < 900 ∧ adok g ad h ∧ (∀ a ∈ args, okv Λ.length a) ∧ Ext g (va_A (cw g ad Λ h) sz) U U.heap
def MTd (y : Nat) : MInfo := (lk MTL y).getD (⟨"", "", ""⟩, ⟨#[]⟩, 0, none, [], 0, 0, 0, 0)
def codeW (i : MInfo) : Cond := match i.2.2.2.2.1 with
  | [] => .code i.1 i.2.1 i.2.2.1 i.2.2.2.1
  | hh => .codeWith i.1 i.2.1 i.2.2.1 i.2.2.2.1 hh
def wsM (i : MInfo) : List Cond := codeW i :: TW
def rmM (i : MInfo) : Room := { frames := i.2.2.2.2.2.1, cells := i.2.2.2.2.2.2.2.1, slots := i.2.2.2.2.2.2.2.2, locals := i.2.2.2.2.2.2.1 }
/-- THE CONTRACT of method y at these arguments and this picture: it ends, and what it ends with is in 'post' -/
def Ok (y : Nat) (args : List PV) (Λ : List CT) (h : HP) (post : Post) : Prop :=
  ∀ (l : Launch), l.stackTraces = false → ∀ (g : GE) (ad : Nat → Nat) (sz : Nat),
    vx_Met l (MTd y).1 (wsM (MTd y)) (rmM (MTd y)) (va_Pc (args.map (cv ad)) (PreP g ad Λ h args sz)) (QcP g ad Λ h (va_A (cw g ad Λ h) sz) post) (XcP g ad Λ h (va_A (cw g ad Λ h) sz) post)
      (MTd y).2.2.2.2.2.2.2.1 (MTd y).2.2.2.2.2.2.2.2 (va_A (cw g ad Λ h) sz)
theorem tw_at (i : Nat) {w : Cond} (h : lw_tbl[i]? = some w) (hg : goodWord w = true) : w ∈ TW := List.mem_filter.mpr ⟨List.mem_of_getElem? h, hg⟩
theorem tw_good {w : Cond} (h : w ∈ TW) : w ∈ lw_tbl ∧ goodWord w = true := List.mem_filter.mp h
theorem bnd_of {M : MC} {k n : Nat} {P : Prop} (h : bnd M k n P) : k ≤ M.2.2.2.2.1 ∧ n ≤ M.2.2.2.2.2 ∧ P := by
  unfold bnd at h
  split at h
  · next e =>
    simp only [Bool.and_eq_true] at e
    exact ⟨Nat.le_of_ble_eq_true e.1, Nat.le_of_ble_eq_true e.2, h⟩
  · exact h.elim
theorem cats_sum (ad : Nat → Nat) : ∀ (st : List PV), ((st.map (cv ad)).map fun v => v.category).sum = cats st
  | [] => rfl
  | v :: st => by
    simp only [List.map_cons, List.sum_cons, cats_sum ad st, cv_cat, cats]
    cases cat2 v <;> rfl
section STEP
variable {p : Program} {l : Launch} {e : Env} {R : Room} {s : State} {m : MethodId} {args : Array Value} {below : List Frame} {meth : Method} {c : Code} {Q : State → Prop}
variable {g : GE} {ad0 : Nat → Nat} {Λ0 : List CT} {h0 : HP} {A0 : Nat → Prop} {cc : ByteArray} {nL : Nat} {own : String}
theorem upA_self (h : HP) (i : Nat) (f : Nat → Int) : upA h i f i = f := by simp [upA]
theorem upA_other (h : HP) {i i' : Nat} (f : Nat → Int) (n : i' ≠ i) : upA h i f i' = h i' := by simp [upA, n]
/-- a new cell joins the picture -/
theorem MR_push {ad : Nat → Nat} {Λ : List CT} {h : HP} {H H1 : Heap} {locs : List Loc} {ct : CT} {q : Nat} {en : va_E} (hM : MR g ad0 Λ0 h0 A0 s ad Λ h H locs) (hl : Λ.length ≤ 800)
    (hP : va_P g.1 vwCl (cw g ad Λ h ++ [(q, en)]) H1) (hD : va_D A0 (cw g ad Λ h ++ [(q, en)])) (hS : va_S A0 s.heap H1 locs)
    (he : ce g (fun i => if i = Λ.length + 1 then q else ad i) ct (fun _ => 0) = en) (hr : hrc (Λ.length + 1) ct (fun _ => 0)) :
    MR g ad0 Λ0 h0 A0 s (fun i => if i = Λ.length + 1 then q else ad i) (Λ ++ [ct]) (upA h (Λ.length + 1) (fun _ => 0)) H1 locs ∧ (∀ i, scp Λ.length i → (if i = Λ.length + 1 then q else ad i) = ad i) := by
  obtain ⟨-, -, -, m4, m5, m6, m7, m8⟩ := hM
  have hag : ∀ i, (i ≤ Λ.length ∨ 900 ≤ i) → (if i = Λ.length + 1 then q else ad i) = ad i := fun i hi => if_neg (by omega)
  have ee := cw_push g ct (ad' := fun i => if i = Λ.length + 1 then q else ad i) (h' := upA h (Λ.length + 1) (fun _ => 0)) m4 hag (fun j hj => upA_other h _ (by omega))
  rw [upA_self, he, if_pos rfl] at ee
  have hlen : (Λ ++ [ct]).length = Λ.length + 1 := by rw [List.length_append]; rfl
  refine ⟨⟨by rw [ee]; exact hP, by rw [ee]; exact hD, hS, HR_push m4 (fun j hj => upA_other h _ (by omega)) (by rw [upA_self]; exact hr), by rw [hlen]; omega, by rw [hlen]; omega, fun i hi => ?_, fun i hi => ?_⟩, fun i hi => hag i (hi.imp (fun z => z.2) id)⟩
  · rw [← m7 i hi]; exact hag i (by omega)
  · rw [upA_other h _ (by omega)]; exact m8 i hi
theorem st_ad {n : Nat} {ad ad' : Nat → Nat} {st : List PV} (hst : ∀ v ∈ st, okv n v) (ha : ∀ i, scp n i → ad' i = ad i) : st.map (cv ad') = st.map (cv ad) := List.map_congr_left fun v hv => cv_ad ha (hst v hv)
theorem ts_newa (C : CX p l s m args meth c g ad0 h0 A0 cc nL own) {K : XT} (hK9 : ∀ pc L st Λ h k n, K pc L st Λ h k n → XW p l e R s m args below meth c Q g ad0 Λ0 h0 A0 nL pc L st Λ h k n) {M : MC} (hRc : R.cells = M.2.2.2.2.1) (hRs : R.slots = M.2.2.2.2.2) {pc k n kd len : Nat} {L st : List PV} {Λ : List CT} {h : HP} {ty : ArrayType} (hdg : decode cc pc = .ok (.newarray ty, 2))
    (hty : (kd, ty) = (0, .int) ∨ (kd, ty) = (1, .long) ∨ (kd, ty) = (2, .byte) ∨ (kd, ty) = (3, .boolean) ∨ (kd, ty) = (4, .double)) (hw : Cond.arrayClass (newarray.typeOf ty) ∈ TW)
    (hs : nwa M K pc L st Λ h k n len kd) : XW p l e R s m args below meth c Q g ad0 Λ0 h0 A0 nL pc L (vI (Int.ofNat len) :: st) Λ h k n := by
  obtain ⟨hx, hb, -, hown, hts, -, hK, hE, hA, -⟩ := C
  unfold nwa at hs
  split at hs
  · next hbl =>
    simp only [Bool.and_eq_true] at hbl
    obtain ⟨b1, b2⟩ := hbl
    have b1 := Nat.le_of_ble_eq_true b1
    have b2 := Nat.le_of_ble_eq_true b2
    obtain ⟨q1, q2, hs⟩ := bnd_of hs
    intro ad ls H locs hM hL hst
    have hst2 : ∀ v ∈ st, okv Λ.length v := fun v hv => hst v (List.mem_cons_of_mem _ hv)
    have l0 : (0 : Int) ≤ Int.ofNat len := Int.natCast_nonneg len
    have l1 : Int.ofNat len ≤ 60000 := Int.ofNat_le.mpr b1
    have hi0 : ¬ Int32.ofInt (Int.ofNat len) < 0 := by
      rw [show (0 : Int32) = Int32.ofInt 0 by decide, i_lt ⟨by omega, by omega⟩ ⟨by decide, by decide⟩]; omega
    have hcl : (Int32.ofInt (Int.ofNat len)).toNatClampNeg = len := by rw [i_clamp (by omega) (by omega)]; rfl
    have key : ∀ (q : Nat) (H1 : Heap) (en : va_E), ce g (fun i => if i = Λ.length + 1 then q else ad i) (.inr (kd, len)) (fun _ => 0) = en → hrc (Λ.length + 1) (.inr (kd, len)) (fun _ => 0) → va_P g.1 vwCl (cw g ad Λ h ++ [(q, en)]) H1 → va_D A0 (cw g ad Λ h ++ [(q, en)]) → va_S A0 s.heap H1 locs → W p l e R s m args below meth c H1 locs (k + 1) (n + len) Q (F0 m (pc + 2) ls (.ref q :: st.map (cv ad))) := by
      intro q H1 en he hr hP1 hD1 hS1
      obtain ⟨hM1, hag⟩ := MR_push hM b2 hP1 hD1 hS1 he hr
      have hlen : (Λ ++ [(.inr (kd, len) : CT)]).length = Λ.length + 1 := by rw [List.length_append]; rfl
      have h9 := hK9 _ _ _ _ _ _ _ hs _ ls H1 locs hM1 (by rw [hlen]; exact hL.mono (Nat.le_succ _) hag) (by rw [hlen]; exact okc (Or.inl ⟨by omega, by omega⟩) (fun v hv => okv_mono (Nat.le_succ _) (hst2 v hv)))
      have h9 : W p l e R s m args below meth c H1 locs (k + 1) (n + len) Q (F0 m (pc + 2) ls (.ref (if Λ.length + 1 = Λ.length + 1 then q else ad (Λ.length + 1)) :: st.map (cv fun i => if i = Λ.length + 1 then q else ad i))) := h9
      rw [if_pos rfl, st_ad hst2 hag] at h9
      exact h9
    show W p l e R s m args below meth c H locs k n Q (F0 m pc ls (.int (Int32.ofInt (Int.ofNat len)) :: st.map (cv ad)))
    have cA_of : ∀ {cA cB : ClassId} {nm : String}, s.vm.findClass nm = some cA → s.vm.findClass nm = some cB → cA = cB := fun h1 h2 => Option.some.inj (h1.symm.trans h2)
    have zr : ∀ j : Nat, inR ((fun _ => 0 : Nat → Int) j) := fun j => show inR 0 from ⟨by decide, by decide⟩
    rcases hty with z | z | z | z | z <;> cases z
    · refine va_newa hx hb (hts _ hw) rfl hK hM.1 hM.2.1 hM.2.2.1 hA (a0 := (len, .inl (fun _ => Int32.ofInt 0))) (fun _ => by rw [i_zero]; rfl) hi0 hcl (by show len * 4 ≤ _; omega) (by omega) (by omega) hdg (fun q cA H1 hK1 hP1 hD1 hS1 => ?_)
      have e1 : cA = g.2.1 0 := cA_of (va_nm_int (hK1.2 5 (cA, .int) rfl).2) (va_nm_int (hK.2 0 (g.2.1 0, .int) rfl).2)
      subst e1
      exact key q H1 _ rfl ⟨zr, by omega⟩ hP1 hD1 hS1
    · refine va_newa hx hb (hts _ hw) rfl hK hM.1 hM.2.1 hM.2.2.1 hA (a0 := (len, .inr (.inl (fun _ => Int64.ofInt 0)))) (fun _ => by rw [show Int64.ofInt 0 = 0 by decide]; rfl) hi0 hcl (by show len * 8 ≤ _; omega) (by omega) (by omega) hdg (fun q cA H1 hK1 hP1 hD1 hS1 => ?_)
      have e1 : cA = g.2.1 1 := cA_of (va_nm_long (hK1.2 5 (cA, .long) rfl).2) (va_nm_long (hK.2 1 (g.2.1 1, .long) rfl).2)
      subst e1
      exact key q H1 _ rfl (fun j => show inRL 0 from ⟨by decide, by decide⟩) hP1 hD1 hS1
    · refine va_newa hx hb (hts _ hw) rfl hK hM.1 hM.2.1 hM.2.2.1 hA (a0 := (len, .inl (fun _ => Int32.ofInt 0))) (fun _ => by rw [i_zero]; rfl) hi0 hcl (by show len * 1 ≤ _; omega) (by omega) (by omega) hdg (fun q cA H1 hK1 hP1 hD1 hS1 => ?_)
      have e1 : cA = g.2.1 2 := cA_of (va_nm_byte (hK1.2 5 (cA, .byte) rfl).2) (va_nm_byte (hK.2 2 (g.2.1 2, .byte) rfl).2)
      subst e1
      exact key q H1 _ rfl ⟨zr, by omega⟩ hP1 hD1 hS1
    · refine va_newa hx hb (hts _ hw) rfl hK hM.1 hM.2.1 hM.2.2.1 hA (a0 := (len, .inl (fun _ => Int32.ofInt 0))) (fun _ => by rw [i_zero]; rfl) hi0 hcl (by show len * 1 ≤ _; omega) (by omega) (by omega) hdg (fun q cA H1 hK1 hP1 hD1 hS1 => ?_)
      have e1 : cA = g.2.1 3 := cA_of (va_nm_boolean (hK1.2 5 (cA, .boolean) rfl).2) (va_nm_boolean (hK.2 3 (g.2.1 3, .boolean) rfl).2)
      subst e1
      exact key q H1 _ rfl ⟨zr, by omega⟩ hP1 hD1 hS1
    · refine va_newa hx hb (hts _ hw) rfl hK hM.1 hM.2.1 hM.2.2.1 hA (a0 := (len, .inr (.inr (.inr (.inl (fun _ => 0)))))) (fun _ => rfl) hi0 hcl (by show len * 8 ≤ _; omega) (by omega) (by omega) hdg (fun q cA H1 hK1 hP1 hD1 hS1 => ?_)
      have e1 : cA = g.2.1 4 := cA_of (va_nm_double (hK1.2 5 (cA, .double) rfl).2) (va_nm_double (hK.2 4 (g.2.1 4, .double) rfl).2)
      subst e1
      exact key q H1 _ rfl trivial hP1 hD1 hS1
  · exact hs.elim
/-- an entry of the pool for a class to make -/
abbrev NewOK (own : String) (q : Nat × Nat × Nat) : Prop := q.2.1 < 9 ∧ (vwf q.2.1).2.2 = q.2.2 ∧ Cond.classLink own q.1 (vwf q.2.1).1 ∈ TW ∧ Cond.instantiable (vwf q.2.1).1 q.2.2 ∈ TW
theorem ts_new (C : CX p l s m args meth c g ad0 h0 A0 cc nL own) {M : MC} (hRc : R.cells = M.2.2.2.2.1) (hRs : R.slots = M.2.2.2.2.2) {pc k n idx ci N : Nat} {L st : List PV} {Λ : List CT} {h : HP} (hdg : decode cc pc = .ok (.new idx, 3)) (hN : NewOK own (idx, ci, N)) (hl : Nat.ble Λ.length 800 = true)
    (hs : bnd M (k + 1) (n + N) (XW p l e R s m args below meth c Q g ad0 Λ0 h0 A0 nL (pc + 3) L (vR (Λ.length + 1) :: st) (Λ ++ [.inl (ci, List.replicate N 0)]) (upA h (Λ.length + 1) (fun _ => 0)) (k + 1) (n + N))) : XW p l e R s m args below meth c Q g ad0 Λ0 h0 A0 nL pc L st Λ h k n := by
  obtain ⟨hx, hb, -, hown, hts, -, hK, hE, hA, -⟩ := C
  obtain ⟨n1, n2, n3, n4⟩ := hN
  have n2 : (vwf ci).2.2 = N := n2
  subst n2
  obtain ⟨c1, c2, c3, c4, f3, c6⟩ := cls_ok ci n1
  have b2 := Nat.le_of_ble_eq_true hl
  obtain ⟨q1, q2, hs⟩ := bnd_of hs
  intro ad ls H locs hM hL hst
  have hfs : ∀ (ad' : Nat → Nat) (j : Nat), j < (vwf ci).2.2 → defaultValue (tyf ci j) = vp_V (fsl ad' ci (List.replicate (vwf ci).2.2 0) (fun _ => 0)) j := by
    intro ad' j hj
    unfold vp_V
    rw [List.getD_eq_getElem?_getD, fsl_get ad' _ _ (by rw [← f3]; exact hj)]
    cases hfk : (FK ci).getD j false with
    | true =>
      rw [if_pos rfl, def_ref ((c4 j hj).1 hfk), List.getD_eq_getElem?_getD, List.getElem?_replicate, if_pos hj]
      rfl
    | false =>
      rw [if_neg (by decide), (c4 j hj).2 hfk]
      rfl
  refine va_new (fs := fsl ad ci (List.replicate (vwf ci).2.2 0) (fun _ => 0)) hx hb hts c1 (tyf ci) c2 hown (hts _ n3) (hts _ n4) (hts _ c6) hK hM.1 hM.2.1 hM.2.2.1 hA (vw_at ci n1) (hfs ad) (by omega) (by omega) hdg (fun q H1 hP1 hD1 hS1 => ?_)
  have hz : ∀ r ∈ List.replicate (vwf ci).2.2 0, r = 0 ∨ scp (Λ.length + 1) r := fun r hr => Or.inl (List.eq_of_mem_replicate hr)
  have he : ce g (fun i => if i = Λ.length + 1 then q else ad i) (.inl (ci, List.replicate (vwf ci).2.2 0)) (fun _ => 0) = .inr (ci, fsl ad ci (List.replicate (vwf ci).2.2 0) (fun _ => 0)) := by
    show Sum.inr _ = Sum.inr _
    congr 2
    refine List.map_congr_left fun j hj => ?_
    have : (List.replicate (vwf ci).2.2 0).getD j 0 = 0 := by
      rw [List.getD_eq_getElem?_getD, List.getElem?_replicate]
      split <;> rfl
    rw [this]
    rfl
  obtain ⟨hM1, hag⟩ := MR_push hM b2 hP1 hD1 hS1 he ⟨fun j => show inR 0 from ⟨by decide, by decide⟩, hz, by rw [List.length_replicate]; exact f3, n1⟩
  have hlen : (Λ ++ [(.inl (ci, List.replicate (vwf ci).2.2 0) : CT)]).length = Λ.length + 1 := by rw [List.length_append]; rfl
  have h9 := hs _ ls H1 locs hM1 (by rw [hlen]; exact hL.mono (Nat.le_succ _) hag) (by rw [hlen]; exact okc (Or.inl ⟨by omega, by omega⟩) (fun v hv => okv_mono (Nat.le_succ _) (hst v hv)))
  have h9 : W p l e R s m args below meth c H1 locs (k + 1) (n + (vwf ci).2.2) Q (F0 m (pc + 3) ls (.ref (if Λ.length + 1 = Λ.length + 1 then q else ad (Λ.length + 1)) :: st.map (cv fun i => if i = Λ.length + 1 then q else ad i))) := h9
  rw [if_pos rfl, st_ad hst hag] at h9
  exact h9
theorem ts_obj (C : CX p l s m args meth c g ad0 h0 A0 cc nL own) {pc k n idx a : Nat} {L st : List PV} {Λ : List CT} {h : HP} (hdg : decode cc pc = .ok (.invokespecial idx, 3)) (h1 : Cond.methodLink own idx objectInit ∈ TW) (h2 : Cond.instanceMethod objectInit ∈ TW) (h3 : Cond.code objectInit ⟨#[0xb1]⟩ 1 none ∈ TW) (hRf : 1 ≤ R.frames) (hRl : 20 ≤ R.locals) (hc8 : Nat.ble (cats st) 8 = true)
    (hs : XW p l e R s m args below meth c Q g ad0 Λ0 h0 A0 nL (pc + 3) L st Λ h k n) : XW p l e R s m args below meth c Q g ad0 Λ0 h0 A0 nL pc L (vR a :: st) Λ h k n := by
  obtain ⟨hx, hb, hml, hown, hts, -⟩ := C
  have hc9 := Nat.le_of_ble_eq_true hc8
  intro ad ls H locs hM hL hst
  show W p l e R s m args below meth c H locs k n Q (F0 m pc ls (.ref (ad a) :: st.map (cv ad)))
  refine W.objInit hx hb hown (hts _ h1) (hts _ h2) (hts _ h3) rfl (by rw [hml]; exact hL.1) rfl hdg hRf ?_ ?_
  · have := lv_room (m := m) (pc := pc) (ls := ls) (rest := st.map (cv ad)) (st := st.map (cv ad)) (by rw [cats_sum]; exact hc9)
    have e0 : (F0 m pc ls (.ref (ad a) :: st.map (cv ad))).monitorRoom = (F0 m pc ls (st.map (cv ad))).monitorRoom := rfl
    rw [e0]
    omega
  · exact hs ad ls H locs hM hL (fun v hv => hst v (List.mem_cons_of_mem _ hv))
end STEP
