/-! ===== what a method's run takes as given; the steps that leave the heap alone (by wip/whole/gen05.py) ===== -/
def NW : List Jvm.Cond := [Cond.declares ⟨"java/lang/RuntimeException", "<init>", "()V"⟩, Cond.declares ⟨"java/lang/Exception", "<init>", "()V"⟩, Cond.declares ⟨"java/lang/Throwable", "<init>", "()V"⟩, Cond.castable "java/lang/IllegalStateException" "java/lang/IllegalStateException", Cond.castable "java/lang/IndexOutOfBoundsException" "java/lang/IndexOutOfBoundsException", Cond.castable "java/lang/IllegalArgumentException" "java/lang/IllegalArgumentException", Cond.castable "java/util/NoSuchElementException" "java/util/NoSuchElementException", Cond.fieldLinkNest "KnitGrader" 112 "KnitGrader$Text" "length" "I" "KnitGrader", Cond.fieldLinkNest "KnitGrader$Reader" 91 "KnitGrader$Text" "length" "I" "KnitGrader", Cond.fieldLinkNest "KnitGrader$Shelf" 15 "KnitGrader$State" "cells" "[I" "KnitGrader", Cond.fieldLinkNest "KnitGrader" 104 "KnitGrader$Reader" "pattern" "LKnitGrader$Pattern;" "KnitGrader", Cond.fieldLinkNest "KnitGrader" 108 "KnitGrader$Reader" "state" "LKnitGrader$State;" "KnitGrader", Cond.fieldLinkNest "KnitGrader" 124 "KnitGrader$Reader" "faultCode" "I" "KnitGrader", Cond.fieldLinkNest "KnitGrader" 125 "KnitGrader$Reader" "faultPosition" "I" "KnitGrader", Cond.fieldLinkNest "KnitGrader" 304 "KnitGrader$Plan" "partTotal" "I" "KnitGrader", Cond.fieldLinkNest "KnitGrader" 199 "KnitGrader$Plan" "rowTotal" "I" "KnitGrader", Cond.fieldLinkNest "KnitGrader$Dealer" 45 "KnitGrader$Plan" "failCode" "I" "KnitGrader", Cond.fieldLinkNest "KnitGrader" 196 "KnitGrader$Plan" "failCode" "I" "KnitGrader"]
def NC : List (String × String) := [("java/lang/IllegalStateException", "java/lang/IndexOutOfBoundsException"), ("java/lang/IllegalStateException", "java/lang/IllegalArgumentException"), ("java/lang/IllegalStateException", "java/util/NoSuchElementException"), ("java/lang/IndexOutOfBoundsException", "java/lang/IllegalStateException"), ("java/lang/IndexOutOfBoundsException", "java/lang/IllegalArgumentException"), ("java/lang/IndexOutOfBoundsException", "java/util/NoSuchElementException"), ("java/lang/IllegalArgumentException", "java/lang/IllegalStateException"), ("java/lang/IllegalArgumentException", "java/lang/IndexOutOfBoundsException"), ("java/lang/IllegalArgumentException", "java/util/NoSuchElementException"), ("java/util/NoSuchElementException", "java/lang/IllegalStateException"), ("java/util/NoSuchElementException", "java/lang/IndexOutOfBoundsException"), ("java/util/NoSuchElementException", "java/lang/IllegalArgumentException")]
def TW : List Jvm.Cond := lw_tbl.filter goodWord
def strLen : List Nat := strL.map List.length
/-- what the formatter's static holds: a reference or null (the claim says no more), nobody asks which -/
def fmZ (a : Nat) (A : Nat → Prop) (U : State) (H : Heap) : Prop := va_Z "jdk/internal/util/Preconditions" "SIOOBE_FORMATTER" "Ljava/util/function/BiFunction;" (.ref a) A U H ∨ va_Z "jdk/internal/util/Preconditions" "SIOOBE_FORMATTER" "Ljava/util/function/BiFunction;" .null A U H
theorem fmZ.moved {a : Nat} {A : Nat → Prop} {u U : State} {H : Heap} (hvm : u.vm.Alike U.vm) (h : fmZ a A u H) : fmZ a A U H := h.imp (va_Z.moved hvm) (va_Z.moved hvm)
theorem fmZ.kept {a : Nat} {A : Nat → Prop} {U : State} {H H1 : Heap} (h : fmZ a A U H) (hq : ∀ a : Nat, a < H.size → ¬ A a → H1[a]? = H[a]?) : fmZ a A U H1 := h.imp (fun z => z.kept hq) (fun z => z.kept hq)
theorem fmZ.narrow {a : Nat} {A B : Nat → Prop} {U : State} {H : Heap} (h : fmZ a A U H) (hAB : ∀ q, B q → A q) : fmZ a B U H := h.imp (fun z => z.narrow hAB) (fun z => z.narrow hAB)
/-- what lies beside the picture: texts, what the tables say besides, statics, the script -/
def Ext (g : GE) (A : Nat → Prop) (U : State) (H : Heap) : Prop :=
  (∀ q ∈ strR, vk_R q.1 q.2.1 q.2.2.1 (g.2.2.1 q.2.2.2) U) ∧ (∀ w ∈ NW, va_Nw w U) ∧ (∀ q ∈ NC, va_Nc q.1 q.2 U) ∧ vk_S nStr strLen strL g.2.2.1 g.2.2.2.1 A U H ∧ vx_Zq Bundle.tN "UNASSIGNED_STACK" Bundle.steD A U H ∧ vx_Zq Bundle.tN "SUPPRESSED_SENTINEL" Bundle.listD A U H ∧ va_Z "java/lang/String" "COMPACT_STRINGS" "Z" (.int 1) A U H ∧ fmZ (g.2.2.2.1 999) A U H ∧ va_X g.2.2.2.2.1 g.2.2.2.2.2.1 g.2.2.2.2.2.2 U H ∧ ¬ A g.2.2.2.2.1 ∧ g.2.2.2.2.1 < H.size
def adok (g : GE) (ad : Nat → Nat) (h : HP) : Prop := (∀ i, (i < nStr → ad (1000 + i) = g.2.2.1 i) ∧ ad (3000 + i) = g.2.2.2.1 i) ∧ ad 900 = g.2.2.2.2.1 ∧ (∀ j, j < g.2.2.2.2.2.1 → h 900 j = (g.2.2.2.2.2.2 j).toInt) ∧ h 901 0 = (g.2.2.2.2.2.1 : Int) ∧ g.2.2.2.2.2.1 < 2 ^ 31
def MR (g : GE) (ad0 : Nat → Nat) (Λ0 : List CT) (h0 : HP) (A0 : Nat → Prop) (s : State) (ad : Nat → Nat) (Λ : List CT) (h : HP) (H : Heap) (locs : List Loc) : Prop :=
  va_P g.1 vwCl (cw g ad Λ h) H ∧ va_D A0 (cw g ad Λ h) ∧ va_S A0 s.heap H locs ∧ HR Λ h ∧ Λ0.length ≤ Λ.length ∧ Λ.length < 900 ∧ (∀ i, (i ≤ Λ0.length ∨ 900 ≤ i) → ad i = ad0 i) ∧ (∀ i, 900 ≤ i → h i = h0 i)
/-- the machine at this picture comes to Q -/
def XW (p : Program) (l : Launch) (e : Env) (R : Room) (s : State) (m : MethodId) (args : Array Value) (below : List Frame) (meth : Method) (c : Code) (Q : State → Prop) (g : GE) (ad0 : Nat → Nat) (Λ0 : List CT) (h0 : HP) (A0 : Nat → Prop) (nL : Nat) : XT := fun pc L st Λ h k n =>
  ∀ (ad : Nat → Nat) (ls : Array Slot) (H : Heap) (locs : List Loc), MR g ad0 Λ0 h0 A0 s ad Λ h H locs → LR Λ.length ad nL ls L → (∀ v ∈ st, okv Λ.length v) → W p l e R s m args below meth c H locs k n Q (F0 m pc ls (st.map (cv ad)))
def CX (p : Program) (l : Launch) (s : State) (m : MethodId) (args : Array Value) (meth : Method) (c : Code) (g : GE) (ad0 : Nat → Nat) (h0 : HP) (A0 : Nat → Prop) (cc : ByteArray) (nL : Nat) (own : String) : Prop :=
  p.tables.exec = Jvm.exec ∧ c.code = cc ∧ c.maxLocals = nL ∧ s.vm.findClass own = some m.cls ∧ (∀ w ∈ TW, w.before args s = true) ∧ meth.locks = false ∧ va_K g.1 vwCl (tysG g) s ∧ Ext g A0 s s.heap ∧ (∀ q, s.heap.size ≤ q → A0 q) ∧ l.stackTraces = false ∧ adok g ad0 h0
theorem okc {n : Nat} {v : PV} {st : List PV} (h1 : okv n v) (h2 : ∀ v ∈ st, okv n v) : ∀ w ∈ v :: st, okv n w := fun w hw => (List.mem_cons.mp hw).elim (fun z => by rw [z]; exact h1) (h2 w)
theorem rb_of {lo hi x : Int} (h : rb lo hi x = true) : lo ≤ x ∧ x ≤ hi := by
  simp only [rb, Bool.and_eq_true, decide_eq_true_eq] at h; exact h
section STEP
variable {p : Program} {l : Launch} {e : Env} {R : Room} {s : State} {m : MethodId} {args : Array Value} {below : List Frame} {meth : Method} {c : Code} {Q : State → Prop}
variable {g : GE} {ad0 : Nat → Nat} {Λ0 : List CT} {h0 : HP} {A0 : Nat → Prop} {cc : ByteArray} {nL : Nat} {own : String}
theorem ts_iadd (C : CX p l s m args meth c g ad0 h0 A0 cc nL own) {pc k n : Nat} {L st : List PV} {Λ : List CT} {h : HP} {a b : Int} (hdg : decode cc pc = .ok (.iadd, 1)) (hs : inR (a + b) ∧ XW p l e R s m args below meth c Q g ad0 Λ0 h0 A0 nL (pc + 1) L (vI (a + b) :: st) Λ h k n) : XW p l e R s m args below meth c Q g ad0 Λ0 h0 A0 nL pc L (vI b :: vI a :: st) Λ h k n := by
  obtain ⟨hx, hb, -⟩ := C
  intro ad ls H locs hM hL hst
  have ha : inR a := hst (vI a) (List.mem_cons_of_mem _ List.mem_cons_self)
  have hbb : inR b := hst (vI b) List.mem_cons_self
  show W p l e R s m args below meth c H locs k n Q (F0 m pc ls (.int (Int32.ofInt b) :: .int (Int32.ofInt a) :: st.map (cv ad)))
  refine lv_iadd hx hb hdg ?_
  rw [show _ = Int32.ofInt (a + b) from (Int32.ofInt_add a b).symm]
  exact hs.2 ad ls H locs hM hL (okc hs.1 (fun v hv => hst v (List.mem_cons_of_mem _ (List.mem_cons_of_mem _ hv))))
theorem ts_isub (C : CX p l s m args meth c g ad0 h0 A0 cc nL own) {pc k n : Nat} {L st : List PV} {Λ : List CT} {h : HP} {a b : Int} (hdg : decode cc pc = .ok (.isub, 1)) (hs : inR (a - b) ∧ XW p l e R s m args below meth c Q g ad0 Λ0 h0 A0 nL (pc + 1) L (vI (a - b) :: st) Λ h k n) : XW p l e R s m args below meth c Q g ad0 Λ0 h0 A0 nL pc L (vI b :: vI a :: st) Λ h k n := by
  obtain ⟨hx, hb, -⟩ := C
  intro ad ls H locs hM hL hst
  have ha : inR a := hst (vI a) (List.mem_cons_of_mem _ List.mem_cons_self)
  have hbb : inR b := hst (vI b) List.mem_cons_self
  show W p l e R s m args below meth c H locs k n Q (F0 m pc ls (.int (Int32.ofInt b) :: .int (Int32.ofInt a) :: st.map (cv ad)))
  refine lv_isub hx hb hdg ?_
  rw [show _ = Int32.ofInt (a - b) from (Int32.ofInt_sub a b).symm]
  exact hs.2 ad ls H locs hM hL (okc hs.1 (fun v hv => hst v (List.mem_cons_of_mem _ (List.mem_cons_of_mem _ hv))))
theorem ts_imul (C : CX p l s m args meth c g ad0 h0 A0 cc nL own) {pc k n : Nat} {L st : List PV} {Λ : List CT} {h : HP} {a b : Int} (hdg : decode cc pc = .ok (.imul, 1)) (hs : inR (a * b) ∧ XW p l e R s m args below meth c Q g ad0 Λ0 h0 A0 nL (pc + 1) L (vI (a * b) :: st) Λ h k n) : XW p l e R s m args below meth c Q g ad0 Λ0 h0 A0 nL pc L (vI b :: vI a :: st) Λ h k n := by
  obtain ⟨hx, hb, -⟩ := C
  intro ad ls H locs hM hL hst
  have ha : inR a := hst (vI a) (List.mem_cons_of_mem _ List.mem_cons_self)
  have hbb : inR b := hst (vI b) List.mem_cons_self
  show W p l e R s m args below meth c H locs k n Q (F0 m pc ls (.int (Int32.ofInt b) :: .int (Int32.ofInt a) :: st.map (cv ad)))
  refine lv_imul hx hb hdg ?_
  rw [show _ = Int32.ofInt (a * b) from (Int32.ofInt_mul a b).symm]
  exact hs.2 ad ls H locs hM hL (okc hs.1 (fun v hv => hst v (List.mem_cons_of_mem _ (List.mem_cons_of_mem _ hv))))
theorem ts_idiv (C : CX p l s m args meth c g ad0 h0 A0 cc nL own) {pc k n : Nat} {L st : List PV} {Λ : List CT} {h : HP} {a b : Int} (hdg : decode cc pc = .ok (.idiv, 1)) (hs : (b ≠ 0 ∧ inR (a.tdiv b)) ∧ XW p l e R s m args below meth c Q g ad0 Λ0 h0 A0 nL (pc + 1) L (vI (a.tdiv b) :: st) Λ h k n) : XW p l e R s m args below meth c Q g ad0 Λ0 h0 A0 nL pc L (vI b :: vI a :: st) Λ h k n := by
  obtain ⟨hx, hb, -⟩ := C
  intro ad ls H locs hM hL hst
  have ha : inR a := hst (vI a) (List.mem_cons_of_mem _ List.mem_cons_self)
  have hbb : inR b := hst (vI b) List.mem_cons_self
  show W p l e R s m args below meth c H locs k n Q (F0 m pc ls (.int (Int32.ofInt b) :: .int (Int32.ofInt a) :: st.map (cv ad)))
  refine lv_idiv hx hb hdg (fun z => hs.1.1 ((i_eq hbb ⟨by decide, by decide⟩).mp (z.trans i_zero.symm))) ?_
  rw [show _ = Int32.ofInt (a.tdiv b) from i_div ha hbb hs.1.2]
  exact hs.2 ad ls H locs hM hL (okc hs.1.2 (fun v hv => hst v (List.mem_cons_of_mem _ (List.mem_cons_of_mem _ hv))))
theorem ts_irem (C : CX p l s m args meth c g ad0 h0 A0 cc nL own) {pc k n : Nat} {L st : List PV} {Λ : List CT} {h : HP} {a b : Int} (hdg : decode cc pc = .ok (.irem, 1)) (hs : b ≠ 0 ∧ XW p l e R s m args below meth c Q g ad0 Λ0 h0 A0 nL (pc + 1) L (vI (a.tmod b) :: st) Λ h k n) : XW p l e R s m args below meth c Q g ad0 Λ0 h0 A0 nL pc L (vI b :: vI a :: st) Λ h k n := by
  obtain ⟨hx, hb, -⟩ := C
  intro ad ls H locs hM hL hst
  have ha : inR a := hst (vI a) (List.mem_cons_of_mem _ List.mem_cons_self)
  have hbb : inR b := hst (vI b) List.mem_cons_self
  show W p l e R s m args below meth c H locs k n Q (F0 m pc ls (.int (Int32.ofInt b) :: .int (Int32.ofInt a) :: st.map (cv ad)))
  refine lv_irem hx hb hdg (fun z => hs.1 ((i_eq hbb ⟨by decide, by decide⟩).mp (z.trans i_zero.symm))) ?_
  rw [show _ = Int32.ofInt (a.tmod b) from i_rem ha hbb]
  exact hs.2 ad ls H locs hM hL (okc (tmod_rng ha hs.1) (fun v hv => hst v (List.mem_cons_of_mem _ (List.mem_cons_of_mem _ hv))))
theorem ts_iand (C : CX p l s m args meth c g ad0 h0 A0 cc nL own) {pc k n : Nat} {L st : List PV} {Λ : List CT} {h : HP} {a b : Int} (hdg : decode cc pc = .ok (.iand, 1)) (hs : XW p l e R s m args below meth c Q g ad0 Λ0 h0 A0 nL (pc + 1) L (vI (iandI a b) :: st) Λ h k n) : XW p l e R s m args below meth c Q g ad0 Λ0 h0 A0 nL pc L (vI b :: vI a :: st) Λ h k n := by
  obtain ⟨hx, hb, -⟩ := C
  intro ad ls H locs hM hL hst
  have ha : inR a := hst (vI a) (List.mem_cons_of_mem _ List.mem_cons_self)
  have hbb : inR b := hst (vI b) List.mem_cons_self
  show W p l e R s m args below meth c H locs k n Q (F0 m pc ls (.int (Int32.ofInt b) :: .int (Int32.ofInt a) :: st.map (cv ad)))
  refine lv_iand hx hb hdg ?_
  rw [show _ = Int32.ofInt (iandI a b) from (i_of _).symm]
  exact hs ad ls H locs hM hL (okc (i_rng _) (fun v hv => hst v (List.mem_cons_of_mem _ (List.mem_cons_of_mem _ hv))))
theorem ts_ior (C : CX p l s m args meth c g ad0 h0 A0 cc nL own) {pc k n : Nat} {L st : List PV} {Λ : List CT} {h : HP} {a b : Int} (hdg : decode cc pc = .ok (.ior, 1)) (hs : XW p l e R s m args below meth c Q g ad0 Λ0 h0 A0 nL (pc + 1) L (vI (iorI a b) :: st) Λ h k n) : XW p l e R s m args below meth c Q g ad0 Λ0 h0 A0 nL pc L (vI b :: vI a :: st) Λ h k n := by
  obtain ⟨hx, hb, -⟩ := C
  intro ad ls H locs hM hL hst
  have ha : inR a := hst (vI a) (List.mem_cons_of_mem _ List.mem_cons_self)
  have hbb : inR b := hst (vI b) List.mem_cons_self
  show W p l e R s m args below meth c H locs k n Q (F0 m pc ls (.int (Int32.ofInt b) :: .int (Int32.ofInt a) :: st.map (cv ad)))
  refine lv_ior hx hb hdg ?_
  rw [show _ = Int32.ofInt (iorI a b) from (i_of _).symm]
  exact hs ad ls H locs hM hL (okc (i_rng _) (fun v hv => hst v (List.mem_cons_of_mem _ (List.mem_cons_of_mem _ hv))))
theorem ts_ixor (C : CX p l s m args meth c g ad0 h0 A0 cc nL own) {pc k n : Nat} {L st : List PV} {Λ : List CT} {h : HP} {a b : Int} (hdg : decode cc pc = .ok (.ixor, 1)) (hs : XW p l e R s m args below meth c Q g ad0 Λ0 h0 A0 nL (pc + 1) L (vI (ixorI a b) :: st) Λ h k n) : XW p l e R s m args below meth c Q g ad0 Λ0 h0 A0 nL pc L (vI b :: vI a :: st) Λ h k n := by
  obtain ⟨hx, hb, -⟩ := C
  intro ad ls H locs hM hL hst
  have ha : inR a := hst (vI a) (List.mem_cons_of_mem _ List.mem_cons_self)
  have hbb : inR b := hst (vI b) List.mem_cons_self
  show W p l e R s m args below meth c H locs k n Q (F0 m pc ls (.int (Int32.ofInt b) :: .int (Int32.ofInt a) :: st.map (cv ad)))
  refine lv_ixor hx hb hdg ?_
  rw [show _ = Int32.ofInt (ixorI a b) from (i_of _).symm]
  exact hs ad ls H locs hM hL (okc (i_rng _) (fun v hv => hst v (List.mem_cons_of_mem _ (List.mem_cons_of_mem _ hv))))
theorem ts_ishl (C : CX p l s m args meth c g ad0 h0 A0 cc nL own) {pc k n : Nat} {L st : List PV} {Λ : List CT} {h : HP} {a b : Int} (hdg : decode cc pc = .ok (.ishl, 1)) (hs : XW p l e R s m args below meth c Q g ad0 Λ0 h0 A0 nL (pc + 1) L (vI (ishlI a b) :: st) Λ h k n) : XW p l e R s m args below meth c Q g ad0 Λ0 h0 A0 nL pc L (vI b :: vI a :: st) Λ h k n := by
  obtain ⟨hx, hb, -⟩ := C
  intro ad ls H locs hM hL hst
  have ha : inR a := hst (vI a) (List.mem_cons_of_mem _ List.mem_cons_self)
  have hbb : inR b := hst (vI b) List.mem_cons_self
  show W p l e R s m args below meth c H locs k n Q (F0 m pc ls (.int (Int32.ofInt b) :: .int (Int32.ofInt a) :: st.map (cv ad)))
  refine lv_ishl hx hb hdg ?_
  rw [show _ = Int32.ofInt (ishlI a b) from (i_of _).symm]
  exact hs ad ls H locs hM hL (okc (i_rng _) (fun v hv => hst v (List.mem_cons_of_mem _ (List.mem_cons_of_mem _ hv))))
theorem ts_ishr (C : CX p l s m args meth c g ad0 h0 A0 cc nL own) {pc k n : Nat} {L st : List PV} {Λ : List CT} {h : HP} {a b : Int} (hdg : decode cc pc = .ok (.ishr, 1)) (hs : XW p l e R s m args below meth c Q g ad0 Λ0 h0 A0 nL (pc + 1) L (vI (ishrI a b) :: st) Λ h k n) : XW p l e R s m args below meth c Q g ad0 Λ0 h0 A0 nL pc L (vI b :: vI a :: st) Λ h k n := by
  obtain ⟨hx, hb, -⟩ := C
  intro ad ls H locs hM hL hst
  have ha : inR a := hst (vI a) (List.mem_cons_of_mem _ List.mem_cons_self)
  have hbb : inR b := hst (vI b) List.mem_cons_self
  show W p l e R s m args below meth c H locs k n Q (F0 m pc ls (.int (Int32.ofInt b) :: .int (Int32.ofInt a) :: st.map (cv ad)))
  refine lv_ishr hx hb hdg ?_
  rw [show _ = Int32.ofInt (ishrI a b) from (i_of _).symm]
  exact hs ad ls H locs hM hL (okc (i_rng _) (fun v hv => hst v (List.mem_cons_of_mem _ (List.mem_cons_of_mem _ hv))))
theorem ts_ineg (C : CX p l s m args meth c g ad0 h0 A0 cc nL own) {pc k n : Nat} {L st : List PV} {Λ : List CT} {h : HP} {a : Int} (hdg : decode cc pc = .ok (.ineg, 1)) (hs : inR (-a) ∧ XW p l e R s m args below meth c Q g ad0 Λ0 h0 A0 nL (pc + 1) L (vI (-a) :: st) Λ h k n) : XW p l e R s m args below meth c Q g ad0 Λ0 h0 A0 nL pc L (vI a :: st) Λ h k n := by
  obtain ⟨hx, hb, -⟩ := C
  intro ad ls H locs hM hL hst
  have ha : okv Λ.length (vI a) := hst (vI a) List.mem_cons_self
  show W p l e R s m args below meth c H locs k n Q (F0 m pc ls (.int (Int32.ofInt a) :: st.map (cv ad)))
  refine lv_ineg hx hb hdg ?_
  rw [show _ = Int32.ofInt (-a) from (Int32.ofInt_neg a).symm]
  exact hs.2 ad ls H locs hM hL (okc hs.1 (fun v hv => hst v (List.mem_cons_of_mem _ hv)))
theorem ts_i2b (C : CX p l s m args meth c g ad0 h0 A0 cc nL own) {pc k n : Nat} {L st : List PV} {Λ : List CT} {h : HP} {a : Int} (hdg : decode cc pc = .ok (.i2b, 1)) (hs : XW p l e R s m args below meth c Q g ad0 Λ0 h0 A0 nL (pc + 1) L (vI (i2bI a) :: st) Λ h k n) : XW p l e R s m args below meth c Q g ad0 Λ0 h0 A0 nL pc L (vI a :: st) Λ h k n := by
  obtain ⟨hx, hb, -⟩ := C
  intro ad ls H locs hM hL hst
  have ha : okv Λ.length (vI a) := hst (vI a) List.mem_cons_self
  show W p l e R s m args below meth c H locs k n Q (F0 m pc ls (.int (Int32.ofInt a) :: st.map (cv ad)))
  refine lv_i2b hx hb hdg (v := Int32.ofInt (i2bI a)) (i_of _).symm ?_
  exact hs ad ls H locs hM hL (okc (i_rng _) (fun v hv => hst v (List.mem_cons_of_mem _ hv)))
theorem ts_i2l (C : CX p l s m args meth c g ad0 h0 A0 cc nL own) {pc k n : Nat} {L st : List PV} {Λ : List CT} {h : HP} {a : Int} (hdg : decode cc pc = .ok (.i2l, 1)) (hs : XW p l e R s m args below meth c Q g ad0 Λ0 h0 A0 nL (pc + 1) L (vL (a) :: st) Λ h k n) : XW p l e R s m args below meth c Q g ad0 Λ0 h0 A0 nL pc L (vI a :: st) Λ h k n := by
  obtain ⟨hx, hb, -⟩ := C
  intro ad ls H locs hM hL hst
  have ha : okv Λ.length (vI a) := hst (vI a) List.mem_cons_self
  show W p l e R s m args below meth c H locs k n Q (F0 m pc ls (.int (Int32.ofInt a) :: st.map (cv ad)))
  refine lv_i2l hx hb hdg (v := Int64.ofInt a) (l_inj (by rw [Int32.toInt_toInt64]; exact i_to ha)) ?_
  exact hs ad ls H locs hM hL (okc (show inRL a from ⟨by have := ha.1; omega, by have := ha.2; omega⟩) (fun v hv => hst v (List.mem_cons_of_mem _ hv)))
theorem ts_l2i (C : CX p l s m args meth c g ad0 h0 A0 cc nL own) {pc k n : Nat} {L st : List PV} {Λ : List CT} {h : HP} {a : Int} (hdg : decode cc pc = .ok (.l2i, 1)) (hs : XW p l e R s m args below meth c Q g ad0 Λ0 h0 A0 nL (pc + 1) L (vI (l2iI a) :: st) Λ h k n) : XW p l e R s m args below meth c Q g ad0 Λ0 h0 A0 nL pc L (vL a :: st) Λ h k n := by
  obtain ⟨hx, hb, -⟩ := C
  intro ad ls H locs hM hL hst
  have ha : okv Λ.length (vL a) := hst (vL a) List.mem_cons_self
  show W p l e R s m args below meth c H locs k n Q (F0 m pc ls (.long (Int64.ofInt a) :: st.map (cv ad)))
  refine lv_l2i hx hb hdg (v := Int32.ofInt (l2iI a)) (i_of _).symm ?_
  exact hs ad ls H locs hM hL (okc (i_rng _) (fun v hv => hst v (List.mem_cons_of_mem _ hv)))
theorem ts_i2f (C : CX p l s m args meth c g ad0 h0 A0 cc nL own) {pc k n : Nat} {L st : List PV} {Λ : List CT} {h : HP} {a : Int} (hdg : decode cc pc = .ok (.i2f, 1)) (hs : XW p l e R s m args below meth c Q g ad0 Λ0 h0 A0 nL (pc + 1) L (vF (FP.i2f (Int32.ofInt a)) :: st) Λ h k n) : XW p l e R s m args below meth c Q g ad0 Λ0 h0 A0 nL pc L (vI a :: st) Λ h k n := by
  obtain ⟨hx, hb, -⟩ := C
  intro ad ls H locs hM hL hst
  have ha : okv Λ.length (vI a) := hst (vI a) List.mem_cons_self
  show W p l e R s m args below meth c H locs k n Q (F0 m pc ls (.int (Int32.ofInt a) :: st.map (cv ad)))
  refine lv_i2f hx hb hdg ?_
  exact hs ad ls H locs hM hL (okc trivial (fun v hv => hst v (List.mem_cons_of_mem _ hv)))
theorem ts_i2d (C : CX p l s m args meth c g ad0 h0 A0 cc nL own) {pc k n : Nat} {L st : List PV} {Λ : List CT} {h : HP} {a : Int} (hdg : decode cc pc = .ok (.i2d, 1)) (hs : XW p l e R s m args below meth c Q g ad0 Λ0 h0 A0 nL (pc + 1) L (vD (FP.i2d (Int32.ofInt a)) :: st) Λ h k n) : XW p l e R s m args below meth c Q g ad0 Λ0 h0 A0 nL pc L (vI a :: st) Λ h k n := by
  obtain ⟨hx, hb, -⟩ := C
  intro ad ls H locs hM hL hst
  have ha : okv Λ.length (vI a) := hst (vI a) List.mem_cons_self
  show W p l e R s m args below meth c H locs k n Q (F0 m pc ls (.int (Int32.ofInt a) :: st.map (cv ad)))
  refine lv_i2d hx hb hdg ?_
  exact hs ad ls H locs hM hL (okc trivial (fun v hv => hst v (List.mem_cons_of_mem _ hv)))
theorem ts_l2d (C : CX p l s m args meth c g ad0 h0 A0 cc nL own) {pc k n : Nat} {L st : List PV} {Λ : List CT} {h : HP} {a : Int} (hdg : decode cc pc = .ok (.l2d, 1)) (hs : XW p l e R s m args below meth c Q g ad0 Λ0 h0 A0 nL (pc + 1) L (vD (FP.l2d (Int64.ofInt a)) :: st) Λ h k n) : XW p l e R s m args below meth c Q g ad0 Λ0 h0 A0 nL pc L (vL a :: st) Λ h k n := by
  obtain ⟨hx, hb, -⟩ := C
  intro ad ls H locs hM hL hst
  have ha : okv Λ.length (vL a) := hst (vL a) List.mem_cons_self
  show W p l e R s m args below meth c H locs k n Q (F0 m pc ls (.long (Int64.ofInt a) :: st.map (cv ad)))
  refine lv_l2d hx hb hdg ?_
  exact hs ad ls H locs hM hL (okc trivial (fun v hv => hst v (List.mem_cons_of_mem _ hv)))
theorem ts_f2d (C : CX p l s m args meth c g ad0 h0 A0 cc nL own) {pc k n : Nat} {L st : List PV} {Λ : List CT} {h : HP} {a : UInt32} (hdg : decode cc pc = .ok (.f2d, 1)) (hs : vf_n64 (FP.f2d a) ∧ XW p l e R s m args below meth c Q g ad0 Λ0 h0 A0 nL (pc + 1) L (vD (FP.f2d a) :: st) Λ h k n) : XW p l e R s m args below meth c Q g ad0 Λ0 h0 A0 nL pc L (vF a :: st) Λ h k n := by
  obtain ⟨hx, hb, -⟩ := C
  intro ad ls H locs hM hL hst
  have ha : okv Λ.length (vF a) := hst (vF a) List.mem_cons_self
  show W p l e R s m args below meth c H locs k n Q (F0 m pc ls (.float a :: st.map (cv ad)))
  refine lv_f2d hx hb hdg hs.1 ?_
  exact hs.2 ad ls H locs hM hL (okc trivial (fun v hv => hst v (List.mem_cons_of_mem _ hv)))
theorem ts_iushr (C : CX p l s m args meth c g ad0 h0 A0 cc nL own) {pc k n : Nat} {L st : List PV} {Λ : List CT} {h : HP} {a b : Int} (hdg : decode cc pc = .ok (.iushr, 1)) (hs : XW p l e R s m args below meth c Q g ad0 Λ0 h0 A0 nL (pc + 1) L (vI (iushrI a b) :: st) Λ h k n) : XW p l e R s m args below meth c Q g ad0 Λ0 h0 A0 nL pc L (vI b :: vI a :: st) Λ h k n := by
  obtain ⟨hx, hb, -⟩ := C
  intro ad ls H locs hM hL hst
  have ha : inR a := hst (vI a) (List.mem_cons_of_mem _ List.mem_cons_self)
  have hbb : inR b := hst (vI b) List.mem_cons_self
  show W p l e R s m args below meth c H locs k n Q (F0 m pc ls (.int (Int32.ofInt b) :: .int (Int32.ofInt a) :: st.map (cv ad)))
  refine lv_iushr hx hb hdg (v := Int32.ofInt (iushrI a b)) (i_of _).symm ?_
  rw [show _ = Int32.ofInt (iushrI a b) from rfl]
  exact hs ad ls H locs hM hL (okc (i_rng _) (fun v hv => hst v (List.mem_cons_of_mem _ (List.mem_cons_of_mem _ hv))))
theorem ts_ladd (C : CX p l s m args meth c g ad0 h0 A0 cc nL own) {pc k n : Nat} {L st : List PV} {Λ : List CT} {h : HP} {a b : Int} (hdg : decode cc pc = .ok (.ladd, 1)) (hs : inRL (a + b) ∧ XW p l e R s m args below meth c Q g ad0 Λ0 h0 A0 nL (pc + 1) L (vL (a + b) :: st) Λ h k n) : XW p l e R s m args below meth c Q g ad0 Λ0 h0 A0 nL pc L (vL b :: vL a :: st) Λ h k n := by
  obtain ⟨hx, hb, -⟩ := C
  intro ad ls H locs hM hL hst
  have ha : inRL a := hst (vL a) (List.mem_cons_of_mem _ List.mem_cons_self)
  have hbb : inRL b := hst (vL b) List.mem_cons_self
  show W p l e R s m args below meth c H locs k n Q (F0 m pc ls (.long (Int64.ofInt b) :: .long (Int64.ofInt a) :: st.map (cv ad)))
  refine lv_ladd hx hb hdg ?_
  rw [show _ = Int64.ofInt (a + b) from (Int64.ofInt_add a b).symm]
  exact hs.2 ad ls H locs hM hL (okc hs.1 (fun v hv => hst v (List.mem_cons_of_mem _ (List.mem_cons_of_mem _ hv))))
theorem ts_lsub (C : CX p l s m args meth c g ad0 h0 A0 cc nL own) {pc k n : Nat} {L st : List PV} {Λ : List CT} {h : HP} {a b : Int} (hdg : decode cc pc = .ok (.lsub, 1)) (hs : inRL (a - b) ∧ XW p l e R s m args below meth c Q g ad0 Λ0 h0 A0 nL (pc + 1) L (vL (a - b) :: st) Λ h k n) : XW p l e R s m args below meth c Q g ad0 Λ0 h0 A0 nL pc L (vL b :: vL a :: st) Λ h k n := by
  obtain ⟨hx, hb, -⟩ := C
  intro ad ls H locs hM hL hst
  have ha : inRL a := hst (vL a) (List.mem_cons_of_mem _ List.mem_cons_self)
  have hbb : inRL b := hst (vL b) List.mem_cons_self
  show W p l e R s m args below meth c H locs k n Q (F0 m pc ls (.long (Int64.ofInt b) :: .long (Int64.ofInt a) :: st.map (cv ad)))
  refine lv_lsub hx hb hdg ?_
  rw [show _ = Int64.ofInt (a - b) from (Int64.ofInt_sub a b).symm]
  exact hs.2 ad ls H locs hM hL (okc hs.1 (fun v hv => hst v (List.mem_cons_of_mem _ (List.mem_cons_of_mem _ hv))))
theorem ts_lmul (C : CX p l s m args meth c g ad0 h0 A0 cc nL own) {pc k n : Nat} {L st : List PV} {Λ : List CT} {h : HP} {a b : Int} (hdg : decode cc pc = .ok (.lmul, 1)) (hs : inRL (a * b) ∧ XW p l e R s m args below meth c Q g ad0 Λ0 h0 A0 nL (pc + 1) L (vL (a * b) :: st) Λ h k n) : XW p l e R s m args below meth c Q g ad0 Λ0 h0 A0 nL pc L (vL b :: vL a :: st) Λ h k n := by
  obtain ⟨hx, hb, -⟩ := C
  intro ad ls H locs hM hL hst
  have ha : inRL a := hst (vL a) (List.mem_cons_of_mem _ List.mem_cons_self)
  have hbb : inRL b := hst (vL b) List.mem_cons_self
  show W p l e R s m args below meth c H locs k n Q (F0 m pc ls (.long (Int64.ofInt b) :: .long (Int64.ofInt a) :: st.map (cv ad)))
  refine lv_lmul hx hb hdg ?_
  rw [show _ = Int64.ofInt (a * b) from (Int64.ofInt_mul a b).symm]
  exact hs.2 ad ls H locs hM hL (okc hs.1 (fun v hv => hst v (List.mem_cons_of_mem _ (List.mem_cons_of_mem _ hv))))
theorem ts_ldiv (C : CX p l s m args meth c g ad0 h0 A0 cc nL own) {pc k n : Nat} {L st : List PV} {Λ : List CT} {h : HP} {a b : Int} (hdg : decode cc pc = .ok (.ldiv, 1)) (hs : (b ≠ 0 ∧ inRL (a.tdiv b)) ∧ XW p l e R s m args below meth c Q g ad0 Λ0 h0 A0 nL (pc + 1) L (vL (a.tdiv b) :: st) Λ h k n) : XW p l e R s m args below meth c Q g ad0 Λ0 h0 A0 nL pc L (vL b :: vL a :: st) Λ h k n := by
  obtain ⟨hx, hb, -⟩ := C
  intro ad ls H locs hM hL hst
  have ha : inRL a := hst (vL a) (List.mem_cons_of_mem _ List.mem_cons_self)
  have hbb : inRL b := hst (vL b) List.mem_cons_self
  show W p l e R s m args below meth c H locs k n Q (F0 m pc ls (.long (Int64.ofInt b) :: .long (Int64.ofInt a) :: st.map (cv ad)))
  refine lv_ldiv hx hb hdg (fun z => hs.1.1 ((l_eq hbb ⟨by decide, by decide⟩).mp (z.trans (show (0 : Int64) = Int64.ofInt 0 by decide)))) ?_
  rw [show _ = Int64.ofInt (a.tdiv b) from l_div ha hbb hs.1.2]
  exact hs.2 ad ls H locs hM hL (okc hs.1.2 (fun v hv => hst v (List.mem_cons_of_mem _ (List.mem_cons_of_mem _ hv))))
theorem ts_lrem (C : CX p l s m args meth c g ad0 h0 A0 cc nL own) {pc k n : Nat} {L st : List PV} {Λ : List CT} {h : HP} {a b : Int} (hdg : decode cc pc = .ok (.lrem, 1)) (hs : b ≠ 0 ∧ XW p l e R s m args below meth c Q g ad0 Λ0 h0 A0 nL (pc + 1) L (vL (a.tmod b) :: st) Λ h k n) : XW p l e R s m args below meth c Q g ad0 Λ0 h0 A0 nL pc L (vL b :: vL a :: st) Λ h k n := by
  obtain ⟨hx, hb, -⟩ := C
  intro ad ls H locs hM hL hst
  have ha : inRL a := hst (vL a) (List.mem_cons_of_mem _ List.mem_cons_self)
  have hbb : inRL b := hst (vL b) List.mem_cons_self
  show W p l e R s m args below meth c H locs k n Q (F0 m pc ls (.long (Int64.ofInt b) :: .long (Int64.ofInt a) :: st.map (cv ad)))
  refine lv_lrem hx hb hdg (fun z => hs.1 ((l_eq hbb ⟨by decide, by decide⟩).mp (z.trans (show (0 : Int64) = Int64.ofInt 0 by decide)))) ?_
  rw [show _ = Int64.ofInt (a.tmod b) from l_rem ha hbb hs.1]
  exact hs.2 ad ls H locs hM hL (okc (tmod_rngL ha hs.1) (fun v hv => hst v (List.mem_cons_of_mem _ (List.mem_cons_of_mem _ hv))))
theorem ts_lor (C : CX p l s m args meth c g ad0 h0 A0 cc nL own) {pc k n : Nat} {L st : List PV} {Λ : List CT} {h : HP} {a b : Int} (hdg : decode cc pc = .ok (.lor, 1)) (hs : XW p l e R s m args below meth c Q g ad0 Λ0 h0 A0 nL (pc + 1) L (vL (lorI a b) :: st) Λ h k n) : XW p l e R s m args below meth c Q g ad0 Λ0 h0 A0 nL pc L (vL b :: vL a :: st) Λ h k n := by
  obtain ⟨hx, hb, -⟩ := C
  intro ad ls H locs hM hL hst
  have ha : inRL a := hst (vL a) (List.mem_cons_of_mem _ List.mem_cons_self)
  have hbb : inRL b := hst (vL b) List.mem_cons_self
  show W p l e R s m args below meth c H locs k n Q (F0 m pc ls (.long (Int64.ofInt b) :: .long (Int64.ofInt a) :: st.map (cv ad)))
  refine lv_lor hx hb hdg ?_
  rw [show _ = Int64.ofInt (lorI a b) from (l_of _).symm]
  exact hs ad ls H locs hM hL (okc (l_rng _) (fun v hv => hst v (List.mem_cons_of_mem _ (List.mem_cons_of_mem _ hv))))
theorem ts_lshl (C : CX p l s m args meth c g ad0 h0 A0 cc nL own) {pc k n : Nat} {L st : List PV} {Λ : List CT} {h : HP} {a b : Int} (hdg : decode cc pc = .ok (.lshl, 1)) (hs : XW p l e R s m args below meth c Q g ad0 Λ0 h0 A0 nL (pc + 1) L (vL (lshlI a b) :: st) Λ h k n) : XW p l e R s m args below meth c Q g ad0 Λ0 h0 A0 nL pc L (vI b :: vL a :: st) Λ h k n := by
  obtain ⟨hx, hb, -⟩ := C
  intro ad ls H locs hM hL hst
  show W p l e R s m args below meth c H locs k n Q (F0 m pc ls (.int (Int32.ofInt b) :: .long (Int64.ofInt a) :: st.map (cv ad)))
  refine lv_lshl hx hb (v := Int64.ofInt (lshlI a b)) hdg (l_of _).symm ?_
  exact hs ad ls H locs hM hL (okc (l_rng _) (fun v hv => hst v (List.mem_cons_of_mem _ (List.mem_cons_of_mem _ hv))))
theorem ts_fmul (C : CX p l s m args meth c g ad0 h0 A0 cc nL own) {pc k n : Nat} {L st : List PV} {Λ : List CT} {h : HP} {a b : UInt32} (hdg : decode cc pc = .ok (.fmul, 1)) (hs : vf_n32 (FP.fmul a b) ∧ XW p l e R s m args below meth c Q g ad0 Λ0 h0 A0 nL (pc + 1) L (vF (FP.fmul a b) :: st) Λ h k n) : XW p l e R s m args below meth c Q g ad0 Λ0 h0 A0 nL pc L (vF b :: vF a :: st) Λ h k n := by
  obtain ⟨hx, hb, -⟩ := C
  intro ad ls H locs hM hL hst
  show W p l e R s m args below meth c H locs k n Q (F0 m pc ls (.float b :: .float a :: st.map (cv ad)))
  refine lv_fmul hx hb hdg hs.1 ?_
  exact hs.2 ad ls H locs hM hL (okc trivial (fun v hv => hst v (List.mem_cons_of_mem _ (List.mem_cons_of_mem _ hv))))
theorem ts_fdiv (C : CX p l s m args meth c g ad0 h0 A0 cc nL own) {pc k n : Nat} {L st : List PV} {Λ : List CT} {h : HP} {a b : UInt32} (hdg : decode cc pc = .ok (.fdiv, 1)) (hs : vf_n32 (FP.fdiv a b) ∧ XW p l e R s m args below meth c Q g ad0 Λ0 h0 A0 nL (pc + 1) L (vF (FP.fdiv a b) :: st) Λ h k n) : XW p l e R s m args below meth c Q g ad0 Λ0 h0 A0 nL pc L (vF b :: vF a :: st) Λ h k n := by
  obtain ⟨hx, hb, -⟩ := C
  intro ad ls H locs hM hL hst
  show W p l e R s m args below meth c H locs k n Q (F0 m pc ls (.float b :: .float a :: st.map (cv ad)))
  refine lv_fdiv hx hb hdg hs.1 ?_
  exact hs.2 ad ls H locs hM hL (okc trivial (fun v hv => hst v (List.mem_cons_of_mem _ (List.mem_cons_of_mem _ hv))))
theorem ts_ddiv (C : CX p l s m args meth c g ad0 h0 A0 cc nL own) {pc k n : Nat} {L st : List PV} {Λ : List CT} {h : HP} {a b : UInt64} (hdg : decode cc pc = .ok (.ddiv, 1)) (hs : vf_n64 (FP.ddiv a b) ∧ XW p l e R s m args below meth c Q g ad0 Λ0 h0 A0 nL (pc + 1) L (vD (FP.ddiv a b) :: st) Λ h k n) : XW p l e R s m args below meth c Q g ad0 Λ0 h0 A0 nL pc L (vD b :: vD a :: st) Λ h k n := by
  obtain ⟨hx, hb, -⟩ := C
  intro ad ls H locs hM hL hst
  show W p l e R s m args below meth c H locs k n Q (F0 m pc ls (.double b :: .double a :: st.map (cv ad)))
  refine lv_ddiv hx hb hdg hs.1 ?_
  exact hs.2 ad ls H locs hM hL (okc trivial (fun v hv => hst v (List.mem_cons_of_mem _ (List.mem_cons_of_mem _ hv))))
theorem ts_dcmp (C : CX p l s m args meth c g ad0 h0 A0 cc nL own) {pc k n : Nat} {L st : List PV} {Λ : List CT} {h : HP} {a b : UInt64} {op : CmpOp} (hdg : decode cc pc = .ok (.dcmp op, 1)) (hs : XW p l e R s m args below meth c Q g ad0 Λ0 h0 A0 nL (pc + 1) L (vI (dcmpI a b op) :: st) Λ h k n) : XW p l e R s m args below meth c Q g ad0 Λ0 h0 A0 nL pc L (vD b :: vD a :: st) Λ h k n := by
  obtain ⟨hx, hb, -⟩ := C
  intro ad ls H locs hM hL hst
  show W p l e R s m args below meth c H locs k n Q (F0 m pc ls (.double b :: .double a :: st.map (cv ad)))
  refine lv_dcmp hx hb hdg ?_
  rw [show (Op.cmpValue _ op) = Int32.ofInt (dcmpI a b op) from (i_of _).symm]
  exact hs ad ls H locs hM hL (okc (i_rng _) (fun v hv => hst v (List.mem_cons_of_mem _ (List.mem_cons_of_mem _ hv))))
theorem ts_fcmp (C : CX p l s m args meth c g ad0 h0 A0 cc nL own) {pc k n : Nat} {L st : List PV} {Λ : List CT} {h : HP} {a b : UInt32} {op : CmpOp} (hdg : decode cc pc = .ok (.fcmp op, 1)) (hs : XW p l e R s m args below meth c Q g ad0 Λ0 h0 A0 nL (pc + 1) L (vI (fcmpI a b op) :: st) Λ h k n) : XW p l e R s m args below meth c Q g ad0 Λ0 h0 A0 nL pc L (vF b :: vF a :: st) Λ h k n := by
  obtain ⟨hx, hb, -⟩ := C
  intro ad ls H locs hM hL hst
  show W p l e R s m args below meth c H locs k n Q (F0 m pc ls (.float b :: .float a :: st.map (cv ad)))
  refine lv_fcmp hx hb hdg ?_
  rw [show (Op.cmpValue _ op) = Int32.ofInt (fcmpI a b op) from (i_of _).symm]
  exact hs ad ls H locs hM hL (okc (i_rng _) (fun v hv => hst v (List.mem_cons_of_mem _ (List.mem_cons_of_mem _ hv))))
theorem ts_iconst (C : CX p l s m args meth c g ad0 h0 A0 cc nL own) {pc k n : Nat} {L st : List PV} {Λ : List CT} {h : HP} {v : Int} (hdg : decode cc pc = .ok (.iconst v, 1)) (hr : rb (-1) 5 v = true) (hs : XW p l e R s m args below meth c Q g ad0 Λ0 h0 A0 nL (pc + 1) L (vI v :: st) Λ h k n) : XW p l e R s m args below meth c Q g ad0 Λ0 h0 A0 nL pc L st Λ h k n := by
  obtain ⟨hx, hb, -⟩ := C
  intro ad ls H locs hM hL hst
  have hv := rb_of hr
  refine lv_iconst hx hb (v := Int32.ofInt v) hdg rfl ?_
  exact hs ad ls H locs hM hL (okc (show inR v from ⟨by omega, by omega⟩) hst)
theorem ts_bipush (C : CX p l s m args meth c g ad0 h0 A0 cc nL own) {pc k n : Nat} {L st : List PV} {Λ : List CT} {h : HP} {v : Int} (hdg : decode cc pc = .ok (.bipush v, 2)) (hr : rb (-128) 127 v = true) (hs : XW p l e R s m args below meth c Q g ad0 Λ0 h0 A0 nL (pc + 2) L (vI v :: st) Λ h k n) : XW p l e R s m args below meth c Q g ad0 Λ0 h0 A0 nL pc L st Λ h k n := by
  obtain ⟨hx, hb, -⟩ := C
  intro ad ls H locs hM hL hst
  have hv := rb_of hr
  refine lv_bipush hx hb (v := Int32.ofInt v) hdg (i_inj (by rw [Int8.toInt_toInt32]; exact Int8.toInt_ofInt_of_le (by omega) (by omega))) ?_
  exact hs ad ls H locs hM hL (okc (show inR v from ⟨by omega, by omega⟩) hst)
theorem ts_sipush (C : CX p l s m args meth c g ad0 h0 A0 cc nL own) {pc k n : Nat} {L st : List PV} {Λ : List CT} {h : HP} {v : Int} (hdg : decode cc pc = .ok (.sipush v, 3)) (hr : rb (-32768) 32767 v = true) (hs : XW p l e R s m args below meth c Q g ad0 Λ0 h0 A0 nL (pc + 3) L (vI v :: st) Λ h k n) : XW p l e R s m args below meth c Q g ad0 Λ0 h0 A0 nL pc L st Λ h k n := by
  obtain ⟨hx, hb, -⟩ := C
  intro ad ls H locs hM hL hst
  have hv := rb_of hr
  refine lv_sipush hx hb (v := Int32.ofInt v) hdg (i_inj (by rw [Int16.toInt_toInt32]; exact Int16.toInt_ofInt_of_le (by omega) (by omega))) ?_
  exact hs ad ls H locs hM hL (okc (show inR v from ⟨by omega, by omega⟩) hst)
theorem ts_lconst (C : CX p l s m args meth c g ad0 h0 A0 cc nL own) {pc k n : Nat} {L st : List PV} {Λ : List CT} {h : HP} {v : Fin 2} (hdg : decode cc pc = .ok (.lconst v, 1)) (hs : XW p l e R s m args below meth c Q g ad0 Λ0 h0 A0 nL (pc + 1) L (vL (v.val : Int) :: st) Λ h k n) : XW p l e R s m args below meth c Q g ad0 Λ0 h0 A0 nL pc L st Λ h k n := by
  obtain ⟨hx, hb, -⟩ := C
  intro ad ls H locs hM hL hst
  refine lv_lconst hx hb (v := Int64.ofInt (v.val : Int)) hdg (by match v with | 0 => decide | 1 => decide) ?_
  exact hs ad ls H locs hM hL (okc (show inRL _ from ⟨by omega, by omega⟩) hst)
theorem ts_fconst0 (C : CX p l s m args meth c g ad0 h0 A0 cc nL own) {pc k n : Nat} {L st : List PV} {Λ : List CT} {h : HP}  (hdg : decode cc pc = .ok (.fconst 0, 1)) (hs : XW p l e R s m args below meth c Q g ad0 Λ0 h0 A0 nL (pc + 1) L (vF FP.fconst0 :: st) Λ h k n) : XW p l e R s m args below meth c Q g ad0 Λ0 h0 A0 nL pc L st Λ h k n := by
  obtain ⟨hx, hb, -⟩ := C
  intro ad ls H locs hM hL hst
  refine lv_fconst0 hx hb hdg ?_
  exact hs ad ls H locs hM hL (okc trivial hst)
theorem ts_dconst0 (C : CX p l s m args meth c g ad0 h0 A0 cc nL own) {pc k n : Nat} {L st : List PV} {Λ : List CT} {h : HP}  (hdg : decode cc pc = .ok (.dconst 0, 1)) (hs : XW p l e R s m args below meth c Q g ad0 Λ0 h0 A0 nL (pc + 1) L (vD FP.dconst0 :: st) Λ h k n) : XW p l e R s m args below meth c Q g ad0 Λ0 h0 A0 nL pc L st Λ h k n := by
  obtain ⟨hx, hb, -⟩ := C
  intro ad ls H locs hM hL hst
  refine lv_dconst0 hx hb hdg ?_
  exact hs ad ls H locs hM hL (okc trivial hst)
theorem ts_iload_n (C : CX p l s m args meth c g ad0 h0 A0 cc nL own) {pc k n : Nat} {L st : List PV} {Λ : List CT} {h : HP} {i : Fin 4} {x : Int} (hdg : decode cc pc = .ok (.iload_n i, 1)) (hn : nth L i.val = some (vI x)) (hs : XW p l e R s m args below meth c Q g ad0 Λ0 h0 A0 nL (pc + 1) L (vI x :: st) Λ h k n) : XW p l e R s m args below meth c Q g ad0 Λ0 h0 A0 nL pc L st Λ h k n := by
  obtain ⟨hx, hb, -⟩ := C
  intro ad ls H locs hM hL hst
  obtain ⟨ho, hl⟩ := hL.at hn (by intro z; cases z)
  refine lv_iload_n hx hb hdg rfl hl ?_
  exact hs ad ls H locs hM hL (okc ho hst)
theorem ts_iload (C : CX p l s m args meth c g ad0 h0 A0 cc nL own) {pc k n : Nat} {L st : List PV} {Λ : List CT} {h : HP} {i : Nat} {x : Int} (hdg : decode cc pc = .ok (.iload i, 2)) (hn : nth L i = some (vI x)) (hs : XW p l e R s m args below meth c Q g ad0 Λ0 h0 A0 nL (pc + 2) L (vI x :: st) Λ h k n) : XW p l e R s m args below meth c Q g ad0 Λ0 h0 A0 nL pc L st Λ h k n := by
  obtain ⟨hx, hb, -⟩ := C
  intro ad ls H locs hM hL hst
  obtain ⟨ho, hl⟩ := hL.at hn (by intro z; cases z)
  refine lv_iload hx hb hdg hl ?_
  exact hs ad ls H locs hM hL (okc ho hst)
theorem ts_lload_n (C : CX p l s m args meth c g ad0 h0 A0 cc nL own) {pc k n : Nat} {L st : List PV} {Λ : List CT} {h : HP} {i : Fin 4} {x : Int} (hdg : decode cc pc = .ok (.lload_n i, 1)) (hn : nth L i.val = some (vL x)) (hs : XW p l e R s m args below meth c Q g ad0 Λ0 h0 A0 nL (pc + 1) L (vL x :: st) Λ h k n) : XW p l e R s m args below meth c Q g ad0 Λ0 h0 A0 nL pc L st Λ h k n := by
  obtain ⟨hx, hb, -⟩ := C
  intro ad ls H locs hM hL hst
  obtain ⟨ho, hl⟩ := hL.at hn (by intro z; cases z)
  refine lv_lload_n hx hb hdg rfl hl ?_
  exact hs ad ls H locs hM hL (okc ho hst)
theorem ts_lload (C : CX p l s m args meth c g ad0 h0 A0 cc nL own) {pc k n : Nat} {L st : List PV} {Λ : List CT} {h : HP} {i : Nat} {x : Int} (hdg : decode cc pc = .ok (.lload i, 2)) (hn : nth L i = some (vL x)) (hs : XW p l e R s m args below meth c Q g ad0 Λ0 h0 A0 nL (pc + 2) L (vL x :: st) Λ h k n) : XW p l e R s m args below meth c Q g ad0 Λ0 h0 A0 nL pc L st Λ h k n := by
  obtain ⟨hx, hb, -⟩ := C
  intro ad ls H locs hM hL hst
  obtain ⟨ho, hl⟩ := hL.at hn (by intro z; cases z)
  refine lv_lload hx hb hdg hl ?_
  exact hs ad ls H locs hM hL (okc ho hst)
theorem ts_aload_n (C : CX p l s m args meth c g ad0 h0 A0 cc nL own) {pc k n : Nat} {L st : List PV} {Λ : List CT} {h : HP} {i : Fin 4} {x : Nat} (hdg : decode cc pc = .ok (.aload_n i, 1)) (hn : nth L i.val = some (vR x)) (hs : XW p l e R s m args below meth c Q g ad0 Λ0 h0 A0 nL (pc + 1) L (vR x :: st) Λ h k n) : XW p l e R s m args below meth c Q g ad0 Λ0 h0 A0 nL pc L st Λ h k n := by
  obtain ⟨hx, hb, -⟩ := C
  intro ad ls H locs hM hL hst
  obtain ⟨ho, hl⟩ := hL.at hn (by intro z; cases z)
  refine lv_aload_n hx hb hdg rfl hl ?_
  exact hs ad ls H locs hM hL (okc ho hst)
theorem ts_aload (C : CX p l s m args meth c g ad0 h0 A0 cc nL own) {pc k n : Nat} {L st : List PV} {Λ : List CT} {h : HP} {i : Nat} {x : Nat} (hdg : decode cc pc = .ok (.aload i, 2)) (hn : nth L i = some (vR x)) (hs : XW p l e R s m args below meth c Q g ad0 Λ0 h0 A0 nL (pc + 2) L (vR x :: st) Λ h k n) : XW p l e R s m args below meth c Q g ad0 Λ0 h0 A0 nL pc L st Λ h k n := by
  obtain ⟨hx, hb, -⟩ := C
  intro ad ls H locs hM hL hst
  obtain ⟨ho, hl⟩ := hL.at hn (by intro z; cases z)
  refine lv_aload hx hb hdg hl ?_
  exact hs ad ls H locs hM hL (okc ho hst)
theorem ts_fload (C : CX p l s m args meth c g ad0 h0 A0 cc nL own) {pc k n : Nat} {L st : List PV} {Λ : List CT} {h : HP} {i : Nat} {x : UInt32} (hdg : decode cc pc = .ok (.fload i, 2)) (hn : nth L i = some (vF x)) (hs : XW p l e R s m args below meth c Q g ad0 Λ0 h0 A0 nL (pc + 2) L (vF x :: st) Λ h k n) : XW p l e R s m args below meth c Q g ad0 Λ0 h0 A0 nL pc L st Λ h k n := by
  obtain ⟨hx, hb, -⟩ := C
  intro ad ls H locs hM hL hst
  obtain ⟨ho, hl⟩ := hL.at hn (by intro z; cases z)
  refine lv_fload hx hb hdg hl ?_
  exact hs ad ls H locs hM hL (okc ho hst)
theorem ts_dload (C : CX p l s m args meth c g ad0 h0 A0 cc nL own) {pc k n : Nat} {L st : List PV} {Λ : List CT} {h : HP} {i : Nat} {x : UInt64} (hdg : decode cc pc = .ok (.dload i, 2)) (hn : nth L i = some (vD x)) (hs : XW p l e R s m args below meth c Q g ad0 Λ0 h0 A0 nL (pc + 2) L (vD x :: st) Λ h k n) : XW p l e R s m args below meth c Q g ad0 Λ0 h0 A0 nL pc L st Λ h k n := by
  obtain ⟨hx, hb, -⟩ := C
  intro ad ls H locs hM hL hst
  obtain ⟨ho, hl⟩ := hL.at hn (by intro z; cases z)
  refine lv_dload hx hb hdg hl ?_
  exact hs ad ls H locs hM hL (okc ho hst)
theorem ts_istore_n (C : CX p l s m args meth c g ad0 h0 A0 cc nL own) {pc k n : Nat} {L st : List PV} {Λ : List CT} {h : HP} {i : Fin 4} {x : Int} (hdg : decode cc pc = .ok (.istore_n i, 1)) (hn : Nat.blt i.val L.length = true) (hs : XW p l e R s m args below meth c Q g ad0 Λ0 h0 A0 nL (pc + 1) (sto1 L i.val (vI x)) (st) Λ h k n) : XW p l e R s m args below meth c Q g ad0 Λ0 h0 A0 nL pc L (vI x :: st) Λ h k n := by
  obtain ⟨hx, hb, -⟩ := C
  intro ad ls H locs hM hL hst
  show W p l e R s m args below meth c H locs k n Q (F0 m pc ls (.int (Int32.ofInt x) :: st.map (cv ad)))
  have hi := Nat.blt_eq.mp hn
  rw [hL.2.2.1] at hi
  refine lv_istore_n hx hb hdg rfl hL.has hi rfl (fun ls9 h9 => ?_)
  exact hs ad ls9 H locs hM (LR_sto1 hL (Or.inr (hst (vI x) List.mem_cons_self)) (fun _ => rfl) h9) (fun v hv => hst v (List.mem_cons_of_mem _ hv))
theorem ts_istore (C : CX p l s m args meth c g ad0 h0 A0 cc nL own) {pc k n : Nat} {L st : List PV} {Λ : List CT} {h : HP} {i : Nat} {x : Int} (hdg : decode cc pc = .ok (.istore i, 2)) (hn : Nat.blt i L.length = true) (hs : XW p l e R s m args below meth c Q g ad0 Λ0 h0 A0 nL (pc + 2) (sto1 L i (vI x)) (st) Λ h k n) : XW p l e R s m args below meth c Q g ad0 Λ0 h0 A0 nL pc L (vI x :: st) Λ h k n := by
  obtain ⟨hx, hb, -⟩ := C
  intro ad ls H locs hM hL hst
  show W p l e R s m args below meth c H locs k n Q (F0 m pc ls (.int (Int32.ofInt x) :: st.map (cv ad)))
  have hi := Nat.blt_eq.mp hn
  rw [hL.2.2.1] at hi
  refine lv_istore hx hb hdg hL.has hi rfl (fun ls9 h9 => ?_)
  exact hs ad ls9 H locs hM (LR_sto1 hL (Or.inr (hst (vI x) List.mem_cons_self)) (fun _ => rfl) h9) (fun v hv => hst v (List.mem_cons_of_mem _ hv))
theorem ts_lstore_n (C : CX p l s m args meth c g ad0 h0 A0 cc nL own) {pc k n : Nat} {L st : List PV} {Λ : List CT} {h : HP} {i : Fin 4} {x : Int} (hdg : decode cc pc = .ok (.lstore_n i, 1)) (hn : Nat.blt (i.val + 1) L.length = true) (hs : XW p l e R s m args below meth c Q g ad0 Λ0 h0 A0 nL (pc + 1) (sto2 L i.val (vL x)) (st) Λ h k n) : XW p l e R s m args below meth c Q g ad0 Λ0 h0 A0 nL pc L (vL x :: st) Λ h k n := by
  obtain ⟨hx, hb, -⟩ := C
  intro ad ls H locs hM hL hst
  show W p l e R s m args below meth c H locs k n Q (F0 m pc ls (.long (Int64.ofInt x) :: st.map (cv ad)))
  have hi := Nat.blt_eq.mp hn
  rw [hL.2.2.1] at hi
  refine lv_lstore_n hx hb hdg rfl hL.has hi rfl (fun ls9 h9 => ?_)
  exact hs ad ls9 H locs hM (LR_sto2 hL (hst (vL x) List.mem_cons_self) h9) (fun v hv => hst v (List.mem_cons_of_mem _ hv))
theorem ts_lstore (C : CX p l s m args meth c g ad0 h0 A0 cc nL own) {pc k n : Nat} {L st : List PV} {Λ : List CT} {h : HP} {i : Nat} {x : Int} (hdg : decode cc pc = .ok (.lstore i, 2)) (hn : Nat.blt (i + 1) L.length = true) (hs : XW p l e R s m args below meth c Q g ad0 Λ0 h0 A0 nL (pc + 2) (sto2 L i (vL x)) (st) Λ h k n) : XW p l e R s m args below meth c Q g ad0 Λ0 h0 A0 nL pc L (vL x :: st) Λ h k n := by
  obtain ⟨hx, hb, -⟩ := C
  intro ad ls H locs hM hL hst
  show W p l e R s m args below meth c H locs k n Q (F0 m pc ls (.long (Int64.ofInt x) :: st.map (cv ad)))
  have hi := Nat.blt_eq.mp hn
  rw [hL.2.2.1] at hi
  refine lv_lstore hx hb hdg hL.has hi rfl (fun ls9 h9 => ?_)
  exact hs ad ls9 H locs hM (LR_sto2 hL (hst (vL x) List.mem_cons_self) h9) (fun v hv => hst v (List.mem_cons_of_mem _ hv))
theorem ts_astore_n (C : CX p l s m args meth c g ad0 h0 A0 cc nL own) {pc k n : Nat} {L st : List PV} {Λ : List CT} {h : HP} {i : Fin 4} {x : Nat} (hdg : decode cc pc = .ok (.astore_n i, 1)) (hn : Nat.blt i.val L.length = true) (hs : XW p l e R s m args below meth c Q g ad0 Λ0 h0 A0 nL (pc + 1) (sto1 L i.val (vR x)) (st) Λ h k n) : XW p l e R s m args below meth c Q g ad0 Λ0 h0 A0 nL pc L (vR x :: st) Λ h k n := by
  obtain ⟨hx, hb, -⟩ := C
  intro ad ls H locs hM hL hst
  show W p l e R s m args below meth c H locs k n Q (F0 m pc ls (.ref (ad x) :: st.map (cv ad)))
  have hi := Nat.blt_eq.mp hn
  rw [hL.2.2.1] at hi
  refine lv_astore_n hx hb hdg rfl hL.has hi rfl (fun ls9 h9 => ?_)
  exact hs ad ls9 H locs hM (LR_sto1 hL (Or.inr (hst (vR x) List.mem_cons_self)) (fun _ => rfl) h9) (fun v hv => hst v (List.mem_cons_of_mem _ hv))
theorem ts_astore (C : CX p l s m args meth c g ad0 h0 A0 cc nL own) {pc k n : Nat} {L st : List PV} {Λ : List CT} {h : HP} {i : Nat} {x : Nat} (hdg : decode cc pc = .ok (.astore i, 2)) (hn : Nat.blt i L.length = true) (hs : XW p l e R s m args below meth c Q g ad0 Λ0 h0 A0 nL (pc + 2) (sto1 L i (vR x)) (st) Λ h k n) : XW p l e R s m args below meth c Q g ad0 Λ0 h0 A0 nL pc L (vR x :: st) Λ h k n := by
  obtain ⟨hx, hb, -⟩ := C
  intro ad ls H locs hM hL hst
  show W p l e R s m args below meth c H locs k n Q (F0 m pc ls (.ref (ad x) :: st.map (cv ad)))
  have hi := Nat.blt_eq.mp hn
  rw [hL.2.2.1] at hi
  refine lv_astore hx hb hdg hL.has hi rfl (fun ls9 h9 => ?_)
  exact hs ad ls9 H locs hM (LR_sto1 hL (Or.inr (hst (vR x) List.mem_cons_self)) (fun _ => rfl) h9) (fun v hv => hst v (List.mem_cons_of_mem _ hv))
theorem ts_fstore (C : CX p l s m args meth c g ad0 h0 A0 cc nL own) {pc k n : Nat} {L st : List PV} {Λ : List CT} {h : HP} {i : Nat} {x : UInt32} (hdg : decode cc pc = .ok (.fstore i, 2)) (hn : Nat.blt i L.length = true) (hs : XW p l e R s m args below meth c Q g ad0 Λ0 h0 A0 nL (pc + 2) (sto1 L i (vF x)) (st) Λ h k n) : XW p l e R s m args below meth c Q g ad0 Λ0 h0 A0 nL pc L (vF x :: st) Λ h k n := by
  obtain ⟨hx, hb, -⟩ := C
  intro ad ls H locs hM hL hst
  show W p l e R s m args below meth c H locs k n Q (F0 m pc ls (.float x :: st.map (cv ad)))
  have hi := Nat.blt_eq.mp hn
  rw [hL.2.2.1] at hi
  refine lv_fstore hx hb hdg hL.has hi rfl (fun ls9 h9 => ?_)
  exact hs ad ls9 H locs hM (LR_sto1 hL (Or.inr (hst (vF x) List.mem_cons_self)) (fun _ => rfl) h9) (fun v hv => hst v (List.mem_cons_of_mem _ hv))
theorem ts_dstore (C : CX p l s m args meth c g ad0 h0 A0 cc nL own) {pc k n : Nat} {L st : List PV} {Λ : List CT} {h : HP} {i : Nat} {x : UInt64} (hdg : decode cc pc = .ok (.dstore i, 2)) (hn : Nat.blt (i + 1) L.length = true) (hs : XW p l e R s m args below meth c Q g ad0 Λ0 h0 A0 nL (pc + 2) (sto2 L i (vD x)) (st) Λ h k n) : XW p l e R s m args below meth c Q g ad0 Λ0 h0 A0 nL pc L (vD x :: st) Λ h k n := by
  obtain ⟨hx, hb, -⟩ := C
  intro ad ls H locs hM hL hst
  show W p l e R s m args below meth c H locs k n Q (F0 m pc ls (.double x :: st.map (cv ad)))
  have hi := Nat.blt_eq.mp hn
  rw [hL.2.2.1] at hi
  refine lv_dstore hx hb hdg hL.has hi rfl (fun ls9 h9 => ?_)
  exact hs ad ls9 H locs hM (LR_sto2 hL (hst (vD x) List.mem_cons_self) h9) (fun v hv => hst v (List.mem_cons_of_mem _ hv))
theorem ts_iinc (C : CX p l s m args meth c g ad0 h0 A0 cc nL own) {pc k n : Nat} {L st : List PV} {Λ : List CT} {h : HP} {i : Nat} {x c9 : Int} (hdg : decode cc pc = .ok (.iinc i c9, 3)) (hn : nth L i = some (vI x)) (hs : inR (x + c9) ∧ XW p l e R s m args below meth c Q g ad0 Λ0 h0 A0 nL (pc + 3) (sto1 L i (vI (x + c9))) (st) Λ h k n) : XW p l e R s m args below meth c Q g ad0 Λ0 h0 A0 nL pc L st Λ h k n := by
  obtain ⟨hx, hb, -⟩ := C
  intro ad ls H locs hM hL hst
  have hn2 : L[i]? = some (vI x) := by rw [← nth_eq]; exact hn
  have hm := lvL_mem (ad := ad) hn2 (by intro z; cases z)
  obtain ⟨k9, hk9⟩ := List.getElem?_of_mem hm
  have hi := (List.getElem?_eq_some_iff.mp hn2).1
  rw [hL.2.2.1] at hi
  refine lv_iinc hx hb (v := Int32.ofInt (x + c9)) hdg hL.has hk9 (Int32.ofInt_add x c9).symm hi rfl (fun ls9 h9 => ?_)
  exact hs.2 ad ls9 H locs hM (LR_sto1 hL (Or.inr hs.1) (fun _ => rfl) h9) hst
theorem ts_dup (C : CX p l s m args meth c g ad0 h0 A0 cc nL own) {pc k n : Nat} {L st : List PV} {Λ : List CT} {h : HP} {v : PV} (hdg : decode cc pc = .ok (.dup, 1)) (hc : cat2 v = false) (hs : XW p l e R s m args below meth c Q g ad0 Λ0 h0 A0 nL (pc + 1) L (v :: v :: st) Λ h k n) : XW p l e R s m args below meth c Q g ad0 Λ0 h0 A0 nL pc L (v :: st) Λ h k n := by
  obtain ⟨hx, hb, -⟩ := C
  intro ad ls H locs hM hL hst
  show W p l e R s m args below meth c H locs k n Q (F0 m pc ls (cv ad v :: st.map (cv ad)))
  refine lv_dup hx hb hdg (by rw [cv_cat, if_neg (by rw [hc]; decide)]) ?_
  exact hs ad ls H locs hM hL (okc (hst v List.mem_cons_self) hst)
theorem ts_pop (C : CX p l s m args meth c g ad0 h0 A0 cc nL own) {pc k n : Nat} {L st : List PV} {Λ : List CT} {h : HP} {v : PV} (hdg : decode cc pc = .ok (.pop, 1)) (hc : cat2 v = false) (hs : XW p l e R s m args below meth c Q g ad0 Λ0 h0 A0 nL (pc + 1) L (st) Λ h k n) : XW p l e R s m args below meth c Q g ad0 Λ0 h0 A0 nL pc L (v :: st) Λ h k n := by
  obtain ⟨hx, hb, -⟩ := C
  intro ad ls H locs hM hL hst
  show W p l e R s m args below meth c H locs k n Q (F0 m pc ls (cv ad v :: st.map (cv ad)))
  refine lv_pop hx hb hdg (by rw [cv_cat, if_neg (by rw [hc]; decide)]) ?_
  exact hs ad ls H locs hM hL (fun v hv => hst v (List.mem_cons_of_mem _ hv))
theorem ts_dup2 (C : CX p l s m args meth c g ad0 h0 A0 cc nL own) {pc k n : Nat} {L st : List PV} {Λ : List CT} {h : HP} {v w : PV} (hdg : decode cc pc = .ok (.dup2, 1)) (hc : cat2 v = false) (hc2 : cat2 w = false) (hs : XW p l e R s m args below meth c Q g ad0 Λ0 h0 A0 nL (pc + 1) L (v :: w :: v :: w :: st) Λ h k n) : XW p l e R s m args below meth c Q g ad0 Λ0 h0 A0 nL pc L (v :: w :: st) Λ h k n := by
  obtain ⟨hx, hb, -⟩ := C
  intro ad ls H locs hM hL hst
  show W p l e R s m args below meth c H locs k n Q (F0 m pc ls (cv ad v :: cv ad w :: st.map (cv ad)))
  refine lv_dup2_11 hx hb hdg (by rw [cv_cat, if_neg (by rw [hc]; decide)]) (by rw [cv_cat, if_neg (by rw [hc2]; decide)]) ?_
  exact hs ad ls H locs hM hL (okc (hst v List.mem_cons_self) (okc (hst w (List.mem_cons_of_mem _ List.mem_cons_self)) hst))
theorem ts_goto (C : CX p l s m args meth c g ad0 h0 A0 cc nL own) {pc k n : Nat} {L st : List PV} {Λ : List CT} {h : HP} {off : Int} {t : Nat} (hdg : decode cc pc = .ok (.goto off, 3)) (ht : (pc : Int) + off = (t : Int)) (hs : XW p l e R s m args below meth c Q g ad0 Λ0 h0 A0 nL t L (st) Λ h k n) : XW p l e R s m args below meth c Q g ad0 Λ0 h0 A0 nL pc L st Λ h k n := by
  obtain ⟨hx, hb, -⟩ := C
  intro ad ls H locs hM hL hst
  refine lv_goto hx hb hdg ht ?_
  exact hs ad ls H locs hM hL hst
theorem ts_icmp_eq (C : CX p l s m args meth c g ad0 h0 A0 cc nL own) {pc k n : Nat} {L st : List PV} {Λ : List CT} {h : HP} {a b : Int} {off : Int} {t : Nat} (hdg : decode cc pc = .ok (.if_icmp .eq off, 3)) (ht : (pc : Int) + off = (t : Int)) (hs : (a = b → XW p l e R s m args below meth c Q g ad0 Λ0 h0 A0 nL t L (st) Λ h k n) ∧ (a ≠ b → XW p l e R s m args below meth c Q g ad0 Λ0 h0 A0 nL (pc + 3) L (st) Λ h k n)) : XW p l e R s m args below meth c Q g ad0 Λ0 h0 A0 nL pc L (vI b :: vI a :: st) Λ h k n := by
  obtain ⟨hx, hb, -⟩ := C
  intro ad ls H locs hM hL hst
  have ha : inR a := hst (vI a) (List.mem_cons_of_mem _ List.mem_cons_self)
  have hbb : inR b := hst (vI b) List.mem_cons_self
  show W p l e R s m args below meth c H locs k n Q (F0 m pc ls (.int (Int32.ofInt b) :: .int (Int32.ofInt a) :: st.map (cv ad)))
  refine lv_icmp_eq hx hb hdg ht (fun q => ?_) (fun q => ?_)
  · exact hs.1 ((i_eq ha hbb).mp q) ad ls H locs hM hL (fun v hv => hst v (List.mem_cons_of_mem _ (List.mem_cons_of_mem _ hv)))
  · exact hs.2 ((fun z => z) (fun z => q ((i_eq ha hbb).mpr z))) ad ls H locs hM hL (fun v hv => hst v (List.mem_cons_of_mem _ (List.mem_cons_of_mem _ hv)))
theorem ts_if_eq (C : CX p l s m args meth c g ad0 h0 A0 cc nL own) {pc k n : Nat} {L st : List PV} {Λ : List CT} {h : HP} {a : Int} {off : Int} {t : Nat} (hdg : decode cc pc = .ok (.ifCond .eq off, 3)) (ht : (pc : Int) + off = (t : Int)) (hs : (a = 0 → XW p l e R s m args below meth c Q g ad0 Λ0 h0 A0 nL t L (st) Λ h k n) ∧ (a ≠ 0 → XW p l e R s m args below meth c Q g ad0 Λ0 h0 A0 nL (pc + 3) L (st) Λ h k n)) : XW p l e R s m args below meth c Q g ad0 Λ0 h0 A0 nL pc L (vI a :: st) Λ h k n := by
  obtain ⟨hx, hb, -⟩ := C
  intro ad ls H locs hM hL hst
  have ha : inR a := hst (vI a) List.mem_cons_self
  have hbb : inR 0 := ⟨by decide, by decide⟩
  show W p l e R s m args below meth c H locs k n Q (F0 m pc ls (.int (Int32.ofInt a) :: st.map (cv ad)))
  have z0 : (0 : Int32) = Int32.ofInt 0 := i_zero.symm
  refine lv_if_eq hx hb hdg ht (fun q => ?_) (fun q => ?_)
  · rw [z0] at q; exact hs.1 ((i_eq ha hbb).mp q) ad ls H locs hM hL (fun v hv => hst v (List.mem_cons_of_mem _ hv))
  · rw [z0] at q; exact hs.2 ((fun z => z) (fun z => q ((i_eq ha hbb).mpr z))) ad ls H locs hM hL (fun v hv => hst v (List.mem_cons_of_mem _ hv))
theorem ts_icmp_ne (C : CX p l s m args meth c g ad0 h0 A0 cc nL own) {pc k n : Nat} {L st : List PV} {Λ : List CT} {h : HP} {a b : Int} {off : Int} {t : Nat} (hdg : decode cc pc = .ok (.if_icmp .ne off, 3)) (ht : (pc : Int) + off = (t : Int)) (hs : (a ≠ b → XW p l e R s m args below meth c Q g ad0 Λ0 h0 A0 nL t L (st) Λ h k n) ∧ (a = b → XW p l e R s m args below meth c Q g ad0 Λ0 h0 A0 nL (pc + 3) L (st) Λ h k n)) : XW p l e R s m args below meth c Q g ad0 Λ0 h0 A0 nL pc L (vI b :: vI a :: st) Λ h k n := by
  obtain ⟨hx, hb, -⟩ := C
  intro ad ls H locs hM hL hst
  have ha : inR a := hst (vI a) (List.mem_cons_of_mem _ List.mem_cons_self)
  have hbb : inR b := hst (vI b) List.mem_cons_self
  show W p l e R s m args below meth c H locs k n Q (F0 m pc ls (.int (Int32.ofInt b) :: .int (Int32.ofInt a) :: st.map (cv ad)))
  refine lv_icmp_ne hx hb hdg ht (fun q => ?_) (fun q => ?_)
  · exact hs.1 (fun z => q ((i_eq ha hbb).mpr z)) ad ls H locs hM hL (fun v hv => hst v (List.mem_cons_of_mem _ (List.mem_cons_of_mem _ hv)))
  · exact hs.2 ((i_eq ha hbb).mp q) ad ls H locs hM hL (fun v hv => hst v (List.mem_cons_of_mem _ (List.mem_cons_of_mem _ hv)))
theorem ts_if_ne (C : CX p l s m args meth c g ad0 h0 A0 cc nL own) {pc k n : Nat} {L st : List PV} {Λ : List CT} {h : HP} {a : Int} {off : Int} {t : Nat} (hdg : decode cc pc = .ok (.ifCond .ne off, 3)) (ht : (pc : Int) + off = (t : Int)) (hs : (a ≠ 0 → XW p l e R s m args below meth c Q g ad0 Λ0 h0 A0 nL t L (st) Λ h k n) ∧ (a = 0 → XW p l e R s m args below meth c Q g ad0 Λ0 h0 A0 nL (pc + 3) L (st) Λ h k n)) : XW p l e R s m args below meth c Q g ad0 Λ0 h0 A0 nL pc L (vI a :: st) Λ h k n := by
  obtain ⟨hx, hb, -⟩ := C
  intro ad ls H locs hM hL hst
  have ha : inR a := hst (vI a) List.mem_cons_self
  have hbb : inR 0 := ⟨by decide, by decide⟩
  show W p l e R s m args below meth c H locs k n Q (F0 m pc ls (.int (Int32.ofInt a) :: st.map (cv ad)))
  have z0 : (0 : Int32) = Int32.ofInt 0 := i_zero.symm
  refine lv_if_ne hx hb hdg ht (fun q => ?_) (fun q => ?_)
  · rw [z0] at q; exact hs.1 (fun z => q ((i_eq ha hbb).mpr z)) ad ls H locs hM hL (fun v hv => hst v (List.mem_cons_of_mem _ hv))
  · rw [z0] at q; exact hs.2 ((i_eq ha hbb).mp q) ad ls H locs hM hL (fun v hv => hst v (List.mem_cons_of_mem _ hv))
theorem ts_icmp_lt (C : CX p l s m args meth c g ad0 h0 A0 cc nL own) {pc k n : Nat} {L st : List PV} {Λ : List CT} {h : HP} {a b : Int} {off : Int} {t : Nat} (hdg : decode cc pc = .ok (.if_icmp .lt off, 3)) (ht : (pc : Int) + off = (t : Int)) (hs : (a < b → XW p l e R s m args below meth c Q g ad0 Λ0 h0 A0 nL t L (st) Λ h k n) ∧ (b ≤ a → XW p l e R s m args below meth c Q g ad0 Λ0 h0 A0 nL (pc + 3) L (st) Λ h k n)) : XW p l e R s m args below meth c Q g ad0 Λ0 h0 A0 nL pc L (vI b :: vI a :: st) Λ h k n := by
  obtain ⟨hx, hb, -⟩ := C
  intro ad ls H locs hM hL hst
  have ha : inR a := hst (vI a) (List.mem_cons_of_mem _ List.mem_cons_self)
  have hbb : inR b := hst (vI b) List.mem_cons_self
  show W p l e R s m args below meth c H locs k n Q (F0 m pc ls (.int (Int32.ofInt b) :: .int (Int32.ofInt a) :: st.map (cv ad)))
  refine lv_icmp_lt hx hb hdg ht (fun q => ?_) (fun q => ?_)
  · exact hs.1 ((i_lt ha hbb).mp q) ad ls H locs hM hL (fun v hv => hst v (List.mem_cons_of_mem _ (List.mem_cons_of_mem _ hv)))
  · exact hs.2 ((Int.not_lt.mp) (fun z => q ((i_lt ha hbb).mpr z))) ad ls H locs hM hL (fun v hv => hst v (List.mem_cons_of_mem _ (List.mem_cons_of_mem _ hv)))
theorem ts_if_lt (C : CX p l s m args meth c g ad0 h0 A0 cc nL own) {pc k n : Nat} {L st : List PV} {Λ : List CT} {h : HP} {a : Int} {off : Int} {t : Nat} (hdg : decode cc pc = .ok (.ifCond .lt off, 3)) (ht : (pc : Int) + off = (t : Int)) (hs : (a < 0 → XW p l e R s m args below meth c Q g ad0 Λ0 h0 A0 nL t L (st) Λ h k n) ∧ (0 ≤ a → XW p l e R s m args below meth c Q g ad0 Λ0 h0 A0 nL (pc + 3) L (st) Λ h k n)) : XW p l e R s m args below meth c Q g ad0 Λ0 h0 A0 nL pc L (vI a :: st) Λ h k n := by
  obtain ⟨hx, hb, -⟩ := C
  intro ad ls H locs hM hL hst
  have ha : inR a := hst (vI a) List.mem_cons_self
  have hbb : inR 0 := ⟨by decide, by decide⟩
  show W p l e R s m args below meth c H locs k n Q (F0 m pc ls (.int (Int32.ofInt a) :: st.map (cv ad)))
  have z0 : (0 : Int32) = Int32.ofInt 0 := i_zero.symm
  refine lv_if_lt hx hb hdg ht (fun q => ?_) (fun q => ?_)
  · rw [z0] at q; exact hs.1 ((i_lt ha hbb).mp q) ad ls H locs hM hL (fun v hv => hst v (List.mem_cons_of_mem _ hv))
  · rw [z0] at q; exact hs.2 ((Int.not_lt.mp) (fun z => q ((i_lt ha hbb).mpr z))) ad ls H locs hM hL (fun v hv => hst v (List.mem_cons_of_mem _ hv))
theorem ts_icmp_ge (C : CX p l s m args meth c g ad0 h0 A0 cc nL own) {pc k n : Nat} {L st : List PV} {Λ : List CT} {h : HP} {a b : Int} {off : Int} {t : Nat} (hdg : decode cc pc = .ok (.if_icmp .ge off, 3)) (ht : (pc : Int) + off = (t : Int)) (hs : (b ≤ a → XW p l e R s m args below meth c Q g ad0 Λ0 h0 A0 nL t L (st) Λ h k n) ∧ (a < b → XW p l e R s m args below meth c Q g ad0 Λ0 h0 A0 nL (pc + 3) L (st) Λ h k n)) : XW p l e R s m args below meth c Q g ad0 Λ0 h0 A0 nL pc L (vI b :: vI a :: st) Λ h k n := by
  obtain ⟨hx, hb, -⟩ := C
  intro ad ls H locs hM hL hst
  have ha : inR a := hst (vI a) (List.mem_cons_of_mem _ List.mem_cons_self)
  have hbb : inR b := hst (vI b) List.mem_cons_self
  show W p l e R s m args below meth c H locs k n Q (F0 m pc ls (.int (Int32.ofInt b) :: .int (Int32.ofInt a) :: st.map (cv ad)))
  refine lv_icmp_ge hx hb hdg ht (fun q => ?_) (fun q => ?_)
  · exact hs.1 ((i_le hbb ha).mp q) ad ls H locs hM hL (fun v hv => hst v (List.mem_cons_of_mem _ (List.mem_cons_of_mem _ hv)))
  · exact hs.2 ((Int.not_le.mp) (fun z => q ((i_le hbb ha).mpr z))) ad ls H locs hM hL (fun v hv => hst v (List.mem_cons_of_mem _ (List.mem_cons_of_mem _ hv)))
theorem ts_if_ge (C : CX p l s m args meth c g ad0 h0 A0 cc nL own) {pc k n : Nat} {L st : List PV} {Λ : List CT} {h : HP} {a : Int} {off : Int} {t : Nat} (hdg : decode cc pc = .ok (.ifCond .ge off, 3)) (ht : (pc : Int) + off = (t : Int)) (hs : (0 ≤ a → XW p l e R s m args below meth c Q g ad0 Λ0 h0 A0 nL t L (st) Λ h k n) ∧ (a < 0 → XW p l e R s m args below meth c Q g ad0 Λ0 h0 A0 nL (pc + 3) L (st) Λ h k n)) : XW p l e R s m args below meth c Q g ad0 Λ0 h0 A0 nL pc L (vI a :: st) Λ h k n := by
  obtain ⟨hx, hb, -⟩ := C
  intro ad ls H locs hM hL hst
  have ha : inR a := hst (vI a) List.mem_cons_self
  have hbb : inR 0 := ⟨by decide, by decide⟩
  show W p l e R s m args below meth c H locs k n Q (F0 m pc ls (.int (Int32.ofInt a) :: st.map (cv ad)))
  have z0 : (0 : Int32) = Int32.ofInt 0 := i_zero.symm
  refine lv_if_ge hx hb hdg ht (fun q => ?_) (fun q => ?_)
  · rw [z0] at q; exact hs.1 ((i_le hbb ha).mp q) ad ls H locs hM hL (fun v hv => hst v (List.mem_cons_of_mem _ hv))
  · rw [z0] at q; exact hs.2 ((Int.not_le.mp) (fun z => q ((i_le hbb ha).mpr z))) ad ls H locs hM hL (fun v hv => hst v (List.mem_cons_of_mem _ hv))
theorem ts_icmp_gt (C : CX p l s m args meth c g ad0 h0 A0 cc nL own) {pc k n : Nat} {L st : List PV} {Λ : List CT} {h : HP} {a b : Int} {off : Int} {t : Nat} (hdg : decode cc pc = .ok (.if_icmp .gt off, 3)) (ht : (pc : Int) + off = (t : Int)) (hs : (b < a → XW p l e R s m args below meth c Q g ad0 Λ0 h0 A0 nL t L (st) Λ h k n) ∧ (a ≤ b → XW p l e R s m args below meth c Q g ad0 Λ0 h0 A0 nL (pc + 3) L (st) Λ h k n)) : XW p l e R s m args below meth c Q g ad0 Λ0 h0 A0 nL pc L (vI b :: vI a :: st) Λ h k n := by
  obtain ⟨hx, hb, -⟩ := C
  intro ad ls H locs hM hL hst
  have ha : inR a := hst (vI a) (List.mem_cons_of_mem _ List.mem_cons_self)
  have hbb : inR b := hst (vI b) List.mem_cons_self
  show W p l e R s m args below meth c H locs k n Q (F0 m pc ls (.int (Int32.ofInt b) :: .int (Int32.ofInt a) :: st.map (cv ad)))
  refine lv_icmp_gt hx hb hdg ht (fun q => ?_) (fun q => ?_)
  · exact hs.1 ((i_lt hbb ha).mp q) ad ls H locs hM hL (fun v hv => hst v (List.mem_cons_of_mem _ (List.mem_cons_of_mem _ hv)))
  · exact hs.2 ((Int.not_lt.mp) (fun z => q ((i_lt hbb ha).mpr z))) ad ls H locs hM hL (fun v hv => hst v (List.mem_cons_of_mem _ (List.mem_cons_of_mem _ hv)))
theorem ts_if_gt (C : CX p l s m args meth c g ad0 h0 A0 cc nL own) {pc k n : Nat} {L st : List PV} {Λ : List CT} {h : HP} {a : Int} {off : Int} {t : Nat} (hdg : decode cc pc = .ok (.ifCond .gt off, 3)) (ht : (pc : Int) + off = (t : Int)) (hs : (0 < a → XW p l e R s m args below meth c Q g ad0 Λ0 h0 A0 nL t L (st) Λ h k n) ∧ (a ≤ 0 → XW p l e R s m args below meth c Q g ad0 Λ0 h0 A0 nL (pc + 3) L (st) Λ h k n)) : XW p l e R s m args below meth c Q g ad0 Λ0 h0 A0 nL pc L (vI a :: st) Λ h k n := by
  obtain ⟨hx, hb, -⟩ := C
  intro ad ls H locs hM hL hst
  have ha : inR a := hst (vI a) List.mem_cons_self
  have hbb : inR 0 := ⟨by decide, by decide⟩
  show W p l e R s m args below meth c H locs k n Q (F0 m pc ls (.int (Int32.ofInt a) :: st.map (cv ad)))
  have z0 : (0 : Int32) = Int32.ofInt 0 := i_zero.symm
  refine lv_if_gt hx hb hdg ht (fun q => ?_) (fun q => ?_)
  · rw [z0] at q; exact hs.1 ((i_lt hbb ha).mp q) ad ls H locs hM hL (fun v hv => hst v (List.mem_cons_of_mem _ hv))
  · rw [z0] at q; exact hs.2 ((Int.not_lt.mp) (fun z => q ((i_lt hbb ha).mpr z))) ad ls H locs hM hL (fun v hv => hst v (List.mem_cons_of_mem _ hv))
theorem ts_icmp_le (C : CX p l s m args meth c g ad0 h0 A0 cc nL own) {pc k n : Nat} {L st : List PV} {Λ : List CT} {h : HP} {a b : Int} {off : Int} {t : Nat} (hdg : decode cc pc = .ok (.if_icmp .le off, 3)) (ht : (pc : Int) + off = (t : Int)) (hs : (a ≤ b → XW p l e R s m args below meth c Q g ad0 Λ0 h0 A0 nL t L (st) Λ h k n) ∧ (b < a → XW p l e R s m args below meth c Q g ad0 Λ0 h0 A0 nL (pc + 3) L (st) Λ h k n)) : XW p l e R s m args below meth c Q g ad0 Λ0 h0 A0 nL pc L (vI b :: vI a :: st) Λ h k n := by
  obtain ⟨hx, hb, -⟩ := C
  intro ad ls H locs hM hL hst
  have ha : inR a := hst (vI a) (List.mem_cons_of_mem _ List.mem_cons_self)
  have hbb : inR b := hst (vI b) List.mem_cons_self
  show W p l e R s m args below meth c H locs k n Q (F0 m pc ls (.int (Int32.ofInt b) :: .int (Int32.ofInt a) :: st.map (cv ad)))
  refine lv_icmp_le hx hb hdg ht (fun q => ?_) (fun q => ?_)
  · exact hs.1 ((i_le ha hbb).mp q) ad ls H locs hM hL (fun v hv => hst v (List.mem_cons_of_mem _ (List.mem_cons_of_mem _ hv)))
  · exact hs.2 ((Int.not_le.mp) (fun z => q ((i_le ha hbb).mpr z))) ad ls H locs hM hL (fun v hv => hst v (List.mem_cons_of_mem _ (List.mem_cons_of_mem _ hv)))
theorem ts_if_le (C : CX p l s m args meth c g ad0 h0 A0 cc nL own) {pc k n : Nat} {L st : List PV} {Λ : List CT} {h : HP} {a : Int} {off : Int} {t : Nat} (hdg : decode cc pc = .ok (.ifCond .le off, 3)) (ht : (pc : Int) + off = (t : Int)) (hs : (a ≤ 0 → XW p l e R s m args below meth c Q g ad0 Λ0 h0 A0 nL t L (st) Λ h k n) ∧ (0 < a → XW p l e R s m args below meth c Q g ad0 Λ0 h0 A0 nL (pc + 3) L (st) Λ h k n)) : XW p l e R s m args below meth c Q g ad0 Λ0 h0 A0 nL pc L (vI a :: st) Λ h k n := by
  obtain ⟨hx, hb, -⟩ := C
  intro ad ls H locs hM hL hst
  have ha : inR a := hst (vI a) List.mem_cons_self
  have hbb : inR 0 := ⟨by decide, by decide⟩
  show W p l e R s m args below meth c H locs k n Q (F0 m pc ls (.int (Int32.ofInt a) :: st.map (cv ad)))
  have z0 : (0 : Int32) = Int32.ofInt 0 := i_zero.symm
  refine lv_if_le hx hb hdg ht (fun q => ?_) (fun q => ?_)
  · rw [z0] at q; exact hs.1 ((i_le ha hbb).mp q) ad ls H locs hM hL (fun v hv => hst v (List.mem_cons_of_mem _ hv))
  · rw [z0] at q; exact hs.2 ((Int.not_le.mp) (fun z => q ((i_le ha hbb).mpr z))) ad ls H locs hM hL (fun v hv => hst v (List.mem_cons_of_mem _ hv))
end STEP
