/-! ===== what is checked once of a method; the step as a whole; a method's body gives its contract ===== -/
def lenE (pc : Nat) : Instr → Nat
  | .iload _ | .lload _ | .fload _ | .dload _ | .aload _ | .istore _ | .lstore _ | .fstore _ | .dstore _ | .astore _ | .bipush _ | .ldc _ | .newarray _ => 2
  | .sipush _ | .ldc_w _ | .ldc2_w _ | .iinc _ _ | .ifCond _ _ | .if_icmp _ _ | .goto _ | .getfield _ | .putfield _ | .getstatic _ | .putstatic _ | .invokevirtual _ | .invokespecial _ | .invokestatic _ | .new _ => 3
  | .tableswitch _ _ _ offs => (4 - (pc + 1) % 4) % 4 + 13 + 4 * offs.size
  | _ => 1
def excCh : List String := ["java/lang/RuntimeException", "java/lang/Exception"]
abbrev MthOK (own : String) (q : Nat × Nat × Nat × Nat × Nat × Nat) : Prop := Cond.methodLink own q.1 (MTd q.2.1).1 ∈ TW ∧ codeW (MTd q.2.1) ∈ TW ∧ Cond.initialized (MTd q.2.1).1.cls ∈ TW ∧ (MTd q.2.1).1.cls ≠ "java/lang/invoke/MethodHandle" ∧ (MTd q.2.1).1.cls ≠ "java/lang/invoke/VarHandle" ∧ (MTd q.2.1).2.2.2.2.2.2.2.1 = q.2.2.2.1 ∧ (MTd q.2.1).2.2.2.2.2.2.2.2 = q.2.2.2.2.1
abbrev VirtOK (q : Nat × Nat × Nat × Nat × Nat × Nat) : Prop := Cond.instanceMethod (MTd q.2.1).1 ∈ TW ∧ Cond.selects (MTd q.2.1).1.cls (MTd q.2.1).1 (MTd q.2.1).1 ∈ TW ∧ ((parseMethodDescriptor (MTd q.2.1).1.desc).map (fun d => d.parameters.length) = some (q.2.2.1 - 1) ∧ 1 ≤ q.2.2.1) ∧ (MTd q.2.1).2.2.2.2.1 = [] ∧ ((q.2.2.2.2.2 < 9 ∧ (vwf q.2.2.2.2.2).1 = (MTd q.2.1).1.cls) ∨ (q.2.2.2.2.2 = 100 ∧ (MTd q.2.1).1.cls = "java/lang/String"))
abbrev StatOK (q : Nat × Nat × Nat × Nat × Nat × Nat) : Prop := Cond.static (MTd q.2.1).1 ∈ TW ∧ (parseMethodDescriptor (MTd q.2.1).1.desc).map (fun d => d.parameters.length) = some q.2.2.1
abbrev InitOK (q : Nat × Nat × Nat × Nat × Nat × Nat) : Prop := (MTd q.2.1).1.name = "<init>" ∧ Cond.instanceMethod (MTd q.2.1).1 ∈ TW ∧ ((parseMethodDescriptor (MTd q.2.1).1.desc).map (fun d => d.parameters.length) = some (q.2.2.1 - 1) ∧ 1 ≤ q.2.2.1) ∧ (MTd q.2.1).2.2.2.2.1 = [] ∧ (MTd q.2.1).2.2.2.1 = none
abbrev RoomOK (R : Room) (q : Nat × Nat × Nat × Nat × Nat × Nat) : Prop := (MTd q.2.1).2.2.2.2.2.1 + 1 ≤ R.frames ∧ 8 + ((MTd q.2.1).2.2.1 + 11) + (MTd q.2.1).2.2.2.2.2.2.1 ≤ R.locals
abbrev ExcOK (own : String) (q : Nat × Nat × Nat) : Prop := (1 ≤ q.2.1 ∧ q.2.1 ≤ 4) ∧ Cond.classLink own q.1 (excN q.2.1) ∈ TW ∧ Cond.initialized (excN q.2.1) ∈ TW ∧ ∀ w ∈ vx_at0 own q.2.2 (excN q.2.1) excCh, w ∈ TW ∨ w ∈ NW
def HsOK (own : String) : List (Nat × Nat × Nat × Nat) → List (Nat × Nat × Nat × Nat) → Prop
  | [], [] => True
  | a :: l, b :: l' => (a.1 = b.1 ∧ a.2.1 = b.2.1 ∧ a.2.2.1 = b.2.2.1 ∧ a.2.2.2 ≠ 0 ∧ (1 ≤ b.2.2.2 ∧ b.2.2.2 ≤ 4) ∧ Cond.classLink own a.2.2.2 (excN b.2.2.2) ∈ TW) ∧ HsOK own l l'
  | _, _ => False
/-- a class's pool, checked -/
def CpOK (own : String) (cp : CPT) : Prop := (∀ q ∈ cp.1, MthOK own q) ∧ (∀ q ∈ cp.2.1, FieldOK own q) ∧ (∀ q ∈ cp.2.2.1, Cond.constant own q.1 (Int32.ofInt q.2) ∈ TW) ∧ (∀ q ∈ cp.2.2.2.1, Cond.constantLong own q.1 (Int64.ofInt q.2) ∈ TW) ∧ (∀ q ∈ cp.2.2.2.2.1, q.2 < nStr ∧ ∃ tx, (own, q.1, tx, q.2) ∈ strR) ∧ (∀ q ∈ cp.2.2.2.2.2.1, NewOK own q) ∧ (∀ q ∈ cp.2.2.2.2.2.2.1, ExcOK own q) ∧ (∀ q ∈ cp.2.2.2.2.2.2.2.1, Cond.constantFloat own q.1 q.2 ∈ TW) ∧ (cp.2.2.2.2.2.2.2.2 ≠ 0 → Cond.methodLink own cp.2.2.2.2.2.2.2.2 objectInit ∈ TW)
/-- an entry of a program, checked: its decoding, its jumps, the room and kind of its calls -/
def entB (cp : CPT) (own : String) (R : Room) (isI : Bool) (pc : Nat) (ins : Instr) (tg : List Nat) : Bool := match ins with
  | .goto off => match tg with
    | t :: _ => decide ((pc : Int) + off = (t : Int))
    | _ => false
  | .ifCond _ off => match tg with
    | t :: _ => decide ((pc : Int) + off = (t : Int))
    | _ => false
  | .if_icmp _ off => match tg with
    | t :: _ => decide ((pc : Int) + off = (t : Int))
    | _ => false
  | .tableswitch d lo hi offs => match tg with
    | t :: ts => decide ((pc : Int) + d = (t : Int)) && decide (ts.map (fun t9 : Nat => (t9 : Int)) = offs.toList.map (fun o => (pc : Int) + o)) && decide (hi = lo + (ts.length : Int) - 1)
    | _ => false
  | .invokevirtual i => match lk cp.1 i with
    | some q => decide (RoomOK R (i, q)) && decide (VirtOK (i, q))
    | none => false
  | .invokestatic i => match lk cp.1 i with
    | some q => decide (RoomOK R (i, q)) && decide (StatOK (i, q))
    | none => false
  | .invokespecial i => match Nat.beq i cp.2.2.2.2.2.2.2.2 with
    | true => Nat.ble 1 R.frames && Nat.ble 20 R.locals && Nat.ble 1 i
    | false => match lk cp.1 i with
      | some q => decide (RoomOK R (i, q)) && decide (InitOK (i, q))
      | none => true
  | .putfield i => match lk cp.2.1 i with
    | some q => decide (PutOK own isI (i, q))
    | none => false
  | .new _ => Nat.ble 6 R.frames && Nat.ble 100 R.locals
  | .newarray ty => match ty with
    | .int => true
    | .long => true
    | .byte => true
    | .boolean => true
    | .double => true
    | _ => false
  | _ => true
abbrev EntOK (own : String) (cc : ByteArray) (cp : CPT) (R : Room) (isI : Bool) (q : Nat × Instr × List Nat) : Prop := decode cc q.1 = .ok (q.2.1, lenE q.1 q.2.1) ∧ entB cp own R isI q.1 q.2.1 q.2.2 = true
theorem nc_mem (a : Nat) (h1 : a < 5) (b : Nat) (h2 : b < 5) (h3 : 1 ≤ a) (h4 : 1 ≤ b) (h5 : a ≠ b) : (excN a, excN b) ∈ NC := by
  have ha : a = 1 ∨ a = 2 ∨ a = 3 ∨ a = 4 := by omega
  have hb : b = 1 ∨ b = 2 ∨ b = 3 ∨ b = 4 := by omega
  rcases ha with rfl | rfl | rfl | rfl <;> rcases hb with rfl | rfl | rfl | rfl <;> first | exact absurd rfl h5 | simp [NC, excN]
theorem nw_cast : ∀ a, a < 5 → (1 ≤ a) → Cond.castable (excN a) (excN a) ∈ NW := by decide +kernel
theorem exc_fit : ∀ a, a < 5 → 1 ≤ a → Bundle.fit (excN a) = true := by decide +kernel
theorem exc_fitC : ∀ n ∈ excCh, Bundle.fit n = true := by decide +kernel
theorem nw_tab : ∀ w ∈ NW, w.onTables = true := by decide +kernel
theorem fh_tab {own : String} {pc ec : Nat} (hec : 1 ≤ ec ∧ ec ≤ 4) : ∀ {hh hs : List (Nat × Nat × Nat × Nat)}, HsOK own hh hs →
    (∀ hp, fh hs pc ec = some hp → ∃ (pre : List ExceptionTableEntry) (x : ExceptionTableEntry) (suf : List ExceptionTableEntry), tableOf hh = pre ++ x :: suf ∧ (∀ z ∈ pre, covers z pc = false ∨ (z.catchType ≠ 0 ∧ ∃ nm : String, Cond.classLink own z.catchType nm ∈ TW ∧ (excN ec, nm) ∈ NC)) ∧ covers x pc = true ∧ x.catchType ≠ 0 ∧ Cond.classLink own x.catchType (excN ec) ∈ TW ∧ x.handlerPc = hp) ∧
    (fh hs pc ec = none → ∀ z ∈ tableOf hh, covers z pc = false ∨ (z.catchType ≠ 0 ∧ ∃ nm : String, Cond.classLink own z.catchType nm ∈ TW ∧ (excN ec, nm) ∈ NC))
  | [], [], _ => ⟨fun hp h => (by cases h), fun _ z hz => (by cases hz)⟩
  | a :: l, [], h => h.elim
  | [], b :: l', h => h.elim
  | a :: l, b :: l', ⟨⟨e1, e2, e3, e4, e5, e6⟩, hl⟩ => by
    have ih := fh_tab (pc := pc) hec hl
    have hcov : covers (⟨a.1, a.2.1, a.2.2.1, a.2.2.2⟩ : ExceptionTableEntry) pc = (Nat.ble b.1 pc && Nat.blt pc b.2.1) := by
      show (decide (a.1 ≤ pc) && decide (pc < a.2.1)) = _
      rw [e1, e2]
      congr 1
      · rw [Bool.eq_iff_iff, decide_eq_true_eq, Nat.ble_eq]
      · rw [Bool.eq_iff_iff, decide_eq_true_eq, Nat.blt_eq]
    have hpass : ((Nat.ble b.1 pc && Nat.blt pc b.2.1) && Nat.beq b.2.2.2 ec) = false → covers (⟨a.1, a.2.1, a.2.2.1, a.2.2.2⟩ : ExceptionTableEntry) pc = false ∨ (a.2.2.2 ≠ 0 ∧ ∃ nm : String, Cond.classLink own a.2.2.2 nm ∈ TW ∧ (excN ec, nm) ∈ NC) := by
      intro hf
      rw [hcov]
      cases hq : (Nat.ble b.1 pc && Nat.blt pc b.2.1) with
      | false => exact Or.inl rfl
      | true =>
        rw [hq, Bool.true_and] at hf
        have hne : b.2.2.2 ≠ ec := fun z => by rw [z, Nat.beq_refl] at hf; cases hf
        exact Or.inr ⟨e4, _, e6, nc_mem ec (by omega) b.2.2.2 (by omega) hec.1 e5.1 (fun z => hne z.symm)⟩
    constructor
    · intro hp h
      unfold fh at h
      split at h
      · next hq =>
        cases h
        have hq2 : (Nat.ble b.1 pc && Nat.blt pc b.2.1) = true ∧ Nat.beq b.2.2.2 ec = true := by simpa only [Bool.and_eq_true] using hq
        have heq : b.2.2.2 = ec := Nat.eq_of_beq_eq_true hq2.2
        exact ⟨[], _, tableOf l, rfl, fun z hz => (by cases hz), by rw [hcov]; exact hq2.1, e4, by rw [← heq]; exact e6, e3⟩
      · next hq =>
        obtain ⟨pre, x, suf, h1, h2, h3⟩ := ih.1 hp h
        refine ⟨_ :: pre, x, suf, by show _ :: tableOf l = _; rw [h1]; rfl, fun z hz => ?_, h3⟩
        rcases List.mem_cons.mp hz with rfl | hz
        · exact hpass (by simpa using hq)
        · exact h2 z hz
    · intro h z hz
      unfold fh at h
      split at h
      · cases h
      · next hq =>
        rcases List.mem_cons.mp (show z ∈ _ :: tableOf l from hz) with rfl | hz
        · exact hpass (by simpa using hq)
        · exact ih.2 h z hz
section STEP
variable {p : Program} {l : Launch} {e : Env} {R : Room} {s : State} {m : MethodId} {args : Array Value} {below : List Frame} {meth : Method} {c : Code} {Q : State → Prop}
variable {g : GE} {ad0 : Nat → Nat} {Λ0 : List CT} {h0 : HP} {A0 : Nat → Prop} {cc : ByteArray} {nL : Nat} {own : String}
/-- how an exception leaves this run -/
def OutX (p : Program) (l : Launch) (e : Env) (R : Room) (s : State) (m : MethodId) (args : Array Value) (below : List Frame) (meth : Method) (c : Code) (Q : State → Prop) (g : GE) (ad0 : Nat → Nat) (Λ0 : List CT) (h0 : HP) (A0 : Nat → Prop) (M : MC) (post : Post) : Prop :=
  ∀ (pc : Nat) (ad : Nat → Nat) (ls : Array Slot) (H : Heap) (locs : List Loc) (Λ : List CT) (h : HP) (k n ec : Nat) (ce : Cell) (q : Addr) (rest : List Value), fh M.2.2.1 pc ec = none → (1 ≤ ec ∧ ec ≤ 4) → MR g ad0 Λ0 h0 A0 s ad Λ h H locs → k ≤ M.2.2.2.2.1 → n ≤ M.2.2.2.2.2 → post (.inr ec) Λ h → H[q]? = some ce → ce.vm = .none → s.vm.findClass (excN ec) = some ce.cls → vx_W p l e R s m args below meth c H locs k n Q (F0 m pc ls rest) q
/-- .. a 'throw new' -/
def OutT (p : Program) (l : Launch) (e : Env) (R : Room) (s : State) (m : MethodId) (args : Array Value) (below : List Frame) (meth : Method) (c : Code) (Q : State → Prop) (g : GE) (ad0 : Nat → Nat) (Λ0 : List CT) (h0 : HP) (A0 : Nat → Prop) (cc : ByteArray) (nL : Nat) (own : String) (M : MC) (post : Post) : Prop :=
  ∀ (pc ik ic : Nat) (ad : Nat → Nat) (ls : Array Slot) (H : Heap) (locs : List Loc) (Λ : List CT) (h : HP) (k n ec : Nat) (rest : List PV), M.2.2.1 = [] → ExcOK own (ik, ec, ic) → decode cc pc = .ok (.new ik, 3) → decode cc (pc + 3) = .ok (.dup, 1) → decode cc (pc + 4) = .ok (.invokespecial ic, 3) → decode cc (pc + 7) = .ok (.athrow, 1) → MR g ad0 Λ0 h0 A0 s ad Λ h H locs → ls.size = nL → cats rest ≤ 8 → 6 ≤ R.frames → 100 ≤ R.locals → k + 1 ≤ M.2.2.2.2.1 → n + 6 ≤ M.2.2.2.2.2 → post (.inr ec) Λ h → W p l e R s m args below meth c H locs k n Q (F0 m pc ls (rest.map (cv ad)))
def rkOK (rk : Nat) (ins : Instr) (v : Option PV) : Prop := match rk with
  | 0 => ins = .return_ ∧ v = none
  | 1 => ins = .ireturn ∧ ∃ x, v = some (vI x)
  | 2 => ins = .ireturn ∧ ∃ x, v = some (vI x) ∧ 0 ≤ x ∧ x ≤ 1
  | 3 => ins = .lreturn ∧ ∃ x, v = some (vL x)
  | 4 => ins = .freturn ∧ ∃ x, v = some (vF x)
  | 5 => ins = .dreturn ∧ ∃ x, v = some (vD x)
  | 6 => ins = .areturn ∧ ∃ x, v = some (vR x)
  | _ => False
/-- .. and a return -/
def OutR (p : Program) (l : Launch) (e : Env) (R : Room) (s : State) (m : MethodId) (args : Array Value) (below : List Frame) (meth : Method) (c : Code) (Q : State → Prop) (g : GE) (ad0 : Nat → Nat) (Λ0 : List CT) (h0 : HP) (A0 : Nat → Prop) (cc : ByteArray) (M : MC) (post : Post) : Prop :=
  ∀ (pc : Nat) (ins : Instr) (v : Option PV) (ad : Nat → Nat) (ls : Array Slot) (H : Heap) (locs : List Loc) (Λ : List CT) (h : HP) (k n : Nat), rkOK M.2.2.2.1 ins v → decode cc pc = .ok (ins, 1) → MR g ad0 Λ0 h0 A0 s ad Λ h H locs → (∀ w, v = some w → okv Λ.length w) → k ≤ M.2.2.2.2.1 → n ≤ M.2.2.2.2.2 → post (.inl v) Λ h → W p l e R s m args below meth c H locs k n Q (F0 m pc ls (v.toList.map (cv ad)))
/-- a handler's start, or out -/
theorem ts_catch (C : CX p l s m args meth c g ad0 h0 A0 cc nL own) {K : XT} (hK9 : ∀ pc L st Λ h k n, K pc L st Λ h k n → XW p l e R s m args below meth c Q g ad0 Λ0 h0 A0 nL pc L st Λ h k n) {M : MC} {post : Post} {hh : List (Nat × Nat × Nat × Nat)} (htab : c.exceptionTable.toList = tableOf hh) (hHs : HsOK own hh M.2.2.1) (hD : ∀ pc ins tg, lk M.1 pc = some (ins, tg) → decode cc pc = .ok (ins, lenE pc ins))
    (hX : OutX p l e R s m args below meth c Q g ad0 Λ0 h0 A0 M post) {pc k n ec : Nat} {L : List PV} {Λ : List CT} {h : HP} {ad : Nat → Nat} {ls : Array Slot} {H : Heap} {locs : List Loc} {ce : Cell} {q : Addr} {rest : List Value} (hec : 1 ≤ ec ∧ ec ≤ 4)
    (hM : MR g ad0 Λ0 h0 A0 s ad Λ h H locs) (hL : LR Λ.length ad nL ls L) (hcell : H[q]? = some ce) (hv : ce.vm = .none) (hcl : s.vm.findClass (excN ec) = some ce.cls)
    (hs : catc M post K pc L Λ h k n ec) : vx_W p l e R s m args below meth c H locs k n Q (F0 m pc ls rest) q := by
  unfold catc at hs
  cases hf : fh M.2.2.1 pc ec with
  | none =>
    rw [hf] at hs
    obtain ⟨b1, b2, b3⟩ := bnd_of hs
    exact hX pc ad ls H locs Λ h k n ec ce q rest hf hec hM b1 b2 b3 hcell hv hcl
  | some hp =>
    rw [hf] at hs
    dsimp only at hs
    obtain ⟨hx, hb, hml, hown, hts, -, hK, hE, hA, -⟩ := id C
    obtain ⟨pre, x, suf, h1, h2, h3, h4, h5, rfl⟩ := (fh_tab (pc := pc) hec hHs).1 hp hf
    refine vx_catch hown pre x suf (htab.trans h1) (fun z hz => (h2 z hz).imp id fun ⟨z1, nm, z2, z3⟩ => ⟨z1, nm, hts _ z2, hE.2.2.1 (excN ec, nm) z3⟩) h3 h4 (hts _ h5) (va_Nw.use rfl (hE.2.1 _ (nw_cast ec (by omega) hec.1))) hcell hv hcl ?_
    split at hs
    · next i t9 hl9 =>
      have hd9 := hD _ _ _ hl9
      cases hq : Nat.blt i.val L.length with
      | false => rw [hq] at hs; exact hs.elim
      | true =>
      rw [hq] at hs
      have hi := Nat.blt_eq.mp hq
      rw [hL.2.2.1] at hi
      refine lv_astore_n hx hb hd9 rfl hL.has hi rfl (fun ls9 h9 => ?_)
      exact hK9 _ _ _ _ _ _ _ hs ad ls9 H locs hM (LR_sto1 hL (Or.inl rfl) (fun z => absurd rfl z) h9) (fun v hv => nomatch hv)
    · next i t9 hl9 =>
      have hd9 := hD _ _ _ hl9
      cases hq : Nat.blt i L.length with
      | false => rw [hq] at hs; exact hs.elim
      | true =>
      rw [hq] at hs
      have hi := Nat.blt_eq.mp hq
      rw [hL.2.2.1] at hi
      refine lv_astore hx hb hd9 hL.has hi rfl (fun ls9 h9 => ?_)
      exact hK9 _ _ _ _ _ _ _ hs ad ls9 H locs hM (LR_sto1 hL (Or.inl rfl) (fun z => absurd rfl z) h9) (fun v hv => nomatch hv)
    · exact hs.elim
/-- behind a call -/
theorem after_call (C : CX p l s m args meth c g ad0 h0 A0 cc nL own) {K : XT} (hK9 : ∀ pc L st Λ h k n, K pc L st Λ h k n → XW p l e R s m args below meth c Q g ad0 Λ0 h0 A0 nL pc L st Λ h k n) {M : MC} {post : Post} {hh : List (Nat × Nat × Nat × Nat)} (htab : c.exceptionTable.toList = tableOf hh) (hHs : HsOK own hh M.2.2.1) (hD : ∀ pc ins tg, lk M.1 pc = some (ins, tg) → decode cc pc = .ok (ins, lenE pc ins))
    (hX : OutX p l e R s m args below meth c Q g ad0 Λ0 h0 A0 M post) {pc k n mc ms : Nat} {L rst : List PV} {Λ : List CT} {h : HP} {ad : Nat → Nat} {ls : Array Slot} {H : Heap} {locs : List Loc} {st0 : List Value} {aa : Array Value}
    (hM : MR g ad0 Λ0 h0 A0 s ad Λ h H locs) (hL : LR Λ.length ad nL ls L) (hst : ∀ v ∈ rst, okv Λ.length v)
    (hr : vx_Run p l e R s m args below meth c H locs k n mc ms (F0 m pc ls st0) (rst.map (cv ad)) (QcP g ad Λ h (va_A (cw g ad Λ h) H.size) (cont M post K pc L rst (k + mc) (n + ms)) aa) (XcP g ad Λ h (va_A (cw g ad Λ h) H.size) (cont M post K pc L rst (k + mc) (n + ms))) (va_A (cw g ad Λ h) H.size)) :
    W p l e R s m args below meth c H locs k n Q (F0 m pc ls st0) := by
  obtain ⟨hx, hb, hml, hown, hts, -, hK, hE, hA, -⟩ := id C
  have hFc : ∀ q, va_A (cw g ad Λ h) H.size q → A0 q := by
    intro q hq
    rcases hq with ⟨k9, e9, hq⟩ | hq
    · exact hM.2.1.2 k9 _ hq
    · exact hA q (Nat.le_trans hM.2.2.1.1 hq)
  have after : ∀ {ad' : Nat → Nat} {Λ' : List CT} {h' : HP} {st₀ t T' : State} {L9 : List Loc}, st₀.heap = H → T'.heap = t.heap → (∀ z ∈ L9, va_A (cw g ad Λ h) H.size z.base) → Aft g ad Λ h (va_A (cw g ad Λ h) H.size) st₀ ad' Λ' h' t →
      MR g ad0 Λ0 h0 A0 s ad' Λ' h' T'.heap (locs ++ L9) ∧ LR Λ'.length ad' nL ls L ∧ (∀ v ∈ rst, okv Λ'.length v) ∧ rst.map (cv ad') = rst.map (cv ad) := by
    intro ad' Λ' h' st₀ t T' L9 e0 e1 hL9 hAft
    obtain ⟨a1, a2, a3, a4, a5, a6, a7, a8⟩ := hAft
    obtain ⟨k1, k2, k3⟩ := vx_keep e0 e1 hM.2.2.1 (fun q _ hq => hFc q hq) hFc hL9 a8
    have hag : ∀ i, scp Λ.length i → ad' i = ad i := fun i hi => a6 i (hi.imp (fun z => z.2) id)
    refine ⟨⟨by rw [e1]; exact a1, a2.weaken (fun _ q _ hq => hFc q.1 hq), k3, a3, Nat.le_trans hM.2.2.2.2.1 a4, a5, fun i hi => ?_, fun i hi => ?_⟩, hL.mono a4 hag, fun v hv => okv_mono a4 (hst v hv), st_ad hst hag⟩
    · have h1 := hM.2.2.2.2.1
      rw [a6 i (by omega)]
      exact hM.2.2.2.2.2.2.1 i hi
    · rw [a7 i hi]; exact hM.2.2.2.2.2.2.2 i hi
  intro T hT X
  rcases hr T hT X with ⟨v, st₀, t, T', L9, e0, X', hL9, e1, e2, ⟨v', ad', Λ', h', hv, hok, hAft, hp⟩, st⟩ | ⟨q, st₀, t, T', L9, E, ce, e0, X', hL9, e1, e2, ⟨ec, ad', Λ', h', hE9, hec, hAft, hp⟩, hce, hcv, hcl, st⟩
  · obtain ⟨hM', hL', hst', hmp⟩ := after e0 e1 hL9 hAft
    cases hv
    cases v' with
    | none =>
      obtain ⟨t2, a1, b1⟩ := hK9 _ _ _ _ _ _ _ hp ad' ls T'.heap (locs ++ L9) hM' hL' hst' T' rfl X'
      rw [hmp] at a1
      exact ⟨t2, st t2 a1, b1⟩
    | some w =>
      obtain ⟨t2, a1, b1⟩ := hK9 _ _ _ _ _ _ _ hp ad' ls T'.heap (locs ++ L9) hM' hL' (okc (hok w rfl) hst') T' rfl X'
      rw [List.map_cons, hmp] at a1
      exact ⟨t2, st t2 a1, b1⟩
  · obtain ⟨hM', hL', hst', hmp⟩ := after e0 e1 hL9 hAft
    subst hE9
    obtain ⟨t2, a1, b1⟩ := ts_catch C hK9 htab hHs hD hX (rest := rst.map (cv ad)) hec hM' hL' (by rw [e1]; exact hce) hcv hcl hp T' rfl X'
    exact ⟨t2, st.trans a1, b1⟩
end STEP
