/-! ===== the JDK's String.length and String.charAt of the constants ===== -/
section JDK
variable {p : Program} {l : Launch} {e : Env} {R : Room} {s : State} {m : MethodId} {args : Array Value} {below : List Frame} {meth : Method} {c : Code} {Q : State → Prop}
variable {g : GE} {ad0 : Nat → Nat} {Λ0 : List CT} {h0 : HP} {A0 : Nat → Prop} {cc : ByteArray} {nL : Nat} {own : String}
theorem tj_val (C : CX p l s m args meth c g ad0 h0 A0 cc nL own) {pc k n idx sid : Nat} {L st : List PV} {Λ : List CT} {h : HP} (hl : Cond.fieldLink own idx "java/lang/String" "value" "[B" ∈ TW) (hsid : sid < nStr) (hdg : decode cc pc = .ok (.getfield idx, 3))
    (hs : XW p l e R s m args below meth c Q g ad0 Λ0 h0 A0 nL (pc + 3) L (vR (3000 + sid) :: st) Λ h k n) : XW p l e R s m args below meth c Q g ad0 Λ0 h0 A0 nL pc L (vR (1000 + sid) :: st) Λ h k n := by
  obtain ⟨hx, hb, -, hown, hts, -, -, hE, -, -, hado⟩ := id C
  intro ad ls H locs hM hL hst
  have ea : ad (1000 + sid) = g.2.2.1 sid := by rw [hM.2.2.2.2.2.2.1 (1000 + sid) (Or.inr (by omega))]; exact (hado.1 sid).1 hsid
  have eb : ad (3000 + sid) = g.2.2.2.1 sid := by rw [hM.2.2.2.2.2.2.1 (3000 + sid) (Or.inr (by omega))]; exact (hado.1 sid).2
  have hgo := hs ad ls H locs hM hL (okc (show scp Λ.length (3000 + sid) from Or.inr (by omega)) (fun v hv => hst v (List.mem_cons_of_mem _ hv)))
  have hgo : W p l e R s m args below meth c H locs k n Q (F0 m (pc + 3) ls (.ref (ad (3000 + sid)) :: st.map (cv ad))) := hgo
  show W p l e R s m args below meth c H locs k n Q (F0 m pc ls (.ref (ad (1000 + sid)) :: st.map (cv ad)))
  rw [eb] at hgo
  rw [ea]
  exact vk_getf hx hb (hE.2.2.2.1.1 sid hsid).2.2.1 hM.2.2.1 hown (hts _ hl) (fun _ h => h) hdg hgo
theorem tj_cod (C : CX p l s m args meth c g ad0 h0 A0 cc nL own) {pc k n idx sid : Nat} {L st : List PV} {Λ : List CT} {h : HP} (hl : Cond.fieldLink own idx "java/lang/String" "coder" "B" ∈ TW) (hsid : sid < nStr) (hdg : decode cc pc = .ok (.getfield idx, 3))
    (hs : XW p l e R s m args below meth c Q g ad0 Λ0 h0 A0 nL (pc + 3) L (vI 0 :: st) Λ h k n) : XW p l e R s m args below meth c Q g ad0 Λ0 h0 A0 nL pc L (vR (1000 + sid) :: st) Λ h k n := by
  obtain ⟨hx, hb, -, hown, hts, -, -, hE, -, -, hado⟩ := id C
  intro ad ls H locs hM hL hst
  have ea : ad (1000 + sid) = g.2.2.1 sid := by rw [hM.2.2.2.2.2.2.1 (1000 + sid) (Or.inr (by omega))]; exact (hado.1 sid).1 hsid
  have hgo := hs ad ls H locs hM hL (okc (show inR 0 by decide) (fun v hv => hst v (List.mem_cons_of_mem _ hv)))
  have hgo : W p l e R s m args below meth c H locs k n Q (F0 m (pc + 3) ls (.int (Int32.ofInt 0) :: st.map (cv ad))) := hgo
  show W p l e R s m args below meth c H locs k n Q (F0 m pc ls (.ref (ad (1000 + sid)) :: st.map (cv ad)))
  rw [i_zero] at hgo
  rw [ea]
  exact vk_getf hx hb (hE.2.2.2.1.1 sid hsid).2.1 hM.2.2.1 hown (hts _ hl) (fun _ h => h) hdg hgo
theorem tj_comp (C : CX p l s m args meth c g ad0 h0 A0 cc nL own) {pc k n idx : Nat} {L st : List PV} {Λ : List CT} {h : HP} (hl : Cond.fieldLink own idx "java/lang/String" "COMPACT_STRINGS" "Z" ∈ TW) (hdg : decode cc pc = .ok (.getstatic idx, 3))
    (hs : XW p l e R s m args below meth c Q g ad0 Λ0 h0 A0 nL (pc + 3) L (vI 1 :: st) Λ h k n) : XW p l e R s m args below meth c Q g ad0 Λ0 h0 A0 nL pc L st Λ h k n := by
  obtain ⟨hx, hb, -, hown, hts, -, -, hE, -, -, hado⟩ := id C
  intro ad ls H locs hM hL hst
  have hgo := hs ad ls H locs hM hL (okc (show inR 1 by decide) hst)
  have hgo : W p l e R s m args below meth c H locs k n Q (F0 m (pc + 3) ls (.int (Int32.ofInt 1) :: st.map (cv ad))) := hgo
  rw [show Int32.ofInt 1 = 1 by decide] at hgo
  exact va_gets hx hb hE.2.2.2.2.2.2.1 hM.2.2.1 hown (hts _ hl) (fun _ h => h) hdg hgo
theorem tj_form (C : CX p l s m args meth c g ad0 h0 A0 cc nL own) {pc k n idx : Nat} {L st : List PV} {Λ : List CT} {h : HP} (hl : Cond.fieldLink own idx "jdk/internal/util/Preconditions" "SIOOBE_FORMATTER" "Ljava/util/function/BiFunction;" ∈ TW) (hdg : decode cc pc = .ok (.getstatic idx, 3))
    (hs : ∀ v : PV, (v = vR 3999 ∨ v = vU) → XW p l e R s m args below meth c Q g ad0 Λ0 h0 A0 nL (pc + 3) L (v :: st) Λ h k n) : XW p l e R s m args below meth c Q g ad0 Λ0 h0 A0 nL pc L st Λ h k n := by
  obtain ⟨hx, hb, -, hown, hts, -, -, hE, -, -, hado⟩ := id C
  intro ad ls H locs hM hL hst
  have eb : ad 3999 = g.2.2.2.1 999 := by rw [hM.2.2.2.2.2.2.1 3999 (Or.inr (by omega))]; exact (hado.1 999).2
  rcases hE.2.2.2.2.2.2.2.1 with hz | hz
  · have hgo := hs (vR 3999) (Or.inl rfl) ad ls H locs hM hL (okc (show scp Λ.length 3999 from Or.inr (by omega)) hst)
    have hgo : W p l e R s m args below meth c H locs k n Q (F0 m (pc + 3) ls (.ref (ad 3999) :: st.map (cv ad))) := hgo
    rw [eb] at hgo
    exact va_gets hx hb hz hM.2.2.1 hown (hts _ hl) (fun _ h => h) hdg hgo
  · have hgo := hs vU (Or.inr rfl) ad ls H locs hM hL (okc True.intro hst)
    have hgo : W p l e R s m args below meth c H locs k n Q (F0 m (pc + 3) ls (.null :: st.map (cv ad))) := hgo
    exact va_gets hx hb hz hM.2.2.1 hown (hts _ hl) (fun _ h => h) hdg hgo
theorem tj_len (C : CX p l s m args meth c g ad0 h0 A0 cc nL own) {pc k n sid : Nat} {L st : List PV} {Λ : List CT} {h : HP} (hsid : sid < nStr) (hlen : strLen.getD sid 0 ≤ 2147483647) (hdg : decode cc pc = .ok (.arraylength, 1))
    (hs : XW p l e R s m args below meth c Q g ad0 Λ0 h0 A0 nL (pc + 1) L (vI (strLen.getD sid 0 : Nat) :: st) Λ h k n) : XW p l e R s m args below meth c Q g ad0 Λ0 h0 A0 nL pc L (vR (3000 + sid) :: st) Λ h k n := by
  obtain ⟨hx, hb, -, hown, hts, -, -, hE, -, -, hado⟩ := id C
  intro ad ls H locs hM hL hst
  have eb : ad (3000 + sid) = g.2.2.2.1 sid := by rw [hM.2.2.2.2.2.2.1 (3000 + sid) (Or.inr (by omega))]; exact (hado.1 sid).2
  have hgo := hs ad ls H locs hM hL (okc (show inR ((strLen.getD sid 0 : Nat) : Int) from ⟨by omega, by omega⟩) (fun v hv => hst v (List.mem_cons_of_mem _ hv)))
  show W p l e R s m args below meth c H locs k n Q (F0 m pc ls (.ref (ad (3000 + sid)) :: st.map (cv ad)))
  rw [eb]
  exact va_tlen hx hb (hE.2.2.2.1.1 sid hsid).2.2.2 hM.2.2.1 (show Int32.ofNat (strLen.getD sid 0) = Int32.ofInt ((strLen.getD sid 0 : Nat) : Int) from rfl) hdg hgo
theorem tj_ld (C : CX p l s m args meth c g ad0 h0 A0 cc nL own) {pc k n sid : Nat} {i : Int} {L st : List PV} {Λ : List CT} {h : HP} (hsid : sid < nStr) (h0i : 0 ≤ i) (hi : i < (strLen.getD sid 0 : Nat)) (hlen : strLen.getD sid 0 ≤ 2147483647) (hdg : decode cc pc = .ok (.baload, 1))
    (hs : XW p l e R s m args below meth c Q g ad0 Λ0 h0 A0 nL (pc + 1) L (vI ((strL.getD sid []).getD i.toNat 0).toInt :: st) Λ h k n) : XW p l e R s m args below meth c Q g ad0 Λ0 h0 A0 nL pc L (vI i :: vR (3000 + sid) :: st) Λ h k n := by
  obtain ⟨hx, hb, -, hown, hts, -, -, hE, -, -, hado⟩ := id C
  intro ad ls H locs hM hL hst
  have eb : ad (3000 + sid) = g.2.2.2.1 sid := by rw [hM.2.2.2.2.2.2.1 (3000 + sid) (Or.inr (by omega))]; exact (hado.1 sid).2
  have hgo := hs ad ls H locs hM hL (okc (i_rng _) (fun v hv => hst v (List.mem_cons_of_mem _ (List.mem_cons_of_mem _ hv))))
  show W p l e R s m args below meth c H locs k n Q (F0 m pc ls (.int (Int32.ofInt i) :: .ref (ad (3000 + sid)) :: st.map (cv ad)))
  rw [eb]
  refine va_tb hx hb (hE.2.2.2.1.1 sid hsid).2.2.2 hM.2.2.1 (i_in h0i (by omega) hi) (v := .int (Int32.ofInt ((strL.getD sid []).getD i.toNat 0).toInt)) ?_ hdg hgo
  show Value.int ((strL.getD sid []).getD (Int32.ofInt i).toNatClampNeg 0) = _
  rw [i_clamp h0i (by omega), i_of]
theorem tj_i2c (C : CX p l s m args meth c g ad0 h0 A0 cc nL own) {pc k n : Nat} {x : Int} {L st : List PV} {Λ : List CT} {h : HP} (h1 : 0 ≤ x) (h2 : x < 65536) (hdg : decode cc pc = .ok (.i2c, 1))
    (hs : XW p l e R s m args below meth c Q g ad0 Λ0 h0 A0 nL (pc + 1) L (vI x :: st) Λ h k n) : XW p l e R s m args below meth c Q g ad0 Λ0 h0 A0 nL pc L (vI x :: st) Λ h k n := by
  obtain ⟨hx, hb, -⟩ := id C
  intro ad ls H locs hM hL hst
  have hr : inR x := ⟨by omega, by omega⟩
  show W p l e R s m args below meth c H locs k n Q (F0 m pc ls (.int (Int32.ofInt x) :: st.map (cv ad)))
  exact lv_i2c hx hb hdg (lg_i2c_word (by rw [i_to hr]; omega) (by rw [i_to hr]; omega)) (hs ad ls H locs hM hL hst)
theorem tj_ret (C : CX p l s m args meth c g ad0 h0 A0 cc nL own) {post : Post} {ty : FieldType} {x : Int} (hr : meth.sig.returnType = some ty) (hn : narrow ty (.int (Int32.ofInt x)) = .int (Int32.ofInt x)) {pc k n mc ms : Nat} {L : List PV} {Λ : List CT} {h : HP} (hd : decode cc pc = .ok (.ireturn, 1)) (bk : k ≤ mc) (bn : n ≤ ms) (hp : post (.inl (some (vI x))) Λ h) :
    XW p l e R s m args below meth c (vx_MQ below (QcP g ad0 Λ0 h0 A0 post) (XcP g ad0 Λ0 h0 A0 post) args s mc ms A0) g ad0 Λ0 h0 A0 nL pc L [vI x] Λ h k n := by
  obtain ⟨hx, hb, hml, hown, hts, hlk, hK, hE, hA, hlst, hado⟩ := id C
  intro ad ls H locs hM hL hst
  have hq : ∀ t : State, t.heap = H → s.WarmedH t.vm → QcP g ad0 Λ0 h0 A0 post args s (.returned ((some (vI x)).map (cv ad))) t := fun t ht _ => ⟨some (vI x), ad, Λ, h, rfl, fun w hw => by cases hw; exact hst _ List.mem_cons_self, Aft_of hM ht, hp⟩
  refine W.widen bk bn (vx_ret ?_)
  exact W.zret hx hb hr hn hq hM.2.2.1.2.2 hd hlk
theorem tj_vret (C : CX p l s m args meth c g ad0 h0 A0 cc nL own) {post : Post} (hr : meth.sig.returnType = none) {pc k n mc ms : Nat} {L : List PV} {Λ : List CT} {h : HP} (hd : decode cc pc = .ok (.return_, 1)) (bk : k ≤ mc) (bn : n ≤ ms) (hp : post (.inl none) Λ h) :
    XW p l e R s m args below meth c (vx_MQ below (QcP g ad0 Λ0 h0 A0 post) (XcP g ad0 Λ0 h0 A0 post) args s mc ms A0) g ad0 Λ0 h0 A0 nL pc L [] Λ h k n := by
  obtain ⟨hx, hb, hml, hown, hts, hlk, hK, hE, hA, hlst, hado⟩ := id C
  intro ad ls H locs hM hL hst
  have hq : ∀ t : State, t.heap = H → s.WarmedH t.vm → QcP g ad0 Λ0 h0 A0 post args s (.returned ((none : Option PV).map (cv ad))) t := fun t ht _ => ⟨none, ad, Λ, h, rfl, (fun w hw => nomatch hw), Aft_of hM ht, hp⟩
  refine W.widen bk bn (vx_ret ?_)
  exact W.vret hx hb hr hq hM.2.2.1.2.2 hd hlk
end JDK
def XJ (p : Program) (l : Launch) (e : Env) (s : State) (m : MethodId) (below : List Frame) (meth : Method) (c : Code) (g : GE) (ad : Nat → Nat) (A0 : Nat → Prop) (y : Nat) (as : List PV) (Λ : List CT) (h : HP) (post : Post) : XT :=
  XW p l e (rmM (MTd y)) s m (as.map (cv ad)).toArray below meth c (vx_MQ below (QcP g ad Λ h A0 post) (XcP g ad Λ h A0 post) (as.map (cv ad)).toArray s (MTd y).2.2.2.2.2.2.2.1 (MTd y).2.2.2.2.2.2.2.2 A0) g ad Λ h A0 (MTd y).2.2.1
theorem ok_bodyN {y : Nat} {M : MC} (b1 : codeW (MTd y) ∈ TW) (b2 : plainFor (MTd y).1 = true) (bn : (MTd y).2.2.2.2.1 = []) (b4 : (MTd y).2.2.2.2.2.2.2.1 = M.2.2.2.2.1) (b5 : (MTd y).2.2.2.2.2.2.2.2 = M.2.2.2.2.2) (br : M.2.2.2.1 = 99) (b7 : M.2.2.1 = []) (b8 : CpOK (MTd y).1.cls M.2.1) (b9 : ∀ q ∈ M.1, EntOK (MTd y).1.cls (MTd y).2.1 M.2.1 (rmM (MTd y)) false q)
    {as : List PV} {Λ : List CT} {h : HP} {post : Post} (hle : Nat.ble (entl as).length (MTd y).2.2.1 = true)
    (hrun : ∀ (p : Program) (l : Launch) (e : Env) (s : State) (m : MethodId) (below : List Frame) (meth : Method) (c : Code) (g : GE) (ad : Nat → Nat) (A0 : Nat → Prop), CX p l s m (as.map (cv ad)).toArray meth c g ad h A0 (MTd y).2.1 (MTd y).2.2.1 (MTd y).1.cls → meth.sig.returnType = (MTd y).2.2.2.1 →
      (∀ (f : Nat) (cuts : List Nat) (pc : Nat) (L st : List PV) (Λ' : List CT) (h' : HP) (k n : Nat), run Ok M (XJ p l e s m below meth c g ad A0 y as Λ h post) post f cuts pc L st Λ' h' k n → XJ p l e s m below meth c g ad A0 y as Λ h post pc L st Λ' h' k n) →
      XJ p l e s m below meth c g ad A0 y as Λ h post 0 (entL as (MTd y).2.2.1) [] Λ h 0 0) : Ok y as Λ h post := by
  intro l hl g ad sz
  refine vx_ofWF (cc := (MTd y).2.1) (maxL := (MTd y).2.2.1) (ret := (MTd y).2.2.2.1) b2 (wsM_code bn) (fun p e s m args below meth c s₁ B hml ht hP => ?_)
  obtain ⟨rfl, rfl, p2, p3, p4, p5, p6, p7, p8, p9⟩ := hP
  have hws := atoms_spec (ws := wsM (MTd y)) B.pre
  have htab : c.exceptionTable.toList = tableOf [] := List.eq_nil_iff_forall_not_mem.mpr ht
  have hHs : HsOK (MTd y).1.cls [] M.2.2.1 := by rw [b7]; exact True.intro
  have C : CX p l s m (as.map (cv ad)).toArray meth c g ad h (va_A (cw g ad Λ h) s.heap.size) (MTd y).2.1 (MTd y).2.2.1 (MTd y).1.cls :=
    ⟨B.exec, B.bytes, hml, findClass_of_methodNamed B.named, fun w hw => hws w (List.mem_cons_of_mem _ hw), B.notSynchronized, p3, p9, fun q hq => Or.inr hq, hl, p7⟩
  rw [lg_entry_eq]
  have hrt : OutR p l e (rmM (MTd y)) s m (as.map (cv ad)).toArray below meth c (vx_MQ below (QcP g ad Λ h (va_A (cw g ad Λ h) s.heap.size) post) (XcP g ad Λ h (va_A (cw g ad Λ h) s.heap.size) post) (as.map (cv ad)).toArray s (MTd y).2.2.2.2.2.2.2.1 (MTd y).2.2.2.2.2.2.2.2 (va_A (cw g ad Λ h) s.heap.size)) g ad Λ h (va_A (cw g ad Λ h) s.heap.size) (MTd y).2.1 M post := by
    intro pc ins v ad ls H locs Λ h k n hrk
    rw [br] at hrk
    exact hrk.elim
  have hX := out_x (e := e) (R := rmM (MTd y)) (below := below) (Λ0 := Λ) C (M := M) (post := post) htab hHs
  have hT := out_t (e := e) (R := rmM (MTd y)) (below := below) (Λ0 := Λ) C (M := M) (post := post) htab hHs b4 b5
  rw [← b4, ← b5] at hX hT
  have h9 := hrun p l e s m below meth c g ad (va_A (cw g ad Λ h) s.heap.size) C B.returns (fun f cuts => run_sound (R := rmM (MTd y)) (isI := false) C (fun q => nomatch q) htab hHs b9 b4 b5 b8 hX hT hrt cuts f)
  exact h9 ad _ s.heap [] ⟨p2, p4.self, va_S.rf, p5, Nat.le_refl _, p6, fun _ _ => rfl, fun _ _ => rfl⟩ (LR_entry (Nat.le_of_ble_eq_true hle) p8) (fun v hv => nomatch hv)
def rt (v : Option PV) (Λ : List CT) (h : HP) : Post := fun o Λ' h' => o = .inl v ∧ Λ' = Λ ∧ h' = h
theorem Ok_rt {y : Nat} {as : List PV} {Λ : List CT} {h : HP} {v : Option PV} {Λ1 : List CT} {h1 : HP} {post : Post} (H : Ok y as Λ h (rt v Λ1 h1)) (hp : post (.inl v) Λ1 h1) : Ok y as Λ h post := Ok_mono (fun o Λ' h' q => by obtain ⟨rfl, rfl, rfl⟩ := q; exact hp) H
def chrS (sid : Nat) (i : Int) : Int := ((strL.getD sid []).getD i.toNat 0).toInt
def lenS (sid : Nat) : Nat := strLen.getD sid 0
theorem lenS_le : ∀ sid, sid < nStr → lenS sid ≤ 2147483647 := by decide +kernel
theorem chrS_all : ∀ sid, sid < nStr → ∀ x ∈ strL.getD sid [], 0 ≤ x.toInt ∧ x.toInt < 128 := by decide +kernel
theorem lenS_eq : ∀ sid, sid < nStr → lenS sid = (strL.getD sid []).length := by decide +kernel
theorem chrS_rng {sid : Nat} {i : Int} (hs : sid < nStr) (h0 : 0 ≤ i) (hi : i < (lenS sid : Int)) : 0 ≤ chrS sid i ∧ chrS sid i < 128 := by
  have h1 := lenS_eq sid hs
  have h2 : i.toNat < (strL.getD sid []).length := by omega
  unfold chrS
  rw [List.getD_eq_getElem?_getD, List.getElem?_eq_getElem h2]
  exact chrS_all sid hs _ (List.getElem_mem h2)
theorem coder_ok {sid : Nat} (hsid : sid < nStr) {Λ : List CT} {h : HP} : Ok 277 [vR (1000 + sid)] Λ h (rt (some (vI 0)) Λ h) := by
  refine ok_bodyN (M := ([], cp_J0, [], 99, 0, 0)) cw_J0_coder_7d493 (plainFor_of_name (by decide +kernel)) rfl rfl rfl rfl rfl cpo_J0 (fun _ h => nomatch h) rfl (fun p l e s m below meth c g ad A0 C hr _ => ?_)
  unfold XJ
  refine tj_comp C (idx := 38) (by decide +kernel) (by decide +kernel) ?_
  refine ts_if_eq C (off := 10) (t := 13) (by decide +kernel) (by decide) ⟨fun h => absurd h (by decide), fun _ => ?_⟩
  refine ts_aload_n C (i := 0) (x := 1000 + sid) (by decide +kernel) rfl ?_
  refine tj_cod C (idx := 15) (by decide +kernel) hsid (by decide +kernel) ?_
  refine ts_goto C (off := 4) (t := 14) (by decide +kernel) (by decide) ?_
  exact tj_ret C hr rfl (by decide +kernel) (Nat.le_refl _) (Nat.le_refl _) ⟨rfl, rfl, rfl⟩
theorem isLatin1_ok {sid : Nat} (hsid : sid < nStr) {Λ : List CT} {h : HP} : Ok 278 [vR (1000 + sid)] Λ h (rt (some (vI 1)) Λ h) := by
  refine ok_bodyN (M := ([], cp_J0, [], 99, 0, 0)) cw_J0_isLatin1_aae02 (plainFor_of_name (by decide +kernel)) rfl rfl rfl rfl rfl cpo_J0 (fun _ h => nomatch h) rfl (fun p l e s m below meth c g ad A0 C hr _ => ?_)
  unfold XJ
  refine tj_comp C (idx := 38) (by decide +kernel) (by decide +kernel) ?_
  refine ts_if_eq C (off := 14) (t := 17) (by decide +kernel) (by decide) ⟨fun h => absurd h (by decide), fun _ => ?_⟩
  refine ts_aload_n C (i := 0) (x := 1000 + sid) (by decide +kernel) rfl ?_
  refine tj_cod C (idx := 15) (by decide +kernel) hsid (by decide +kernel) ?_
  refine ts_if_ne C (off := 7) (t := 17) (by decide +kernel) (by decide) ⟨fun h => absurd rfl h, fun _ => ?_⟩
  refine ts_iconst C (v := 1) (by decide +kernel) (by decide) ?_
  refine ts_goto C (off := 4) (t := 18) (by decide +kernel) (by decide) ?_
  exact tj_ret C hr rfl (by decide +kernel) (Nat.le_refl _) (Nat.le_refl _) ⟨rfl, rfl, rfl⟩
theorem ishr0 {a : Int} (h : inR a) : ishrI a 0 = a := by
  unfold ishrI
  rw [show (Int32.ofInt 0 &&& 31) = 0 by decide, Int32.shiftRight_zero]
  exact i_to h
theorem iand255 {a : Int} (h0 : 0 ≤ a) (h : a < 256) : iandI a 255 = a := by
  obtain ⟨n, rfl⟩ := Int.eq_ofNat_of_zero_le h0
  have hn : n < 256 := by omega
  have : ∀ n : Nat, n < 256 → iandI (n : Int) 255 = n := by decide +kernel
  exact this n hn
theorem strlen_ok {sid : Nat} (hsid : sid < nStr) {Λ : List CT} {h : HP} : Ok 275 [vR (1000 + sid)] Λ h (rt (some (vI (lenS sid : Nat))) Λ h) := by
  have hl := lenS_le sid hsid
  refine ok_bodyN (M := ([(5, .aload_n 0, []), (6, .invokevirtual 335, []), (9, .ishr, [])], cp_J0, [], 99, 0, 0)) cw_J0_length_8abf5 (plainFor_of_name (by decide +kernel)) rfl rfl rfl rfl rfl cpo_J0 (ent_J0 (by decide +kernel)) rfl (fun p l e s m below meth c g ad A0 C hr hX => ?_)
  refine ts_aload_n C (i := 0) (x := 1000 + sid) (by decide +kernel) rfl ?_
  refine tj_val C (idx := 9) (by decide +kernel) hsid (by decide +kernel) ?_
  refine tj_len C hsid hl (by decide +kernel) ?_
  refine hX 4 [10] 5 _ _ _ _ _ _ ?_
  refine And.intro ⟨by omega, by omega⟩ (Ok_rt (coder_ok hsid) ?_)
  refine tj_ret C hr rfl (by decide +kernel) (Nat.le_refl _) (Nat.le_refl _) ?_
  show rt _ _ _ _ _ _
  rw [ishr0 (show inR ((strLen.getD sid 0 : Nat) : Int) from ⟨by unfold lenS at hl; omega, by unfold lenS at hl; omega⟩)]
  exact ⟨rfl, rfl, rfl⟩
theorem precheck_ok {i n : Int} (h0 : 0 ≤ i) (h1 : i < n) {Λ : List CT} {h : HP} {v : PV} (hv : v = vR 3999 ∨ v = vU) : Ok 281 [vI i, vI n, v] Λ h (rt (some (vI i)) Λ h) := by
  rcases hv with rfl | rfl
  all_goals
    refine ok_bodyN (M := ([(0, .iload_n 0, []), (1, .ifCond .lt 8, [9]), (4, .iload_n 0, []), (5, .iload_n 1, []), (6, .if_icmp .lt 10, [16]), (16, .iload_n 0, [])], cp_J3, [], 99, 0, 0)) cw_J3_checkIndex_8e157 (plainFor_of_name (by decide +kernel)) rfl rfl rfl rfl rfl cpo_J3 (ent_J3 (by decide +kernel)) rfl (fun p l e s m below meth c g ad A0 C hr hX => ?_)
    refine hX 8 [17, 9] _ _ _ _ _ _ _ ?_
    refine And.intro (fun h => absurd h (by omega)) (fun _ => ?_)
    refine And.intro (fun _ => ?_) (fun h => absurd h (by omega))
    exact tj_ret C hr rfl (by decide +kernel) (Nat.le_refl _) (Nat.le_refl _) ⟨rfl, rfl, rfl⟩
theorem strcheck_ok {i n : Int} (h0 : 0 ≤ i) (h1 : i < n) {Λ : List CT} {h : HP} : Ok 279 [vI i, vI n] Λ h (rt none Λ h) := by
  refine ok_bodyN (M := ([(5, .invokestatic 1059, []), (8, .pop, [])], cp_J0, [], 99, 0, 0)) cw_J0_checkIndex_df160 (plainFor_of_name (by decide +kernel)) rfl rfl rfl rfl rfl cpo_J0 (ent_J0 (by decide +kernel)) rfl (fun p l e s m below meth c g ad A0 C hr hX => ?_)
  refine ts_iload_n C (i := 0) (x := i) (by decide +kernel) rfl ?_
  refine ts_iload_n C (i := 1) (x := n) (by decide +kernel) rfl ?_
  refine tj_form C (idx := 1053) (by decide +kernel) (by decide +kernel) (fun v hv => ?_)
  rcases hv with rfl | rfl
  all_goals
    refine hX 3 [9] 5 _ _ _ _ _ _ ?_
    refine Ok_rt (precheck_ok h0 h1 (by first | exact Or.inl rfl | exact Or.inr rfl)) ?_
    exact tj_vret C hr (by decide +kernel) (Nat.le_refl _) (Nat.le_refl _) ⟨rfl, rfl, rfl⟩
theorem latchar_ok {sid : Nat} {i : Int} (hsid : sid < nStr) (h0 : 0 ≤ i) (h1 : i < (lenS sid : Int)) {Λ : List CT} {h : HP} : Ok 280 [vR (3000 + sid), vI i] Λ h (rt (some (vI (chrS sid i))) Λ h) := by
  have hl := lenS_le sid hsid
  have hc := chrS_rng hsid h0 h1
  refine ok_bodyN (M := ([(3, .invokestatic 9, []), (6, .aload_n 0, []), (7, .iload_n 1, [])], cp_J1, [], 99, 0, 0)) cw_J1_charAt_3b067 (plainFor_of_name (by decide +kernel)) rfl rfl rfl rfl rfl cpo_J1 (ent_J1 (by decide +kernel)) rfl (fun p l e s m below meth c g ad A0 C hr hX => ?_)
  refine ts_iload_n C (i := 1) (x := i) (by decide +kernel) rfl ?_
  refine ts_aload_n C (i := 0) (x := 3000 + sid) (by decide +kernel) rfl ?_
  refine tj_len C hsid hl (by decide +kernel) ?_
  refine hX 4 [8] 3 _ _ _ _ _ _ ?_
  refine Ok_rt (strcheck_ok h0 h1) ?_
  refine tj_ld C hsid h0 h1 hl (by decide +kernel) ?_
  refine ts_sipush C (v := 255) (by decide +kernel) (by decide) ?_
  refine ts_iand C (by decide +kernel) ?_
  have e1 : iandI (chrS sid i) 255 = chrS sid i := iand255 hc.1 (by omega)
  unfold chrS at e1
  rw [e1]
  refine tj_i2c C hc.1 (by unfold chrS at hc; omega) (by decide +kernel) ?_
  refine tj_ret C hr ?_ (by decide +kernel) (Nat.le_refl _) (Nat.le_refl _) ⟨rfl, rfl, rfl⟩
  have e2 := lg_i2c_word (v := Int32.ofInt (chrS sid i)) (by rw [i_to ⟨by omega, by omega⟩]; exact hc.1) (by rw [i_to ⟨by omega, by omega⟩]; omega)
  exact congrArg Value.int e2
theorem charAt_ok {sid : Nat} {i : Int} (hsid : sid < nStr) (h0 : 0 ≤ i) (h1 : i < (lenS sid : Int)) {Λ : List CT} {h : HP} : Ok 276 [vR (1000 + sid), vI i] Λ h (rt (some (vI (chrS sid i))) Λ h) := by
  have hc := chrS_rng hsid h0 h1
  refine ok_bodyN (M := ([(0, .aload_n 0, []), (1, .invokevirtual 492, []), (4, .ifCond .eq 12, [16]), (7, .aload_n 0, []), (11, .iload_n 1, []), (12, .invokestatic 495, [])], cp_J0, [], 99, 0, 0)) cw_J0_charAt_5068e (plainFor_of_name (by decide +kernel)) rfl rfl rfl rfl rfl cpo_J0 (ent_J0 (by decide +kernel)) rfl (fun p l e s m below meth c g ad A0 C hr hX => ?_)
  refine hX 5 [8, 16] _ _ _ _ _ _ _ ?_
  refine And.intro ⟨by omega, by omega⟩ (Ok_rt (isLatin1_ok hsid) ?_)
  refine And.intro (fun h => absurd h (by decide)) (fun _ => ?_)
  refine tj_val C (idx := 9) (by decide +kernel) hsid (by decide +kernel) ?_
  refine hX 3 [15] 11 _ _ _ _ _ _ ?_
  refine Ok_rt (latchar_ok hsid h0 h1) ?_
  refine tj_ret C hr ?_ (by decide +kernel) (Nat.le_refl _) (Nat.le_refl _) ⟨rfl, rfl, rfl⟩
  have e2 := lg_i2c_word (v := Int32.ofInt (chrS sid i)) (by rw [i_to ⟨by omega, by omega⟩]; exact hc.1) (by rw [i_to ⟨by omega, by omega⟩]; omega)
  exact congrArg Value.int e2
