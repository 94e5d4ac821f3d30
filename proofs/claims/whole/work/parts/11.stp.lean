/-! ===== the step as a whole; a method's body gives its contract (by wip/whole/gen11.py) ===== -/
theorem Ok_mono {y : Nat} {args : List PV} {Λ : List CT} {h : HP} {post post' : Post} (hp : ∀ o Λ h, post o Λ h → post' o Λ h) (H : Ok y args Λ h post) : Ok y args Λ h post' := by
  intro l hl g ad sz
  refine Jvm.Free.MetFree.mono (H l hl g ad sz) (fun _ _ q => q) (fun _ _ _ _ _ q => q) (fun a st o t _ q => ?_)
  rcases q with ⟨⟨v, ad', Λ', h', e, e1, e2, e3⟩, q2⟩ | ⟨q, e, E, ce, L, ⟨ec, ad', Λ', h', e1, e2, e3, e4⟩, q2⟩
  · exact Or.inl ⟨⟨v, ad', Λ', h', e, e1, e2, hp _ _ _ e3⟩, q2⟩
  · exact Or.inr ⟨q, e, E, ce, L, ⟨ec, ad', Λ', h', e1, e2, e3, hp _ _ _ e4⟩, q2⟩
theorem bnd_mk {M : MC} {k n : Nat} {P : Prop} (h1 : k ≤ M.2.2.2.2.1) (h2 : n ≤ M.2.2.2.2.2) (h : P) : bnd M k n P := by
  unfold bnd
  rw [Nat.ble_eq_true_of_le h1, Nat.ble_eq_true_of_le h2]
  exact h
theorem bnd_mono {M : MC} {k n : Nat} {P P' : Prop} (hp : P → P') (h : bnd M k n P) : bnd M k n P' := bnd_mk (bnd_of h).1 (bnd_of h).2.1 (hp (bnd_of h).2.2)
abbrev RetOK (rk : Nat) (r : Option FieldType) : Prop := match rk with
  | 0 => r = none
  | 1 => r = some .int
  | 2 => r = some .boolean
  | 3 => r = some .long
  | 4 => r = some .float
  | 5 => r = some .double
  | _ => ∃ n : String, r = some (.object n)
theorem arr_tw : ∀ ty ∈ [ArrayType.int, .long, .byte, .boolean, .double], Cond.arrayClass (newarray.typeOf ty) ∈ TW := by decide +kernel
theorem obj_tw : Cond.instanceMethod objectInit ∈ TW ∧ Cond.code objectInit ⟨#[0xb1]⟩ 1 none ∈ TW := by decide +kernel
theorem goodWord_ot {w : Cond} (h : goodWord w = true) : vx_ot w = true := by unfold vx_ot; rw [h, Bool.or_true]
section STEP
variable {p : Program} {l : Launch} {e : Env} {R : Room} {s : State} {m : MethodId} {args : Array Value} {below : List Frame} {meth : Method} {c : Code} {Q : State → Prop}
variable {g : GE} {ad0 : Nat → Nat} {Λ0 : List CT} {h0 : HP} {A0 : Nat → Prop} {cc : ByteArray} {nL : Nat} {own : String}
theorem Aft_of {ad : Nat → Nat} {Λ : List CT} {h : HP} {H : Heap} {locs : List Loc} (hM : MR g ad0 Λ0 h0 A0 s ad Λ h H locs) {t : State} (ht : t.heap = H) : Aft g ad0 Λ0 h0 A0 s ad Λ h t :=
  ⟨by rw [ht]; exact hM.1, hM.2.1, hM.2.2.2.1, hM.2.2.2.2.1, hM.2.2.2.2.2.1, hM.2.2.2.2.2.2.1, hM.2.2.2.2.2.2.2, hM.2.2.1.F ht⟩
theorem out_x (C : CX p l s m args meth c g ad0 h0 A0 cc nL own) {M : MC} {post : Post} {hh : List (Nat × Nat × Nat × Nat)} (htab : c.exceptionTable.toList = tableOf hh) (hHs : HsOK own hh M.2.2.1) :
    OutX p l e R s m args below meth c (vx_MQ below (QcP g ad0 Λ0 h0 A0 post) (XcP g ad0 Λ0 h0 A0 post) args s M.2.2.2.2.1 M.2.2.2.2.2 A0) g ad0 Λ0 h0 A0 M post := by
  intro pc ad ls H locs Λ h k n ec ce q rest hf hec hM bk bn hpost hcell hv hcl
  obtain ⟨hx, hb, hml, hown, hts, hlk, hK, hE, hA, hlst, hado⟩ := id C
  exact vx_outP hown hlk (fun z hz => by
    rw [htab] at hz
    exact ((fh_tab (pc := pc) hec hHs).2 hf z hz).imp id fun ⟨z1, nm, z2, z3⟩ => ⟨z1, nm, hts _ z2, hE.2.2.1 (excN ec, nm) z3⟩) hcell hv hcl
    (fun t ht _ => ⟨ec, ad, Λ, h, rfl, hec, Aft_of hM ht, hpost⟩) hM.2.2.1.2.2 bk bn
theorem out_t (C : CX p l s m args meth c g ad0 h0 A0 cc nL own) {M : MC} {post : Post} {hh : List (Nat × Nat × Nat × Nat)} (htab : c.exceptionTable.toList = tableOf hh) (hHs : HsOK own hh M.2.2.1) (hRc : R.cells = M.2.2.2.2.1) (hRs : R.slots = M.2.2.2.2.2) :
    OutT p l e R s m args below meth c (vx_MQ below (QcP g ad0 Λ0 h0 A0 post) (XcP g ad0 Λ0 h0 A0 post) args s M.2.2.2.2.1 M.2.2.2.2.2 A0) g ad0 Λ0 h0 A0 cc nL own M post := by
  intro pc ik ic ad ls H locs Λ h k n ec rest hM0 hEx d0 d3 d4 d7 hM hsz hc8 hRf hRl bk bn hpost
  obtain ⟨hx, hb, hml, hown, hts, hlk, hK, hE, hA, hlst, hado⟩ := id C
  obtain ⟨x1, x2, x3, x4⟩ := hEx
  have x1 : 1 ≤ ec ∧ ec ≤ 4 := x1
  have hcat : ((rest.map (cv ad)).map fun v => v.category).sum ≤ 8 := by rw [cats_sum]; exact hc8
  have hh0 : hh = [] := by
    cases hh with
    | nil => rfl
    | cons a b => rw [hM0] at hHs; exact hHs.elim
  refine vx_throw0 (cls := excN ec) (names := excCh) (A := A0) (free := A0) hx hb hlst hown (exc_fit ec (by omega) x1.1) exc_fitC (hts _ x2) (hts _ x3)
    (fun w hw => (x4 w hw).elim (hts w) (fun z => va_Nw.use (nw_tab w z) (hE.2.1 w z))) (fun w hw => ?_) hE.2.2.2.2.1 hE.2.2.2.2.2.1 hM.2.2.1 (hsz.trans hml.symm) d0 d3 d4 d7 (fun x hx9 => by rw [htab, hh0] at hx9; exact absurd hx9 (by simp [tableOf]))
    (by show 2 + 3 < R.frames; omega) (by show _ + (13 * (2 + 1) + 42) ≤ R.locals; omega) (by rw [hRc]; exact bk) (by rw [hRs]; exact bn) hlk (fun t hal hsz2 hkp => ?_) hM.2.2.1.2.2 bk bn
  · rcases List.mem_cons.mp hw with rfl | hw
    · exact goodWord_ot (tw_good x2).2
    · rcases List.mem_cons.mp hw with rfl | hw
      · exact goodWord_ot (tw_good x3).2
      · rcases x4 w hw with z | z
        · exact goodWord_ot (tw_good z).2
        · unfold vx_ot; rw [nw_tab w z, Bool.true_or]
  · refine ⟨ec, ad, Λ, h, rfl, x1, ⟨hM.1.kept (fun k9 q9 hk9 => hkp _ (vx_lt hM.1 hk9)), hM.2.1, hM.2.2.2.1, hM.2.2.2.2.1, hM.2.2.2.2.2.1, hM.2.2.2.2.2.2.1, hM.2.2.2.2.2.2.2, Nat.le_trans hM.2.2.1.1 hsz2, fun q hq hnq => ?_⟩, hpost⟩
    rw [hkp q (Nat.lt_of_lt_of_le hq hM.2.2.1.1)]
    exact hM.2.2.1.2.1 q hq hnq
theorem out_r (C : CX p l s m args meth c g ad0 h0 A0 cc nL own) {M : MC} {post : Post} (hr : RetOK M.2.2.2.1 meth.sig.returnType) :
    OutR p l e R s m args below meth c (vx_MQ below (QcP g ad0 Λ0 h0 A0 post) (XcP g ad0 Λ0 h0 A0 post) args s M.2.2.2.2.1 M.2.2.2.2.2 A0) g ad0 Λ0 h0 A0 cc M post := by
  intro pc ins v ad ls H locs Λ h k n hrk hd hM hok bk bn hpost
  obtain ⟨hx, hb, hml, hown, hts, hlk, hK, hE, hA, hlst, hado⟩ := id C
  have hq : ∀ t : State, t.heap = H → s.WarmedH t.vm → QcP g ad0 Λ0 h0 A0 post args s (.returned (v.map (cv ad))) t := fun t ht _ => ⟨v, ad, Λ, h, rfl, hok, Aft_of hM ht, hpost⟩
  refine W.widen bk bn (vx_ret ?_)
  have hf := hM.2.2.1.2.2
  unfold rkOK at hrk
  revert hrk hr
  generalize M.2.2.2.1 = rk
  intro hr hrk
  match rk, hr, hrk with
  | 0, hr, hrk =>
    obtain ⟨rfl, rfl⟩ := hrk
    exact W.vret hx hb hr hq hf hd hlk
  | 1, hr, hrk =>
    obtain ⟨rfl, x, rfl⟩ := hrk
    exact W.iret hx hb hr hq hf hd hlk
  | 2, hr, hrk =>
    obtain ⟨rfl, x, rfl, x1, x2⟩ := hrk
    have e9 : x = 0 ∨ x = 1 := by omega
    exact W.zret hx hb hr (by rcases e9 with rfl | rfl <;> rfl) hq hf hd hlk
  | 3, hr, hrk =>
    obtain ⟨rfl, x, rfl⟩ := hrk
    exact W.lret hx hb hr hq hf hd hlk
  | 4, hr, hrk =>
    obtain ⟨rfl, x, rfl⟩ := hrk
    exact W.fret hx hb hr hq hf hd hlk
  | 5, hr, hrk =>
    obtain ⟨rfl, x, rfl⟩ := hrk
    exact W.dret hx hb hr hq hf hd hlk
  | 6, hr, hrk =>
    obtain ⟨rfl, x, rfl⟩ := hrk
    obtain ⟨nm, hnm⟩ := hr
    exact W.aret hx hb hnm (Or.inl ⟨nm, rfl⟩) (Or.inr ⟨_, rfl⟩) hq hf hd hlk
  | rk + 7, hr, hrk => exact hrk.elim
theorem jmp_of {X K : XT} (hK9 : ∀ pc L st Λ h k n, K pc L st Λ h k n → X pc L st Λ h k n) {pc t k n : Nat} {c d : Prop} {L st : List PV} {Λ : List CT} {h : HP} (hs : jmp pc t c d K L st Λ h k n) : (c → X t L st Λ h k n) ∧ (d → X (pc + 3) L st Λ h k n) := ⟨fun q => hK9 _ _ _ _ _ _ _ (hs.1 q), fun q => hK9 _ _ _ _ _ _ _ (hs.2 q)⟩
theorem tsw_mono {K K' : Nat → Prop} (hK : ∀ t, K t → K' t) {x : Int} : ∀ {l : List Nat} {j : Int}, tsw x j l K → tsw x j l K'
  | [], _, _ => trivial
  | _ :: _, _, hs => ⟨fun q => hK _ (hs.1 q), tsw_mono hK hs.2⟩
set_option maxHeartbeats 4000000 in
theorem stp_sound (C : CX p l s m args meth c g ad0 h0 A0 cc nL own) {isI : Bool} (hin : isI = true → meth.name = "<init>") {M : MC} {post : Post} {hh : List (Nat × Nat × Nat × Nat)} (htab : c.exceptionTable.toList = tableOf hh) (hHs : HsOK own hh M.2.2.1)
    (hEn : ∀ q ∈ M.1, EntOK own cc M.2.1 R isI q) (hRc : R.cells = M.2.2.2.2.1) (hRs : R.slots = M.2.2.2.2.2) (hCp : CpOK own M.2.1)
    (hX : OutX p l e R s m args below meth c Q g ad0 Λ0 h0 A0 M post) (hT : OutT p l e R s m args below meth c Q g ad0 Λ0 h0 A0 cc nL own M post) (hRt : OutR p l e R s m args below meth c Q g ad0 Λ0 h0 A0 cc M post)
    {K : XT} (hK9 : ∀ pc L st Λ h k n, K pc L st Λ h k n → XW p l e R s m args below meth c Q g ad0 Λ0 h0 A0 nL pc L st Λ h k n) {pc : Nat} {ins : Instr} {tg : List Nat} (hl : lk M.1 pc = some (ins, tg)) {L st : List PV} {Λ : List CT} {h : HP} {k n : Nat}
    (hs : stp Ok M post K ins tg pc L st Λ h k n) : XW p l e R s m args below meth c Q g ad0 Λ0 h0 A0 nL pc L st Λ h k n := by
  have hD : ∀ pc ins tg, lk M.1 pc = some (ins, tg) → decode cc pc = .ok (ins, lenE pc ins) := fun pc ins tg h9 => (hEn _ (lk_mem h9)).1
  have hd := hD _ _ _ hl
  have hen : entB M.2.1 own R isI pc ins tg = true := (hEn _ (lk_mem hl)).2
  unfold stp at hs
  cases ins
  case iadd =>
    dsimp only at hs
    split at hs
    · next b a st9 => exact ts_iadd C hd ⟨hs.1, hK9 _ _ _ _ _ _ _ hs.2⟩
    · exact hs.elim
  case isub =>
    dsimp only at hs
    split at hs
    · next b a st9 => exact ts_isub C hd ⟨hs.1, hK9 _ _ _ _ _ _ _ hs.2⟩
    · exact hs.elim
  case imul =>
    dsimp only at hs
    split at hs
    · next b a st9 => exact ts_imul C hd ⟨hs.1, hK9 _ _ _ _ _ _ _ hs.2⟩
    · exact hs.elim
  case idiv =>
    dsimp only at hs
    split at hs
    · next b a st9 => exact ts_idiv C hd ⟨hs.1, hK9 _ _ _ _ _ _ _ hs.2⟩
    · exact hs.elim
  case irem =>
    dsimp only at hs
    split at hs
    · next b a st9 => exact ts_irem C hd ⟨hs.1, hK9 _ _ _ _ _ _ _ hs.2⟩
    · exact hs.elim
  case ladd =>
    dsimp only at hs
    split at hs
    · next b a st9 => exact ts_ladd C hd ⟨hs.1, hK9 _ _ _ _ _ _ _ hs.2⟩
    · exact hs.elim
  case lsub =>
    dsimp only at hs
    split at hs
    · next b a st9 => exact ts_lsub C hd ⟨hs.1, hK9 _ _ _ _ _ _ _ hs.2⟩
    · exact hs.elim
  case lmul =>
    dsimp only at hs
    split at hs
    · next b a st9 => exact ts_lmul C hd ⟨hs.1, hK9 _ _ _ _ _ _ _ hs.2⟩
    · exact hs.elim
  case ldiv =>
    dsimp only at hs
    split at hs
    · next b a st9 => exact ts_ldiv C hd ⟨hs.1, hK9 _ _ _ _ _ _ _ hs.2⟩
    · exact hs.elim
  case lrem =>
    dsimp only at hs
    split at hs
    · next b a st9 => exact ts_lrem C hd ⟨hs.1, hK9 _ _ _ _ _ _ _ hs.2⟩
    · exact hs.elim
  case fmul =>
    dsimp only at hs
    split at hs
    · next b a st9 => exact ts_fmul C hd ⟨hs.1, hK9 _ _ _ _ _ _ _ hs.2⟩
    · exact hs.elim
  case fdiv =>
    dsimp only at hs
    split at hs
    · next b a st9 => exact ts_fdiv C hd ⟨hs.1, hK9 _ _ _ _ _ _ _ hs.2⟩
    · exact hs.elim
  case ddiv =>
    dsimp only at hs
    split at hs
    · next b a st9 => exact ts_ddiv C hd ⟨hs.1, hK9 _ _ _ _ _ _ _ hs.2⟩
    · exact hs.elim
  case iand =>
    dsimp only at hs
    split at hs
    · next b a st9 => exact ts_iand C hd (hK9 _ _ _ _ _ _ _ hs)
    · exact hs.elim
  case ior =>
    dsimp only at hs
    split at hs
    · next b a st9 => exact ts_ior C hd (hK9 _ _ _ _ _ _ _ hs)
    · exact hs.elim
  case ixor =>
    dsimp only at hs
    split at hs
    · next b a st9 => exact ts_ixor C hd (hK9 _ _ _ _ _ _ _ hs)
    · exact hs.elim
  case ishl =>
    dsimp only at hs
    split at hs
    · next b a st9 => exact ts_ishl C hd (hK9 _ _ _ _ _ _ _ hs)
    · exact hs.elim
  case ishr =>
    dsimp only at hs
    split at hs
    · next b a st9 => exact ts_ishr C hd (hK9 _ _ _ _ _ _ _ hs)
    · exact hs.elim
  case iushr =>
    dsimp only at hs
    split at hs
    · next b a st9 => exact ts_iushr C hd (hK9 _ _ _ _ _ _ _ hs)
    · exact hs.elim
  case lor =>
    dsimp only at hs
    split at hs
    · next b a st9 => exact ts_lor C hd (hK9 _ _ _ _ _ _ _ hs)
    · exact hs.elim
  case lshl =>
    dsimp only at hs
    split at hs
    · next b a st9 => exact ts_lshl C hd (hK9 _ _ _ _ _ _ _ hs)
    · exact hs.elim
  case ineg =>
    dsimp only at hs
    split at hs
    · next a st9 => exact ts_ineg C hd ⟨hs.1, hK9 _ _ _ _ _ _ _ hs.2⟩
    · exact hs.elim
  case f2d =>
    dsimp only at hs
    split at hs
    · next a st9 => exact ts_f2d C hd ⟨hs.1, hK9 _ _ _ _ _ _ _ hs.2⟩
    · exact hs.elim
  case i2b =>
    dsimp only at hs
    split at hs
    · next a st9 => exact ts_i2b C hd (hK9 _ _ _ _ _ _ _ hs)
    · exact hs.elim
  case i2l =>
    dsimp only at hs
    split at hs
    · next a st9 => exact ts_i2l C hd (hK9 _ _ _ _ _ _ _ hs)
    · exact hs.elim
  case l2i =>
    dsimp only at hs
    split at hs
    · next a st9 => exact ts_l2i C hd (hK9 _ _ _ _ _ _ _ hs)
    · exact hs.elim
  case i2f =>
    dsimp only at hs
    split at hs
    · next a st9 => exact ts_i2f C hd (hK9 _ _ _ _ _ _ _ hs)
    · exact hs.elim
  case i2d =>
    dsimp only at hs
    split at hs
    · next a st9 => exact ts_i2d C hd (hK9 _ _ _ _ _ _ _ hs)
    · exact hs.elim
  case l2d =>
    dsimp only at hs
    split at hs
    · next a st9 => exact ts_l2d C hd (hK9 _ _ _ _ _ _ _ hs)
    · exact hs.elim
  case dcmp op =>
    dsimp only at hs
    split at hs
    · next b a st9 => exact ts_dcmp C hd (hK9 _ _ _ _ _ _ _ hs)
    · exact hs.elim
  case fcmp op =>
    dsimp only at hs
    split at hs
    · next b a st9 => exact ts_fcmp C hd (hK9 _ _ _ _ _ _ _ hs)
    · exact hs.elim
  case iconst v =>
    dsimp only at hs
    split at hs
    · next hr => exact ts_iconst C hd hr (hK9 _ _ _ _ _ _ _ hs)
    · exact hs.elim
  case bipush v =>
    dsimp only at hs
    split at hs
    · next hr => exact ts_bipush C hd hr (hK9 _ _ _ _ _ _ _ hs)
    · exact hs.elim
  case sipush v =>
    dsimp only at hs
    split at hs
    · next hr => exact ts_sipush C hd hr (hK9 _ _ _ _ _ _ _ hs)
    · exact hs.elim
  case lconst v =>
    exact ts_lconst C hd (hK9 _ _ _ _ _ _ _ hs)
  case fconst v =>
    dsimp only at hs
    split at hs
    · next hv =>
      have hv0 : v = 0 := Fin.ext hv
      subst hv0
      exact ts_fconst0 C hd (hK9 _ _ _ _ _ _ _ hs)
    · exact hs.elim
  case dconst v =>
    dsimp only at hs
    split at hs
    · next hv =>
      have hv0 : v = 0 := Fin.ext hv
      subst hv0
      exact ts_dconst0 C hd (hK9 _ _ _ _ _ _ _ hs)
    · exact hs.elim
  case iload_n i =>
    dsimp only at hs
    split at hs
    · next x hn => exact ts_iload_n C hd hn (hK9 _ _ _ _ _ _ _ hs)
    · exact hs.elim
  case iload i =>
    dsimp only at hs
    split at hs
    · next x hn => exact ts_iload C hd hn (hK9 _ _ _ _ _ _ _ hs)
    · exact hs.elim
  case istore_n i =>
    dsimp only at hs
    split at hs
    · next x st9 =>
      split at hs
      · next hn => exact ts_istore_n C hd hn (hK9 _ _ _ _ _ _ _ hs)
      · exact hs.elim
    · exact hs.elim
  case istore i =>
    dsimp only at hs
    split at hs
    · next x st9 =>
      split at hs
      · next hn => exact ts_istore C hd hn (hK9 _ _ _ _ _ _ _ hs)
      · exact hs.elim
    · exact hs.elim
  case lload_n i =>
    dsimp only at hs
    split at hs
    · next x hn => exact ts_lload_n C hd hn (hK9 _ _ _ _ _ _ _ hs)
    · exact hs.elim
  case lload i =>
    dsimp only at hs
    split at hs
    · next x hn => exact ts_lload C hd hn (hK9 _ _ _ _ _ _ _ hs)
    · exact hs.elim
  case lstore_n i =>
    dsimp only at hs
    split at hs
    · next x st9 =>
      split at hs
      · next hn => exact ts_lstore_n C hd hn (hK9 _ _ _ _ _ _ _ hs)
      · exact hs.elim
    · exact hs.elim
  case lstore i =>
    dsimp only at hs
    split at hs
    · next x st9 =>
      split at hs
      · next hn => exact ts_lstore C hd hn (hK9 _ _ _ _ _ _ _ hs)
      · exact hs.elim
    · exact hs.elim
  case aload_n i =>
    dsimp only at hs
    split at hs
    · next x hn => exact ts_aload_n C hd hn (hK9 _ _ _ _ _ _ _ hs)
    · exact hs.elim
  case aload i =>
    dsimp only at hs
    split at hs
    · next x hn => exact ts_aload C hd hn (hK9 _ _ _ _ _ _ _ hs)
    · exact hs.elim
  case astore_n i =>
    dsimp only at hs
    split at hs
    · next x st9 =>
      split at hs
      · next hn => exact ts_astore_n C hd hn (hK9 _ _ _ _ _ _ _ hs)
      · exact hs.elim
    · exact hs.elim
  case astore i =>
    dsimp only at hs
    split at hs
    · next x st9 =>
      split at hs
      · next hn => exact ts_astore C hd hn (hK9 _ _ _ _ _ _ _ hs)
      · exact hs.elim
    · exact hs.elim
  case fload i =>
    dsimp only at hs
    split at hs
    · next x hn => exact ts_fload C hd hn (hK9 _ _ _ _ _ _ _ hs)
    · exact hs.elim
  case fstore i =>
    dsimp only at hs
    split at hs
    · next x st9 =>
      split at hs
      · next hn => exact ts_fstore C hd hn (hK9 _ _ _ _ _ _ _ hs)
      · exact hs.elim
    · exact hs.elim
  case dload i =>
    dsimp only at hs
    split at hs
    · next x hn => exact ts_dload C hd hn (hK9 _ _ _ _ _ _ _ hs)
    · exact hs.elim
  case dstore i =>
    dsimp only at hs
    split at hs
    · next x st9 =>
      split at hs
      · next hn => exact ts_dstore C hd hn (hK9 _ _ _ _ _ _ _ hs)
      · exact hs.elim
    · exact hs.elim
  case iinc i cc9 =>
    dsimp only at hs
    split at hs
    · next x hn => exact ts_iinc C hd hn ⟨hs.1, hK9 _ _ _ _ _ _ _ hs.2⟩
    · exact hs.elim
  case dup =>
    dsimp only at hs
    split at hs
    · next v st9 =>
      split at hs
      · next hc => exact ts_dup C hd hc (hK9 _ _ _ _ _ _ _ hs)
      · exact hs.elim
    · exact hs.elim
  case pop =>
    dsimp only at hs
    split at hs
    · next v st9 =>
      split at hs
      · next hc => exact ts_pop C hd hc (hK9 _ _ _ _ _ _ _ hs)
      · exact hs.elim
    · exact hs.elim
  case dup2 =>
    dsimp only at hs
    split at hs
    · next v w st9 =>
      split at hs
      · next hc =>
        have hc9 : cat2 v = false ∧ cat2 w = false := by simpa only [Bool.or_eq_false_iff] using hc
        exact ts_dup2 C hd hc9.1 hc9.2 (hK9 _ _ _ _ _ _ _ hs)
      · exact hs.elim
    · exact hs.elim
  case goto off =>
    dsimp only at hs
    split at hs
    · next t ts9 =>
      have ht : (pc : Int) + off = (t : Int) := of_decide_eq_true hen
      exact ts_goto C hd ht (hK9 _ _ _ _ _ _ _ hs)
    · exact hs.elim
  case ifCond cnd off =>
    dsimp only at hs
    split at hs
    · next a st9 t ts9 =>
      have ht : (pc : Int) + off = (t : Int) := of_decide_eq_true hen
      cases cnd
      case eq => exact ts_if_eq C hd ht (jmp_of hK9 hs)
      case ne => exact ts_if_ne C hd ht (jmp_of hK9 hs)
      case lt => exact ts_if_lt C hd ht (jmp_of hK9 hs)
      case ge => exact ts_if_ge C hd ht (jmp_of hK9 hs)
      case gt => exact ts_if_gt C hd ht (jmp_of hK9 hs)
      case le => exact ts_if_le C hd ht (jmp_of hK9 hs)
    · exact hs.elim
  case if_icmp cnd off =>
    dsimp only at hs
    split at hs
    · next b a st9 t ts9 =>
      have ht : (pc : Int) + off = (t : Int) := of_decide_eq_true hen
      cases cnd
      case eq => exact ts_icmp_eq C hd ht (jmp_of hK9 hs)
      case ne => exact ts_icmp_ne C hd ht (jmp_of hK9 hs)
      case lt => exact ts_icmp_lt C hd ht (jmp_of hK9 hs)
      case ge => exact ts_icmp_ge C hd ht (jmp_of hK9 hs)
      case gt => exact ts_icmp_gt C hd ht (jmp_of hK9 hs)
      case le => exact ts_icmp_le C hd ht (jmp_of hK9 hs)
    · exact hs.elim
  case lcmp =>
    dsimp only at hs
    split at hs
    · next b a st9 =>
      split at hs
      · next cnd off t ts9 hl9 =>
        have hd9 := hD _ _ _ hl9
        have hen9 : entB M.2.1 own R isI (pc + 1) (.ifCond cnd off) (t :: ts9) = true := (hEn _ (lk_mem hl9)).2
        have ht : ((pc + 1 : Nat) : Int) + off = (t : Int) := of_decide_eq_true hen9
        cases cnd
        case eq => exact ts_lcmp_eq C hd hd9 ht (jmp_of hK9 hs)
        case ne => exact ts_lcmp_ne C hd hd9 ht (jmp_of hK9 hs)
        case lt => exact ts_lcmp_lt C hd hd9 ht (jmp_of hK9 hs)
        case ge => exact ts_lcmp_ge C hd hd9 ht (jmp_of hK9 hs)
        case gt => exact ts_lcmp_gt C hd hd9 ht (jmp_of hK9 hs)
        case le => exact ts_lcmp_le C hd hd9 ht (jmp_of hK9 hs)
      · exact hs.elim
    · exact hs.elim
  case tableswitch dflt lo hi offs =>
    dsimp only at hs
    split at hs
    · next x st9 t ts9 =>
      have hen9 : (decide ((pc : Int) + dflt = (t : Int)) && decide (ts9.map (fun t9 : Nat => (t9 : Int)) = offs.toList.map (fun o => (pc : Int) + o)) && decide (hi = lo + (ts9.length : Int) - 1)) = true := hen
      simp only [Bool.and_eq_true, decide_eq_true_eq] at hen9
      exact ts_switch C hd hen9.1.1 hen9.1.2 hen9.2 ⟨fun q => hK9 _ _ _ _ _ _ _ (hs.1 q), tsw_mono (fun t9 q => hK9 _ _ _ _ _ _ _ q) hs.2⟩
    · exact hs.elim
  case ldc i =>
    dsimp only at hs
    split at hs
    · next x hx9 =>
      split at hs
      · next hr => exact ts_ldcI C (hCp.2.2.1 _ (lk_mem hx9)) hr hd (hK9 _ _ _ _ _ _ _ hs)
      · exact hs.elim
    · split at hs
      · next x hx9 =>
        obtain ⟨h1, tx, h2⟩ := hCp.2.2.2.2.1 _ (lk_mem hx9)
        exact ts_ldcS C h2 h1 hd (hK9 _ _ _ _ _ _ _ hs)
      · split at hs
        · next x hx9 => exact ts_ldcF C (hCp.2.2.2.2.2.2.2.1 _ (lk_mem hx9)) hd (hK9 _ _ _ _ _ _ _ hs)
        · exact hs.elim
  case ldc_w i =>
    dsimp only at hs
    split at hs
    · next x hx9 =>
      obtain ⟨h1, tx, h2⟩ := hCp.2.2.2.2.1 _ (lk_mem hx9)
      exact ts_ldcwS C h2 h1 hd (hK9 _ _ _ _ _ _ _ hs)
    · split at hs
      · next x hx9 => exact ts_ldcwF C (hCp.2.2.2.2.2.2.2.1 _ (lk_mem hx9)) hd (hK9 _ _ _ _ _ _ _ hs)
      · exact hs.elim
  case ldc2_w i =>
    dsimp only at hs
    split at hs
    · next x hx9 =>
      split at hs
      · next hr => exact ts_ldc2L C (hCp.2.2.2.1 _ (lk_mem hx9)) hr hd (hK9 _ _ _ _ _ _ _ hs)
      · exact hs.elim
    · exact hs.elim
  case getfield i =>
    dsimp only at hs
    split at hs
    · next ci sl rf a st9 hx9 =>
      have hF := hCp.2.1 _ (lk_mem hx9)
      split at hs
      · next ci' rs hc =>
        split at hs
        · next hcc =>
          have hci := Nat.eq_of_beq_eq_true hcc
          subst hci
          split at hs
          · split at hs
            · next r hrs => exact ts_getfR C hF hd hc hrs (hK9 _ _ _ _ _ _ _ hs)
            · exact hs.elim
          · exact ts_getfI C hF hd hc (hK9 _ _ _ _ _ _ _ hs)
        · exact hs.elim
      · exact hs.elim
    · exact hs.elim
  case putfield i =>
    dsimp only at hs
    split at hs
    · next ci sl rf v a st9 hx9 =>
      have hF := hCp.2.1 _ (lk_mem hx9)
      have hen9 : (match lk M.2.1.2.1 i with
        | some q => decide (PutOK own isI (i, q))
        | none => false) = true := hen
      rw [hx9] at hen9
      have hPu := of_decide_eq_true hen9
      split at hs
      · next ci' rs hc =>
        split at hs
        · next hcc =>
          have hci := Nat.eq_of_beq_eq_true hcc
          subst hci
          split at hs
          · next r =>
            split at hs
            · next r0 hrs => exact ts_putfR C hin hF hPu hd hc hrs (hK9 _ _ _ _ _ _ _ hs)
            · exact hs.elim
          · exact ts_putfI C hin hF hPu hd hc (hK9 _ _ _ _ _ _ _ hs)
          · exact hs.elim
        · exact hs.elim
      · exact hs.elim
    · exact hs.elim
  case arraylength =>
    dsimp only at hs
    split at hs
    · next a st9 =>
      split at hs
      · next kd len hc =>
        split at hs
        · next hln => exact ts_alen C hd hc hln (hK9 _ _ _ _ _ _ _ hs)
        · exact hs.elim
      · exact hs.elim
      · split at hs
        · next ha =>
          have ha9 := Nat.eq_of_beq_eq_true ha
          subst ha9
          exact ts_slen C hd (hK9 _ _ _ _ _ _ _ hs)
        · exact hs.elim
    · exact hs.elim
  case iaload =>
    dsimp only at hs
    split at hs
    · next i a st9 =>
      split at hs
      · next len hc => exact ts_iaload0 C hd hc ⟨hs.1, hK9 _ _ _ _ _ _ _ hs.2⟩
      · exact hs.elim
      · split at hs
        · next ha =>
          have ha9 := Nat.eq_of_beq_eq_true ha
          subst ha9
          exact ts_sld C hd ⟨hs.1, hK9 _ _ _ _ _ _ _ hs.2⟩
        · exact hs.elim
    · exact hs.elim
  case baload =>
    dsimp only at hs
    split at hs
    · next i a st9 =>
      split at hs
      · next len hc => exact ts_baload2 C hd hc ⟨hs.1, hK9 _ _ _ _ _ _ _ hs.2⟩
      · next len hc => exact ts_baload3 C hd hc ⟨hs.1, hK9 _ _ _ _ _ _ _ hs.2⟩
      · exact hs.elim
    · exact hs.elim
  case laload =>
    dsimp only at hs
    split at hs
    · next i a st9 =>
      split at hs
      · next len hc => exact ts_laload1 C hd hc ⟨hs.1, hK9 _ _ _ _ _ _ _ hs.2⟩
      · exact hs.elim
    · exact hs.elim
  case daload =>
    dsimp only at hs
    split at hs
    · next i a st9 =>
      split at hs
      · next len hc => exact ts_daload4 C hd hc ⟨hs.1, hK9 _ _ _ _ _ _ _ hs.2⟩
      · exact hs.elim
    · exact hs.elim
  case iastore =>
    dsimp only at hs
    split at hs
    · next x i a st9 =>
      split at hs
      · next len hc => exact ts_iastore0 C hd hc ⟨hs.1, hK9 _ _ _ _ _ _ _ hs.2⟩
      · exact hs.elim
    · exact hs.elim
  case lastore =>
    dsimp only at hs
    split at hs
    · next x i a st9 =>
      split at hs
      · next len hc => exact ts_lastore1 C hd hc ⟨hs.1, hK9 _ _ _ _ _ _ _ hs.2⟩
      · exact hs.elim
    · exact hs.elim
  case dastore =>
    dsimp only at hs
    split at hs
    · next x i a st9 =>
      split at hs
      · next len hc => exact ts_dastore4 C hd hc ⟨hs.1, hK9 _ _ _ _ _ _ _ hs.2⟩
      · exact hs.elim
    · exact hs.elim
  case bastore =>
    dsimp only at hs
    split at hs
    · next x i a st9 =>
      split at hs
      · next len hc => exact ts_bastore2 C hd hc ⟨hs.1, hK9 _ _ _ _ _ _ _ hs.2⟩
      · next len hc => exact ts_bastore3 C hd hc ⟨hs.1, hK9 _ _ _ _ _ _ _ hs.2⟩
      · exact hs.elim
    · exact hs.elim
  case newarray ty =>
    dsimp only at hs
    split at hs
    · next x st9 =>
      split at hs
      · next len =>
        cases ty
        case int => exact ts_newa C hK9 hRc hRs hd (by simp) (arr_tw _ (by simp)) hs
        case long => exact ts_newa C hK9 hRc hRs hd (by simp) (arr_tw _ (by simp)) hs
        case byte => exact ts_newa C hK9 hRc hRs hd (by simp) (arr_tw _ (by simp)) hs
        case boolean => exact ts_newa C hK9 hRc hRs hd (by simp) (arr_tw _ (by simp)) hs
        case double => exact ts_newa C hK9 hRc hRs hd (by simp) (arr_tw _ (by simp)) hs
        all_goals exact (show False from hs).elim
      · exact hs.elim
    · exact hs.elim
  case new i =>
    dsimp only at hs
    split at hs
    · next ci N hx9 =>
      have hN := hCp.2.2.2.2.2.1 _ (lk_mem hx9)
      split at hs
      · next hl9 =>
        exact ts_new C hRc hRs hd hN hl9 (bnd_mono (hK9 _ _ _ _ _ _ _) hs)
      · exact hs.elim
    · split at hs
      · next ec ctor hx9 =>
        have hEx := hCp.2.2.2.2.2.2.1 _ (lk_mem hx9)
        split at hs
        · next tg1 c9 tg2 tg3 l3 l4 l7 l9 =>
          split at hs
          · next hcc =>
            have hcc9 : Nat.beq c9 ctor = true ∧ Nat.ble (cats st) 8 = true := by simpa only [Bool.and_eq_true] using hcc
            have hct := Nat.eq_of_beq_eq_true hcc9.1
            subst hct
            obtain ⟨bk, bn, hp⟩ := bnd_of hs
            have hen9 : (Nat.ble 6 R.frames && Nat.ble 100 R.locals) = true := hen
            simp only [Bool.and_eq_true] at hen9
            intro ad ls H locs hM hL hst
            exact hT pc i c9 ad ls H locs Λ h k n ec st l9 hEx hd (hD _ _ _ l3) (hD _ _ _ l4) (hD _ _ _ l7) hM hL.1 (Nat.le_of_ble_eq_true hcc9.2) (Nat.le_of_ble_eq_true hen9.1) (Nat.le_of_ble_eq_true hen9.2) bk bn hp
          · exact hs.elim
        · exact hs.elim
      · exact hs.elim
  case invokevirtual i =>
    exact ts_inv C hK9 htab hHs hD hX hRc hRs hCp (Or.inl ⟨rfl, hd, hen⟩) hs
  case invokestatic i =>
    exact ts_inv C hK9 htab hHs hD hX hRc hRs hCp (Or.inr (Or.inl ⟨rfl, hd, hen⟩)) hs
  case invokespecial i =>
    dsimp only at hs
    split at hs
    · next hob =>
      split at hs
      · next r st9 =>
        split at hs
        · next hc8 =>
          have hen9 : (match Nat.beq i M.2.1.2.2.2.2.2.2.2.2 with
            | true => Nat.ble 1 R.frames && Nat.ble 20 R.locals && Nat.ble 1 i
            | false => match lk M.2.1.1 i with
              | some q => decide (RoomOK R (i, q)) && decide (InitOK (i, q))
              | none => true) = true := hen
          rw [hob] at hen9
          simp only [Bool.and_eq_true] at hen9
          have hio := Nat.eq_of_beq_eq_true hob
          have h1 := hCp.2.2.2.2.2.2.2.2 (by rw [← hio]; exact fun z => by rw [z] at hen9; exact absurd hen9.2 (by decide))
          rw [← hio] at h1
          exact ts_obj C hd h1 obj_tw.1 obj_tw.2 (Nat.le_of_ble_eq_true hen9.1.1) (Nat.le_of_ble_eq_true hen9.1.2) hc8 (hK9 _ _ _ _ _ _ _ hs)
        · exact hs.elim
      · exact hs.elim
    · next hob => exact ts_inv C hK9 htab hHs hD hX hRc hRs hCp (Or.inr (Or.inr ⟨rfl, hd, hob, hen⟩)) hs
  case ireturn =>
    dsimp only at hs
    split at hs
    · next x =>
      split at hs
      · next hrk =>
        obtain ⟨bk, bn, hp⟩ := bnd_of hs
        intro ad ls H locs hM hL hst
        exact hRt pc _ (some (vI x)) ad ls H locs Λ h k n (by rw [hrk]; exact ⟨rfl, x, rfl⟩) hd hM (fun w hw => by cases hw; exact hst _ List.mem_cons_self) bk bn hp
      · next hrk =>
        obtain ⟨bk, bn, hp⟩ := bnd_of hs.2
        intro ad ls H locs hM hL hst
        exact hRt pc _ (some (vI x)) ad ls H locs Λ h k n (by rw [hrk]; exact ⟨rfl, x, rfl, hs.1.1, hs.1.2⟩) hd hM (fun w hw => by cases hw; exact hst _ List.mem_cons_self) bk bn hp
      · exact hs.elim
    · exact hs.elim
  case lreturn =>
    dsimp only at hs
    split at hs
    · next x hrk =>
      obtain ⟨bk, bn, hp⟩ := bnd_of hs
      intro ad ls H locs hM hL hst
      exact hRt pc _ (some (vL x)) ad ls H locs Λ h k n (by rw [hrk]; exact ⟨rfl, x, rfl⟩) hd hM (fun w hw => by cases hw; exact hst _ List.mem_cons_self) bk bn hp
    · exact hs.elim
  case freturn =>
    dsimp only at hs
    split at hs
    · next x hrk =>
      obtain ⟨bk, bn, hp⟩ := bnd_of hs
      intro ad ls H locs hM hL hst
      exact hRt pc _ (some (vF x)) ad ls H locs Λ h k n (by rw [hrk]; exact ⟨rfl, x, rfl⟩) hd hM (fun w hw => by cases hw; exact hst _ List.mem_cons_self) bk bn hp
    · exact hs.elim
  case dreturn =>
    dsimp only at hs
    split at hs
    · next x hrk =>
      obtain ⟨bk, bn, hp⟩ := bnd_of hs
      intro ad ls H locs hM hL hst
      exact hRt pc _ (some (vD x)) ad ls H locs Λ h k n (by rw [hrk]; exact ⟨rfl, x, rfl⟩) hd hM (fun w hw => by cases hw; exact hst _ List.mem_cons_self) bk bn hp
    · exact hs.elim
  case areturn =>
    dsimp only at hs
    split at hs
    · next x hrk =>
      obtain ⟨bk, bn, hp⟩ := bnd_of hs
      intro ad ls H locs hM hL hst
      exact hRt pc _ (some (vR x)) ad ls H locs Λ h k n (by rw [hrk]; exact ⟨rfl, x, rfl⟩) hd hM (fun w hw => by cases hw; exact hst _ List.mem_cons_self) bk bn hp
    · exact hs.elim
  case return_ =>
    dsimp only at hs
    split at hs
    · next hrk =>
      obtain ⟨bk, bn, hp⟩ := bnd_of hs
      intro ad ls H locs hM hL hst
      exact hRt pc _ none ad ls H locs Λ h k n (by rw [hrk]; exact ⟨rfl, rfl⟩) hd hM (fun w hw => by cases hw) bk bn hp
    · exact hs.elim
  all_goals exact (show False from hs).elim
theorem run_sound (C : CX p l s m args meth c g ad0 h0 A0 cc nL own) {isI : Bool} (hin : isI = true → meth.name = "<init>") {M : MC} {post : Post} {hh : List (Nat × Nat × Nat × Nat)} (htab : c.exceptionTable.toList = tableOf hh) (hHs : HsOK own hh M.2.2.1)
    (hEn : ∀ q ∈ M.1, EntOK own cc M.2.1 R isI q) (hRc : R.cells = M.2.2.2.2.1) (hRs : R.slots = M.2.2.2.2.2) (hCp : CpOK own M.2.1)
    (hX : OutX p l e R s m args below meth c Q g ad0 Λ0 h0 A0 M post) (hT : OutT p l e R s m args below meth c Q g ad0 Λ0 h0 A0 cc nL own M post) (hRt : OutR p l e R s m args below meth c Q g ad0 Λ0 h0 A0 cc M post) (cuts : List Nat) :
    ∀ (f pc : Nat) (L st : List PV) (Λ : List CT) (h : HP) (k n : Nat), run Ok M (XW p l e R s m args below meth c Q g ad0 Λ0 h0 A0 nL) post f cuts pc L st Λ h k n → XW p l e R s m args below meth c Q g ad0 Λ0 h0 A0 nL pc L st Λ h k n
  | 0, _, _, _, _, _, _, _, hs => hs
  | f + 1, pc, L, st, Λ, h, k, n, hs => by
    have ih := run_sound C hin htab hHs hEn hRc hRs hCp hX hT hRt cuts f
    unfold run at hs
    split at hs
    · next ins tg hl =>
      exact stp_sound C hin htab hHs hEn hRc hRs hCp hX hT hRt (fun pc' L' st' Λ' h' k' n' hq => by
        have key : ∀ b : Bool, (match b with
          | true => XW p l e R s m args below meth c Q g ad0 Λ0 h0 A0 nL pc'
          | false => run Ok M (XW p l e R s m args below meth c Q g ad0 Λ0 h0 A0 nL) post f cuts pc') L' st' Λ' h' k' n' → XW p l e R s m args below meth c Q g ad0 Λ0 h0 A0 nL pc' L' st' Λ' h' k' n' := fun b => by
          cases b
          · exact ih pc' L' st' Λ' h' k' n'
          · exact fun q => q
        exact key (memb pc' cuts) hq) hl hs
    · exact hs.elim
end STEP
theorem vx_ofWF {l : Launch} {y : MethodName} {ws ws' : List Cond} {rm : Room} {Pc : Array Value → State → Prop} {Qc : Array Value → State → Outcome → State → Prop} {XC : String → State → State → Prop} {mc ms : Nat} {free : Addr → Prop} {cc : ByteArray} {maxL : Nat} {ret : Option FieldType}
    (hy : plainFor y = true) (hw : ws = Cond.code y cc maxL ret :: ws')
    (body : ∀ p e s m args below meth c s₁, BodyLoose p l y (headSpec ws rm) cc maxL ret e s m args below meth c s₁ → c.maxLocals = maxL → (∀ x ∈ c.exceptionTable.toList, False) → Pc args s →
      W p l e (headSpec ws rm).room s m args below meth c s.heap [] 0 0 (vx_MQ below Qc XC args s mc ms free) (entryFrame m args maxL)) : vx_Met l y ws rm Pc Qc XC mc ms free := by
  refine MetFree.of_bodySF (code := cc) (maxLocals := maxL) (ret := ret) hy ?_ ?_
  · intro args s m h hn
    obtain ⟨meth, c, h1, h2, h3, h4, h5, h6, -, -⟩ := Cond.code_spec hn (atoms_spec (ws := ws) h _ (by rw [hw]; exact List.mem_cons_self))
    exact ⟨meth, c, h1, h2, h3, h4, h5, h6⟩
  · intro p e s m args below meth c s₁ B hml hP _
    have hh0 : s₁.heap = s.heap := by rw [B.state]; rfl
    have ht : ∀ x ∈ c.exceptionTable.toList, False := by
      obtain ⟨meth9, c9, h1, h2, -, -, -, -, h7, -⟩ := Cond.code_spec B.named (atoms_spec (ws := ws) B.pre _ (by rw [hw]; exact List.mem_cons_self))
      cases Option.some.inj (h1.symm.trans B.method)
      cases Option.some.inj (h2.symm.trans (Stand.of_body B).code)
      intro x hx
      rw [Array.isEmpty_iff.mp h7] at hx
      cases hx
    obtain ⟨t, a1, o, b1, b2, b3⟩ := body p e s m args below meth c s₁ B hml ht hP s₁ hh0 (Stand.of_body B)
    exact ⟨t, o, a1, b1, b2, b3⟩
theorem vx_ofWHF {l : Launch} {y : MethodName} {ws ws' : List Cond} {rm : Room} {Pc : Array Value → State → Prop} {Qc : Array Value → State → Outcome → State → Prop} {XC : String → State → State → Prop} {mc ms : Nat} {free : Addr → Prop} {cc : ByteArray} {maxL : Nat} {ret : Option FieldType} {hh : List (Nat × Nat × Nat × Nat)}
    (hy : plainFor y = true) (hw : ws = Cond.codeWith y cc maxL ret hh :: ws')
    (body : ∀ p e s m args below meth c s₁, BodyLoose p l y (headSpec ws rm) cc maxL ret e s m args below meth c s₁ → c.maxLocals = maxL → Pc args s →
      W p l e (headSpec ws rm).room s m args below meth c s.heap [] 0 0 (vx_MQ below Qc XC args s mc ms free) (entryFrame m args maxL)) : vx_Met l y ws rm Pc Qc XC mc ms free := by
  refine MetFree.of_bodySF (code := cc) (maxLocals := maxL) (ret := ret) hy ?_ ?_
  · intro args s m h hn
    obtain ⟨m9, meth, c, hn9, h1, h2, h3, h4, -, h5, h6, -⟩ := Cond.codeWith_spec (atoms_spec (ws := ws) h _ (by rw [hw]; exact List.mem_cons_self))
    cases hn.symm.trans hn9
    exact ⟨meth, c, h1, h2, h3, h4, h5, h6⟩
  · intro p e s m args below meth c s₁ B hml hP _
    have hh0 : s₁.heap = s.heap := by rw [B.state]; rfl
    obtain ⟨t, a1, o, b1, b2, b3⟩ := body p e s m args below meth c s₁ B hml hP s₁ hh0 (Stand.of_body B)
    exact ⟨t, o, a1, b1, b2, b3⟩
/-- what is checked once of method y: its program M, of class own -/
def Body (y : Nat) (M : MC) (isI : Bool) : Prop :=
  codeW (MTd y) ∈ TW ∧ plainFor (MTd y).1 = true ∧ (isI = true → (MTd y).1.name = "<init>") ∧ (MTd y).2.2.2.2.2.2.2.1 = M.2.2.2.2.1 ∧ (MTd y).2.2.2.2.2.2.2.2 = M.2.2.2.2.2 ∧ RetOK M.2.2.2.1 (MTd y).2.2.2.1 ∧ HsOK (MTd y).1.cls (MTd y).2.2.2.2.1 M.2.2.1 ∧ CpOK (MTd y).1.cls M.2.1 ∧ ∀ q ∈ M.1, EntOK (MTd y).1.cls (MTd y).2.1 M.2.1 (rmM (MTd y)) isI q
theorem entl_at (ad : Nat → Nat) {i : Nat} {v : PV} : ∀ {as : List PV} {j : Nat}, (entl as)[i]? = some v → v = vU ∨ (v ∈ as ∧ (j + i, cv ad v) ∈ lv_args j (as.map (cv ad)))
  | [], j, h => by simp [entl] at h
  | a :: as, j, h => by
    unfold entl at h
    cases hc : cat2 a with
    | true =>
      rw [hc] at h
      have hc9 : (cv ad a).category = 2 := by rw [cv_cat, hc]; rfl
      match i, h with
      | 0, h => cases h; exact Or.inr ⟨List.mem_cons_self, by simp [lv_args]⟩
      | 1, h => cases h; exact Or.inl rfl
      | i + 2, h =>
        rcases entl_at ad (as := as) (j := j + 2) (by simpa using h) with z | ⟨z1, z2⟩
        · exact Or.inl z
        · refine Or.inr ⟨List.mem_cons_of_mem _ z1, ?_⟩
          simp only [List.map_cons, lv_args, hc9, if_true]
          refine List.mem_cons_of_mem _ ?_
          rw [show j + (i + 2) = j + 2 + i by omega]; exact z2
    | false =>
      rw [hc] at h
      have hc9 : ¬ (cv ad a).category = 2 := by rw [cv_cat, hc]; decide
      match i, h with
      | 0, h => cases h; exact Or.inr ⟨List.mem_cons_self, by simp [lv_args]⟩
      | i + 1, h =>
        rcases entl_at ad (as := as) (j := j + 1) (by simpa using h) with z | ⟨z1, z2⟩
        · exact Or.inl z
        · refine Or.inr ⟨List.mem_cons_of_mem _ z1, ?_⟩
          simp only [List.map_cons, lv_args, hc9, if_false]
          refine List.mem_cons_of_mem _ ?_
          rw [show j + (i + 1) = j + 1 + i by omega]; exact z2
theorem entl_len (ad : Nat → Nat) : ∀ (as : List PV), (lg_sl (as.map (cv ad))).length = (entl as).length
  | [] => rfl
  | a :: as => by
    have ih := entl_len ad as
    simp only [lg_sl, List.map_cons, List.flatMap_cons, List.length_append] at ih ⊢
    rw [ih, entl, cv_cat]
    cases cat2 a with
    | true => simp; omega
    | false => simp; omega
theorem LR_entry {n : Nat} {ad : Nat → Nat} {nL : Nat} {as : List PV} (hle : (entl as).length ≤ nL) (hok : ∀ a ∈ as, okv n a) : LR n ad nL ((lg_sl (as.map (cv ad)) ++ List.replicate (nL - (lg_sl (as.map (cv ad))).length) Slot.unset).toArray) (entL as nL) := by
  have hh := lv_entry (as.map (cv ad)) (n := nL) (by rw [entl_len]; exact hle)
  refine ⟨hh.1, hh.2.1, by simp only [entL, List.length_append, List.length_replicate]; omega, fun i v hi => ?_⟩
  unfold entL at hi
  by_cases hl : i < (entl as).length
  · rw [List.getElem?_append_left hl] at hi
    rcases entl_at ad (j := 0) hi with z | ⟨z1, z2⟩
    · exact Or.inl z
    · refine Or.inr ⟨hok v z1, ?_⟩
      rw [Nat.zero_add] at z2
      exact hh.2.2 _ z2
  · rw [List.getElem?_append_right (by omega), List.getElem?_replicate] at hi
    split at hi
    · cases hi; exact Or.inl rfl
    · cases hi
theorem hs_nil {own : String} {hs : List (Nat × Nat × Nat × Nat)} (h : HsOK own [] hs) : hs = [] := by
  cases hs with
  | nil => rfl
  | cons a b => exact h.elim
/-- A METHOD'S CONTRACT FROM ITS RUN: 'X' stands for the machine's coming to the end -/
theorem ok_body {y : Nat} {M : MC} {isI : Bool} (B : Body y M isI) {as : List PV} {Λ : List CT} {h : HP} {post : Post} (hle : Nat.ble (entl as).length (MTd y).2.2.1 = true)
    (hrun : ∀ X : XT, (∀ (f : Nat) (cuts : List Nat) (pc : Nat) (L st : List PV) (Λ : List CT) (h : HP) (k n : Nat), run Ok M X post f cuts pc L st Λ h k n → X pc L st Λ h k n) → X 0 (entL as (MTd y).2.2.1) [] Λ h 0 0) : Ok y as Λ h post := by
  obtain ⟨b1, b2, b3, b4, b5, b6, b7, b8, b9⟩ := B
  intro l hl g ad sz
  have key : ∀ p e s m args below meth c s₁, BodyLoose p l (MTd y).1 (headSpec (wsM (MTd y)) (rmM (MTd y))) (MTd y).2.1 (MTd y).2.2.1 (MTd y).2.2.2.1 e s m args below meth c s₁ → c.maxLocals = (MTd y).2.2.1 → c.exceptionTable.toList = tableOf (MTd y).2.2.2.2.1 → va_Pc (as.map (cv ad)) (PreP g ad Λ h as sz) args s →
      W p l e (rmM (MTd y)) s m args below meth c s.heap [] 0 0 (vx_MQ below (QcP g ad Λ h (va_A (cw g ad Λ h) sz) post) (XcP g ad Λ h (va_A (cw g ad Λ h) sz) post) args s (MTd y).2.2.2.2.2.2.2.1 (MTd y).2.2.2.2.2.2.2.2 (va_A (cw g ad Λ h) sz)) (entryFrame m args (MTd y).2.2.1) := by
    intro p e s m args below meth c s₁ B hml htab hP
    obtain ⟨rfl, rfl, p2, p3, p4, p5, p6, p7, p8, p9⟩ := hP
    have hws := atoms_spec (ws := wsM (MTd y)) B.pre
    have C : CX p l s m (as.map (cv ad)).toArray meth c g ad h (va_A (cw g ad Λ h) s.heap.size) (MTd y).2.1 (MTd y).2.2.1 (MTd y).1.cls :=
      ⟨B.exec, B.bytes, hml, findClass_of_methodNamed B.named, fun w hw => hws w (List.mem_cons_of_mem _ hw), B.notSynchronized, p3, p9, fun q hq => Or.inr hq, hl, p7⟩
    have hin : isI = true → meth.name = "<init>" := fun q => (name_of_methodNamed B.named B.method).1.trans (b3 q)
    rw [b4, b5, lg_entry_eq]
    have hret : RetOK M.2.2.2.1 meth.sig.returnType := by rw [B.returns]; exact b6
    have h9 := hrun (XW p l e (rmM (MTd y)) s m (as.map (cv ad)).toArray below meth c (vx_MQ below (QcP g ad Λ h (va_A (cw g ad Λ h) s.heap.size) post) (XcP g ad Λ h (va_A (cw g ad Λ h) s.heap.size) post) (as.map (cv ad)).toArray s M.2.2.2.2.1 M.2.2.2.2.2 (va_A (cw g ad Λ h) s.heap.size)) g ad Λ h (va_A (cw g ad Λ h) s.heap.size) (MTd y).2.2.1) (fun f cuts => run_sound (R := rmM (MTd y)) C hin htab b7 b9 b4 b5 b8 (out_x C htab b7) (out_t C htab b7 b4 b5) (out_r C hret) cuts f)
    exact h9 ad _ s.heap [] ⟨p2, p4.self, va_S.rf, p5, Nat.le_refl _, p6, fun _ _ => rfl, fun _ _ => rfl⟩ (LR_entry (Nat.le_of_ble_eq_true hle) p8) (fun v hv => nomatch hv)
  cases hhh : (MTd y).2.2.2.2.1 with
  | nil =>
    refine vx_ofWF (cc := (MTd y).2.1) (maxL := (MTd y).2.2.1) (ret := (MTd y).2.2.2.1) b2 (wsM_code hhh) (fun p e s m args below meth c s₁ B hml ht hP => ?_)
    refine key p e s m args below meth c s₁ B hml ?_ hP
    rw [hhh]
    exact List.eq_nil_iff_forall_not_mem.mpr ht
  | cons a9 h9 =>
    refine vx_ofWHF (cc := (MTd y).2.1) (maxL := (MTd y).2.2.1) (ret := (MTd y).2.2.2.1) b2 (wsM_with hhh) (fun p e s m args below meth c s₁ B hml hP => ?_)
    refine key p e s m args below meth c s₁ B hml ?_ hP
    rw [hhh]
    have hw : Cond.codeWith (MTd y).1 (MTd y).2.1 (MTd y).2.2.1 (MTd y).2.2.2.1 (a9 :: h9) ∈ wsM (MTd y) := by rw [wsM_with hhh]; exact List.mem_cons_self
    exact vx_table (x := (MTd y).1) B (atoms_spec (ws := wsM (MTd y)) B.pre _ hw)
