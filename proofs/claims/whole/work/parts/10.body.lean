/-! ===== the calls; the step as a whole; run; a body gives a contract ===== -/
theorem tak_spec : ∀ {n : Nat} {acc st as rest : List PV}, tak n acc st = some (as, rest) → ∃ fr : List PV, st = fr ++ rest ∧ fr.length = n ∧ as = fr.reverse ++ acc
  | 0, acc, st, as, rest, h => by cases h; exact ⟨[], rfl, rfl, rfl⟩
  | n + 1, acc, [], as, rest, h => by cases h
  | n + 1, acc, v :: st, as, rest, h => by
    obtain ⟨fr, h1, h2, h3⟩ := tak_spec (n := n) h
    exact ⟨v :: fr, by rw [h1]; rfl, by rw [List.length_cons, h2], by rw [h3, List.reverse_cons, List.append_assoc]; rfl⟩
theorem goodIn_tw {ws : List Cond} (h : ∀ w ∈ ws, w ∈ TW) : GoodIn TW ws := fun w hw => ⟨h w hw, good_of_word (tw_good (h w hw)).2⟩
theorem nw_shape : ∀ w ∈ NW, (∃ a b, w = Cond.castable a b) ∨ (∃ a i b n d h, w = Cond.fieldLinkNest a i b n d h) ∨ (∃ y, w = Cond.declares y) := by
  intro w hw
  simp only [NW, List.mem_cons, List.not_mem_nil, or_false] at hw
  rcases hw with rfl | rfl | rfl | rfl | rfl | rfl | rfl | rfl | rfl | rfl | rfl | rfl | rfl | rfl | rfl | rfl | rfl | rfl <;> first | exact Or.inl ⟨_, _, rfl⟩ | exact Or.inr (Or.inl ⟨_, _, _, _, _, _, rfl⟩) | exact Or.inr (Or.inr ⟨_, rfl⟩)
theorem nw_warm {s U : State} (hW : s.WarmedH U.vm) {w : Cond} (hw : w ∈ NW) (h : va_Nw w s) : va_Nw w U := by
  rcases nw_shape w hw with ⟨a, b, rfl⟩ | ⟨a, i, b, n, d, h9, rfl⟩ | ⟨y, rfl⟩
  · exact va_Nw.warmC hW h
  · exact va_Nw.warmF hW h
  · exact va_Nw.warmD hW h
theorem alike_eq {u U : State} (h : u.vm = U.vm) : u.vm.Alike U.vm := by rw [h]; exact Vm.Alike.refl _
theorem Ext_same {g : GE} {A : Nat → Prop} {u U : State} {H : Heap} (hv : u.vm = U.vm) (h : Ext g A u H) : Ext g A U H := by
  obtain ⟨e1, e2, e3, e4, e5, e6, e7, e8, e9, e10⟩ := h
  have ha := alike_eq hv
  exact ⟨fun q hq => vk_R.same hv.symm (e1 q hq), fun w hw => va_Nw.same (nw_tab w hw) hv (e2 w hw), fun q hq => va_Nc.moved ha (e3 q hq), vk_S.moved ha e4, vx_Zq.moved ha e5, vx_Zq.moved ha e6, va_Z.moved ha e7, fmZ.moved ha e8, va_X.moved ha e9, e10⟩
theorem Ext_call {g : GE} {A B : Nat → Prop} {s U : State} {H : Heap} {locs : List Loc} (hE : Ext g A s s.heap) (hS : va_S A s.heap H locs) (hAB : ∀ q, B q → A q) (hU : U.heap = H) (hW : s.WarmedH U.vm) : Ext g B U U.heap := by
  obtain ⟨e1, e2, e3, e4, e5, e6, e7, e8, e9, e10, e11⟩ := hE
  have ha := hW.alike
  rw [hU]
  exact ⟨fun q hq => vk_R.warm hW (e1 q hq), fun w hw => nw_warm hW hw (e2 w hw), fun q hq => va_Nc.moved ha (e3 q hq), ((e4.kept hS.2.1).moved ha).narrow hAB, ((e5.kept hS.2.1).moved ha).narrow hAB, ((e6.kept hS.2.1).moved ha).narrow hAB, ((e7.kept hS.2.1).moved ha).narrow hAB, ((e8.kept hS.2.1).moved ha).narrow hAB, (e9.kept (hS.2.1 _ e11 e10)).moved ha, fun z => e10 (hAB _ z), Nat.lt_of_lt_of_le e11 hS.1⟩
theorem PreP_same {g : GE} {ad : Nat → Nat} {Λ : List CT} {h : HP} {args : List PV} {sz : Nat} {u U : State} (hv : u.vm = U.vm) (hh : U.heap = u.heap) (hp : PreP g ad Λ h args sz u) : PreP g ad Λ h args sz U := by
  obtain ⟨p1, p2, p3, p4, p5, p6, p7, p8, p9⟩ := hp
  exact ⟨by rw [hh]; exact p1, by rw [hh]; exact p2, va_K.moved (alike_eq hv) p3, p4, p5, p6, p7, p8, by rw [hh]; exact Ext_same hv p9⟩
theorem pre_blind {g : GE} {ad : Nat → Nat} {Λ : List CT} {h : HP} {args : List PV} {sz : Nat} {av : List Value} : FrameBlind (va_Pc av (PreP g ad Λ h args sz)) := fun _ U gf mk q => ⟨q.1, PreP_same (u := U) (U := U.calling gf mk _) rfl rfl q.2⟩
section STEP
variable {p : Program} {l : Launch} {e : Env} {R : Room} {s : State} {m : MethodId} {args : Array Value} {below : List Frame} {meth : Method} {c : Code} {Q : State → Prop}
variable {g : GE} {ad0 : Nat → Nat} {Λ0 : List CT} {h0 : HP} {A0 : Nat → Prop} {cc : ByteArray} {nL : Nat} {own : String}
theorem adok_of {ad : Nat → Nat} {Λ : List CT} {h : HP} {H : Heap} {locs : List Loc} (ha : adok g ad0 h0) (hM : MR g ad0 Λ0 h0 A0 s ad Λ h H locs) : adok g ad h := by
  obtain ⟨a1, a2, a3, a4, a5⟩ := ha
  obtain ⟨-, -, -, -, -, -, m7, m8⟩ := hM
  exact ⟨fun i => ⟨fun hi => by rw [m7 _ (Or.inr (by omega))]; exact (a1 i).1 hi, by rw [m7 _ (Or.inr (by omega))]; exact (a1 i).2⟩, by rw [m7 _ (Or.inr (by omega))]; exact a2, fun j hj => by rw [m8 900 (by omega)]; exact a3 j hj, by rw [m8 901 (by omega)]; exact a4, a5⟩
theorem free_sub (C : CX p l s m args meth c g ad0 h0 A0 cc nL own) {ad : Nat → Nat} {Λ : List CT} {h : HP} {H : Heap} {locs : List Loc} (hM : MR g ad0 Λ0 h0 A0 s ad Λ h H locs) : ∀ q, va_A (cw g ad Λ h) H.size q → A0 q := by
  obtain ⟨-, -, -, -, -, -, -, -, hA, -⟩ := C
  intro q hq
  rcases hq with ⟨k9, e9, hq⟩ | hq
  · exact hM.2.1.2 k9 _ hq
  · exact hA q (Nat.le_trans hM.2.2.1.1 hq)
theorem pre_call (C : CX p l s m args meth c g ad0 h0 A0 cc nL own) {ad : Nat → Nat} {Λ : List CT} {h : HP} {H : Heap} {locs : List Loc} {as : List PV} (hM : MR g ad0 Λ0 h0 A0 s ad Λ h H locs) (hok : ∀ a ∈ as, okv Λ.length a) {U : State} (hU : U.heap = H) (hW : s.WarmedH U.vm) : PreP g ad Λ h as H.size U := by
  have hf := free_sub C hM
  obtain ⟨-, -, -, -, -, -, hK, hE, -, -, hado⟩ := C
  exact ⟨by rw [hU], by rw [hU]; exact hM.1, va_K.moved hW.alike hK, hM.2.1.weaken (fun _ _ _ _ => trivial), hM.2.2.2.1, hM.2.2.2.2.2.1, adok_of hado hM, hok, Ext_call hE hM.2.2.1 hf hU hW⟩
theorem wsM_code {i : MInfo} (h : i.2.2.2.2.1 = []) : wsM i = Cond.code i.1 i.2.1 i.2.2.1 i.2.2.2.1 :: TW := by unfold wsM codeW; rw [h]
theorem wsM_with {i : MInfo} {a : Nat × Nat × Nat × Nat} {hh : List (Nat × Nat × Nat × Nat)} (h : i.2.2.2.2.1 = a :: hh) : wsM i = Cond.codeWith i.1 i.2.1 i.2.2.1 i.2.2.2.1 (a :: hh) :: TW := by unfold wsM codeW; rw [h]
theorem wsM_tw {i : MInfo} (h : codeW i ∈ TW) : ∀ w ∈ wsM i, w ∈ TW := fun w hw => (List.mem_cons.mp hw).elim (fun z => by rw [z]; exact h) id
theorem ts_inv (C : CX p l s m args meth c g ad0 h0 A0 cc nL own) {K : XT} (hK9 : ∀ pc L st Λ h k n, K pc L st Λ h k n → XW p l e R s m args below meth c Q g ad0 Λ0 h0 A0 nL pc L st Λ h k n) {M : MC} {post : Post} {hh : List (Nat × Nat × Nat × Nat)} (htab : c.exceptionTable.toList = tableOf hh) (hHs : HsOK own hh M.2.2.1) (hD : ∀ pc ins tg, lk M.1 pc = some (ins, tg) → decode cc pc = .ok (ins, lenE pc ins))
    (hX : OutX p l e R s m args below meth c Q g ad0 Λ0 h0 A0 M post) (hRc : R.cells = M.2.2.2.2.1) (hRs : R.slots = M.2.2.2.2.2) (hCp : CpOK own M.2.1) {virt : Nat} {pc k n idx : Nat} {L st : List PV} {Λ : List CT} {h : HP}
    (hins : (virt = 1 ∧ decode cc pc = .ok (.invokevirtual idx, 3) ∧ entB M.2.1 own R false pc (.invokevirtual idx) [] = true) ∨ (virt = 0 ∧ decode cc pc = .ok (.invokestatic idx, 3) ∧ entB M.2.1 own R false pc (.invokestatic idx) [] = true) ∨ (virt = 2 ∧ decode cc pc = .ok (.invokespecial idx, 3) ∧ Nat.beq idx M.2.1.2.2.2.2.2.2.2.2 = false ∧ entB M.2.1 own R false pc (.invokespecial idx) [] = true))
    (hs : inv Ok M post K virt pc L st Λ h k n idx) : XW p l e R s m args below meth c Q g ad0 Λ0 h0 A0 nL pc L st Λ h k n := by
  obtain ⟨hx, hb, hml, hown, hts, hlk, hK, hE, hA, hlst, hado⟩ := id C
  unfold inv at hs
  cases hq : lk M.2.1.1 idx with
  | none => rw [hq] at hs; exact hs.elim
  | some qq =>
  obtain ⟨y, na, mc, ms, ci⟩ := qq
  rw [hq] at hs
  dsimp only at hs
  cases ht : tak na [] st with
  | none => rw [ht] at hs; exact hs.elim
  | some rr =>
  obtain ⟨as, rest⟩ := rr
  rw [ht] at hs
  dsimp only at hs
  cases hc8 : Nat.ble (cats rest) 8 with
  | false => rw [hc8] at hs; exact hs.elim
  | true =>
  rw [hc8] at hs
  dsimp only at hs
  have hc9 := Nat.le_of_ble_eq_true hc8
  obtain ⟨bk, bn, hs⟩ := bnd_of hs
  obtain ⟨fr, hfr, hfl, has⟩ := tak_spec ht
  rw [List.append_nil] at has
  have hrev : as.reverse = fr := by rw [has, List.reverse_reverse]
  have hlen : as.length = na := by rw [has, List.length_reverse, hfl]
  have hmth : MthOK own (idx, y, na, mc, ms, ci) := hCp.1 _ (lk_mem hq)
  obtain ⟨q1, q2, q3, q4, q5, q6, q7⟩ := hmth
  have q6 : (MTd y).2.2.2.2.2.2.2.1 = mc := q6
  have q7 : (MTd y).2.2.2.2.2.2.2.2 = ms := q7
  intro ad ls H locs hM hL hst
  subst hfr
  have hstr : ∀ v ∈ rest, okv Λ.length v := fun v hv => hst v (List.mem_append_right _ hv)
  have hsta : ∀ v ∈ as, okv Λ.length v := fun v hv => hst v (List.mem_append_left _ (by rw [← hrev]; exact List.mem_reverse.mpr hv))
  have hroomW : 2 * (F0 m pc ls ((fr ++ rest).map (cv ad))).monitorRoom + (((rest.map (cv ad)).map fun v => v.category).sum) ≤ 8 := lv_room (rest := (fr ++ rest).map (cv ad)) (by rw [cats_sum]; exact hc9)
  have hpre : ∀ U : State, U.heap = H → s.WarmedH U.vm → va_Pc (as.map (cv ad)) (PreP g ad Λ h as H.size) (as.map (cv ad)).toArray U := fun U hU hW => ⟨rfl, pre_call C hM hsta hU hW⟩
  have hfit : k + (MTd y).2.2.2.2.2.2.2.1 ≤ R.cells ∧ n + (MTd y).2.2.2.2.2.2.2.2 ≤ R.slots := by rw [q6, q7, hRc, hRs]; exact ⟨bk, bn⟩
  have hgw := wsM_tw q2
  rcases hins with ⟨rfl, hdg, hent⟩ | ⟨rfl, hdg, hent⟩ | ⟨rfl, hdg, hob, hent⟩
  · have hent : (match lk M.2.1.1 idx with
      | some q => decide (RoomOK R (idx, q)) && decide (VirtOK (idx, q))
      | none => false) = true := hent
    rw [hq] at hent
    simp only [Bool.and_eq_true, decide_eq_true_eq] at hent
    obtain ⟨hroom, v1, v2, ⟨v3, v3b⟩, v4, v5⟩ := hent
    have hs : recvP Λ ci as (Ok y as Λ h (cont M post K pc L rest (k + mc) (n + ms))) := hs
    cases as with
    | nil => exact hs.elim
    | cons v9 as' =>
      obtain x9 | x9 | r | x9 | x9 | x9 := v9
      · exact hs.elim
      · exact hs.elim
      rotate_left
      · exact hs.elim
      · exact hs.elim
      · exact hs.elim
      unfold recvP at hs
      dsimp only at hs
      have hok : Ok y (vR r :: as') Λ h (cont M post K pc L rest (k + mc) (n + ms)) := by
        split at hs
        · exact hs.2
        · split at hs
          · split at hs
            · exact hs
            · exact hs.elim
          · exact hs.elim
      have hMet := hok l hlst g ad H.size
      have hcell : ∃ cellB : Cell, H[ad r]? = some cellB ∧ cellB.vm.isStatics = false ∧ s.vm.findClass (MTd y).1.cls = some cellB.cls := by
        cases hci : Nat.beq ci 100 with
        | true =>
          rw [hci] at hs
          obtain ⟨⟨r1, r2⟩, -⟩ := hs
          have hci2 : ci = 100 := Nat.eq_of_beq_eq_true hci
          have hstrn : (MTd y).1.cls = "java/lang/String" := by
            rcases v5 with z | z
            · exfalso; have := z.1; dsimp only at this; omega
            · exact z.2
          rw [hstrn]
          have e9 : ad r = g.2.2.1 (r - 1000) := by
            have := (hado.1 (r - 1000)).1 (by omega)
            have e8 : 1000 + (r - 1000) = r := by omega
            rw [e8] at this
            rw [← this, hM.2.2.2.2.2.2.1 r (Or.inr (by omega))]
          rw [e9]
          exact vk_recv hE.2.2.2.1 (i := r - 1000) (by omega) hM.2.2.1
        | false =>
          rw [hci] at hs
          dsimp only at hs
          cases hcl : cell Λ r with
          | none => rw [hcl] at hs; exact hs.elim
          | some ct =>
            rw [hcl] at hs
            obtain ⟨ci', rs⟩ | z := ct
            · dsimp only at hs
              cases hcc : Nat.beq ci ci' with
              | false => rw [hcc] at hs; exact hs.elim
              | true =>
                have hci3 : ci = ci' := Nat.eq_of_beq_eq_true hcc
                subst hci3
                rcases v5 with z | z
                · obtain ⟨i, rfl, hi⟩ := cell_at hcl
                  have z1 : ci < 9 := z.1
                  have z2 : (vwf ci).1 = (MTd y).1.cls := z.2
                  rw [← z2]
                  exact va_recv hK hM.1 (vw_at ci z1) (cw_get g ad h hi)
                · have z1 : ci = 100 := z.1
                  rw [z1] at hci; cases hci
            · exact hs.elim
      have hn1 : (as'.map (cv ad)).length = na - 1 := by rw [List.length_map]; rw [List.length_cons] at hlen; omega
      have hstk : (fr ++ rest).map (cv ad) = (as'.map (cv ad)).reverse ++ .ref (ad r) :: rest.map (cv ad) := by
        rw [← hrev, List.reverse_cons, List.map_append, List.map_append, List.append_assoc, List.map_reverse]
        rfl
      have hrun := vx_runV (e := e) (below := below) (meth := meth) (cells := k) (slots := n) (locs := locs) (As := as'.map (cv ad)) (rest := rest.map (cv ad)) (g := F0 m pc ls ((fr ++ rest).map (cv ad))) ⟨hx, hb, hml, hown, hts⟩ hMet
        (cwV (C := (MTd y).1.cls) (na - 1) hts (goodIn_tw (fun w hw => by
          rcases List.mem_append.mp hw with hw | hw
          · simp only [List.mem_cons, List.not_mem_nil, or_false] at hw
            rcases hw with rfl | rfl | rfl | rfl
            · exact q1
            · exact v1
            · exact v2
            · exact q3
          · exact hgw w hw)) (wsM_code v4) rfl rfl ⟨rfl, q4, q5, v3⟩ hroom) ⟨pre_blind, hcell, fun U hU hW => hpre U hU hW⟩ rfl hn1 hL.1 hstk hroomW hdg hfit
      rw [q6, q7] at hrun
      exact after_call C hK9 htab hHs hD hX hM hL hstr hrun
  · have hok : Ok y as Λ h (cont M post K pc L rest (k + mc) (n + ms)) := hs
    have hMet := hok l hlst g ad H.size
    have hent : (match lk M.2.1.1 idx with
      | some q => decide (RoomOK R (idx, q)) && decide (StatOK (idx, q))
      | none => false) = true := hent
    rw [hq] at hent
    simp only [Bool.and_eq_true, decide_eq_true_eq] at hent
    obtain ⟨hroom, v1, v3⟩ := hent
    have hn1 : (as.map (cv ad)).length = na := by rw [List.length_map]; exact hlen
    have hstk : (fr ++ rest).map (cv ad) = (as.map (cv ad)).reverse ++ rest.map (cv ad) := by
      rw [← hrev, List.map_append, List.map_reverse]
    have hG : GoodIn TW (va_wsS own idx (MTd y).1 (wsM (MTd y))) := goodIn_tw (fun w hw => by
          rcases List.mem_append.mp hw with hw | hw
          · simp only [List.mem_cons, List.not_mem_nil, or_false] at hw
            rcases hw with rfl | rfl | rfl
            · exact q1
            · exact v1
            · exact q3
          · exact hgw w hw)
    cases hhh : (MTd y).2.2.2.2.1 with
    | nil =>
      have hrun := vx_runS (e := e) (below := below) (meth := meth) (cells := k) (slots := n) (locs := locs) (As := as.map (cv ad)) (rest := rest.map (cv ad)) (g := F0 m pc ls ((fr ++ rest).map (cv ad))) ⟨hx, hb, hml, hown, hts⟩ hMet
        (va_cwS na hts hG (wsM_code hhh) rfl rfl ⟨q4, q5, v3⟩ hroom) ⟨pre_blind, fun U hU hW => hpre U hU hW⟩ rfl hn1 hL.1 hstk hroomW hdg hfit
      rw [q6, q7] at hrun
      exact after_call C hK9 htab hHs hD hX hM hL hstr hrun
    | cons a9 h9 =>
      have hrun := vx_runSX (e := e) (below := below) (meth := meth) (cells := k) (slots := n) (locs := locs) (As := as.map (cv ad)) (rest := rest.map (cv ad)) (g := F0 m pc ls ((fr ++ rest).map (cv ad))) ⟨hx, hb, hml, hown, hts⟩ hMet
        (vx_cwSW na hts hG (wsM_with hhh) rfl rfl ⟨q4, q5, v3⟩ hroom) ⟨pre_blind, fun U hU hW => hpre U hU hW⟩ rfl hn1 hL.1 hstk hroomW hdg hfit
      rw [q6, q7] at hrun
      exact after_call C hK9 htab hHs hD hX hM hL hstr hrun
  · have hent : (match Nat.beq idx M.2.1.2.2.2.2.2.2.2.2 with
      | true => Nat.ble 1 R.frames && Nat.ble 20 R.locals && Nat.ble 1 idx
      | false => match lk M.2.1.1 idx with
        | some q => decide (RoomOK R (idx, q)) && decide (InitOK (idx, q))
        | none => true) = true := hent
    rw [hob] at hent
    dsimp only at hent
    rw [hq] at hent
    simp only [Bool.and_eq_true, decide_eq_true_eq] at hent
    obtain ⟨hroom, v1, v2, ⟨v3, v3b⟩, v4, v5⟩ := hent
    cases as with
    | nil => exact hs.elim
    | cons v9 as' =>
    obtain x9 | x9 | r | x9 | x9 | x9 := v9
    · exact hs.elim
    · exact hs.elim
    rotate_left
    · exact hs.elim
    · exact hs.elim
    · exact hs.elim
    have hok : Ok y (vR r :: as') Λ h (cont M post K pc L rest (k + mc) (n + ms)) := hs
    have hMet := hok l hlst g ad H.size
    have hn1 : (as'.map (cv ad)).length = na - 1 := by rw [List.length_map]; rw [List.length_cons] at hlen; omega
    have hstk : (fr ++ rest).map (cv ad) = (as'.map (cv ad)).reverse ++ .ref (ad r) :: rest.map (cv ad) := by
      rw [← hrev, List.reverse_cons, List.map_append, List.map_append, List.append_assoc, List.map_reverse]
      rfl
    have hws : wsM (MTd y) = Cond.code (MTd y).1 (MTd y).2.1 (MTd y).2.2.1 none :: TW := by
      have := wsM_code v4
      rw [v5] at this
      exact this
    have hrun := vx_runI (e := e) (below := below) (meth := meth) (cells := k) (slots := n) (locs := locs) (As := as'.map (cv ad)) (rest := rest.map (cv ad)) (g := F0 m pc ls ((fr ++ rest).map (cv ad))) ⟨hx, hb, hml, hown, hts⟩ hMet
      ⟨callB_of (na - 1) hts (goodIn_tw hgw) hws rfl rfl (hts _ q3) (hts _ q1) ⟨q4, q5, v3⟩ hroom, v1, hts _ v2⟩ ⟨pre_blind, fun U hU hW => hpre U hU hW⟩ rfl hn1 hL.1 hstk hroomW hdg hfit
    rw [q6, q7] at hrun
    exact after_call C hK9 htab hHs hD hX hM hL hstr hrun
end STEP
