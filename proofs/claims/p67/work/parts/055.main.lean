/-! ===== the interpreter's answer is the machine's ===== -/
noncomputable section
/-- a method's surroundings -/
def dEv (p : Program) (l : Launch) (R : Room) (s : State) (mth : MethodId) (args : Array Value) (meth : Method) (c : Code) (e : dEnv) (D : va_G) (d j : Nat) : Prop :=
  p.tables.exec = Jvm.exec ∧ c.code = dBy j ∧ c.maxLocals = dMl j ∧ s.vm.findClass (dOwn (dOn j)) = some mth.cls ∧ meth.locks = false ∧ (∀ w ∈ dTb, w.before args s = true) ∧ l.stackTraces = false ∧ meth.name = (dY j).name ∧
  c.exceptionTable.toList = tableOf (dHh j) ∧ meth.sig.returnType = dRt j ∧ dInv e D s s.heap ∧ d + 11 ≤ R.frames ∧ 100 * d + 300 ≤ R.locals
def dCin (ins idx : Nat) : Instr := match ins with
  | 0 => .invokevirtual idx
  | 1 => .invokestatic idx
  | _ => .invokespecial idx
section MAIN
variable {p : Program} {l : Launch} {ee : Env} {R : Room} {s : State} {mth : MethodId} {args : Array Value} {below : List Frame} {meth : Method} {c : Code} {Q : State → Prop} {H : Heap} {locs : List Loc} {cells slots : Nat} {pc : Nat} {lsM : Array Slot} {rest : List Value}
variable {e : dEnv} {D : va_G} {m : dMem} {d j : Nat}
theorem dCall_inv {cl : Nat → List Value → dMem → Option dRes} {jp : Nat → dLs → List Value → dMem → Option dRes} {hd : Nat → Option Nat} {r1 r2 r3 r4 : Nat} {ls : dLs} {st : List Value} {k : List Value → dMem → Option dRes} {o : Option Value ⊕ Nat} {mF : dMem} (h : dCall cl jp hd r1 r2 r3 r4 ls st m k = some (o, mF)) :
    ∃ (as rest : List Value) (o' : Option Value ⊕ Nat) (m' : dMem), dSpl r2 [] st = some (as, rest) ∧ dSum rest ≤ 8 ∧ cl r1 as m = some (o', m') ∧
      ((∃ v, o' = .inl v ∧ k (v.toList ++ rest) m' = some (o, mF)) ∨ (∃ E, o' = .inr E ∧ (bif Nat.beq r4 1 then hJ hd jp ls else dPass) E m' = some (o, mF))) := by
  unfold dCall at h
  split at h
  · rename_i as rest hs
    cases hb : Nat.ble (dSum rest) 8 with
    | false => rw [hb] at h; cases h
    | true =>
      rw [hb] at h
      simp only [cond_true] at h
      cases hc : cl r1 as m with
      | none =>
        rw [hc] at h
        unfold dK at h
        split at h <;> first | (simp [kV] at h; done) | (simp [kI] at h; done) | (simp [kL] at h; done) | (simp [kF] at h; done) | (simp [kD] at h; done) | (simp [kR] at h; done) | (cases h; done)
      | some r =>
        obtain ⟨o1, m1⟩ := r
        refine ⟨as, rest, o1, m1, hs, Nat.le_of_ble_eq_true hb, hc, ?_⟩
        rw [hc] at h
        unfold dK at h
        split at h
        · unfold kV at h
          split at h
          · rename_i heq; cases heq; exact Or.inl ⟨none, rfl, h⟩
          · rename_i heq; cases heq; exact Or.inr ⟨_, rfl, h⟩
          · cases h
        · unfold kI at h
          split at h
          · rename_i heq; cases heq; exact Or.inl ⟨some (.int _), rfl, h⟩
          · rename_i heq; cases heq; exact Or.inr ⟨_, rfl, h⟩
          · cases h
        · unfold kL at h
          split at h
          · rename_i heq; cases heq; exact Or.inl ⟨some (.long _), rfl, h⟩
          · rename_i heq; cases heq; exact Or.inr ⟨_, rfl, h⟩
          · cases h
        · unfold kF at h
          split at h
          · rename_i heq; cases heq; exact Or.inl ⟨some (.float _), rfl, h⟩
          · rename_i heq; cases heq; exact Or.inr ⟨_, rfl, h⟩
          · cases h
        · unfold kD at h
          split at h
          · rename_i heq; cases heq; exact Or.inl ⟨some (.double _), rfl, h⟩
          · rename_i heq; cases heq; exact Or.inr ⟨_, rfl, h⟩
          · cases h
        · unfold kR at h
          split at h
          · rename_i heq; cases heq; exact Or.inl ⟨some (.ref _), rfl, h⟩
          · rename_i heq; cases heq; exact Or.inr ⟨_, rfl, h⟩
          · cases h
        · cases h
  · cases h
theorem dInv_at (hI : dInv e D s s.heap) (hS : va_S (dA e) s.heap H locs) {U : State} (hU : U.heap = H) (hW : s.WarmedH U.vm) : dInv e D U U.heap := by
  rw [hU]
  exact hI.warm hW hS.1 hS.2.1
theorem dNG_nestF {own : String} {idx : Nat} {b n d host : String} (h : Cond.fieldLinkNest own idx b n d host ∈ lw_tbl) : Cond.fieldLinkNest own idx b n d host ∈ dNG := dNG_all _ h rfl
theorem dNG_nest {own : String} {idx : Nat} {y : MethodName} {host : String} (h : Cond.methodLinkNest own idx y host ∈ lw_tbl) : Cond.methodLinkNest own idx y host ∈ dNG := dNG_all _ h rfl
/-- a call, of any of the kinds -/
theorem s_call (C : dEv p l R s mth args meth c e D d j) {ins r1 r2 r3 r4 idx : Nat} (hok : okCall j pc idx ins r1 r2 r3 r4 = true)
    (hdg : decode (dBy j) pc = .ok (dCin ins idx, 3)) {as : List Value} {o' : Option Value ⊕ Nat} {m' : dMem} (hlen : as.length = r2) (hsum : dSum rest ≤ 8)
    (hcall : CallOK l e D d r1 as m o' m') (hle : dLe m m') (hcells : cells + (m'.2.1 - m.2.1) ≤ R.cells) (hslots : slots + (m'.2.2 - m.2.2) ≤ R.slots) (hR : dRep D m s H) (hS : va_S (dA e) s.heap H locs) (hsz : lsM.size = c.maxLocals)
    (kv : ∀ (v : Option Value) (H1 : Heap) (locs1 : List Loc), o' = .inl v → dRep D m' s H1 → va_S (dA e) s.heap H1 locs1 → W p l ee R s mth args below meth c H1 locs1 (cells + (m'.2.1 - m.2.1)) (slots + (m'.2.2 - m.2.2)) Q (F0 mth (pc + 3) lsM (v.toList ++ rest)))
    (kx : ∀ (k : Nat) (q : Addr) (ce : Cell) (H1 : Heap) (locs1 : List Loc), o' = .inr k → dRep D m' s H1 → va_S (dA e) s.heap H1 locs1 → H1[q]? = some ce → ce.vm = .none → s.vm.findClass (dEx k) = some ce.cls → vx_W p l ee R s mth args below meth c H1 locs1 (cells + (m'.2.1 - m.2.1)) (slots + (m'.2.2 - m.2.2)) Q (F0 mth pc lsM rest) q) :
    W p l ee R s mth args below meth c H locs cells slots Q (F0 mth pc lsM (as.reverse ++ rest)) := by
  obtain ⟨hx, hb, hml, hown, hlk, hts, hst, hnm, htab, hrt, hI, hfr, hlo⟩ := C
  have hK := hI.1
  have hNw : ∀ w ∈ dNG, va_Nw w s := hI.2.2.2.2.2.2.2.2.2.1
  simp only [okCall, Bool.and_eq_true, Bool.not_eq_true'] at hok
  obtain ⟨⟨⟨⟨⟨⟨⟨h1, h1b⟩, h1c⟩, h2⟩, h3⟩, h4⟩, h5⟩, h6⟩ := hok
  have hj1 : r1 < dNM := Nat.le_of_ble_eq_true h1
  have hj2 : r1 ≠ dLaw := fun q => by subst q; rw [show Nat.beq dLaw dLaw = true from Nat.beq_refl _] at h1b; cases h1b
  have hmax : dMl r1 ≤ 81 := Nat.le_of_ble_eq_true h1c
  have hn := Nat.eq_of_beq_eq_true h2
  obtain ⟨hc1, hini, hpl, hmh, hpar, hsi, -⟩ := dMO_all r1 hj1 hj2
  have hR2 : ∀ {mc ms : Nat}, (rmD d mc ms).frames + 1 ≤ R.frames ∧ 8 + (dMl r1 + 11) + (rmD d mc ms).locals ≤ R.locals := fun {mc ms} => ⟨by show d + 10 + 1 ≤ _; omega, by show 8 + (dMl r1 + 11) + (100 * d + 200) ≤ _; omega⟩
  have hW8 : 2 * (F0 mth pc lsM (as.reverse ++ rest)).monitorRoom + (rest.map fun v => v.category).sum ≤ 8 := by
    show 2 * 0 + _ ≤ 8
    rw [dSum_eq]; omega
  have hpre : ∀ U : State, U.heap = H → s.WarmedH U.vm → va_Pc as (dPre e D m) as.toArray U := by
    intro U hU hW
    exact ⟨rfl, dInv_at hI hS hU hW, by rw [hU]; exact hR.moved hW.alike⟩
  have hnp : dRc r1 = 0 → as.length = dNp r1 := fun z => by rw [hlen, hn, z]; rfl
  have hrec := hcall.2.2
  have hnv : ∀ {b : Nat} {t : List Value}, as = .ref b :: t → dRc r1 ≠ 0 → t.length = dNp r1 := by
    intro b t ha hz
    have : as.length = t.length + 1 := by rw [ha]; rfl
    rw [hlen, hn] at this
    cases hb9 : Nat.beq (dRc r1) 0 with
    | true => exact absurd (Nat.eq_of_beq_eq_true hb9) hz
    | false => rw [hb9] at this; simp at this; omega
  have hstk : ∀ {b : Nat} {t : List Value}, as = .ref b :: t → as.reverse ++ rest = t.reverse ++ .ref b :: rest := by
    intro b t ha
    rw [ha]; simp
  have hrcv : ∀ {ci b : Nat} {f : Nat → Value} {r : vw_C}, m.1 b = some (.inr (ci, f)) → dCl[ci]? = some r → ∃ cellB : Cell, H[b]? = some cellB ∧ cellB.vm.isStatics = false ∧ s.vm.findClass r.1 = some cellB.cls := by
    intro ci b f r hm hr
    obtain ⟨r', hr', cell, q1, q2, q3, -⟩ := hR.2 b _ hm
    exact ⟨cell, q1, q3.1, by rw [q2]; exact (hK.1 ci r hr).2.1⟩
  have hpreR : ∀ {b : Nat} {t : List Value}, as = .ref b :: t → ∀ U : State, U.heap = H → s.WarmedH U.vm → va_Pc as (dPre e D m) (Value.ref b :: t).toArray U := by
    intro b t ha U hU hW
    have h9 := hpre U hU hW
    rw [← ha]
    exact h9
  cases htr : dTr r1 with
  | true =>
    obtain ⟨⟨v0, hv0⟩, hM⟩ := hcall.1 htr
    rw [if_pos htr] at hc1
    have hws : dWs r1 = Cond.codeWith (dY r1) (dBy r1) (dMl r1) (dRt r1) (dHh r1) :: dTb := by unfold dWs; rw [if_pos htr]
    have hwg : ∀ w ∈ dWs r1, w ∈ dTb := by
      rw [hws]
      intro w hw
      rcases List.mem_cons.mp hw with rfl | hw
      · exact hc1
      · exact hw
    rw [htr] at h6
    match ins, hdg, h6 with
    | 0, hdg, h6 =>
      obtain ⟨hl, hse, ci, r, g1, g2, g3⟩ : dLk (dOwn (dOn j)) idx 0 r1 := dCL_ok _ (b4_eq (by simpa using h6))
      have hz : dRc r1 ≠ 0 := by omega
      obtain ⟨ci', b, t, f, k1, k2, k3⟩ := hrec hz
      have hci : ci' = ci := by omega
      subst hci
      rw [if_neg hz] at hsi
      rw [hstk k2]
      exact s_afterM (vx_runVW (rest := rest) (H := H) (locs := locs) (e := ee) (below := below) (meth := meth) (As := t) (b := b) (g := F0 mth pc lsM (t.reverse ++ .ref b :: rest)) ⟨hx, hb, hml, hown, hts⟩ hM (vx_cwVW (dNp r1) hts (dTb_good (fun w hw => by
            simp only [wsV, List.mem_append, List.mem_cons, List.not_mem_nil, or_false] at hw
            rcases hw with (rfl | rfl | rfl | rfl) | hw
            · exact hl
            · exact hsi
            · exact hse
            · exact hini
            · exact hwg w hw)) hws rfl rfl ⟨rfl, hmh.1, hmh.2, hpar⟩ hR2) ⟨dPre_blind, by rw [← g3]; exact hrcv k3 g2, hpreR k2⟩ rfl (hnv k2 hz) (hsz.trans hml) rfl hW8 hdg ⟨hcells, hslots⟩) hS kv
    | 1, hdg, h6 =>
      obtain ⟨hl, hz⟩ : dLk (dOwn (dOn j)) idx 1 r1 := dCL_ok _ (b4_eq (by simpa using h6))
      rw [if_pos hz] at hsi
      exact s_afterM (vx_runSW (rest := rest) (H := H) (locs := locs) (e := ee) (below := below) (meth := meth) (As := as) (g := F0 mth pc lsM (as.reverse ++ rest)) ⟨hx, hb, hml, hown, hts⟩ hM (vx_cwSW (dNp r1) hts (dTb_good (fun w hw => by
            simp only [va_wsS, List.mem_append, List.mem_cons, List.not_mem_nil, or_false] at hw
            rcases hw with (rfl | rfl | rfl) | hw
            · exact hl
            · exact hsi
            · exact hini
            · exact hwg w hw)) hws rfl rfl ⟨hmh.1, hmh.2, hpar⟩ hR2) ⟨dPre_blind, hpre⟩ rfl (hnp hz) (hsz.trans hml) rfl hW8 hdg ⟨hcells, hslots⟩) hS kv
    | n + 2, hdg, h6 => simp at h6
  | false =>
    have hM := hcall.2.1 htr
    rw [if_neg (by rw [htr]; decide)] at hc1
    have hws : dWs r1 = Cond.code (dY r1) (dBy r1) (dMl r1) (dRt r1) :: dTb := by unfold dWs; rw [if_neg (by rw [htr]; decide)]
    have hwg : ∀ w ∈ dWs r1, w ∈ dTb := by
      rw [hws]
      intro w hw
      rcases List.mem_cons.mp hw with rfl | hw
      · exact hc1
      · exact hw
    match ins, hdg, h4 with
    | 0, hdg, h4 =>
      have hlk0 : dLk (dOwn (dOn j)) idx 0 r1 ∨ dLk (dOwn (dOn j)) idx 5 r1 ∨ dLk (dOwn (dOn j)) idx 9 r1 := by
        simp only [Bool.or_eq_true] at h4
        rcases h4 with (h4 | h4) | h4
        · exact Or.inl (dCL_ok _ (b4_eq h4))
        · exact Or.inr (Or.inl (dCL_ok _ (b4_eq h4)))
        · exact Or.inr (Or.inr (dCL_ok _ (b4_eq h4)))
      rcases hlk0 with ⟨hl, hse, ci, r, g1, g2, g3⟩ | ⟨hl, hsm, hse, g1⟩ | ⟨x9, b9, m9, r9, hl, hsm, hsx, hse, hcd, g1, hpx⟩
      · have hz : dRc r1 ≠ 0 := by omega
        obtain ⟨ci', b, t, f, k1, k2, k3⟩ := hrec hz
        have hci : ci' = ci := by omega
        subst hci
        rw [if_neg hz] at hsi
        rw [hstk k2]
        exact s_after (vx_runV (rest := rest) (H := H) (locs := locs) (e := ee) (below := below) (meth := meth) (As := t) (b := b) (g := F0 mth pc lsM (t.reverse ++ .ref b :: rest)) ⟨hx, hb, hml, hown, hts⟩ hM (cwV (dNp r1) hts (dTb_good (fun w hw => by
            simp only [wsV, List.mem_append, List.mem_cons, List.not_mem_nil, or_false] at hw
            rcases hw with (rfl | rfl | rfl | rfl) | hw
            · exact hl
            · exact hsi
            · exact hse
            · exact hini
            · exact hwg w hw)) hws rfl rfl ⟨rfl, hmh.1, hmh.2, hpar⟩ hR2) ⟨dPre_blind, by rw [← g3]; exact hrcv k3 g2, hpreR k2⟩ rfl (hnv k2 hz) (hsz.trans hml) rfl hW8 hdg ⟨hcells, hslots⟩) hS kv kx
      · have hz : dRc r1 ≠ 0 := by omega
        obtain ⟨ci', b, t, f, k1, k2, k3⟩ := hrec hz
        have hci : ci' = 1 := by omega
        subst hci
        rw [if_neg hz] at hsi
        rw [hstk k2]
        exact s_after (vx_runU (rest := rest) (H := H) (locs := locs) (e := ee) (below := below) (meth := meth) (As := t) (b := b) (C := "java/lang/StringBuilder") (owner := (dY r1).cls) (x := dY r1) (y := dY r1) (g := F0 mth pc lsM (t.reverse ++ .ref b :: rest)) ⟨hx, hb, hml, hown, hts⟩ hM (va_cwU (dNp r1) hts (dTb_good (fun w hw => by
            simp only [va_wsU, List.mem_append, List.mem_cons, List.not_mem_nil, or_false] at hw
            rcases hw with (rfl | rfl | rfl | rfl | rfl) | hw
            · exact hl
            · exact hsm
            · exact hse
            · exact hsi
            · exact hini
            · exact hwg w hw)) hws rfl rfl rfl ⟨hmh.1, hmh.2, hpar⟩ hR2) ⟨dPre_blind, hrcv (r := ("java/lang/StringBuilder", dT1, 4)) k3 rfl, hpreR k2⟩ rfl (hnv k2 hz) (hsz.trans hml) rfl hW8 hdg ⟨hcells, hslots⟩) hS kv kx
      · have hz : dRc r1 ≠ 0 := by omega
        obtain ⟨ci', b, t, f, k1, k2, k3⟩ := hrec hz
        have hci : ci' = 1 := by omega
        subst hci
        rw [if_neg hz] at hsi
        rw [hstk k2]
        exact s_after (vx_runU (rest := rest) (H := H) (locs := locs) (e := ee) (below := below) (meth := meth) (As := t) (b := b) (C := "java/lang/StringBuilder") (owner := x9.cls) (x := x9) (y := dY r1) (g := F0 mth pc lsM (t.reverse ++ .ref b :: rest)) ⟨hx, hb, hml, hown, hts⟩ hM (va_cwO (dNp r1) hts (dTb_good (fun w hw => by
            simp only [va_wsO, List.mem_append, List.mem_cons, List.not_mem_nil, or_false] at hw
            rcases hw with (rfl | rfl | rfl | rfl | rfl | rfl) | hw
            · exact hl
            · exact hsm
            · exact hsx
            · exact hse
            · exact hsi
            · exact hini
            · exact hwg w hw) ) hws rfl rfl hcd ⟨hpx.1.1, hpx.1.2, hpx.2⟩ hR2) ⟨dPre_blind, hrcv (r := ("java/lang/StringBuilder", dT1, 4)) k3 rfl, hpreR k2⟩ rfl (hnv k2 hz) (hsz.trans hml) rfl hW8 hdg ⟨hcells, hslots⟩) hS kv kx
    | 1, hdg, h4 =>
      have hlk0 : dLk (dOwn (dOn j)) idx 1 r1 ∨ dLk (dOwn (dOn j)) idx 4 r1 := by
        simp only [Bool.or_eq_true] at h4
        rcases h4 with h4 | h4
        · exact Or.inl (dCL_ok _ (b4_eq h4))
        · exact Or.inr (dCL_ok _ (b4_eq h4))
      rcases hlk0 with ⟨hl, hz⟩ | ⟨⟨host, hl⟩, hz⟩
      · rw [if_pos hz] at hsi
        exact s_after (vx_runS (rest := rest) (H := H) (locs := locs) (e := ee) (below := below) (meth := meth) (As := as) (g := F0 mth pc lsM (as.reverse ++ rest)) ⟨hx, hb, hml, hown, hts⟩ hM (va_cwS (dNp r1) hts (dTb_good (fun w hw => by
            simp only [va_wsS, List.mem_append, List.mem_cons, List.not_mem_nil, or_false] at hw
            rcases hw with (rfl | rfl | rfl) | hw
            · exact hl
            · exact hsi
            · exact hini
            · exact hwg w hw)) hws rfl rfl ⟨hmh.1, hmh.2, hpar⟩ hR2) ⟨dPre_blind, hpre⟩ rfl (hnp hz) (hsz.trans hml) rfl hW8 hdg ⟨hcells, hslots⟩) hS kv kx
      · rw [if_pos hz] at hsi
        exact s_after (vx_runSN (rest := rest) (H := H) (locs := locs) (e := ee) (below := below) (meth := meth) (As := as) (host := host) (g := F0 mth pc lsM (as.reverse ++ rest)) ⟨hx, hb, hml, hown, hts⟩ hM ⟨va_cnB (dNp r1) hts (dTb_good hwg) hws rfl rfl (hNw _ (dNG_nest hl)) (hts _ hini) ⟨hmh.1, hmh.2, hpar⟩ hR2, hts _ hsi, trivial⟩ ⟨dPre_blind, hpre⟩ rfl (hnp hz) (hsz.trans hml) rfl hW8 hdg ⟨hcells, hslots⟩) hS kv kx
    | n + 2, hdg, h4 =>
      have hlk0 : dLk (dOwn (dOn j)) idx 2 r1 ∨ dLk (dOwn (dOn j)) idx 3 r1 ∨ dLk (dOwn (dOn j)) idx 6 r1 := by
        simp only [Bool.or_eq_true] at h4
        rcases h4 with (h4 | h4) | h4
        · exact Or.inl (dCL_ok _ (b4_eq h4))
        · exact Or.inr (Or.inl (dCL_ok _ (b4_eq h4)))
        · exact Or.inr (Or.inr (dCL_ok _ (b4_eq h4)))
      rcases hlk0 with ⟨hl, hnm1, hz, hrt1⟩ | ⟨⟨host, hl⟩, hnm1, hz, hrt1⟩ | ⟨hl, hsm, hsu, hnm1, hz1, how⟩
      · rw [if_neg hz] at hsi
        rw [hrt1] at hws
        obtain ⟨ci', b, t, f, k1, k2, k3⟩ := hrec hz
        rw [hstk k2]
        exact s_after (vx_runI (rest := rest) (H := H) (locs := locs) (e := ee) (below := below) (meth := meth) (As := t) (b := b) (g := F0 mth pc lsM (t.reverse ++ .ref b :: rest)) ⟨hx, hb, hml, hown, hts⟩ hM (cwI (dNp r1) hts (dTb_good hwg) hws rfl rfl (hts _ hini) (hts _ hl) (hts _ hsi) hnm1 ⟨hmh.1, hmh.2, hpar⟩ hR2) ⟨dPre_blind, hpreR k2⟩ rfl (hnv k2 hz) (hsz.trans hml) rfl hW8 hdg ⟨hcells, hslots⟩) hS kv kx
      · rw [if_neg hz] at hsi
        rw [hrt1] at hws
        obtain ⟨ci', b, t, f, k1, k2, k3⟩ := hrec hz
        rw [hstk k2]
        exact s_after (vx_runIN (rest := rest) (H := H) (locs := locs) (e := ee) (below := below) (meth := meth) (As := t) (b := b) (host := host) (g := F0 mth pc lsM (t.reverse ++ .ref b :: rest)) ⟨hx, hb, hml, hown, hts⟩ hM ⟨va_cnB (dNp r1) hts (dTb_good hwg) hws rfl rfl (hNw _ (dNG_nest hl)) (hts _ hini) ⟨hmh.1, hmh.2, hpar⟩ hR2, hnm1, hts _ hsi⟩ ⟨dPre_blind, hpreR k2⟩ rfl (hnv k2 hz) (hsz.trans hml) rfl hW8 hdg ⟨hcells, hslots⟩) hS kv kx
      · have hz : dRc r1 ≠ 0 := by omega
        rw [if_neg hz] at hsi
        obtain ⟨ci', b, t, f, k1, k2, k3⟩ := hrec hz
        have hci : ci' = 1 := by omega
        subst hci
        rw [hstk k2]
        exact s_after (vx_runSU (rest := rest) (H := H) (locs := locs) (e := ee) (below := below) (meth := meth) (As := t) (b := b) (C := "java/lang/StringBuilder") (cC := D.1 1) (g := F0 mth pc lsM (t.reverse ++ .ref b :: rest)) (hK.1 1 _ rfl).2 ⟨hx, hb, hml, hown, hts⟩ hM (va_cwSU (dNp r1) hts (dTb_good (fun w hw => by
            simp only [va_wsSU, List.mem_append, List.mem_cons, List.not_mem_nil, or_false] at hw
            rcases hw with (rfl | rfl | rfl | rfl | rfl) | hw
            · exact hl
            · exact hsm
            · exact hsu
            · exact hsi
            · exact hini
            · exact hwg w hw)) hws rfl rfl ⟨hnm1, hpar⟩ hR2) ⟨dPre_blind, hrcv (r := ("java/lang/StringBuilder", dT1, 4)) k3 rfl, hpreR k2⟩ rfl (hnv k2 hz) (hsz.trans hml) rfl hW8 hdg ⟨hcells, hslots⟩) hS kv kx
/-- a call, of any of the kinds -/
theorem s_callF (C : dEv p l R s mth args meth c e D d j) {kd cnt r1 r2 r3 idx : Nat} (hkd : kd = 7 ∨ kd = 8) (hok : okCallF j idx kd r1 r2 r3 = true)
    (hdg : decode (dBy j) pc = .ok (.invokeinterface idx cnt, 5)) {as : List Value} {o' : Option Value ⊕ Nat} {m' : dMem} (hlen : as.length = r2) (hsum : dSum rest ≤ 8)
    (hcall : CallOK l e D d r1 as m o' m') (hle : dLe m m') (hcells : cells + (m'.2.1 - m.2.1) ≤ R.cells) (hslots : slots + (m'.2.2 - m.2.2) ≤ R.slots) (hR : dRep D m s H) (hS : va_S (dA e) s.heap H locs) (hsz : lsM.size = c.maxLocals)
    (kv : ∀ (v : Option Value) (H1 : Heap) (locs1 : List Loc), o' = .inl v → dRep D m' s H1 → va_S (dA e) s.heap H1 locs1 → W p l ee R s mth args below meth c H1 locs1 (cells + (m'.2.1 - m.2.1)) (slots + (m'.2.2 - m.2.2)) Q (F0 mth (pc + 5) lsM (v.toList ++ rest)))
    (kx : ∀ (k : Nat) (q : Addr) (ce : Cell) (H1 : Heap) (locs1 : List Loc), o' = .inr k → dRep D m' s H1 → va_S (dA e) s.heap H1 locs1 → H1[q]? = some ce → ce.vm = .none → s.vm.findClass (dEx k) = some ce.cls → vx_W p l ee R s mth args below meth c H1 locs1 (cells + (m'.2.1 - m.2.1)) (slots + (m'.2.2 - m.2.2)) Q (F0 mth pc lsM rest) q) :
    W p l ee R s mth args below meth c H locs cells slots Q (F0 mth pc lsM (as.reverse ++ rest)) := by
  obtain ⟨hx, hb, hml, hown, hlk, hts, hst, hnm, htab, hrt, hI, hfr, hlo⟩ := C
  have hK := hI.1
  have hNw : ∀ w ∈ dNG, va_Nw w s := hI.2.2.2.2.2.2.2.2.2.1
  simp only [okCallF, Bool.and_eq_true, Bool.not_eq_true'] at hok
  obtain ⟨⟨⟨⟨⟨⟨h1, h1b⟩, h1c⟩, h2⟩, h3⟩, htr⟩, h4⟩ := hok
  have hj1 : r1 < dNM := Nat.le_of_ble_eq_true h1
  have hj2 : r1 ≠ dLaw := fun q => by subst q; rw [show Nat.beq dLaw dLaw = true from Nat.beq_refl _] at h1b; cases h1b
  have hmax : dMl r1 ≤ 81 := Nat.le_of_ble_eq_true h1c
  have hn := Nat.eq_of_beq_eq_true h2
  obtain ⟨hc1, hini, hpl, hmh, hpar, hsi, -⟩ := dMO_all r1 hj1 hj2
  have hR2 : ∀ {mc ms : Nat}, (rmD d mc ms).frames + 1 ≤ R.frames ∧ 8 + (dMl r1 + 11) + (rmD d mc ms).locals ≤ R.locals := fun {mc ms} => ⟨by show d + 10 + 1 ≤ _; omega, by show 8 + (dMl r1 + 11) + (100 * d + 200) ≤ _; omega⟩
  have hW8 : 2 * (F0 mth pc lsM (as.reverse ++ rest)).monitorRoom + (rest.map fun v => v.category).sum ≤ 8 := by
    show 2 * 0 + _ ≤ 8
    rw [dSum_eq]; omega
  have hpre : ∀ U : State, U.heap = H → s.WarmedH U.vm → va_Pc as (dPre e D m) as.toArray U := by
    intro U hU hW
    exact ⟨rfl, dInv_at hI hS hU hW, by rw [hU]; exact hR.moved hW.alike⟩
  have hnp : True := trivial
  have hrec := hcall.2.2
  have hnv : ∀ {b : Nat} {t : List Value}, as = .ref b :: t → dRc r1 ≠ 0 → t.length = dNp r1 := by
    intro b t ha hz
    have : as.length = t.length + 1 := by rw [ha]; rfl
    rw [hlen, hn] at this
    omega
  have hstk : ∀ {b : Nat} {t : List Value}, as = .ref b :: t → as.reverse ++ rest = t.reverse ++ .ref b :: rest := by
    intro b t ha
    rw [ha]; simp
  have hrcv : ∀ {ci b : Nat} {f : Nat → Value} {r : vw_C}, m.1 b = some (.inr (ci, f)) → dCl[ci]? = some r → ∃ cellB : Cell, H[b]? = some cellB ∧ cellB.vm.isStatics = false ∧ s.vm.findClass r.1 = some cellB.cls := by
    intro ci b f r hm hr
    obtain ⟨r', hr', cell, q1, q2, q3, -⟩ := hR.2 b _ hm
    exact ⟨cell, q1, q3.1, by rw [q2]; exact (hK.1 ci r hr).2.1⟩
  have hpreR : ∀ {b : Nat} {t : List Value}, as = .ref b :: t → ∀ U : State, U.heap = H → s.WarmedH U.vm → va_Pc as (dPre e D m) (Value.ref b :: t).toArray U := by
    intro b t ha U hU hW
    have h9 := hpre U hU hW
    rw [← ha]
    exact h9
  have hM := hcall.2.1 htr
  rw [if_neg (by rw [htr]; decide)] at hc1
  have hws : dWs r1 = Cond.code (dY r1) (dBy r1) (dMl r1) (dRt r1) :: dTb := by unfold dWs; rw [if_neg (by rw [htr]; decide)]
  have hwg : ∀ w ∈ dWs r1, w ∈ dTb := by
    rw [hws]
    intro w hw
    rcases List.mem_cons.mp hw with rfl | hw
    · exact hc1
    · exact hw
  rcases hkd with rfl | rfl
  · obtain ⟨x, hl, hse, hmem, g1, hpx⟩ : dLk (dOwn (dOn j)) idx 7 r1 := dCL_ok _ (b4_eq h4)
    have hz : dRc r1 ≠ 0 := by omega
    obtain ⟨ci', b, t, f, k1, k2, k3⟩ := hrec hz
    have hci : ci' = 1 := by omega
    subst hci
    rw [if_neg hz] at hsi
    rw [hstk k2]
    exact s_after5 (vx_runF (rest := rest) (H := H) (locs := locs) (e := ee) (below := below) (meth := meth) (As := t) (b := b) (C := "java/lang/StringBuilder") (cC := D.1 1) (x := x) (y := dY r1) (g := F0 mth pc lsM (t.reverse ++ .ref b :: rest)) (hK.1 1 _ rfl).2 ⟨hx, hb, hml, hown, hts⟩ hM (va_cwF (dNp r1) hts (dTb_good (fun w hw => by
          simp only [va_wsF, List.mem_append, List.mem_cons, List.not_mem_nil, or_false] at hw
          rcases hw with (rfl | rfl | rfl | rfl) | hw
          · exact hl
          · exact hse
          · exact hsi
          · exact hini
          · exact hwg w hw)) hws rfl rfl (hI.2.2.2.2.2.2.2.2.2.2.2.2.2.2.1 _ hmem) ⟨(dFw_mh _ hmem).1, (dFw_mh _ hmem).2, hpx⟩ hR2) ⟨dPre_blind, hrcv (r := ("java/lang/StringBuilder", dT1, 4)) k3 rfl, hpreR k2⟩ rfl (hnv k2 hz) (hsz.trans hml) rfl hW8 hdg ⟨hcells, hslots⟩) hS kv kx
  · obtain ⟨x, hl, hse, hmem, g1, hpx⟩ : dLk (dOwn (dOn j)) idx 8 r1 := dCL_ok _ (b4_eq h4)
    have hz : dRc r1 ≠ 0 := by omega
    obtain ⟨ci', b, t, f, k1, k2, k3⟩ := hrec hz
    have hci : ci' = 0 := by omega
    subst hci
    rw [if_neg hz] at hsi
    rw [hstk k2]
    exact s_after5 (vx_runF (rest := rest) (H := H) (locs := locs) (e := ee) (below := below) (meth := meth) (As := t) (b := b) (C := "java/lang/String") (cC := D.1 0) (x := x) (y := dY r1) (g := F0 mth pc lsM (t.reverse ++ .ref b :: rest)) (hK.1 0 _ rfl).2 ⟨hx, hb, hml, hown, hts⟩ hM (va_cwF (dNp r1) hts (dTb_good (fun w hw => by
          simp only [va_wsF, List.mem_append, List.mem_cons, List.not_mem_nil, or_false] at hw
          rcases hw with (rfl | rfl | rfl | rfl) | hw
          · exact hl
          · exact hse
          · exact hsi
          · exact hini
          · exact hwg w hw)) hws rfl rfl (hI.2.2.2.2.2.2.2.2.2.2.2.2.2.2.1 _ hmem) ⟨(dFw_mh _ hmem).1, (dFw_mh _ hmem).2, hpx⟩ hR2) ⟨dPre_blind, hrcv (r := ("java/lang/String", dT0, 4)) k3 rfl, hpreR k2⟩ rfl (hnv k2 hz) (hsz.trans hml) rfl hW8 hdg ⟨hcells, hslots⟩) hS kv kx
end MAIN
end
