/-! ===== every instruction ===== -/
noncomputable section
theorem ok4 {a b c d : Bool} (h : (a && b && c && d) = true) : a = true ∧ b = true ∧ c = true ∧ d = true := by
  simp only [Bool.and_eq_true] at h
  exact ⟨h.1.1.1, h.1.1.2, h.1.2, h.2⟩
theorem ok2 {a b : Bool} (h : (a && b) = true) : a = true ∧ b = true := by
  simp only [Bool.and_eq_true] at h
  exact h
theorem dBlt {a b : Nat} (h : Nat.blt a b = true) : a < b := Nat.le_of_ble_eq_true h
theorem okPut_fin {j r1 r2 r3 : Nat} (h : okPut j r1 r2 r3 = true) : ∀ r : vw_C, dCl[r1]? = some r → (r.2.1 r2).2.2.2 = true → (dY j).name = "<init>" ∧ (r.2.1 r2).1 = dOwn (dOn j) := by
  intro r hr hf
  have h2 := (ok2 h).2
  rw [hr] at h2
  simp only [hf, Bool.not_true, Bool.false_or, Bool.and_eq_true, decide_eq_true_eq] at h2
  exact h2
theorem okPut_0 {j r1 r2 : Nat} (h : okPut j r1 r2 0 = true) : dTy r1 r2 = .int := by
  have h2 := (ok2 h).1
  revert h2
  cases dTy r1 r2 <;> intro h2 <;> first | rfl | cases h2
theorem okPut_2 {j r1 r2 : Nat} (h : okPut j r1 r2 2 = true) : dTy r1 r2 = .boolean := by
  have h2 := (ok2 h).1
  revert h2
  cases dTy r1 r2 <;> intro h2 <;> first | rfl | cases h2
theorem okPut_3 {j r1 r2 : Nat} (h : okPut j r1 r2 3 = true) : dTy r1 r2 = .byte := by
  have h2 := (ok2 h).1
  revert h2
  cases dTy r1 r2 <;> intro h2 <;> first | rfl | cases h2
theorem okPut_1 {j r1 r2 : Nat} (h : okPut j r1 r2 1 = true) (q : Nat) : narrow (dTy r1 r2) (.ref q) = .ref q ∧ fits (dTy r1 r2) (.ref q) = true := by
  have h2 := (ok2 h).1
  revert h2
  cases dTy r1 r2 <;> intro h2 <;> first | exact ⟨rfl, rfl⟩ | cases h2
/-- how a value goes back -/
def dRetOK (j : Nat) (v : Option Value) (pc : Nat) : Prop := match v with
  | none => decode (dBy j) pc = .ok (.return_, 1) ∧ dRt j = none
  | some (.int x) => decode (dBy j) pc = .ok (.ireturn, 1) ∧ ∃ ty, dRt j = some ty ∧ narrow ty (.int x) = .int x
  | some (.long _) => decode (dBy j) pc = .ok (.lreturn, 1) ∧ dRt j = some .long
  | some (.float _) => decode (dBy j) pc = .ok (.freturn, 1) ∧ dRt j = some .float
  | some (.double _) => decode (dBy j) pc = .ok (.dreturn, 1) ∧ dRt j = some .double
  | some (.ref _) => decode (dBy j) pc = .ok (.areturn, 1) ∧ ∃ ty, dRt j = some ty ∧ ((∃ n, ty = .object n) ∨ ∃ t, ty = .array t)
  | _ => False
theorem okRet_n {j r1 : Nat} {x : Int32} (h : okRet j r1 = true) (hx : (r1 = 0) ∨ (r1 = 1 ∧ (x = 0 ∨ x = 1)) ∨ (r1 = 2 ∧ 0 ≤ x.toInt ∧ x.toInt < 65536) ∨ (r1 = 3 ∧ x.toInt8.toInt32 = x)) : ∃ ty, dRt j = some ty ∧ narrow ty (.int x) = .int x := by
  unfold okRet at h
  rcases hx with rfl | ⟨rfl, hx⟩ | ⟨rfl, hx⟩ | ⟨rfl, hx⟩ <;> split at h <;> first | (cases h; done) | (exfalso; omega) | skip
  · rename_i he _; exact ⟨_, he, rfl⟩
  · rename_i he _; exact ⟨_, he, by rcases hx with rfl | rfl <;> rfl⟩
  · rename_i he _
    refine ⟨_, he, ?_⟩
    obtain ⟨n, hn, hxn⟩ : ∃ n : Nat, n < 65536 ∧ x = nI n := by
      refine ⟨x.toInt.toNat, by omega, ?_⟩
      apply Int32.toInt_inj.mp
      rw [nI_toInt (by omega)]
      omega
    rw [hxn]
    exact (pk_charN hn).1
  · rename_i he _
    refine ⟨_, he, ?_⟩
    show Value.int x.toInt8.toInt32 = _
    rw [hx]
section OPS
variable {p : Program} {l : Launch} {ee : Env} {R : Room} {s : State} {mth : MethodId} {args : Array Value} {below : List Frame} {meth : Method} {c : Code} {Q : State → Prop}
variable {e : dEnv} {D : va_G} {d j : Nat}
theorem covers_at (x : ExceptionTableEntry) (pc : Nat) (h1 : x.startPc ≤ pc) (h2 : pc < x.endPc) : covers x pc = true := by simp [covers, h1, h2]
theorem dEx_cases {E : Nat} (h1 : 1 ≤ E) (h3 : E ≤ 3) : E = 1 ∨ E = 2 ∨ E = 3 := by omega
/-- a handler takes what was thrown -/
theorem s_catch (C : dEv p l R s mth args meth c e D d j) {pc E lbl : Nat} (hE1 : 1 ≤ E) (hE3 : E ≤ 3) {H : Heap} {locs : List Loc} {cells slots : Nat} {lsM : Array Slot} {rest : List Value} {q : Addr} {ce : Cell} {ls : dLs} (hL : dHas lsM (dMl j) ls) (hcell : H[q]? = some ce) (hv : ce.vm = .none) (hcl : s.vm.findClass (dEx E) = some ce.cls)
    (kk : ∀ lsM' : Array Slot, dHas lsM' (dMl j) (dMk 0 ls) → W p l ee R s mth args below meth c H locs cells slots Q (F0 mth (dpc j lbl) lsM' [])) :
    ∀ (suf pre : List (Nat × Nat × Nat × Nat)), okCat j pc E lbl suf = true → dHh j = pre ++ suf → (∀ z ∈ tableOf pre, covers z pc = false ∨ (z.catchType ≠ 0 ∧ ∃ nm : String, (Cond.classLink (dOwn (dOn j)) z.catchType nm).before args s = true ∧ va_Nc (dEx E) nm s)) → vx_W p l ee R s mth args below meth c H locs cells slots Q (F0 mth pc lsM rest) q := by
  obtain ⟨hx, hb, hml, hown, hlk, hts, hst, hnm, htab, hrt, hI, hfr, hlo⟩ := C
  have hNG : ∀ w ∈ dNG, va_Nw w s := hI.2.2.2.2.2.2.2.2.2.1
  have hNc : ∀ q ∈ dNc, va_Nc q.1 q.2 s := hI.2.2.2.2.2.2.2.2.2.2.1
  intro suf
  induction suf with
  | nil => intro pre h; cases h
  | cons x suf ih =>
    intro pre h hp hpre
    simp only [okCat] at h
    cases hb3 : b3 dHl (dOn j, x.2.2.2, E) with
    | true =>
      rw [hb3] at h
      simp only [cond_true, Bool.and_eq_true, Bool.not_eq_true'] at h
      obtain ⟨⟨⟨g1, g2⟩, g3⟩, g4⟩ := h
      obtain ⟨hlink, -, -⟩ := dHl_ok _ (b3_eq hb3)
      have hcast : (Cond.castable (dEx E) (dEx E)).before args s = true := by
        refine va_Nw.use rfl (hNG _ ?_)
        rcases dEx_cases hE1 hE3 with rfl | rfl | rfl <;> decide +kernel
      refine vx_catch hown (tableOf pre) ⟨x.1, x.2.1, x.2.2.1, x.2.2.2⟩ (tableOf suf) (by rw [htab, hp]; simp [tableOf]) hpre (covers_at _ _ (Nat.le_of_ble_eq_true g1) (dBlt g2)) (by
        intro z
        have z' : x.2.2.2 = 0 := z
        rw [z'] at g4
        cases g4) (hts _ hlink) hcast hcell hv hcl ?_
      unfold okAst at g3
      split at g3
      · rename_i k hd
        obtain ⟨k1, k2⟩ := ok2 g3
        refine lv_astore_n hx hb hd rfl (show lv_has _ _ _ from hL) (dBlt k1) rfl (fun ls' h' => ?_)
        rw [show x.2.2.1 + 1 = dpc j lbl from (Nat.eq_of_beq_eq_true k2).symm]
        exact kk ls' (dHas.of h' (fun i v hi => absurd (dMk_none ls i v hi) id))
      · rename_i k hd
        obtain ⟨k1, k2⟩ := ok2 g3
        refine lv_astore hx hb hd (show lv_has _ _ _ from hL) (dBlt k1) rfl (fun ls' h' => ?_)
        rw [show x.2.2.1 + 2 = dpc j lbl from (Nat.eq_of_beq_eq_true k2).symm]
        exact kk ls' (dHas.of h' (fun i v hi => absurd (dMk_none ls i v hi) id))
      · cases g3
    | false =>
      rw [hb3] at h
      simp only [cond_false, Bool.and_eq_true, Bool.or_eq_true, Bool.not_eq_true'] at h
      obtain ⟨⟨g1, g2⟩, g3⟩ := h
      refine ih (pre ++ [x]) g3 (by rw [hp]; simp) (fun z hz => ?_)
      simp only [tableOf, List.map_append, List.mem_append] at hz
      rcases hz with hz | hz
      · exact hpre z hz
      · simp only [List.map_cons, List.map_nil, List.mem_singleton] at hz
        subst hz
        refine Or.inr ⟨fun z => ?_, ?_⟩
        · have z' : x.2.2.2 = 0 := z
          rw [z'] at g2
          cases g2
        · have key : ∀ K : Nat, 1 ≤ K → K ≤ 3 → b3 dHl (dOn j, x.2.2.2, K) = true → Nat.beq E K = false → ∃ nm : String, (Cond.classLink (dOwn (dOn j)) x.2.2.2 nm).before args s = true ∧ va_Nc (dEx E) nm s := by
            intro K k1 k3 hK hEK
            obtain ⟨hlink, -, -⟩ := dHl_ok _ (b3_eq hK)
            refine ⟨dEx K, hts _ hlink, hNc (dEx E, dEx K) ?_⟩
            rcases dEx_cases hE1 hE3 with rfl | rfl | rfl <;> rcases dEx_cases k1 k3 with rfl | rfl | rfl <;> first | (cases hEK; done) | decide +kernel
          rcases g1 with (⟨a, b⟩ | ⟨a, b⟩) | ⟨a, b⟩
          · exact key 1 (by omega) (by omega) a b
          · exact key 2 (by omega) (by omega) a b
          · exact key 3 (by omega) (by omega) a b
set_option maxHeartbeats 16000000 in
set_option maxRecDepth 20000 in
theorem dx_snd (C : dEv p l R s mth args meth c e D d j) {o : Option Value ⊕ Nat} {mF : dMem} {m0s : Nat} {cl : Nat → List Value → dMem → Option dRes} {jp : Nat → dLs → List Value → dMem → Option dRes}
    (hRc : mF.2.1 - s.heap.size ≤ R.cells) (hRs : mF.2.2 - m0s ≤ R.slots)
    (hclM : ∀ j as m o m', cl j as m = some (o, m') → dLe m m') (hjpM : ∀ lbl ls st m o m', jp lbl ls st m = some (o, m') → dLe m m')
    (hcl : ∀ j' as m o' m', cl j' as m = some (o', m') → j' < dNM → j' ≠ dLaw → CallOK l e D d j' as m o' m')
    (hjp : ∀ (lbl : Nat) (ls : dLs) (st : List Value) (m : dMem) (H : Heap) (locs : List Loc) (lsM : Array Slot), jp lbl ls st m = some (o, mF) → dRep D m s H → va_S (dA e) s.heap H locs → m0s ≤ m.2.2 → dHas lsM (dMl j) ls → W p l ee R s mth args below meth c H locs (m.2.1 - s.heap.size) (m.2.2 - m0s) Q (F0 mth (dpc j lbl) lsM st))
    (hret : ∀ (v : Option Value) (pc : Nat) (H : Heap) (locs : List Loc) (lsM : Array Slot), o = .inl v → dRetOK j v pc → dRep D mF s H → va_S (dA e) s.heap H locs → W p l ee R s mth args below meth c H locs (mF.2.1 - s.heap.size) (mF.2.2 - m0s) Q (F0 mth pc lsM v.toList))
    (hnew : dTr j = false → ∀ (E pc ik is ic : Nat) (m : dMem) (H : Heap) (locs : List Loc) (lsM : Array Slot), o = .inr E → mF = (m.1, m.2.1 + 1, m.2.2 + 6) → okX j pc (.new ik) E 0 is ic = true → decode (dBy j) pc = .ok (.new ik, 3) → dRep D m s H → va_S (dA e) s.heap H locs → m0s ≤ m.2.2 → lsM.size = c.maxLocals → W p l ee R s mth args below meth c H locs (m.2.1 - s.heap.size) (m.2.2 - m0s) Q (F0 mth pc lsM []))
    (hthr : dTr j = false → ∀ (E pc : Nat) (H : Heap) (locs : List Loc) (lsM : Array Slot) (rest : List Value) (q : Addr) (ce : Cell), o = .inr E → dRep D mF s H → va_S (dA e) s.heap H locs → H[q]? = some ce → ce.vm = .none → s.vm.findClass (dEx E) = some ce.cls → vx_W p l ee R s mth args below meth c H locs (mF.2.1 - s.heap.size) (mF.2.2 - m0s) Q (F0 mth pc lsM rest) q)
    (htr : dTr j = true → ∃ v, o = .inl v) :
    ∀ (ops : List dOp) (pc : Nat) (ls : dLs) (st : List Value) (m : dMem) (H : Heap) (locs : List Loc) (lsM : Array Slot), dx e cl jp (dhd j) ops ls st m = some (o, mF) → okOps j pc ops = true → dRep D m s H → va_S (dA e) s.heap H locs → m0s ≤ m.2.2 → dHas lsM (dMl j) ls →
      W p l ee R s mth args below meth c H locs (m.2.1 - s.heap.size) (m.2.2 - m0s) Q (F0 mth pc lsM st)
  | [], pc, ls, st, m, H, locs, lsM, h, hok, hR, hS, hm0, hL => by cases h
  | (ins, pc', ln, r1, r2, r3, r4) :: ops, pc, ls, st, m, H, locs, lsM, h, hok, hR, hS, hm0, hL => by
    have ih := dx_snd C hRc hRs hclM hjpM hcl hjp hret hnew hthr htr ops
    have hmono := dx_mono (e := e) (hd := dhd j) hclM hjpM ops
    have hC := C
    obtain ⟨hx, hbc, hml, hown, hlk, hts, hst, hnm, htab, hrt, hI, hfr, hlo⟩ := C
    have hK := hI.1
    have hsz : lsM.size = c.maxLocals := by rw [hml]; exact hL.1
    have hHm : s.heap.size ≤ m.2.1 := by rw [← hR.1]; exact hS.1
    have hcall : ∀ {ik r1 r2 r3 r4 idx : Nat} (hc : okCall j pc idx ik r1 r2 r3 r4 = true) (hdg : decode (dBy j) pc = .ok (dCin ik idx, 3)) (hn : okOps j (pc + 3) ops = true)
        (h : dCall cl jp (dhd j) r1 r2 r3 r4 ls st m (fun st m => dx e cl jp (dhd j) ops ls st m) = some (o, mF)), W p l ee R s mth args below meth c H locs (m.2.1 - s.heap.size) (m.2.2 - m0s) Q (F0 mth pc lsM st) := by
      intro ik r1 r2 r3 r4 idx hc hdg hn h
      obtain ⟨as, rest, o', m', hsp, hsum, hcl1, hcase⟩ := dCall_inv h
      obtain ⟨xs, x1, x2, x3⟩ := dSpl_eq r2 [] st as rest hsp
      rw [List.append_nil] at x3
      have hc9 := hc
      simp only [okCall, Bool.and_eq_true, Bool.not_eq_true'] at hc9
      obtain ⟨⟨⟨⟨⟨⟨⟨h1, h1b⟩, h1c⟩, h2⟩, h3⟩, h4⟩, h5⟩, h6⟩ := hc9
      have hj1 : r1 < dNM := dBlt h1
      have hj2 : r1 ≠ dLaw := fun q => by subst q; rw [show Nat.beq dLaw dLaw = true from Nat.beq_refl _] at h1b; cases h1b
      have hle := hclM _ _ _ _ _ hcl1
      have hle2 : dLe m' mF := by
        rcases hcase with ⟨v, -, hk⟩ | ⟨E, -, hk⟩
        · exact hmono _ _ _ _ _ hk
        · cases hb4 : Nat.beq r4 1 with
          | false => rw [hb4] at hk; simp only [cond_false, dPass] at hk; cases hk; exact dLe.rf
          | true =>
            rw [hb4] at hk
            simp only [cond_true, hJ] at hk
            cases hb5 : Nat.ble E 3 with
            | false => rw [hb5] at hk; simp only [cond_false] at hk; cases hk; exact dLe.rf
            | true =>
              rw [hb5] at hk
              simp only [cond_true] at hk
              split at hk
              · exact hjpM _ _ _ _ _ _ hk
              · cases hk; exact dLe.rf
      obtain ⟨e1, e2⟩ := hle
      obtain ⟨e3, e4⟩ := hle2
      have ec : m.2.1 - s.heap.size + (m'.2.1 - m.2.1) = m'.2.1 - s.heap.size := by omega
      have es : m.2.2 - m0s + (m'.2.2 - m.2.2) = m'.2.2 - m0s := by omega
      have hxs : st = as.reverse ++ rest := by rw [x2, x3, List.reverse_reverse]
      rw [hxs]
      refine s_call hC hc hdg (by rw [x3, List.length_reverse, x1]) hsum (hcl _ _ _ _ _ hcl1 hj1 hj2) ⟨e1, e2⟩ (by omega) (by omega) hR hS hsz (fun v H1 locs1 hv hR1 hS1 => ?_) (fun k q ce H1 locs1 hk9 hR1 hS1 hce hcv hcl9 => ?_)
      · rw [ec, es]
        rcases hcase with ⟨v', hv', hk⟩ | ⟨E, hE, -⟩
        · rw [hv] at hv'
          cases hv'
          exact ih _ _ _ _ _ _ _ hk hn hR1 hS1 (Nat.le_trans hm0 e2) hL
        · rw [hv] at hE; cases hE
      · rw [ec, es]
        rcases hcase with ⟨v', hv', -⟩ | ⟨E, hE, hk⟩
        · rw [hk9] at hv'; cases hv'
        · rw [hk9] at hE
          cases hE
          have pass : ∀ (hk : some ((.inr k, m') : dRes) = some (o, mF)), vx_W p l ee R s mth args below meth c H1 locs1 (m'.2.1 - s.heap.size) (m'.2.2 - m0s) Q (F0 mth pc lsM rest) q := by
            intro hk
            cases hk
            cases ht : dTr j with
            | true => obtain ⟨v, hv⟩ := htr ht; cases hv
            | false => exact hthr ht k pc H1 locs1 lsM rest q ce rfl hR1 hS1 hce hcv hcl9
          cases hb4 : Nat.beq r4 1 with
          | false => rw [hb4] at hk; simp only [cond_false, dPass] at hk; exact pass hk
          | true =>
            rw [hb4] at hk
            simp only [cond_true, hJ] at hk
            cases hb5 : Nat.ble k 3 with
            | false => rw [hb5] at hk; simp only [cond_false] at hk; exact pass hk
            | true =>
              rw [hb5] at hk
              simp only [cond_true] at hk
              split at hk
              · rename_i lbl hlb
                have hk3 := Nat.le_of_ble_eq_true hb5
                obtain rfl : r4 = 1 := Nat.eq_of_beq_eq_true hb4
                obtain ⟨-, hhd⟩ := ok2 h5
                have h9 := List.all_eq_true.mp hhd k (by
                  match k, hk3 with
                  | 0, _ => decide
                  | 1, _ => decide
                  | 2, _ => decide
                  | 3, _ => decide)
                rw [hlb] at h9
                obtain ⟨g1, g2⟩ := ok2 h9
                exact s_catch hC (Nat.le_of_ble_eq_true g1) hk3 hL hce hcv hcl9 (fun lsM' hL' => hjp _ _ _ _ _ _ _ hk hR1 hS1 (Nat.le_trans hm0 e2) hL') (dHh j) [] g2 rfl (fun z hz => by cases hz)
              · exact pass hk
    cases ins with
    | iconst n =>
      obtain ⟨ha, hb9, hX, hn⟩ := ok4 hok
      obtain rfl : ln = 1 := Nat.eq_of_beq_eq_true hb9
      have hdg := dDec_eq ha
      exact lv_iconst hx hbc hdg (of_decide_eq_true hX) (ih _ _ _ _ _ _ _ h hn hR hS hm0 hL)
    | bipush n =>
      obtain ⟨ha, hb9, hX, hn⟩ := ok4 hok
      obtain rfl : ln = 2 := Nat.eq_of_beq_eq_true hb9
      have hdg := dDec_eq ha
      exact lv_bipush hx hbc hdg (of_decide_eq_true hX) (ih _ _ _ _ _ _ _ h hn hR hS hm0 hL)
    | sipush n =>
      obtain ⟨ha, hb9, hX, hn⟩ := ok4 hok
      obtain rfl : ln = 3 := Nat.eq_of_beq_eq_true hb9
      have hdg := dDec_eq ha
      exact lv_sipush hx hbc hdg (of_decide_eq_true hX) (ih _ _ _ _ _ _ _ h hn hR hS hm0 hL)
    | lconst n =>
      obtain ⟨ha, hb9, hX, hn⟩ := ok4 hok
      obtain rfl : ln = 1 := Nat.eq_of_beq_eq_true hb9
      have hdg := dDec_eq ha
      exact lv_lconst hx hbc hdg (by rw [show n.val = r1 from Nat.eq_of_beq_eq_true hX]) (ih _ _ _ _ _ _ _ h hn hR hS hm0 hL)
    | fconst n =>
      obtain ⟨ha, hb9, hX, hn⟩ := ok4 hok
      obtain rfl : ln = 1 := Nat.eq_of_beq_eq_true hb9
      have hdg := dDec_eq ha
      obtain rfl : n = 0 := Fin.ext (Nat.eq_of_beq_eq_true hX)
      exact lv_fconst0 hx hbc hdg (ih _ _ _ _ _ _ _ h hn hR hS hm0 hL)
    | dconst n =>
      obtain ⟨ha, hb9, hX, hn⟩ := ok4 hok
      obtain rfl : ln = 1 := Nat.eq_of_beq_eq_true hb9
      have hdg := dDec_eq ha
      obtain rfl : n = 0 := Fin.ext (Nat.eq_of_beq_eq_true hX)
      exact lv_dconst0 hx hbc hdg (ih _ _ _ _ _ _ _ h hn hR hS hm0 hL)
    | ldc i =>
      obtain ⟨ha, hb9, hX, hn⟩ := ok4 hok
      obtain rfl : ln = 2 := Nat.eq_of_beq_eq_true hb9
      have hdg := dDec_eq ha
      match r1, h, hX with
      | 0, h, hX => exact lv_ldc hx hbc hown (hts _ (dKi_ok _ (b3_eq hX))) hdg (ih _ _ _ _ _ _ _ h hn hR hS hm0 hL)
      | 1, h, hX =>
        obtain ⟨x, hx1, hx2⟩ : ∃ x, dStr[r2]? = some x ∧ (Nat.beq x.1 (dOn j) && Nat.beq x.2.1 i) = true := by
          have h9 : bK dStr r2 (dOn j) i = true := hX
          unfold bK at h9
          split at h9
          · rename_i x hx1; exact ⟨x, hx1, h9⟩
          · cases h9
        obtain ⟨y1, y2⟩ := ok2 hx2
        have hv : vk_R (dOwn x.1) x.2.1 x.2.2 (e.2 r2) s := hI.2.2.2.2.2.2.2.1 r2 x hx1
        rw [Nat.eq_of_beq_eq_true y1, Nat.eq_of_beq_eq_true y2] at hv
        exact s_ldc hx hbc hown hv hdg (ih _ _ _ _ _ _ _ h hn hR hS hm0 hL)
      | n + 2, h, hX => cases h
    | ldc_w i =>
      obtain ⟨ha, hb9, hX, hn⟩ := ok4 hok
      obtain rfl : ln = 3 := Nat.eq_of_beq_eq_true hb9
      have hdg := dDec_eq ha
      match r1, h, hX with
      | 0, h, hX => cases hX
      | 1, h, hX =>
        obtain ⟨x, hx1, hx2⟩ : ∃ x, dStr[r2]? = some x ∧ (Nat.beq x.1 (dOn j) && Nat.beq x.2.1 i) = true := by
          have h9 : bK dStr r2 (dOn j) i = true := hX
          unfold bK at h9
          split at h9
          · rename_i x hx1; exact ⟨x, hx1, h9⟩
          · cases h9
        obtain ⟨y1, y2⟩ := ok2 hx2
        have hv : vk_R (dOwn x.1) x.2.1 x.2.2 (e.2 r2) s := hI.2.2.2.2.2.2.2.1 r2 x hx1
        rw [Nat.eq_of_beq_eq_true y1, Nat.eq_of_beq_eq_true y2] at hv
        exact s_ldcw hx hbc hown hv hdg (ih _ _ _ _ _ _ _ h hn hR hS hm0 hL)
      | n + 2, h, hX => cases h
    | ldc2_w i =>
      obtain ⟨ha, hb9, hX, hn⟩ := ok4 hok
      obtain rfl : ln = 3 := Nat.eq_of_beq_eq_true hb9
      have hdg := dDec_eq ha
      exact lv_ldc2 hx hbc hown (hts _ (dKl_ok _ (b3_eq hX))) hdg (ih _ _ _ _ _ _ _ h hn hR hS hm0 hL)
    | getstatic i =>
      obtain ⟨ha, hb9, hX, hn⟩ := ok4 hok
      obtain rfl : ln = 3 := Nat.eq_of_beq_eq_true hb9
      have hdg := dDec_eq ha
      match r1, h, hX with
      | 0, h, hX =>
        obtain ⟨y1, y2⟩ := ok2 hX
        obtain rfl : r2 = 1 := Nat.eq_of_beq_eq_true y1
        obtain ⟨hl, -⟩ := dSt_ok _ (b3_eq y2)
        exact va_gets hx hbc hI.2.2.2.1 hS hown (hts _ hl) (fun _ z => z) hdg (ih _ _ _ _ _ _ _ h hn hR hS hm0 hL)
      | 1, h, hX =>
        obtain ⟨y0, y2⟩ := ok2 hX
        obtain ⟨hl, hk⟩ := dSt_ok _ (b3_eq y2)
        rcases hk with hk | hk | hk
        · simp only at hk
          subst hk
          exact absurd (show Nat.ble 1000 0 = true from y0) (by decide)
        · simp only at hk
          subst hk
          exact va_gets hx hbc hI.2.2.2.2.1 hS hown (hts _ hl) (fun _ z => z) hdg (ih _ _ _ _ _ _ _ h hn hR hS hm0 hL)
        · simp only at hk
          subst hk
          exact va_gets hx hbc hI.2.2.2.2.2.1 hS hown (hts _ hl) (fun _ z => z) hdg (ih _ _ _ _ _ _ _ h hn hR hS hm0 hL)
      | n + 2, h, hX => cases h
    | iload i =>
      obtain ⟨ha, hb9, hX, hn⟩ := ok4 hok
      obtain rfl : ln = 2 := Nat.eq_of_beq_eq_true hb9
      have hdg := dDec_eq ha
      simp only [dx] at h
      split at h
      · rename_i x h1
        exact lv_iload hx hbc hdg (hL.at h1) (ih _ _ _ _ _ _ _ h hn hR hS hm0 hL)
      · cases h
    | lload i =>
      obtain ⟨ha, hb9, hX, hn⟩ := ok4 hok
      obtain rfl : ln = 2 := Nat.eq_of_beq_eq_true hb9
      have hdg := dDec_eq ha
      simp only [dx] at h
      split at h
      · rename_i x h1
        exact lv_lload hx hbc hdg (hL.at h1) (ih _ _ _ _ _ _ _ h hn hR hS hm0 hL)
      · cases h
    | fload i =>
      obtain ⟨ha, hb9, hX, hn⟩ := ok4 hok
      obtain rfl : ln = 2 := Nat.eq_of_beq_eq_true hb9
      have hdg := dDec_eq ha
      simp only [dx] at h
      split at h
      · rename_i x h1
        exact lv_fload hx hbc hdg (hL.at h1) (ih _ _ _ _ _ _ _ h hn hR hS hm0 hL)
      · cases h
    | dload i =>
      obtain ⟨ha, hb9, hX, hn⟩ := ok4 hok
      obtain rfl : ln = 2 := Nat.eq_of_beq_eq_true hb9
      have hdg := dDec_eq ha
      simp only [dx] at h
      split at h
      · rename_i x h1
        exact lv_dload hx hbc hdg (hL.at h1) (ih _ _ _ _ _ _ _ h hn hR hS hm0 hL)
      · cases h
    | fload_n i =>
      obtain ⟨ha, hb9, hX, hn⟩ := ok4 hok
      obtain rfl : ln = 1 := Nat.eq_of_beq_eq_true hb9
      have hdg := dDec_eq ha
      simp only [dx] at h
      split at h
      · rename_i x h1
        exact lv_fload_n hx hbc hdg rfl (hL.at h1) (ih _ _ _ _ _ _ _ h hn hR hS hm0 hL)
      · cases h
    | iload_n i =>
      obtain ⟨ha, hb9, hX, hn⟩ := ok4 hok
      obtain rfl : ln = 1 := Nat.eq_of_beq_eq_true hb9
      have hdg := dDec_eq ha
      simp only [dx] at h
      split at h
      · rename_i x h1
        exact lv_iload_n hx hbc hdg rfl (hL.at h1) (ih _ _ _ _ _ _ _ h hn hR hS hm0 hL)
      · cases h
    | lload_n i =>
      obtain ⟨ha, hb9, hX, hn⟩ := ok4 hok
      obtain rfl : ln = 1 := Nat.eq_of_beq_eq_true hb9
      have hdg := dDec_eq ha
      simp only [dx] at h
      split at h
      · rename_i x h1
        exact lv_lload_n hx hbc hdg rfl (hL.at h1) (ih _ _ _ _ _ _ _ h hn hR hS hm0 hL)
      · cases h
    | aload_n i =>
      obtain ⟨ha, hb9, hX, hn⟩ := ok4 hok
      obtain rfl : ln = 1 := Nat.eq_of_beq_eq_true hb9
      have hdg := dDec_eq ha
      simp only [dx] at h
      split at h
      · rename_i x h1
        exact lv_aload_n hx hbc hdg rfl (hL.at h1) (ih _ _ _ _ _ _ _ h hn hR hS hm0 hL)
      · cases h
    | aload i =>
      obtain ⟨ha, hb9, hX, hn⟩ := ok4 hok
      obtain rfl : ln = 2 := Nat.eq_of_beq_eq_true hb9
      have hdg := dDec_eq ha
      simp only [dx] at h
      split at h
      · rename_i x h1
        exact lv_aload hx hbc hdg (hL.at h1) (ih _ _ _ _ _ _ _ h hn hR hS hm0 hL)
      · rename_i h1
        exact lv_aloadN hx hbc hdg (hL.at h1) (ih _ _ _ _ _ _ _ h hn hR hS hm0 hL)
      · cases h
    | istore i =>
      obtain ⟨ha, hb9, hX, hn⟩ := ok4 hok
      obtain rfl : ln = 2 := Nat.eq_of_beq_eq_true hb9
      have hdg := dDec_eq ha
      simp only [dx] at h
      split at h
      · exact lv_istore hx hbc hdg (show lv_has _ _ _ from hL) (dBlt hX) rfl (fun ls' h' => ih _ _ _ _ _ _ _ h hn hR hS hm0 (dHas.st1 rfl h'))
      · cases h
    | istore_n i =>
      obtain ⟨ha, hb9, hX, hn⟩ := ok4 hok
      obtain rfl : ln = 1 := Nat.eq_of_beq_eq_true hb9
      have hdg := dDec_eq ha
      simp only [dx] at h
      split at h
      · exact lv_istore_n hx hbc hdg rfl (show lv_has _ _ _ from hL) (dBlt hX) rfl (fun ls' h' => ih _ _ _ _ _ _ _ h hn hR hS hm0 (dHas.st1 rfl h'))
      · cases h
    | lstore_n i =>
      obtain ⟨ha, hb9, hX, hn⟩ := ok4 hok
      obtain rfl : ln = 1 := Nat.eq_of_beq_eq_true hb9
      have hdg := dDec_eq ha
      simp only [dx] at h
      split at h
      · exact lv_lstore_n hx hbc hdg rfl (show lv_has _ _ _ from hL) (dBlt hX) rfl (fun ls' h' => ih _ _ _ _ _ _ _ h hn hR hS hm0 (dHas.st2 rfl h'))
      · cases h
    | fstore i =>
      obtain ⟨ha, hb9, hX, hn⟩ := ok4 hok
      obtain rfl : ln = 2 := Nat.eq_of_beq_eq_true hb9
      have hdg := dDec_eq ha
      simp only [dx] at h
      split at h
      · exact lv_fstore hx hbc hdg (show lv_has _ _ _ from hL) (dBlt hX) rfl (fun ls' h' => ih _ _ _ _ _ _ _ h hn hR hS hm0 (dHas.st1 rfl h'))
      · cases h
    | dstore i =>
      obtain ⟨ha, hb9, hX, hn⟩ := ok4 hok
      obtain rfl : ln = 2 := Nat.eq_of_beq_eq_true hb9
      have hdg := dDec_eq ha
      simp only [dx] at h
      split at h
      · exact lv_dstore hx hbc hdg (show lv_has _ _ _ from hL) (dBlt hX) rfl (fun ls' h' => ih _ _ _ _ _ _ _ h hn hR hS hm0 (dHas.st2 rfl h'))
      · cases h
    | fstore_n i =>
      obtain ⟨ha, hb9, hX, hn⟩ := ok4 hok
      obtain rfl : ln = 1 := Nat.eq_of_beq_eq_true hb9
      have hdg := dDec_eq ha
      simp only [dx] at h
      split at h
      · exact lv_fstore_n hx hbc hdg rfl (show lv_has _ _ _ from hL) (dBlt hX) rfl (fun ls' h' => ih _ _ _ _ _ _ _ h hn hR hS hm0 (dHas.st1 rfl h'))
      · cases h
    | astore_n i =>
      obtain ⟨ha, hb9, hX, hn⟩ := ok4 hok
      obtain rfl : ln = 1 := Nat.eq_of_beq_eq_true hb9
      have hdg := dDec_eq ha
      simp only [dx] at h
      split at h
      · exact lv_astore_n hx hbc hdg rfl (show lv_has _ _ _ from hL) (dBlt hX) rfl (fun ls' h' => ih _ _ _ _ _ _ _ h hn hR hS hm0 (dHas.st1 rfl h'))
      · cases h
    | astore i =>
      obtain ⟨ha, hb9, hX, hn⟩ := ok4 hok
      obtain rfl : ln = 2 := Nat.eq_of_beq_eq_true hb9
      have hdg := dDec_eq ha
      simp only [dx] at h
      split at h
      · exact lv_astore hx hbc hdg (show lv_has _ _ _ from hL) (dBlt hX) rfl (fun ls' h' => ih _ _ _ _ _ _ _ h hn hR hS hm0 (dHas.st1 rfl h'))
      · exact lv_astoreN hx hbc hdg (show lv_has _ _ _ from hL) (dBlt hX) rfl (fun ls' h' => ih _ _ _ _ _ _ _ h hn hR hS hm0 (dHas.st1 rfl h'))
      · cases h
    | aconst_null =>
      obtain ⟨ha, hb9, hX, hn⟩ := ok4 hok
      obtain rfl : ln = 1 := Nat.eq_of_beq_eq_true hb9
      have hdg := dDec_eq ha
      simp only [dx] at h
      exact lv_null hx hbc hdg (ih _ _ _ _ _ _ _ h hn hR hS hm0 hL)
    | ifnonnull off =>
      obtain ⟨ha, hb9, hX, hn⟩ := ok4 hok
      obtain rfl : ln = 3 := Nat.eq_of_beq_eq_true hb9
      have hdg := dDec_eq ha
      have htg := of_decide_eq_true hX
      simp only [dx] at h
      split at h
      · exact lv_ifnonnull hx hbc hdg htg (hjp _ _ _ _ _ _ _ h hR hS hm0 (hL.mono (fun i v hi => dMk_get ls r2 i v hi)))
      · exact lv_ifnonnullN hx hbc hdg (ih _ _ _ _ _ _ _ h hn hR hS hm0 hL)
      · cases h
    | checkcast i =>
      obtain ⟨ha, hb9, hX, hn⟩ := ok4 hok
      obtain rfl : ln = 3 := Nat.eq_of_beq_eq_true hb9
      have hdg := dDec_eq ha
      simp only [dx] at h
      split at h
      · rename_i a st'
        cases hB : isB e m a with
        | false => rw [hB] at h; cases h
        | true =>
          rw [hB] at h
          exact s_castB hx hbc hI.2.2.2.2.2.2.2.2.2.2.2.2.2.2.2 hR hown (hts _ (dKb_ok _ (b2_eq hX))) hB hdg (ih _ _ _ _ _ _ _ h hn hR hS hm0 hL)
      · cases h
    | iinc i n =>
      obtain ⟨ha, hb9, hX, hn⟩ := ok4 hok
      obtain rfl : ln = 3 := Nat.eq_of_beq_eq_true hb9
      have hdg := dDec_eq ha
      simp only [dx] at h
      split at h
      · rename_i x h1
        obtain ⟨y1, y2⟩ := ok2 hX
        obtain ⟨k, hk⟩ := List.getElem?_of_mem ((dlv_mem ls 0 i (.int x)).mpr ⟨i, by omega, h1⟩)
        exact lv_iinc hx hbc hdg (show lv_has _ _ _ from hL) hk (by rw [of_decide_eq_true y2]) (dBlt y1) rfl (fun ls' h' => ih _ _ _ _ _ _ _ h hn hR hS hm0 (dHas.st1 rfl h'))
      · cases h
    | iadd =>
      obtain ⟨ha, hb9, hX, hn⟩ := ok4 hok
      obtain rfl : ln = 1 := Nat.eq_of_beq_eq_true hb9
      have hdg := dDec_eq ha
      simp only [dx] at h
      split at h
      · exact lv_iadd hx hbc hdg (ih _ _ _ _ _ _ _ h hn hR hS hm0 hL)
      · cases h
    | isub =>
      obtain ⟨ha, hb9, hX, hn⟩ := ok4 hok
      obtain rfl : ln = 1 := Nat.eq_of_beq_eq_true hb9
      have hdg := dDec_eq ha
      simp only [dx] at h
      split at h
      · exact lv_isub hx hbc hdg (ih _ _ _ _ _ _ _ h hn hR hS hm0 hL)
      · cases h
    | imul =>
      obtain ⟨ha, hb9, hX, hn⟩ := ok4 hok
      obtain rfl : ln = 1 := Nat.eq_of_beq_eq_true hb9
      have hdg := dDec_eq ha
      simp only [dx] at h
      split at h
      · exact lv_imul hx hbc hdg (ih _ _ _ _ _ _ _ h hn hR hS hm0 hL)
      · cases h
    | iand =>
      obtain ⟨ha, hb9, hX, hn⟩ := ok4 hok
      obtain rfl : ln = 1 := Nat.eq_of_beq_eq_true hb9
      have hdg := dDec_eq ha
      simp only [dx] at h
      split at h
      · exact lv_iand hx hbc hdg (ih _ _ _ _ _ _ _ h hn hR hS hm0 hL)
      · cases h
    | ior =>
      obtain ⟨ha, hb9, hX, hn⟩ := ok4 hok
      obtain rfl : ln = 1 := Nat.eq_of_beq_eq_true hb9
      have hdg := dDec_eq ha
      simp only [dx] at h
      split at h
      · exact lv_ior hx hbc hdg (ih _ _ _ _ _ _ _ h hn hR hS hm0 hL)
      · cases h
    | ineg =>
      obtain ⟨ha, hb9, hX, hn⟩ := ok4 hok
      obtain rfl : ln = 1 := Nat.eq_of_beq_eq_true hb9
      have hdg := dDec_eq ha
      simp only [dx] at h
      split at h
      · exact lv_ineg hx hbc hdg (ih _ _ _ _ _ _ _ h hn hR hS hm0 hL)
      · cases h
    | ishl =>
      obtain ⟨ha, hb9, hX, hn⟩ := ok4 hok
      obtain rfl : ln = 1 := Nat.eq_of_beq_eq_true hb9
      have hdg := dDec_eq ha
      simp only [dx] at h
      split at h
      · exact lv_ishl hx hbc hdg (ih _ _ _ _ _ _ _ h hn hR hS hm0 hL)
      · cases h
    | ishr =>
      obtain ⟨ha, hb9, hX, hn⟩ := ok4 hok
      obtain rfl : ln = 1 := Nat.eq_of_beq_eq_true hb9
      have hdg := dDec_eq ha
      simp only [dx] at h
      split at h
      · exact lv_ishr hx hbc hdg (ih _ _ _ _ _ _ _ h hn hR hS hm0 hL)
      · cases h
    | lor =>
      obtain ⟨ha, hb9, hX, hn⟩ := ok4 hok
      obtain rfl : ln = 1 := Nat.eq_of_beq_eq_true hb9
      have hdg := dDec_eq ha
      simp only [dx] at h
      split at h
      · exact lv_lor hx hbc hdg (ih _ _ _ _ _ _ _ h hn hR hS hm0 hL)
      · cases h
    | lshl =>
      obtain ⟨ha, hb9, hX, hn⟩ := ok4 hok
      obtain rfl : ln = 1 := Nat.eq_of_beq_eq_true hb9
      have hdg := dDec_eq ha
      simp only [dx] at h
      split at h
      · exact lv_lshl hx hbc hdg rfl (ih _ _ _ _ _ _ _ h hn hR hS hm0 hL)
      · cases h
    | lushr =>
      obtain ⟨ha, hb9, hX, hn⟩ := ok4 hok
      obtain rfl : ln = 1 := Nat.eq_of_beq_eq_true hb9
      have hdg := dDec_eq ha
      simp only [dx] at h
      split at h
      · exact lv_lushr hx hbc hdg rfl (ih _ _ _ _ _ _ _ h hn hR hS hm0 hL)
      · cases h
    | i2l =>
      obtain ⟨ha, hb9, hX, hn⟩ := ok4 hok
      obtain rfl : ln = 1 := Nat.eq_of_beq_eq_true hb9
      have hdg := dDec_eq ha
      simp only [dx] at h
      split at h
      · exact lv_i2l hx hbc hdg rfl (ih _ _ _ _ _ _ _ h hn hR hS hm0 hL)
      · cases h
    | l2i =>
      obtain ⟨ha, hb9, hX, hn⟩ := ok4 hok
      obtain rfl : ln = 1 := Nat.eq_of_beq_eq_true hb9
      have hdg := dDec_eq ha
      simp only [dx] at h
      split at h
      · exact lv_l2i hx hbc hdg rfl (ih _ _ _ _ _ _ _ h hn hR hS hm0 hL)
      · cases h
    | i2b =>
      obtain ⟨ha, hb9, hX, hn⟩ := ok4 hok
      obtain rfl : ln = 1 := Nat.eq_of_beq_eq_true hb9
      have hdg := dDec_eq ha
      simp only [dx] at h
      split at h
      · exact lv_i2b hx hbc hdg rfl (ih _ _ _ _ _ _ _ h hn hR hS hm0 hL)
      · cases h
    | i2c =>
      obtain ⟨ha, hb9, hX, hn⟩ := ok4 hok
      obtain rfl : ln = 1 := Nat.eq_of_beq_eq_true hb9
      have hdg := dDec_eq ha
      simp only [dx] at h
      split at h
      · exact lv_i2c hx hbc hdg rfl (ih _ _ _ _ _ _ _ h hn hR hS hm0 hL)
      · cases h
    | i2f =>
      obtain ⟨ha, hb9, hX, hn⟩ := ok4 hok
      obtain rfl : ln = 1 := Nat.eq_of_beq_eq_true hb9
      have hdg := dDec_eq ha
      simp only [dx] at h
      split at h
      · exact lv_i2f hx hbc hdg (ih _ _ _ _ _ _ _ h hn hR hS hm0 hL)
      · cases h
    | i2d =>
      obtain ⟨ha, hb9, hX, hn⟩ := ok4 hok
      obtain rfl : ln = 1 := Nat.eq_of_beq_eq_true hb9
      have hdg := dDec_eq ha
      simp only [dx] at h
      split at h
      · exact lv_i2d hx hbc hdg (ih _ _ _ _ _ _ _ h hn hR hS hm0 hL)
      · cases h
    | fcmp op =>
      obtain ⟨ha, hb9, hX, hn⟩ := ok4 hok
      obtain rfl : ln = 1 := Nat.eq_of_beq_eq_true hb9
      have hdg := dDec_eq ha
      simp only [dx] at h
      split at h
      · exact lv_fcmp hx hbc hdg (ih _ _ _ _ _ _ _ h hn hR hS hm0 hL)
      · cases h
    | dcmp op =>
      obtain ⟨ha, hb9, hX, hn⟩ := ok4 hok
      obtain rfl : ln = 1 := Nat.eq_of_beq_eq_true hb9
      have hdg := dDec_eq ha
      simp only [dx] at h
      split at h
      · exact lv_dcmp hx hbc hdg (ih _ _ _ _ _ _ _ h hn hR hS hm0 hL)
      · cases h
    | lcmp =>
      obtain ⟨ha, hb9, hX, hn⟩ := ok4 hok
      obtain rfl : ln = 1 := Nat.eq_of_beq_eq_true hb9
      have hdg := dDec_eq ha
      simp only [dx] at h
      split at h
      · exact W.lcmp hx hbc hdg (ih _ _ _ _ _ _ _ h hn hR hS hm0 hL)
      · cases h
    | dup_x1 =>
      obtain ⟨ha, hb9, hX, hn⟩ := ok4 hok
      obtain rfl : ln = 1 := Nat.eq_of_beq_eq_true hb9
      have hdg := dDec_eq ha
      simp only [dx] at h
      split at h
      · exact lv_dup_x1 hx hbc hdg rfl rfl (ih _ _ _ _ _ _ _ h hn hR hS hm0 hL)
      · cases h
    | dup2 =>
      obtain ⟨ha, hb9, hX, hn⟩ := ok4 hok
      obtain rfl : ln = 1 := Nat.eq_of_beq_eq_true hb9
      have hdg := dDec_eq ha
      simp only [dx] at h
      split at h
      · exact lv_dup2_11 hx hbc hdg rfl rfl (ih _ _ _ _ _ _ _ h hn hR hS hm0 hL)
      · cases h
    | idiv =>
      obtain ⟨ha, hb9, hX, hn⟩ := ok4 hok
      obtain rfl : ln = 1 := Nat.eq_of_beq_eq_true hb9
      have hdg := dDec_eq ha
      simp only [dx] at h
      split at h
      · split at h
        · cases h
        · rename_i h1
          exact lv_idiv hx hbc hdg h1 (ih _ _ _ _ _ _ _ h hn hR hS hm0 hL)
      · cases h
    | irem =>
      obtain ⟨ha, hb9, hX, hn⟩ := ok4 hok
      obtain rfl : ln = 1 := Nat.eq_of_beq_eq_true hb9
      have hdg := dDec_eq ha
      simp only [dx] at h
      split at h
      · split at h
        · cases h
        · rename_i h1
          exact lv_irem hx hbc hdg h1 (ih _ _ _ _ _ _ _ h hn hR hS hm0 hL)
      · cases h
    | f2d =>
      obtain ⟨ha, hb9, hX, hn⟩ := ok4 hok
      obtain rfl : ln = 1 := Nat.eq_of_beq_eq_true hb9
      have hdg := dDec_eq ha
      simp only [dx] at h
      split at h
      · split at h
        · rename_i h1
          exact lv_f2d hx hbc hdg h1 (ih _ _ _ _ _ _ _ h hn hR hS hm0 hL)
        · cases h
      · cases h
    | fdiv =>
      obtain ⟨ha, hb9, hX, hn⟩ := ok4 hok
      obtain rfl : ln = 1 := Nat.eq_of_beq_eq_true hb9
      have hdg := dDec_eq ha
      simp only [dx] at h
      split at h
      · split at h
        · rename_i h1
          exact lv_fdiv hx hbc hdg h1 (ih _ _ _ _ _ _ _ h hn hR hS hm0 hL)
        · cases h
      · cases h
    | ddiv =>
      obtain ⟨ha, hb9, hX, hn⟩ := ok4 hok
      obtain rfl : ln = 1 := Nat.eq_of_beq_eq_true hb9
      have hdg := dDec_eq ha
      simp only [dx] at h
      split at h
      · split at h
        · rename_i h1
          exact lv_ddiv hx hbc hdg h1 (ih _ _ _ _ _ _ _ h hn hR hS hm0 hL)
        · cases h
      · cases h
    | dup =>
      obtain ⟨ha, hb9, hX, hn⟩ := ok4 hok
      obtain rfl : ln = 1 := Nat.eq_of_beq_eq_true hb9
      have hdg := dDec_eq ha
      simp only [dx] at h
      split at h
      · exact lv_dup hx hbc hdg rfl (ih _ _ _ _ _ _ _ h hn hR hS hm0 hL)
      · exact lv_dup hx hbc hdg rfl (ih _ _ _ _ _ _ _ h hn hR hS hm0 hL)
      · cases h
    | pop =>
      obtain ⟨ha, hb9, hX, hn⟩ := ok4 hok
      obtain rfl : ln = 1 := Nat.eq_of_beq_eq_true hb9
      have hdg := dDec_eq ha
      simp only [dx] at h
      split at h
      · exact lv_pop hx hbc hdg rfl (ih _ _ _ _ _ _ _ h hn hR hS hm0 hL)
      · exact lv_pop hx hbc hdg rfl (ih _ _ _ _ _ _ _ h hn hR hS hm0 hL)
      · cases h
    | getfield i =>
      obtain ⟨ha, hb9, hX, hn⟩ := ok4 hok
      obtain rfl : ln = 3 := Nat.eq_of_beq_eq_true hb9
      have hdg := dDec_eq ha
      have hGet : ∀ {a : Nat} {v : Value} {f : Nat → Value} {rest : List Value}, m.1 a = some (.inr (r1, f)) → f r2 = v → W p l ee R s mth args below meth c H locs (m.2.1 - s.heap.size) (m.2.2 - m0s) Q (F0 mth (pc + 3) lsM (v :: rest)) → W p l ee R s mth args below meth c H locs (m.2.1 - s.heap.size) (m.2.2 - m0s) Q (F0 mth pc lsM (.ref a :: rest)) := by
        intro a v f rest f1 f2 k
        have hX' : (b4 dFL (dOn j, i, r1, r2) || b4 dFN (dOn j, i, r1, r2)) = true := hX
        rcases Bool.or_eq_true_iff.mp hX' with hX' | hX'
        · exact s_get dCl_ok hx hbc hts hown hK hR (dFL_ok _ (b4_eq hX')) f1 f2 hdg k
        · exact s_getN dCl_ok hx hbc hts (fun _ _ _ _ _ _ hh => hI.2.2.2.2.2.2.2.2.2.1 _ (dNG_nestF hh)) hown hK hR (dFN_ok _ (b4_eq hX')) f1 f2 hdg k
      simp only [dx] at h
      split at h
      · split at h
        · obtain ⟨x, h1, h2⟩ := Option.bind_eq_some_iff.mp h
          obtain ⟨f, f1, f2⟩ := gI_eq h1
          exact hGet f1 f2 (ih _ _ _ _ _ _ _ h2 hn hR hS hm0 hL)
        · obtain ⟨x, h1, h2⟩ := Option.bind_eq_some_iff.mp h
          obtain ⟨f, f1, f2⟩ := gR_eq h1
          exact hGet f1 f2 (ih _ _ _ _ _ _ _ h2 hn hR hS hm0 hL)
        · cases h
      · cases h
    | putfield i =>
      obtain ⟨ha, hb9, hX, hn⟩ := ok4 hok
      obtain rfl : ln = 3 := Nat.eq_of_beq_eq_true hb9
      have hdg := dDec_eq ha
      obtain ⟨y1, y2⟩ := ok2 hX
      have h100 := hI.2.2.2.2.2.2.2.2.2.2.2.2.2.2.2
      have hPut : ∀ {a : Nat} {v : Value} {m' : dMem} {rest : List Value}, pV e m a r1 r2 v = some m' → narrow (dTy r1 r2) v = v → fits (dTy r1 r2) v = true → (∀ (H' : Heap) (locs' : List Loc), dRep D m' s H' → va_S (dA e) s.heap H' locs' → W p l ee R s mth args below meth c H' locs' (m.2.1 - s.heap.size) (m.2.2 - m0s) Q (F0 mth (pc + 3) lsM rest)) → W p l ee R s mth args below meth c H locs (m.2.1 - s.heap.size) (m.2.2 - m0s) Q (F0 mth pc lsM (v :: .ref a :: rest)) := by
        intro a v m' rest hp hn9 hf9 k
        rcases Bool.or_eq_true_iff.mp y1 with y1 | y1
        · exact s_put dCl_ok hx hbc hts hown hK hR hS h100 (dFL_ok _ (b4_eq y1)) (fun r hr hf => by rw [hnm]; exact okPut_fin y2 r hr hf) hp hn9 hf9 hdg k
        · obtain ⟨y1, y3⟩ := ok2 y1
          exact s_putN dCl_ok hx hbc hts (fun _ _ _ _ _ _ hh => hI.2.2.2.2.2.2.2.2.2.1 _ (dNG_nestF hh)) hown hK hR hS h100 (dFN_ok _ (b4_eq y1)) (fun r hr => by
            unfold okNf at y3
            rw [hr] at y3
            simpa using y3) hp hn9 hf9 hdg k
      simp only [dx] at h
      split at h
      · split at h
        · obtain ⟨m1, h1, h2⟩ := Option.bind_eq_some_iff.mp h
          have hp : pV e m _ r1 r2 _ = some m1 := h1
          obtain ⟨hme1, hme⟩ := pV_m hp
          have ht := okPut_0 y2
          refine hPut hp (by rw [ht]; rfl) (by rw [ht]; rfl) (fun H' locs' hR' hS' => ?_)
          have z := ih _ _ _ _ _ _ _ h2 hn hR' hS' (by rw [hme]; exact hm0) hL
          rw [hme1, hme] at z
          exact z
        · obtain ⟨m1, h1, h2⟩ := Option.bind_eq_some_iff.mp h
          unfold pZ at h1
          split at h1
          · rename_i hz
            obtain ⟨hme1, hme⟩ := pV_m h1
            have ht := okPut_2 y2
            refine hPut h1 (by rw [ht]; rcases hz with rfl | rfl <;> rfl) (by rw [ht]; rcases hz with rfl | rfl <;> rfl) (fun H' locs' hR' hS' => ?_)
            have z := ih _ _ _ _ _ _ _ h2 hn hR' hS' (by rw [hme]; exact hm0) hL
            rw [hme1, hme] at z
            exact z
          · cases h1
        · obtain ⟨m1, h1, h2⟩ := Option.bind_eq_some_iff.mp h
          unfold pB at h1
          split at h1
          · rename_i hz
            obtain ⟨hme1, hme⟩ := pV_m h1
            have ht := okPut_3 y2
            refine hPut h1 (by rw [ht]; show Value.int (Int8.toInt32 _) = _; rw [hz]) (by rw [ht, ← hz]; exact pk_fb _) (fun H' locs' hR' hS' => ?_)
            have z := ih _ _ _ _ _ _ _ h2 hn hR' hS' (by rw [hme]; exact hm0) hL
            rw [hme1, hme] at z
            exact z
          · cases h1
        · cases h
      · split at h
        · obtain ⟨m1, h1, h2⟩ := Option.bind_eq_some_iff.mp h
          have hp : pV e m _ r1 r2 _ = some m1 := h1
          obtain ⟨hme1, hme⟩ := pV_m hp
          have ht := okPut_1 y2
          refine hPut hp (ht _).1 (ht _).2 (fun H' locs' hR' hS' => ?_)
          have z := ih _ _ _ _ _ _ _ h2 hn hR' hS' (by rw [hme]; exact hm0) hL
          rw [hme1, hme] at z
          exact z
        · cases h
      · cases h
    | iaload =>
      obtain ⟨ha, hb9, hX, hn⟩ := ok4 hok
      obtain rfl : ln = 1 := Nat.eq_of_beq_eq_true hb9
      have hdg := dDec_eq ha
      simp only [dx] at h
      split at h
      · obtain ⟨x, h1, h2⟩ := Option.bind_eq_some_iff.mp h
        exact s_aI hx hbc hR h1 hdg (ih _ _ _ _ _ _ _ h2 hn hR hS hm0 hL)
      · cases h
    | laload =>
      obtain ⟨ha, hb9, hX, hn⟩ := ok4 hok
      obtain rfl : ln = 1 := Nat.eq_of_beq_eq_true hb9
      have hdg := dDec_eq ha
      simp only [dx] at h
      split at h
      · obtain ⟨x, h1, h2⟩ := Option.bind_eq_some_iff.mp h
        exact s_aL hx hbc hR h1 hdg (ih _ _ _ _ _ _ _ h2 hn hR hS hm0 hL)
      · cases h
    | daload =>
      obtain ⟨ha, hb9, hX, hn⟩ := ok4 hok
      obtain rfl : ln = 1 := Nat.eq_of_beq_eq_true hb9
      have hdg := dDec_eq ha
      simp only [dx] at h
      split at h
      · obtain ⟨x, h1, h2⟩ := Option.bind_eq_some_iff.mp h
        exact s_aD hx hbc hR h1 hdg (ih _ _ _ _ _ _ _ h2 hn hR hS hm0 hL)
      · cases h
    | arraylength =>
      obtain ⟨ha, hb9, hX, hn⟩ := ok4 hok
      obtain rfl : ln = 1 := Nat.eq_of_beq_eq_true hb9
      have hdg := dDec_eq ha
      simp only [dx] at h
      split at h
      · obtain ⟨x, h1, h2⟩ := Option.bind_eq_some_iff.mp h
        exact s_aN hx hbc hR h1 hdg (ih _ _ _ _ _ _ _ h2 hn hR hS hm0 hL)
      · cases h
    | aaload =>
      obtain ⟨ha, hb9, hX, hn⟩ := ok4 hok
      obtain rfl : ln = 1 := Nat.eq_of_beq_eq_true hb9
      have hdg := dDec_eq ha
      have hkd : r1 = 5 ∨ r1 = 6 := by
        rcases Bool.or_eq_true_iff.mp (show (Nat.beq r1 5 || Nat.beq r1 6) = true from hX) with z | z
        · exact Or.inl (Nat.eq_of_beq_eq_true z)
        · exact Or.inr (Nat.eq_of_beq_eq_true z)
      simp only [dx] at h
      split at h
      · obtain ⟨x, h1, h2⟩ := Option.bind_eq_some_iff.mp h
        exact s_aR hx hbc hR hkd h1 hdg (ih _ _ _ _ _ _ _ h2 hn hR hS hm0 hL)
      · cases h
    | baload =>
      obtain ⟨ha, hb9, hX, hn⟩ := ok4 hok
      obtain rfl : ln = 1 := Nat.eq_of_beq_eq_true hb9
      have hdg := dDec_eq ha
      simp only [dx] at h
      split at h
      · split at h
        · obtain ⟨x, h1, h2⟩ := Option.bind_eq_some_iff.mp h
          exact s_aB hx hbc hR (Or.inl rfl) h1 hdg (ih _ _ _ _ _ _ _ h2 hn hR hS hm0 hL)
        · obtain ⟨x, h1, h2⟩ := Option.bind_eq_some_iff.mp h
          exact s_aB hx hbc hR (Or.inr rfl) h1 hdg (ih _ _ _ _ _ _ _ h2 hn hR hS hm0 hL)
        · cases h
      · cases h
    | iastore =>
      obtain ⟨ha, hb9, hX, hn⟩ := ok4 hok
      obtain rfl : ln = 1 := Nat.eq_of_beq_eq_true hb9
      have hdg := dDec_eq ha
      simp only [dx] at h
      split at h
      · obtain ⟨x, h1, h2⟩ := Option.bind_eq_some_iff.mp h
        obtain ⟨hme1, hme⟩ := sI_m h1
        refine s_sI hx hbc hR hS h1 hdg (fun H' locs' hR' hS' => ?_)
        have z := ih _ _ _ _ _ _ _ h2 hn hR' hS' (by rw [hme]; exact hm0) hL
        rw [hme1, hme] at z
        exact z
      · cases h
    | lastore =>
      obtain ⟨ha, hb9, hX, hn⟩ := ok4 hok
      obtain rfl : ln = 1 := Nat.eq_of_beq_eq_true hb9
      have hdg := dDec_eq ha
      simp only [dx] at h
      split at h
      · obtain ⟨x, h1, h2⟩ := Option.bind_eq_some_iff.mp h
        obtain ⟨hme1, hme⟩ := sL_m h1
        refine s_sL hx hbc hR hS h1 hdg (fun H' locs' hR' hS' => ?_)
        have z := ih _ _ _ _ _ _ _ h2 hn hR' hS' (by rw [hme]; exact hm0) hL
        rw [hme1, hme] at z
        exact z
      · cases h
    | dastore =>
      obtain ⟨ha, hb9, hX, hn⟩ := ok4 hok
      obtain rfl : ln = 1 := Nat.eq_of_beq_eq_true hb9
      have hdg := dDec_eq ha
      simp only [dx] at h
      split at h
      · obtain ⟨x, h1, h2⟩ := Option.bind_eq_some_iff.mp h
        obtain ⟨hme1, hme⟩ := sD_m h1
        refine s_sD hx hbc hR hS h1 hdg (fun H' locs' hR' hS' => ?_)
        have z := ih _ _ _ _ _ _ _ h2 hn hR' hS' (by rw [hme]; exact hm0) hL
        rw [hme1, hme] at z
        exact z
      · cases h
    | aastore =>
      obtain ⟨ha, hb9, hX, hn⟩ := ok4 hok
      obtain rfl : ln = 1 := Nat.eq_of_beq_eq_true hb9
      have hdg := dDec_eq ha
      have hkd : (r1 = 2 ∧ r2 = 5) ∨ (r1 = 10 ∧ r2 = 6) := by
        rcases Bool.or_eq_true_iff.mp (show ((Nat.beq r1 2 && Nat.beq r2 5) || (Nat.beq r1 10 && Nat.beq r2 6)) = true from hX) with z | z
        · exact Or.inl ⟨Nat.eq_of_beq_eq_true (ok2 z).1, Nat.eq_of_beq_eq_true (ok2 z).2⟩
        · exact Or.inr ⟨Nat.eq_of_beq_eq_true (ok2 z).1, Nat.eq_of_beq_eq_true (ok2 z).2⟩
      simp only [dx] at h
      rcases hkd with ⟨rfl, rfl⟩ | ⟨rfl, rfl⟩
      · split at h
        · obtain ⟨x, h1, h2⟩ := Option.bind_eq_some_iff.mp h
          obtain ⟨hme1, hme⟩ := sR_m h1
          refine s_sR hx hbc hK hR hS h1 hdg (fun H' locs' hR' hS' => ?_)
          have z := ih _ _ _ _ _ _ _ h2 hn hR' hS' (by rw [hme]; exact hm0) hL
          rw [hme1, hme] at z
          exact z
        · cases h
      · split at h
        · obtain ⟨x, h1, h2⟩ := Option.bind_eq_some_iff.mp h
          obtain ⟨hme1, hme⟩ := sR_m h1
          refine s_sR6 hx hbc hK hR hS h1 hdg (fun H' locs' hR' hS' => ?_)
          have z := ih _ _ _ _ _ _ _ h2 hn hR' hS' (by rw [hme]; exact hm0) hL
          rw [hme1, hme] at z
          exact z
        · cases h
    | bastore =>
      obtain ⟨ha, hb9, hX, hn⟩ := ok4 hok
      obtain rfl : ln = 1 := Nat.eq_of_beq_eq_true hb9
      have hdg := dDec_eq ha
      simp only [dx] at h
      split at h
      · split at h
        · obtain ⟨x, h1, h2⟩ := Option.bind_eq_some_iff.mp h
          obtain ⟨hme1, hme⟩ := sI_m h1
          refine s_sB hx hbc hR hS (Or.inl rfl) h1 hdg (fun H' locs' hR' hS' => ?_)
          have z := ih _ _ _ _ _ _ _ h2 hn hR' hS' (by rw [hme]; exact hm0) hL
          rw [hme1, hme] at z
          exact z
        · obtain ⟨x, h1, h2⟩ := Option.bind_eq_some_iff.mp h
          obtain ⟨hme1, hme⟩ := sI_m h1
          refine s_sB hx hbc hR hS (Or.inr rfl) h1 hdg (fun H' locs' hR' hS' => ?_)
          have z := ih _ _ _ _ _ _ _ h2 hn hR' hS' (by rw [hme]; exact hm0) hL
          rw [hme1, hme] at z
          exact z
        · cases h
      · cases h
    | newarray t =>
      obtain ⟨ha, hb9, hX, hn⟩ := ok4 hok
      obtain rfl : ln = 2 := Nat.eq_of_beq_eq_true hb9
      have hdg := dDec_eq ha
      obtain ⟨y1, y2⟩ := ok2 hX
      obtain ⟨y1, y3⟩ := ok2 y1
      have hk2 : r1 ≠ 2 := fun z => by subst z; exact absurd y3 Bool.false_ne_true
      simp only [dx] at h
      split at h
      · rename_i n st'
        split at h
        · rename_i hc
          have hg := hmono _ _ _ _ _ h
          have c1 : (nA m r1 n.toInt.toNat).2.1 - s.heap.size = m.2.1 - s.heap.size + 1 := by show m.2.1 + 1 - _ = _; omega
          have c2 : (nA m r1 n.toInt.toNat).2.2 - m0s = m.2.2 - m0s + n.toInt.toNat := by show m.2.2 + n.toInt.toNat - _ = _; omega
          have b1 : m.2.1 - s.heap.size + 1 ≤ R.cells := by have := hg.1; change m.2.1 + 1 ≤ _ at this; omega
          have b2 : m.2.2 - m0s + n.toInt.toNat ≤ R.slots := by have := hg.2; change m.2.2 + n.toInt.toNat ≤ _ at this; omega
          refine s_newA hx hbc hR hS (of_decide_eq_true y2) (dBlt y1) (hts _ (ar_ok (of_decide_eq_true y2) (dBlt y1) hk2)) hc.1 hc.2 b1 b2 hdg (fun H' hR' hS' => ?_)
          have z := ih _ _ _ _ _ _ _ h hn hR' hS' (Nat.le_trans hm0 (Nat.le_add_right _ _)) hL
          rw [c1, c2] at z
          exact z
        · cases h
      · cases h
    | anewarray i =>
      obtain ⟨ha, hb9, hX, hn⟩ := ok4 hok
      obtain rfl : ln = 3 := Nat.eq_of_beq_eq_true hb9
      have hdg := dDec_eq ha
      rcases Bool.or_eq_true_iff.mp (show ((Nat.beq r1 5 && b2 dAl (dOn j, i)) || (Nat.beq r1 6 && b2 dAb (dOn j, i))) = true from hX) with hX5 | hX5
      · obtain ⟨z, hX5⟩ := ok2 hX5
        obtain rfl : r1 = 5 := Nat.eq_of_beq_eq_true z
        simp only [dx] at h
        split at h
        · rename_i n st'
          split at h
          · rename_i hc
            have hg := hmono _ _ _ _ _ h
            have c1 : (nA m 5 n.toInt.toNat).2.1 - s.heap.size = m.2.1 - s.heap.size + 1 := by show m.2.1 + 1 - _ = _; omega
            have c2 : (nA m 5 n.toInt.toNat).2.2 - m0s = m.2.2 - m0s + n.toInt.toNat := by show m.2.2 + n.toInt.toNat - _ = _; omega
            have b1 : m.2.1 - s.heap.size + 1 ≤ R.cells := by have := hg.1; change m.2.1 + 1 ≤ _ at this; omega
            have b2 : m.2.2 - m0s + n.toInt.toNat ≤ R.slots := by have := hg.2; change m.2.2 + n.toInt.toNat ≤ _ at this; omega
            refine s_anew hx hbc hK hR hS hown (hts _ (dAl_ok _ (b2_eq hX5))) (va_AO.use hI.2.2.2.2.2.2.2.2.2.2.2.2.1) hc.1 hc.2 b1 b2 hdg (fun H' hR' hS' => ?_)
            have z := ih _ _ _ _ _ _ _ h hn hR' hS' (Nat.le_trans hm0 (Nat.le_add_right _ _)) hL
            rw [c1, c2] at z
            exact z
          · cases h
        · cases h
      · obtain ⟨z, hX5⟩ := ok2 hX5
        obtain rfl : r1 = 6 := Nat.eq_of_beq_eq_true z
        simp only [dx] at h
        split at h
        · rename_i n st'
          split at h
          · rename_i hc
            have hg := hmono _ _ _ _ _ h
            have c1 : (nA m 6 n.toInt.toNat).2.1 - s.heap.size = m.2.1 - s.heap.size + 1 := by show m.2.1 + 1 - _ = _; omega
            have c2 : (nA m 6 n.toInt.toNat).2.2 - m0s = m.2.2 - m0s + n.toInt.toNat := by show m.2.2 + n.toInt.toNat - _ = _; omega
            have b1 : m.2.1 - s.heap.size + 1 ≤ R.cells := by have := hg.1; change m.2.1 + 1 ≤ _ at this; omega
            have b2 : m.2.2 - m0s + n.toInt.toNat ≤ R.slots := by have := hg.2; change m.2.2 + n.toInt.toNat ≤ _ at this; omega
            refine s_anew6 hx hbc hK hR hS hown (hts _ (dAb_ok _ (b2_eq hX5))) (va_AO.use hI.2.2.2.2.2.2.2.2.2.2.2.2.2.1) hc.1 hc.2 b1 b2 hdg (fun H' hR' hS' => ?_)
            have z := ih _ _ _ _ _ _ _ h hn hR' hS' (Nat.le_trans hm0 (Nat.le_add_right _ _)) hL
            rw [c1, c2] at z
            exact z
          · cases h
        · cases h
    | new i =>
      obtain ⟨ha, hb9, hX, hn⟩ := ok4 hok
      obtain rfl : ln = 3 := Nat.eq_of_beq_eq_true hb9
      have hdg := dDec_eq ha
      match r2, h, hX with
      | 0, h, hX =>
        simp only [dx] at h
        split at h
        · simp only [dTh, Option.some.injEq, Prod.mk.injEq] at h
          obtain ⟨ho, hmF⟩ := h
          have htf : dTr j = false := by
            have h9 := (ok2 hX).2
            simpa using h9
          exact hnew htf r1 pc i r3 r4 m H locs lsM ho.symm hmF.symm hX hdg hR hS hm0 hsz
        · cases h
      | 1, h, hX =>
        simp only [dx] at h
        obtain ⟨r, hr, q1, q2, q3, q4⟩ := dNw_ok _ (b3_eq hX)
        have hg := hmono _ _ _ _ _ h
        have c1 : (nO m r1 (dNf r1) (dDef r1)).2.1 - s.heap.size = m.2.1 - s.heap.size + 1 := by show m.2.1 + 1 - _ = _; omega
        have c2 : (nO m r1 (dNf r1) (dDef r1)).2.2 - m0s = m.2.2 - m0s + dNf r1 := by show m.2.2 + dNf r1 - _ = _; omega
        have b1 : m.2.1 - s.heap.size + 1 ≤ R.cells := by have := hg.1; change m.2.1 + 1 ≤ _ at this; omega
        have b2 : m.2.2 - m0s + dNf r1 ≤ R.slots := by have := hg.2; change m.2.2 + dNf r1 ≤ _ at this; omega
        refine s_newO dCl_ok hx hbc hts hK hR hS hown hr (hts _ q1) (hts _ q2) (hts _ q3) q4 b1 b2 hdg (fun H' hR' hS' => ?_)
        have z := ih _ _ _ _ _ _ _ h hn hR' hS' (Nat.le_trans hm0 (Nat.le_add_right _ _)) hL
        rw [c1, c2] at z
        exact z
      | n + 2, h, hX => cases h
    | ifCond cc off =>
      obtain ⟨ha, hb9, hX, hn⟩ := ok4 hok
      obtain rfl : ln = 3 := Nat.eq_of_beq_eq_true hb9
      have hdg := dDec_eq ha
      have htg := of_decide_eq_true hX
      simp only [dx] at h
      split at h
      · rename_i x st'
        split at h
        · exact lv_if_eq hx hbc hdg htg (fun q => by rw [if_pos q] at h; exact hjp _ _ _ _ _ _ _ h hR hS hm0 (hL.mono (fun i v hi => dMk_get ls r2 i v hi))) (fun q => by rw [if_neg q] at h; exact ih _ _ _ _ _ _ _ h hn hR hS hm0 hL)
        · exact lv_if_ne hx hbc hdg htg (fun q => by rw [if_neg q] at h; exact hjp _ _ _ _ _ _ _ h hR hS hm0 (hL.mono (fun i v hi => dMk_get ls r2 i v hi))) (fun q => by rw [if_pos q] at h; exact ih _ _ _ _ _ _ _ h hn hR hS hm0 hL)
        · exact lv_if_lt hx hbc hdg htg (fun q => by rw [if_pos q] at h; exact hjp _ _ _ _ _ _ _ h hR hS hm0 (hL.mono (fun i v hi => dMk_get ls r2 i v hi))) (fun q => by rw [if_neg q] at h; exact ih _ _ _ _ _ _ _ h hn hR hS hm0 hL)
        · exact lv_if_ge hx hbc hdg htg (fun q => by rw [if_neg (Int32.not_lt.mpr q)] at h; exact hjp _ _ _ _ _ _ _ h hR hS hm0 (hL.mono (fun i v hi => dMk_get ls r2 i v hi))) (fun q => by rw [if_pos (Int32.not_le.mp q)] at h; exact ih _ _ _ _ _ _ _ h hn hR hS hm0 hL)
        · exact lv_if_gt hx hbc hdg htg (fun q => by rw [if_pos q] at h; exact hjp _ _ _ _ _ _ _ h hR hS hm0 (hL.mono (fun i v hi => dMk_get ls r2 i v hi))) (fun q => by rw [if_neg q] at h; exact ih _ _ _ _ _ _ _ h hn hR hS hm0 hL)
        · exact lv_if_le hx hbc hdg htg (fun q => by rw [if_neg (Int32.not_lt.mpr q)] at h; exact hjp _ _ _ _ _ _ _ h hR hS hm0 (hL.mono (fun i v hi => dMk_get ls r2 i v hi))) (fun q => by rw [if_pos (Int32.not_le.mp q)] at h; exact ih _ _ _ _ _ _ _ h hn hR hS hm0 hL)
      · cases h
    | if_icmp cc off =>
      obtain ⟨ha, hb9, hX, hn⟩ := ok4 hok
      obtain rfl : ln = 3 := Nat.eq_of_beq_eq_true hb9
      have hdg := dDec_eq ha
      have htg := of_decide_eq_true hX
      simp only [dx] at h
      split at h
      · rename_i y x st'
        split at h
        · exact lv_icmp_eq hx hbc hdg htg (fun q => by rw [if_pos q] at h; exact hjp _ _ _ _ _ _ _ h hR hS hm0 (hL.mono (fun i v hi => dMk_get ls r2 i v hi))) (fun q => by rw [if_neg q] at h; exact ih _ _ _ _ _ _ _ h hn hR hS hm0 hL)
        · exact lv_icmp_ne hx hbc hdg htg (fun q => by rw [if_neg q] at h; exact hjp _ _ _ _ _ _ _ h hR hS hm0 (hL.mono (fun i v hi => dMk_get ls r2 i v hi))) (fun q => by rw [if_pos q] at h; exact ih _ _ _ _ _ _ _ h hn hR hS hm0 hL)
        · exact lv_icmp_lt hx hbc hdg htg (fun q => by rw [if_pos q] at h; exact hjp _ _ _ _ _ _ _ h hR hS hm0 (hL.mono (fun i v hi => dMk_get ls r2 i v hi))) (fun q => by rw [if_neg q] at h; exact ih _ _ _ _ _ _ _ h hn hR hS hm0 hL)
        · exact lv_icmp_ge hx hbc hdg htg (fun q => by rw [if_neg (Int32.not_lt.mpr q)] at h; exact hjp _ _ _ _ _ _ _ h hR hS hm0 (hL.mono (fun i v hi => dMk_get ls r2 i v hi))) (fun q => by rw [if_pos (Int32.not_le.mp q)] at h; exact ih _ _ _ _ _ _ _ h hn hR hS hm0 hL)
        · exact lv_icmp_gt hx hbc hdg htg (fun q => by rw [if_pos q] at h; exact hjp _ _ _ _ _ _ _ h hR hS hm0 (hL.mono (fun i v hi => dMk_get ls r2 i v hi))) (fun q => by rw [if_neg q] at h; exact ih _ _ _ _ _ _ _ h hn hR hS hm0 hL)
        · exact lv_icmp_le hx hbc hdg htg (fun q => by rw [if_neg (Int32.not_lt.mpr q)] at h; exact hjp _ _ _ _ _ _ _ h hR hS hm0 (hL.mono (fun i v hi => dMk_get ls r2 i v hi))) (fun q => by rw [if_pos (Int32.not_le.mp q)] at h; exact ih _ _ _ _ _ _ _ h hn hR hS hm0 hL)
      · cases h
    | goto off =>
      obtain ⟨ha, hb9, hX, hn⟩ := ok4 hok
      obtain rfl : ln = 3 := Nat.eq_of_beq_eq_true hb9
      have hdg := dDec_eq ha
      exact lv_goto hx hbc hdg (of_decide_eq_true hX) (hjp _ _ _ _ _ _ _ h hR hS hm0 (hL.mono (fun i v hi => dMk_get ls r2 i v hi)))
    | nop =>
      obtain ⟨ha, hn⟩ := ok2 hok
      have z := hjp _ _ _ _ _ _ _ h hR hS hm0 (hL.mono (fun i v hi => dMk_get ls r2 i v hi))
      rw [show dpc j r1 = pc from Nat.eq_of_beq_eq_true ha] at z
      exact z
    | tableswitch dflt lo hi offs =>
      obtain ⟨ha, -, hX, hn⟩ := ok4 hok
      have hdg := dDec_eq ha
      obtain ⟨hX1, hX3⟩ := ok2 hX
      obtain ⟨hX1, hX2⟩ := ok2 hX1
      simp only [dx] at h
      split at h
      · rename_i x st'
        split at h
        · rename_i hc
          exact lv_tableOut hx hbc hdg hc (of_decide_eq_true hX2) (hjp _ _ _ _ _ _ _ h hR hS hm0 (hL.mono (fun i v hi => dMk_get ls r3 i v hi)))
        · rename_i hc
          have h1 : ¬ x.toInt < lo := fun q => hc (Or.inl q)
          have h2 : ¬ hi < x.toInt := fun q => hc (Or.inr q)
          have hsz9 : (offs.size : Int) = hi - lo + 1 := of_decide_eq_true hX1
          have hlt : (x.toInt - lo).toNat < offs.size := by omega
          have ho : offs[(x.toInt - lo).toNat]? = some offs[(x.toInt - lo).toNat] := Array.getElem?_eq_getElem hlt
          have h9 := List.all_eq_true.mp hX3 (offs[(x.toInt - lo).toNat], (x.toInt - lo).toNat) (List.mem_zipIdx_iff_getElem?.mpr (by rw [Array.getElem?_toList]; exact ho))
          exact lv_tableIn hx hbc hdg h1 h2 ho (of_decide_eq_true h9) (hjp _ _ _ _ _ _ _ h hR hS hm0 (hL.mono (fun i v hi => dMk_get ls r3 i v hi)))
      · cases h
    | ireturn =>
      obtain ⟨ha, hb9, hX, hn⟩ := ok4 hok
      obtain rfl : ln = 1 := Nat.eq_of_beq_eq_true hb9
      have hdg := dDec_eq ha
      simp only [dx] at h
      split at h
      · rename_i x
        split at h
        · simp only [rI] at h
          cases h
          exact hret (some (.int x)) pc H locs lsM rfl ⟨hdg, okRet_n hX (Or.inl rfl)⟩ hR hS
        · simp only [rZ] at h
          split at h
          · rename_i hc
            cases h
            exact hret (some (.int x)) pc H locs lsM rfl ⟨hdg, okRet_n hX (Or.inr (Or.inl ⟨rfl, hc⟩))⟩ hR hS
          · cases h
        · simp only [rC] at h
          split at h
          · rename_i hc
            cases h
            exact hret (some (.int x)) pc H locs lsM rfl ⟨hdg, okRet_n hX (Or.inr (Or.inr (Or.inl ⟨rfl, hc⟩)))⟩ hR hS
          · cases h
        · simp only [rB] at h
          split at h
          · rename_i hc
            cases h
            exact hret (some (.int x)) pc H locs lsM rfl ⟨hdg, okRet_n hX (Or.inr (Or.inr (Or.inr ⟨rfl, hc⟩)))⟩ hR hS
          · cases h
        · cases h
      · cases h
    | lreturn =>
      obtain ⟨ha, hb9, hX, hn⟩ := ok4 hok
      obtain rfl : ln = 1 := Nat.eq_of_beq_eq_true hb9
      have hdg := dDec_eq ha
      simp only [dx] at h
      split at h
      · cases h
        exact hret (some (.long _)) pc H locs lsM rfl ⟨hdg, of_decide_eq_true hX⟩ hR hS
      · cases h
    | freturn =>
      obtain ⟨ha, hb9, hX, hn⟩ := ok4 hok
      obtain rfl : ln = 1 := Nat.eq_of_beq_eq_true hb9
      have hdg := dDec_eq ha
      simp only [dx] at h
      split at h
      · cases h
        exact hret (some (.float _)) pc H locs lsM rfl ⟨hdg, of_decide_eq_true hX⟩ hR hS
      · cases h
    | dreturn =>
      obtain ⟨ha, hb9, hX, hn⟩ := ok4 hok
      obtain rfl : ln = 1 := Nat.eq_of_beq_eq_true hb9
      have hdg := dDec_eq ha
      simp only [dx] at h
      split at h
      · cases h
        exact hret (some (.double _)) pc H locs lsM rfl ⟨hdg, of_decide_eq_true hX⟩ hR hS
      · cases h
    | areturn =>
      obtain ⟨ha, hb9, hX, hn⟩ := ok4 hok
      obtain rfl : ln = 1 := Nat.eq_of_beq_eq_true hb9
      have hdg := dDec_eq ha
      simp only [dx] at h
      split at h
      · cases h
        refine hret (some (.ref _)) pc H locs lsM rfl ⟨hdg, ?_⟩ hR hS
        revert hX
        simp only [okX]
        cases hq : dRt j with
        | none => intro hX; cases hX
        | some ty => cases ty <;> intro hX <;> first | (cases hX; done) | exact ⟨_, rfl, Or.inl ⟨_, rfl⟩⟩ | exact ⟨_, rfl, Or.inr ⟨_, rfl⟩⟩
      · cases h
    | return_ =>
      obtain ⟨ha, hb9, hX, hn⟩ := ok4 hok
      obtain rfl : ln = 1 := Nat.eq_of_beq_eq_true hb9
      have hdg := dDec_eq ha
      simp only [dx] at h
      split at h
      · cases h
        exact hret none pc H locs lsM rfl ⟨hdg, of_decide_eq_true hX⟩ hR hS
      · cases h
    | invokevirtual i =>
      obtain ⟨ha, hb9, hX, hn⟩ := ok4 hok
      obtain rfl : ln = 3 := Nat.eq_of_beq_eq_true hb9
      have hdg := dDec_eq ha
      by_cases h5 : r4 = 5
      · subst h5
        simp only [dx] at h
        split at h
        · rename_i a st'
          cases hs8 : Nat.ble (dSum st') 8 with
          | false => rw [hs8] at h; cases h
          | true =>
            rw [hs8] at h
            simp only [cond_true] at h
            obtain ⟨m1, h1, h2⟩ := Option.bind_eq_some_iff.mp h
            have hg := hmono _ _ _ _ _ h2
            obtain ⟨g1, g2⟩ := hg
            have hg2 := dLe_aCl h1
            obtain ⟨g3, g4⟩ := hg2
            have g5 : m1.2.1 = m.2.1 + 1 := by obtain ⟨n, f, -, -, rfl⟩ := aCl_eq h1; rfl
            have hs9 := Nat.le_of_ble_eq_true hs8
            have hcc : (dOn j, i) ∈ dKc := b2_eq hX
            refine s_clone hx hbc hsz.symm hI.2.2.2.2.2.2.2.2.2.2.2.2.2.2.2 hR hS hown (hts _ (dKc_ok _ hcc)) (hts _ cl_same) (hts _ cl_nat) (hts _ cl_inst) (hts _ cl_sel) (hI.2.2.2.2.2.2.2.2.2.1 _ cl_cast) h1 (by omega) (by rw [dSum_eq]; omega) (by omega) (by omega) hdg (fun H' hR' hS' => ?_)
            have z := ih _ _ _ _ _ _ _ h2 hn hR' hS' (Nat.le_trans hm0 g4) hL
            have c1 : m1.2.1 - s.heap.size = m.2.1 - s.heap.size + 1 := by omega
            have c2 : m1.2.2 - m0s = m.2.2 - m0s + (m1.2.2 - m.2.2) := by omega
            rw [c1, c2] at z
            exact z
        · cases h
      · have hX' : okCall j pc i 0 r1 r2 r3 r4 = true := by
          revert hX
          simp only [okX]
          first
            | exact id
            | (split
               · exact absurd rfl h5
               · exact id)
        have h' : dCall cl jp (dhd j) r1 r2 r3 r4 ls st m (fun st m => dx e cl jp (dhd j) ops ls st m) = some (o, mF) := by
          revert h
          simp only [dx]
          first
            | exact id
            | (split
               · exact absurd rfl h5
               · exact id)
        exact hcall (ik := 0) hX' hdg hn h'
    | invokeinterface i cnt =>
      obtain ⟨ha, hb9, hX, hn⟩ := ok4 hok
      obtain rfl : ln = 5 := Nat.eq_of_beq_eq_true hb9
      have hdg := dDec_eq ha
      obtain ⟨hX7, hX8⟩ := ok2 hX
      simp only [dx] at h
      split at h
      · rename_i a hst
        have go : ∀ {kd r : Nat}, kd = 7 ∨ kd = 8 → okCallF j i kd r r2 r3 = true → dCall cl jp (dhd j) r r2 r3 0 ls st m (fun st m => dx e cl jp (dhd j) ops ls st m) = some (o, mF) → W p l ee R s mth args below meth c H locs (m.2.1 - s.heap.size) (m.2.2 - m0s) Q (F0 mth pc lsM st) := by
          intro kd r hkd hc h
          obtain ⟨as, rest, o', m', hsp, hsum, hcl1, hcase⟩ := dCall_inv h
          obtain ⟨xs, x1, x2, x3⟩ := dSpl_eq r2 [] st as rest hsp
          rw [List.append_nil] at x3
          have hc9 := hc
          simp only [okCallF, Bool.and_eq_true, Bool.not_eq_true'] at hc9
          obtain ⟨⟨⟨⟨⟨⟨h1, h1b⟩, h1c⟩, h2⟩, h3⟩, h6⟩, h4⟩ := hc9
          have hj1 : r < dNM := dBlt h1
          have hj2 : r ≠ dLaw := fun q => by subst q; rw [show Nat.beq dLaw dLaw = true from Nat.beq_refl _] at h1b; cases h1b
          have hle := hclM _ _ _ _ _ hcl1
          have hle2 : dLe m' mF := by
            rcases hcase with ⟨v, -, hk⟩ | ⟨E, -, hk⟩
            · exact hmono _ _ _ _ _ hk
            · have hk' : some ((.inr E, m') : dRes) = some (o, mF) := hk
              cases hk'; exact dLe.rf
          obtain ⟨e1, e2⟩ := hle
          obtain ⟨e3, e4⟩ := hle2
          have ec : m.2.1 - s.heap.size + (m'.2.1 - m.2.1) = m'.2.1 - s.heap.size := by omega
          have es : m.2.2 - m0s + (m'.2.2 - m.2.2) = m'.2.2 - m0s := by omega
          have hxs : st = as.reverse ++ rest := by rw [x2, x3, List.reverse_reverse]
          rw [hxs]
          refine s_callF hC hkd hc hdg (by rw [x3, List.length_reverse, x1]) hsum (hcl _ _ _ _ _ hcl1 hj1 hj2) ⟨e1, e2⟩ (by omega) (by omega) hR hS hsz (fun v H1 locs1 hv hR1 hS1 => ?_) (fun k q ce H1 locs1 hk9 hR1 hS1 hce hcv hcl9 => ?_)
          · rw [ec, es]
            rcases hcase with ⟨v', hv', hk⟩ | ⟨E, hE, -⟩
            · rw [hv] at hv'
              cases hv'
              exact ih _ _ _ _ _ _ _ hk hn hR1 hS1 (Nat.le_trans hm0 e2) hL
            · rw [hv] at hE; cases hE
          · rw [ec, es]
            rcases hcase with ⟨v', hv', -⟩ | ⟨E, hE, hk⟩
            · rw [hk9] at hv'; cases hv'
            · rw [hk9] at hE
              cases hE
              have hk' : some ((.inr k, m') : dRes) = some (o, mF) := hk
              cases hk'
              cases ht : dTr j with
              | true => obtain ⟨v, hv⟩ := htr ht; cases hv
              | false => exact hthr ht k pc H1 locs1 lsM rest q ce rfl hR1 hS1 hce hcv hcl9
        cases hb1 : isC m a 1 with
        | true =>
          rw [hb1] at h
          exact go (Or.inl rfl) hX7 h
        | false =>
          rw [hb1] at h
          simp only [cond_false] at h
          cases hb2 : isC m a 0 with
          | true =>
            rw [hb2] at h
            exact go (Or.inr rfl) hX8 h
          | false =>
            rw [hb2] at h
            cases h
      · cases h
    | invokestatic i =>
      obtain ⟨ha, hb9, hX, hn⟩ := ok4 hok
      obtain rfl : ln = 3 := Nat.eq_of_beq_eq_true hb9
      have hdg := dDec_eq ha
      match r4, h, hX with
      | 0, h, hX =>
        have hX' : okCall j pc i 1 r1 r2 r3 0 = true := hX
        exact hcall (ik := 1) hX' hdg hn h
      | 1, h, hX =>
        have hX' : okCall j pc i 1 r1 r2 r3 1 = true := hX
        exact hcall (ik := 1) hX' hdg hn h
      | 2, h, hX =>
        simp only [dx] at h
        split at h
        · rename_i n dp b sp a st' _
          cases hs8 : Nat.ble (dSum st') 8 with
          | false => rw [hs8] at h; cases h
          | true =>
            rw [hs8] at h
            simp only [cond_true] at h
            obtain ⟨x, h1, h2⟩ := Option.bind_eq_some_iff.mp h
            obtain ⟨hme1, hme⟩ := aCp_m h1
            have hnw : nativeFrameWords "java/lang/System" "arraycopy" 5 + 11 ≤ 200 := by decide +kernel
            have hs9 := Nat.le_of_ble_eq_true hs8
            refine s_cp hx hbc hsz.symm hR hS hown (hts _ (dCi_ok _ (b2_eq hX))) (hts _ ac_nat) (hts _ ac_st) (hts _ ac_in) h1 (by omega) (by rw [dSum_eq]; omega) hdg (fun H' locs' hR' hS' => ?_)
            have z := ih _ _ _ _ _ _ _ h2 hn hR' hS' (by rw [hme]; exact hm0) hL
            rw [hme1, hme] at z
            exact z
        · cases h
      | 3, h, hX =>
        simp only [dx] at h
        split at h
        · rename_i y x st' _
          cases hs8 : Nat.ble (dSum st') 8 with
          | false => rw [hs8] at h; cases h
          | true =>
            rw [hs8] at h
            simp only [cond_true] at h
            split at h
            · rename_i hc
              exact s_chk hC (b2_eq hX) hdg hc.1 hc.2 (Nat.le_of_ble_eq_true hs8) hR hS hsz (by have := hmono _ _ _ _ _ h; have := this.1; omega) (by have := hmono _ _ _ _ _ h; have := this.2; omega) (fun locs1 H1 hR1 hS1 => ih _ _ _ _ _ _ _ h hn hR1 hS1 hm0 hL)
            · cases h
        · cases h
      | 4, h, hX =>
        obtain ⟨hl, hk3⟩ := dCm_ok _ (b3_eq hX)
        match r1, h, hl with
        | 0, h, hl =>
          simp only [dx] at h
          split at h
          · rename_i y x st' _ _
            cases hs8 : Nat.ble (dSum st') 8 with
            | false => rw [hs8] at h; cases h
            | true =>
              rw [hs8] at h
              simp only [cond_true] at h
              have hg := hmono _ _ _ _ _ h
              exact va_mmin hx hbc hsz.symm hown (hts _ hl) (hts _ mt_st0) (hts _ mt_in) (hts _ mt_cd0) (by omega) (by rw [dSum_eq]; have := Nat.le_of_ble_eq_true hs8; omega) (by have := hg.1; omega) (by have := hg.2; omega) hdg (ih _ _ _ _ _ _ _ h hn hR hS hm0 hL)
          · cases h
        | 1, h, hl =>
          simp only [dx] at h
          split at h
          · rename_i y x st' _ _
            cases hs8 : Nat.ble (dSum st') 8 with
            | false => rw [hs8] at h; cases h
            | true =>
              rw [hs8] at h
              simp only [cond_true] at h
              have hg := hmono _ _ _ _ _ h
              exact va_mmax hx hbc hsz.symm hown (hts _ hl) (hts _ mt_st1) (hts _ mt_in) (hts _ mt_cd1) (by omega) (by rw [dSum_eq]; have := Nat.le_of_ble_eq_true hs8; omega) (by have := hg.1; omega) (by have := hg.2; omega) hdg (ih _ _ _ _ _ _ _ h hn hR hS hm0 hL)
          · cases h
        | 2, h, hl =>
          simp only [dx] at h
          split at h
          · rename_i x st' _ _
            cases hs8 : Nat.ble (dSum st') 8 with
            | false => rw [hs8] at h; cases h
            | true =>
              rw [hs8] at h
              simp only [cond_true] at h
              have hg := hmono _ _ _ _ _ h
              exact va_mabs hx hbc hsz.symm hown (hts _ hl) (hts _ mt_st2) (hts _ mt_in) (hts _ mt_cd2) (by omega) (by rw [dSum_eq]; have := Nat.le_of_ble_eq_true hs8; omega) (by have := hg.1; omega) (by have := hg.2; omega) hdg (ih _ _ _ _ _ _ _ h hn hR hS hm0 hL)
          · cases h
        | k + 3, h, hl => cases h
      | n + 5, h, hX =>
        have hX' : okCall j pc i 1 r1 r2 r3 (n + 5) = true := hX
        exact hcall (ik := 1) hX' hdg hn h
    | invokespecial i =>
      obtain ⟨ha, hb9, hX, hn⟩ := ok4 hok
      obtain rfl : ln = 3 := Nat.eq_of_beq_eq_true hb9
      have hdg := dDec_eq ha
      match r4, h, hX with
      | 0, h, hX =>
        have hX' : okCall j pc i 2 r1 r2 r3 0 = true := hX
        exact hcall (ik := 2) hX' hdg hn h
      | 1, h, hX =>
        have hX' : okCall j pc i 2 r1 r2 r3 1 = true := hX
        exact hcall (ik := 2) hX' hdg hn h
      | 2, h, hX =>
        simp only [dx] at h
        split at h
        · rename_i a st' _
          cases hs8 : Nat.ble (dSum st') 8 with
          | false => rw [hs8] at h; cases h
          | true =>
            rw [hs8] at h
            simp only [cond_true] at h
            exact W.objInit hx hbc hown (hts _ (dOi_ok _ (b2_eq hX))) (hts _ oi_inst) (hts _ oi_code) (g := F0 mth pc lsM (.ref a :: st')) rfl hsz rfl hdg (by omega) (by show 2 * 0 + _ + 12 ≤ _; rw [dSum_eq]; have := Nat.le_of_ble_eq_true hs8; omega) (ih _ _ _ _ _ _ _ h hn hR hS hm0 hL)
        · cases h
      | n + 3, h, hX =>
        have hX' : okCall j pc i 2 r1 r2 r3 (n + 3) = true := hX
        exact hcall (ik := 2) hX' hdg hn h
    | _ => first | (exact nomatch h) | (cases h; done) | (simp only [dx] at h; done)
end OPS
end
