/-! ===== calls ===== -/
noncomputable section
/-- what holds of a state and its heap apart from the memory -/
def dInv (e : dEnv) (D : va_G) (U : State) (H : Heap) : Prop :=
  va_K D dCl [] U ∧ vx_Zq Bundle.tN "UNASSIGNED_STACK" Bundle.steD (dA e) U H ∧ vx_Zq Bundle.tN "SUPPRESSED_SENTINEL" Bundle.listD (dA e) U H ∧
  va_Z "java/lang/String" "COMPACT_STRINGS" "Z" (.int 1) (dA e) U H ∧ va_Z "java/lang/Integer" "DigitOnes" "[B" (.ref (e.2 1000)) (dA e) U H ∧ va_Z "java/lang/Integer" "DigitTens" "[B" (.ref (e.2 1001)) (dA e) U H ∧
  va_Zq "jdk/internal/util/Preconditions" "SIOOBE_FORMATTER" "Ljava/util/function/BiFunction;" (dA e) U H ∧
  (∀ (k : Nat) (q : Nat × Nat × String), dStr[k]? = some q → vk_R (dOwn q.1) q.2.1 q.2.2 (e.2 k) U) ∧ (∀ q ∈ dMsg, ∃ sa, vk_R (dOwn q.1) q.2.1 q.2.2 sa U) ∧ (∀ w ∈ dNG, va_Nw w U) ∧ (∀ q ∈ dNc, va_Nc q.1 q.2 U) ∧ e.1 ≤ H.size ∧ va_AO "RetentionArchive$Archive" U ∧ va_AO "RetentionArchiveLaw$Box" U ∧ (∀ q ∈ dFw, va_Fw q.1 q.2.1 q.2.2 U) ∧ D.1 100 = e.1
theorem dFw_mh : ∀ q ∈ dFw, q.2.1.cls ≠ "java/lang/invoke/MethodHandle" ∧ q.2.1.cls ≠ "java/lang/invoke/VarHandle" := by decide
theorem dNG_warm {s U : State} (hW : s.WarmedH U.vm) : ∀ w ∈ dNG, va_Nw w s → va_Nw w U := by
  intro w hw h
  have hf := List.all_eq_true.mp dNG_ok w hw
  unfold dNGf at hf
  split at hf
  · exact va_Nw.warmC hW h
  · exact va_Nw.warmD hW h
  · exact va_Nw.warmM hW h
  · exact va_Nw.warmF hW h
  · cases hf
theorem dNG_tab : ∀ w ∈ dNG, w.onTables = true := by
  intro w hw
  have hf := List.all_eq_true.mp dNG_ok w hw
  unfold dNGf at hf
  split at hf
  · rfl
  · rfl
  · rfl
  · rfl
  · cases hf
theorem dInv.warm {e : dEnv} {D : va_G} {s U : State} {H H1 : Heap} (hW : s.WarmedH U.vm) (hz : H.size ≤ H1.size) (hq : ∀ q : Nat, q < H.size → ¬ dA e q → H1[q]? = H[q]?) (h : dInv e D s H) : dInv e D U H1 := by
  obtain ⟨h1, h2, h3, h4, h5, h6, h7, h8, h9, h10, h11, h12, h13, h14, h15, h16⟩ := h
  have hA := hW.alike
  exact ⟨va_K.moved hA h1, vx_Zq.moved hA (h2.kept hq), vx_Zq.moved hA (h3.kept hq), va_Z.moved hA (h4.kept hq), va_Z.moved hA (h5.kept hq), va_Z.moved hA (h6.kept hq), va_Zq.moved hA (h7.kept hq),
    fun k q hk => vk_R.warm hW (h8 k q hk), fun q hk => by obtain ⟨sa, z⟩ := h9 q hk; exact ⟨sa, vk_R.warm hW z⟩, fun w hw => dNG_warm hW w hw (h10 w hw), fun q hq => va_Nc.moved hA (h11 q hq), Nat.le_trans h12 hz, va_AO.moved hA h13, va_AO.moved hA h14, fun q hq => va_Fw.moved (dFw_mh q hq) hA (h15 q hq), h16⟩
theorem dInv.same {e : dEnv} {D : va_G} {s U : State} {H : Heap} (hv : U.vm = s.vm) (h : dInv e D s H) : dInv e D U H := by
  obtain ⟨h1, h2, h3, h4, h5, h6, h7, h8, h9, h10, h11, h12, h13, h14, h15, h16⟩ := h
  have hA : s.vm.Alike U.vm := by rw [hv]; exact Vm.Alike.refl _
  exact ⟨va_K.moved hA h1, vx_Zq.moved hA h2, vx_Zq.moved hA h3, va_Z.moved hA h4, va_Z.moved hA h5, va_Z.moved hA h6, va_Zq.moved hA h7,
    fun k q hk => vk_R.same hv (h8 k q hk), fun q hk => by obtain ⟨sa, z⟩ := h9 q hk; exact ⟨sa, vk_R.same hv z⟩, fun w hw => va_Nw.same (dNG_tab w hw) hv.symm (h10 w hw), fun q hq => va_Nc.moved hA (h11 q hq), h12, va_AO.moved hA h13, va_AO.moved hA h14, fun q hq => va_Fw.moved (dFw_mh q hq) hA (h15 q hq), h16⟩
def dPre (e : dEnv) (D : va_G) (m : dMem) (U : State) : Prop := dInv e D U U.heap ∧ dRep D m U U.heap
def dPost (e : dEnv) (D : va_G) (m' : dMem) (st t : State) : Prop := dRep D m' t t.heap ∧ va_F (dA e) st t
def dQc (e : dEnv) (D : va_G) (o : Option Value ⊕ Nat) (m' : dMem) : Array Value → State → Outcome → State → Prop := fun _ st oc t => (∃ v, o = .inl v ∧ oc = .returned v) ∧ dPost e D m' st t
def dXC (e : dEnv) (D : va_G) (o : Option Value ⊕ Nat) (m' : dMem) : String → State → State → Prop := fun E st t => (∃ k, o = .inr k ∧ E = dEx k) ∧ dPost e D m' st t
def rmD (d mc ms : Nat) : Room := { frames := d + 10, cells := mc, slots := ms, locals := 100 * d + 200 }
def dWs (j : Nat) : List Cond := (if dTr j = true then Cond.codeWith (dY j) (dBy j) (dMl j) (dRt j) (dHh j) else Cond.code (dY j) (dBy j) (dMl j) (dRt j)) :: dTb
/-- a call's contract, out of the interpreter's answer -/
def CallOK (l : Launch) (e : dEnv) (D : va_G) (d j : Nat) (as : List Value) (m : dMem) (o : Option Value ⊕ Nat) (m' : dMem) : Prop :=
  (dTr j = true → (∃ v, o = .inl v) ∧ Met l (dY j) (dWs j) (rmD d (m'.2.1 - m.2.1) (m'.2.2 - m.2.2)) (va_Pc as (dPre e D m)) (dQc e D o m') (m'.2.1 - m.2.1) (m'.2.2 - m.2.2) (dA e)) ∧
  (dTr j = false → vx_Met l (dY j) (dWs j) (rmD d (m'.2.1 - m.2.1) (m'.2.2 - m.2.2)) (va_Pc as (dPre e D m)) (dQc e D o m') (dXC e D o m') (m'.2.1 - m.2.1) (m'.2.2 - m.2.2) (dA e)) ∧
  (dRc j ≠ 0 → ∃ (ci b : Nat) (t : List Value) (f : Nat → Value), dRc j = ci + 1 ∧ as = .ref b :: t ∧ m.1 b = some (.inr (ci, f)))
theorem dPre_blind {e : dEnv} {D : va_G} {m : dMem} {as : List Value} : FrameBlind (va_Pc as (dPre e D m)) := by
  intro a U g mk h
  obtain ⟨h1, h2, h3⟩ := h
  exact ⟨h1, dInv.same (s := U) rfl h2, h3.moved (u := U) (U := U.calling g mk a) (Vm.Alike.refl U.vm)⟩
theorem dTb_good {ws : List Cond} (h : ∀ w ∈ ws, w ∈ dTb) : GoodIn dTb ws := fun w hw => ⟨h w hw, good_of_word (dTb_g (h w hw))⟩
section CALL
variable {p : Program} {l : Launch} {ee : Env} {R : Room} {s : State} {mth : MethodId} {args : Array Value} {below : List Frame} {meth : Method} {c : Code} {Q : State → Prop} {H : Heap} {locs : List Loc} {cells slots : Nat} {pc : Nat} {lsM : Array Slot} {st rest : List Value}
variable {e : dEnv} {D : va_G} {m m' : dMem} {o : Option Value ⊕ Nat} {as : List Value} {mc ms : Nat}
theorem s_after {a : Array Value} (hr : vx_Run p l ee R s mth args below meth c H locs cells slots mc ms (F0 mth pc lsM st) rest (dQc e D o m' a) (dXC e D o m') (dA e)) (hS : va_S (dA e) s.heap H locs)
    (kv : ∀ (v : Option Value) (H1 : Heap) (locs1 : List Loc), o = .inl v → dRep D m' s H1 → va_S (dA e) s.heap H1 locs1 → W p l ee R s mth args below meth c H1 locs1 (cells + mc) (slots + ms) Q (F0 mth (pc + 3) lsM (v.toList ++ rest)))
    (kx : ∀ (k : Nat) (q : Addr) (ce : Cell) (H1 : Heap) (locs1 : List Loc), o = .inr k → dRep D m' s H1 → va_S (dA e) s.heap H1 locs1 → H1[q]? = some ce → ce.vm = .none → s.vm.findClass (dEx k) = some ce.cls → vx_W p l ee R s mth args below meth c H1 locs1 (cells + mc) (slots + ms) Q (F0 mth pc lsM rest) q) :
    W p l ee R s mth args below meth c H locs cells slots Q (F0 mth pc lsM st) := by
  intro T hT X
  rcases hr T hT X with ⟨v, st₀, t, T', L, h0, X', hL, e1, e2, ⟨⟨v', hv1, hv2⟩, hq, hF⟩, stp⟩ | ⟨q, st₀, t, T', L, E, ce, h0, X', hL, e1, e2, ⟨⟨k, hk, rfl⟩, hq, hF⟩, hce, hcv, hcl, stp⟩
  · cases hv2
    obtain ⟨k1, k2, k3⟩ := vx_keep h0 e1 hS (fun q _ h => h) (fun q h => h) hL hF
    have hR : dRep D m' s T'.heap := by
      rw [e1]
      refine hq.moved ?_
      rw [← e2]
      exact X'.warmed.alike.symm
    obtain ⟨t2, a1, b1⟩ := kv v T'.heap (locs ++ L) hv1 hR k3 T' rfl X'
    exact ⟨t2, stp t2 a1, b1⟩
  · obtain ⟨k1, k2, k3⟩ := vx_keep h0 e1 hS (fun q _ h => h) (fun q h => h) hL hF
    have hR : dRep D m' s T'.heap := by
      rw [e1]
      refine hq.moved ?_
      rw [← e2]
      exact X'.warmed.alike.symm
    obtain ⟨t2, a1, b1⟩ := kx k q ce T'.heap (locs ++ L) hk hR k3 (by rw [e1]; exact hce) hcv hcl T' rfl X'
    exact ⟨t2, stp.trans a1, b1⟩
theorem s_after5 {a : Array Value} (hr : vx_Run5 p l ee R s mth args below meth c H locs cells slots mc ms (F0 mth pc lsM st) rest (dQc e D o m' a) (dXC e D o m') (dA e)) (hS : va_S (dA e) s.heap H locs)
    (kv : ∀ (v : Option Value) (H1 : Heap) (locs1 : List Loc), o = .inl v → dRep D m' s H1 → va_S (dA e) s.heap H1 locs1 → W p l ee R s mth args below meth c H1 locs1 (cells + mc) (slots + ms) Q (F0 mth (pc + 5) lsM (v.toList ++ rest)))
    (kx : ∀ (k : Nat) (q : Addr) (ce : Cell) (H1 : Heap) (locs1 : List Loc), o = .inr k → dRep D m' s H1 → va_S (dA e) s.heap H1 locs1 → H1[q]? = some ce → ce.vm = .none → s.vm.findClass (dEx k) = some ce.cls → vx_W p l ee R s mth args below meth c H1 locs1 (cells + mc) (slots + ms) Q (F0 mth pc lsM rest) q) :
    W p l ee R s mth args below meth c H locs cells slots Q (F0 mth pc lsM st) := by
  intro T hT X
  rcases hr T hT X with ⟨v, st₀, t, T', L, h0, X', hL, e1, e2, ⟨⟨v', hv1, hv2⟩, hq, hF⟩, stp⟩ | ⟨q, st₀, t, T', L, E, ce, h0, X', hL, e1, e2, ⟨⟨k, hk, rfl⟩, hq, hF⟩, hce, hcv, hcl, stp⟩
  · cases hv2
    obtain ⟨k1, k2, k3⟩ := vx_keep h0 e1 hS (fun q _ h => h) (fun q h => h) hL hF
    have hR : dRep D m' s T'.heap := by
      rw [e1]
      refine hq.moved ?_
      rw [← e2]
      exact X'.warmed.alike.symm
    obtain ⟨t2, a1, b1⟩ := kv v T'.heap (locs ++ L) hv1 hR k3 T' rfl X'
    exact ⟨t2, stp t2 a1, b1⟩
  · obtain ⟨k1, k2, k3⟩ := vx_keep h0 e1 hS (fun q _ h => h) (fun q h => h) hL hF
    have hR : dRep D m' s T'.heap := by
      rw [e1]
      refine hq.moved ?_
      rw [← e2]
      exact X'.warmed.alike.symm
    obtain ⟨t2, a1, b1⟩ := kx k q ce T'.heap (locs ++ L) hk hR k3 (by rw [e1]; exact hce) hcv hcl T' rfl X'
    exact ⟨t2, stp.trans a1, b1⟩
theorem s_afterM {a : Array Value} (hr : va_Run p l ee R s mth args below meth c H locs cells slots mc ms (F0 mth pc lsM st) rest (dQc e D o m' a) (dA e)) (hS : va_S (dA e) s.heap H locs)
    (kv : ∀ (v : Option Value) (H1 : Heap) (locs1 : List Loc), o = .inl v → dRep D m' s H1 → va_S (dA e) s.heap H1 locs1 → W p l ee R s mth args below meth c H1 locs1 (cells + mc) (slots + ms) Q (F0 mth (pc + 3) lsM (v.toList ++ rest))) :
    W p l ee R s mth args below meth c H locs cells slots Q (F0 mth pc lsM st) := by
  intro T hT X
  obtain ⟨v, st₀, t, T', L, h0, X', hL, e1, e2, ⟨⟨v', hv1, hv2⟩, hq, hF⟩, stp⟩ := hr T hT X
  cases hv2
  obtain ⟨k1, k2, k3⟩ := vx_keep h0 e1 hS (fun q _ h => h) (fun q h => h) hL hF
  have hR : dRep D m' s T'.heap := by
    rw [e1]
    refine hq.moved ?_
    rw [← e2]
    exact X'.warmed.alike.symm
  obtain ⟨t2, a1, b1⟩ := kv v T'.heap (locs ++ L) hv1 hR k3 T' rfl X'
  exact ⟨t2, stp t2 a1, b1⟩
/-- 'selects' of a superclass's private method -/
theorem s_selP {C : String} {y y0 : MethodName} (hy : y.cls ≠ "java/lang/invoke/MethodHandle" ∧ y.cls ≠ "java/lang/invoke/VarHandle") (hc : y.cls = y0.cls) (h0 : (Cond.selects C y0 y0).before args s = true) (hpriv : (Cond.privateMethod y).before args s = true) (hinst : (Cond.instanceMethod y).before args s = true) :
    (Cond.selects C y y).before args s = true := by
  obtain ⟨c0, r0, m0, q1, q2, q3, q4, kP, hkP, hkPi⟩ := Cond.selects_spec h0
  obtain ⟨mk, methM, hnamed, hmethM, -, -⟩ := Cond.instanceMethod_spec hinst
  have hfound : s.methodFound? y.cls y.name y.desc = some mk := State.methodFound?_of_named hnamed hy
  have hsel : selectMethod {} s.vm c0 mk = .method mk := selectMethod_private hmethM (Cond.privateMethod_at hpriv mk methM hnamed hmethM)
  have hcls : mk.cls = m0.cls := by
    have e1 := findClass_of_methodNamed hnamed
    have e2 := findClass_of_methodNamed q3
    rw [hc] at e1
    exact Option.some.inj (e1.symm.trans e2)
  simp only [Cond.before, Cond.holds, Cond.value, q1, hfound, hnamed, hsel, hcls, hkP]
  simp; exact hkPi
end CALL
end
