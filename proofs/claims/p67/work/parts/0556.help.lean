/-! ===== helpers of the instructions ===== -/
noncomputable section
theorem dMk_none : ∀ (ls : dLs) (i : Nat) (v : Value), (dMk 0 ls)[i]? ≠ some (some v)
  | [], i, v => by simp [dMk]
  | o :: t, 0, v => by
    show ¬ some (none : Option Value) = some (some v)
    intro h
    cases h
  | o :: t, i + 1, v => by
    have h := dMk_none t i v
    simpa [dMk] using h
theorem pV_m {e : dEnv} {m m' : dMem} {a c k : Nat} {v : Value} (h : pV e m a c k v = some m') : m'.2.1 = m.2.1 ∧ m'.2.2 = m.2.2 := by
  obtain ⟨f, -, -, rfl⟩ := pV_eq h
  exact ⟨rfl, rfl⟩
theorem sI_m {e : dEnv} {m m' : dMem} {kd a : Nat} {i x : Int32} (h : sI e m kd a i x = some m') : m'.2.1 = m.2.1 ∧ m'.2.2 = m.2.2 := by
  unfold sI at h
  split at h
  · split at h
    · cases h; exact ⟨rfl, rfl⟩
    · cases h
  · cases h
theorem sL_m {e : dEnv} {m m' : dMem} {kd a : Nat} {i : Int32} {x : Int64} (h : sL e m kd a i x = some m') : m'.2.1 = m.2.1 ∧ m'.2.2 = m.2.2 := by
  unfold sL at h
  split at h
  · split at h
    · cases h; exact ⟨rfl, rfl⟩
    · cases h
  · cases h
theorem sD_m {e : dEnv} {m m' : dMem} {kd a : Nat} {i : Int32} {x : UInt64} (h : sD e m kd a i x = some m') : m'.2.1 = m.2.1 ∧ m'.2.2 = m.2.2 := by
  unfold sD at h
  split at h
  · split at h
    · cases h; exact ⟨rfl, rfl⟩
    · cases h
  · cases h
theorem sR_m {e : dEnv} {m m' : dMem} {kd a x c : Nat} {i : Int32} (h : sR e m kd a i x c = some m') : m'.2.1 = m.2.1 ∧ m'.2.2 = m.2.2 := by
  unfold sR at h
  split at h
  · split at h
    · cases h; exact ⟨rfl, rfl⟩
    · cases h
  · cases h
theorem aCp_m {e : dEnv} {m m' : dMem} {a b : Nat} {sp dp n : Int32} (h : aCp e m a sp b dp n = some m') : m'.2.1 = m.2.1 ∧ m'.2.2 = m.2.2 := by
  unfold aCp at h
  split at h
  · split at h
    · cases h; exact ⟨rfl, rfl⟩
    · cases h
  · split at h
    · cases h; exact ⟨rfl, rfl⟩
    · cases h
  · cases h
theorem ar_ok {t : ArrayType} {k : Nat} (h : newarray.typeOf t = dty k) (hk : k < 5) (hk2 : k ≠ 2) : Cond.arrayClass (newarray.typeOf t) ∈ dTb := by
  rw [h]
  match k, hk with
  | 0, _ => exact ar_int
  | 1, _ => exact ar_long
  | 2, _ => exact absurd rfl hk2
  | 3, _ => exact ar_byte
  | 4, _ => exact ar_boolean
def kY1 : MethodName := ⟨"jdk/internal/util/Preconditions", "checkIndex", "(IILjava/util/function/BiFunction;)I"⟩
def kY2 : MethodName := ⟨"java/lang/String", "checkIndex", "(II)V"⟩
def kR1 : Room := { frames := 1, cells := 0, slots := 0, locals := 50 }
def kR2 : Room := { frames := 3, cells := 0, slots := 0, locals := 150 }
def kP1 : Array Value → State → Prop := fun a _ => ∃ (x y : Int32) (v : Value), a = #[.int x, .int y, v] ∧ v.category = 1 ∧ 0 ≤ x.toInt ∧ x.toInt < y.toInt
def kP2 (A : Nat → Prop) : Array Value → State → Prop := fun a U => ∃ (x y : Int32), a = #[.int x, .int y] ∧ 0 ≤ x.toInt ∧ x.toInt < y.toInt ∧ va_Zq "jdk/internal/util/Preconditions" "SIOOBE_FORMATTER" "Ljava/util/function/BiFunction;" A U U.heap
def kQ2 : Array Value → State → Outcome → State → Prop := fun _ st o t => o = .returned none ∧ t.heap = st.heap
theorem kNlt {x : Int32} (h : 0 ≤ x.toInt) : ¬ x < 0 := fun q => by rw [Int32.lt_iff_toInt_lt] at q; simp at q; omega
theorem k_met1 (l : Launch) (A : Nat → Prop) : Met l kY1 [Cond.code kY1 prog_34_method_11_code 3 (some .int)] kR1 kP1 QcAny 0 0 A := by
  refine Met.ofW (cc := prog_34_method_11_code) (maxL := 3) (ret := some .int) (by decide +kernel) rfl ?_
  intro p e s m args below meth c s₁ B hml hP
  obtain ⟨x, y, v, rfl, hv, h0, h1⟩ := hP
  have hx := B.exec
  have hb := B.bytes
  have hlk := B.notSynchronized
  have hrt := B.returns
  have hent : entryFrame m #[.int x, .int y, v] 3 = F0 m 0 #[.val (.int x), .val (.int y), .val v] [] := by
    have := entry_eq m [.int x, .int y, v] (by intro w hw; simp at hw; rcases hw with rfl | rfl | rfl; rfl; rfl; exact hv) 3
    simpa using this
  rw [hent]
  refine lv_iload_n (i := 0) (x := x) hx hb (show decode prog_34_method_11_code 0 = .ok (.iload_n 0, 1) by decide +kernel) rfl rfl ?_
  refine lv_if_lt (off := 8) (tgt := 9) hx hb (show decode prog_34_method_11_code 1 = .ok (.ifCond .lt 8, 3) by decide +kernel) (by decide) (fun q => absurd q (kNlt h0)) (fun _ => ?_)
  refine lv_iload_n (i := 0) (x := x) hx hb (show decode prog_34_method_11_code 4 = .ok (.iload_n 0, 1) by decide +kernel) rfl rfl ?_
  refine lv_iload_n (i := 1) (x := y) hx hb (show decode prog_34_method_11_code 5 = .ok (.iload_n 1, 1) by decide +kernel) rfl rfl ?_
  refine lv_icmp_lt (off := 10) (tgt := 16) hx hb (show decode prog_34_method_11_code 6 = .ok (.if_icmp .lt 10, 3) by decide +kernel) (by decide) (fun _ => ?_) (fun q => absurd (Int32.lt_iff_toInt_lt.mpr h1) q)
  refine lv_iload_n (i := 0) (x := x) hx hb (show decode prog_34_method_11_code 16 = .ok (.iload_n 0, 1) by decide +kernel) rfl rfl ?_
  exact W.iret hx hb hrt (fun t ht _ => ⟨x, rfl, ht⟩) (fun q hq => by cases hq) (show decode prog_34_method_11_code 17 = .ok (.ireturn, 1) by decide +kernel) hlk
theorem k_met2 (l : Launch) (A : Nat → Prop) : Met l kY2 (Cond.code kY2 prog_25_method_155_code 2 none :: dTb) kR2 (kP2 A) kQ2 0 0 A := by
  refine Met.ofW (cc := prog_25_method_155_code) (maxL := 2) (ret := none) (by decide +kernel) rfl ?_
  intro p e s m args below meth c s₁ B hml hP
  obtain ⟨x, y, rfl, h0, h1, hZ⟩ := hP
  have hx := B.exec
  have hb := B.bytes
  have hlk := B.notSynchronized
  have hrt := B.returns
  have hts := atoms_spec (ws := Cond.code kY2 prog_25_method_155_code 2 none :: dTb) B.pre
  have hts' : ∀ w ∈ dTb, w.before #[.int x, .int y] s = true := fun w hw => hts w (List.mem_cons_of_mem _ hw)
  have hown : s.vm.findClass "java/lang/String" = some m.cls := findClass_of_methodNamed (x := kY2) B.named
  have hent : entryFrame m #[.int x, .int y] 2 = F0 m 0 #[.val (.int x), .val (.int y)] [] := by
    have := entry_eq m [.int x, .int y] (by intro w hw; simp at hw; rcases hw with rfl | rfl <;> rfl) 2
    simpa using this
  rw [hent]
  have hS : va_S A s.heap s.heap [] := va_S.rf
  have hfl : Cond.fieldLink "java/lang/String" 1053 "jdk/internal/util/Preconditions" "SIOOBE_FORMATTER" "Ljava/util/function/BiFunction;" ∈ dTb := dTb_of (tI 459 (by decide +kernel)) rfl
  have key : ∀ v : Value, v.category = 1 → W p l e kR2 s m #[.int x, .int y] below meth c s.heap [] 0 0 (MQ below kQ2 #[.int x, .int y] s 0 0 A) (F0 m 5 #[.val (.int x), .val (.int y)] [v, .int y, .int x]) := by
    intro v hv
    have hrun := va_runS (p := p) (l := l) (e := e) (R := kR2) (s := s) (m := m) (args := #[.int x, .int y]) (below := below) (meth := meth) (c := c) (H := s.heap) (locs := []) (cells := 0) (slots := 0) (rest := []) (As := [.int x, .int y, v]) (Ts := dTb) (own := "java/lang/String")
      (g := F0 m 5 #[.val (.int x), .val (.int y)] [v, .int y, .int x]) ⟨hx, hb, hml, hown, hts'⟩ (k_met1 l A) (index := 1059)
      (va_cwS 3 hts' (dTb_good (fun w hw => by
            simp only [va_wsS, List.mem_append, List.mem_cons, List.not_mem_nil, or_false] at hw
            rcases hw with (rfl | rfl | rfl) | rfl
            · exact dTb_of (tI 550 (by decide +kernel)) rfl
            · exact dTb_of (tI 551 (by decide +kernel)) rfl
            · exact dTb_of (tI 11 (by decide +kernel)) rfl
            · exact dTb_of (tI 552 (by decide +kernel)) rfl)) rfl rfl rfl ⟨by decide, by decide, by decide +kernel⟩ ⟨by decide, by decide⟩)
      ⟨fun a U g mk h => h, fun U hU hW => ⟨x, y, v, rfl, hv, h0, h1⟩⟩ rfl rfl rfl rfl (by show 2 * 0 + 0 ≤ 8; decide) (by show decode prog_25_method_155_code 5 = _; decide +kernel) ⟨by decide, by decide⟩
    intro T hT X
    obtain ⟨r, st₀, t, T', L, q0, X', hL, e1, e2, ⟨z, hz, hz2⟩, go⟩ := hrun T hT X
    cases hz
    have w8 : W p l e kR2 s m #[.int x, .int y] below meth c s.heap ([] ++ L) 0 0 (MQ below kQ2 #[.int x, .int y] s 0 0 A) (F0 m 8 #[.val (.int x), .val (.int y)] [.int z]) := by
      refine lv_pop hx hb (show decode prog_25_method_155_code 8 = .ok (.pop, 1) by decide +kernel) rfl ?_
      exact W.vret hx hb hrt (fun t ht _ => ⟨rfl, ht⟩) (fun q hq => hL q (by simpa using hq)) (show decode prog_25_method_155_code 9 = .ok (.return_, 1) by decide +kernel) hlk
    obtain ⟨t2, a1, b1⟩ := w8 T' (by rw [e1, hz2, q0]) X'
    exact ⟨t2, go t2 a1, b1⟩
  refine lv_iload_n (i := 0) (x := x) hx hb (show decode prog_25_method_155_code 0 = .ok (.iload_n 0, 1) by decide +kernel) rfl rfl ?_
  refine lv_iload_n (i := 1) (x := y) hx hb (show decode prog_25_method_155_code 1 = .ok (.iload_n 1, 1) by decide +kernel) rfl rfl ?_
  rcases hZ with hZ | ⟨t, hZ⟩
  · exact va_gets hx hb hZ hS hown (hts' _ hfl) (fun _ z => z) (show decode prog_25_method_155_code 2 = .ok (.getstatic 1053, 3) by decide +kernel) (key .null rfl)
  · exact va_gets hx hb hZ hS hown (hts' _ hfl) (fun _ z => z) (show decode prog_25_method_155_code 2 = .ok (.getstatic 1053, 3) by decide +kernel) (key (.ref t) rfl)
section LDC
variable {p : Program} {l : Launch} {ee : Env} {R : Room} {s : State} {mth : MethodId} {args : Array Value} {below : List Frame} {meth : Method} {c : Code} {Q : State → Prop} {H : Heap} {locs : List Loc} {cells slots : Nat} {pc : Nat} {ls : Array Slot} {rest : List Value} {cc : ByteArray}
theorem s_ldc (hx : p.tables.exec = Jvm.exec) (hb : c.code = cc) {own text : String} {idx a : Nat} (hown : s.vm.findClass own = some mth.cls) (hv : vk_R own idx text a s) (hdg : decode cc pc = .ok (.ldc idx, 2))
    (k : W p l ee R s mth args below meth c H locs cells slots Q (F0 mth (pc + 2) ls (.ref a :: rest))) : W p l ee R s mth args below meth c H locs cells slots Q (F0 mth pc ls rest) := by
  intro T hT X
  obtain ⟨t, a1, b1⟩ := k T hT X
  exact ⟨t, X.ldcString hx (own := own) (text := text) (index := idx) (a := a) hown hv.1 hv.2 (g := F0 mth pc ls rest) rfl (by rw [hb]; exact hdg) t a1, b1⟩
theorem s_ldcw (hx : p.tables.exec = Jvm.exec) (hb : c.code = cc) {own text : String} {idx a : Nat} (hown : s.vm.findClass own = some mth.cls) (hv : vk_R own idx text a s) (hdg : decode cc pc = .ok (.ldc_w idx, 3))
    (k : W p l ee R s mth args below meth c H locs cells slots Q (F0 mth (pc + 3) ls (.ref a :: rest))) : W p l ee R s mth args below meth c H locs cells slots Q (F0 mth pc ls rest) := by
  intro T hT X
  obtain ⟨t, a1, b1⟩ := k T hT X
  exact ⟨t, X.ldcStringW hx (own := own) (text := text) (index := idx) (a := a) hown hv.1 hv.2 (g := F0 mth pc ls rest) rfl (by rw [hb]; exact hdg) t a1, b1⟩
/-- what is checked of an index -/
theorem dCx_ok : ∀ q ∈ dCx, Cond.methodLink (dOwn q.1) q.2 kY2 ∈ dTb := List.forall_mem_cons.mpr ⟨dTb_of (tI 1381 (by decide +kernel)) rfl, List.forall_mem_cons.mpr ⟨dTb_of (tI 901 (by decide +kernel)) rfl, fun _ h => absurd h List.not_mem_nil⟩⟩
theorem s_chk {e : dEnv} {D : va_G} {d j : Nat} {m : dMem} (C : dEv p l R s mth args meth c e D d j) {i : Nat} (hi : (dOn j, i) ∈ dCx) (hdg : decode (dBy j) pc = .ok (.invokestatic i, 3)) {x y : Int32} (h0 : 0 ≤ x.toInt) (h1 : x.toInt < y.toInt) (hsum : dSum rest ≤ 8) (hR : dRep D m s H) (hS : va_S (dA e) s.heap H locs) (hsz : ls.size = c.maxLocals) (hc : cells ≤ R.cells) (hs : slots ≤ R.slots)
    (k : ∀ (locs1 : List Loc) (H1 : Heap), dRep D m s H1 → va_S (dA e) s.heap H1 locs1 → W p l ee R s mth args below meth c H1 locs1 cells slots Q (F0 mth (pc + 3) ls rest)) : W p l ee R s mth args below meth c H locs cells slots Q (F0 mth pc ls (.int y :: .int x :: rest)) := by
  obtain ⟨hx, hb, hml, hown, hlk, hts, hst, hnm, htab, hrt, hI, hfr, hlo⟩ := C
  have hrun := va_runS (p := p) (l := l) (e := ee) (R := R) (s := s) (m := mth) (args := args) (below := below) (meth := meth) (c := c) (H := H) (locs := locs) (cells := cells) (slots := slots) (rest := rest) (As := [.int x, .int y]) (Ts := dTb) (own := dOwn (dOn j))
      (g := F0 mth pc ls (.int y :: .int x :: rest)) ⟨hx, hb, hml, hown, hts⟩ (k_met2 l (dA e)) (index := i)
      (va_cwS 2 hts (dTb_good (fun w hw => by
            simp only [va_wsS, List.mem_append, List.mem_cons, List.not_mem_nil, or_false] at hw
            rcases hw with (rfl | rfl | rfl) | rfl | hw
            · exact dCx_ok _ hi
            · exact dTb_of (tI 548 (by decide +kernel)) rfl
            · exact dTb_of (tI 5 (by decide +kernel)) rfl
            · exact dTb_of (tI 549 (by decide +kernel)) rfl
            · exact hw)) rfl rfl rfl ⟨by decide, by decide, by decide +kernel⟩ ⟨by show 3 + 1 ≤ _; omega, by show 8 + (2 + 11) + 150 ≤ _; omega⟩)
      ⟨fun a U g mk h => by
          obtain ⟨x, y, a1, a2, a3, a4⟩ := h
          exact ⟨x, y, a1, a2, a3, va_Zq.moved (u := U) (U := U.calling g mk a) (Vm.Alike.refl U.vm) a4⟩, fun U hU hW => ⟨x, y, rfl, h0, h1, by rw [hU]; exact va_Zq.moved hW.alike (hI.2.2.2.2.2.2.1.kept hS.2.1)⟩⟩ rfl rfl (hsz.trans hml) rfl (by show 2 * 0 + _ ≤ 8; rw [dSum_eq]; omega) hdg ⟨by omega, by omega⟩
  intro T hT X
  obtain ⟨r, st₀, t, T', L, q0, X', hL, e1, e2, ⟨z, hz2⟩, go⟩ := hrun T hT X
  cases z
  obtain ⟨t2, a1, b1⟩ := k (locs ++ L) H hR ⟨hS.1, hS.2.1, fun q hq => by
    rcases List.mem_append.mp hq with h | h
    · exact hS.2.2 q h
    · exact hL q h⟩ T' (by rw [e1, hz2, q0]) X'
  exact ⟨t2, go t2 a1, b1⟩
end LDC
end
