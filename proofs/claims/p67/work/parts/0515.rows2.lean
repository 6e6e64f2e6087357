/-! ===== rows of what makes cells, of natives, of throws ===== -/
section RW2
variable {p : Program} {l : Launch} {ee : Env} {R : Room} {s : State} {mth : MethodId} {args : Array Value} {below : List Frame} {meth : Method} {c : Code} {Q : State → Prop} {H : Heap} {locs : List Loc} {cells slots : Nat} {pc : Nat} {ls : Array Slot} {rest : List Value} {cc : ByteArray}
variable {e : dEnv} {D : va_G} {m : dMem}
theorem va_S.push {A : Nat → Prop} {H0 H H1 : Heap} {locs : List Loc} (h : va_S A H0 H locs) (z : H1.size = H.size + 1) (o1 : ∀ q : Nat, q < H.size → H1[q]? = H[q]?) : va_S A H0 H1 locs :=
  ⟨Nat.le_trans h.1 (by omega), fun x h1 h2 => (o1 x (Nat.lt_of_lt_of_le h1 h.1)).trans (h.2.1 x h1 h2), h.2.2⟩
theorem dDf_fit (kd j : Nat) (g : Nat → Int32) (h : dDf kd = .inl g) : cvI kd (g j) = g j := by
  unfold dDf at h
  split at h
  · cases h
  · split at h
    · cases h
    · split at h
      · cases h
      split at h
      · cases h
      · cases h
        unfold cvI
        split
        · rfl
        · split
          · show (0 : Int32) &&& 1 = 0
            decide
          · rfl
theorem dDf_vl {kd : Nat} (h : kd < 5) (j : Nat) : dvl (dDf kd) j = defaultValue (dty kd) := by
  match kd, h with
  | 0, _ => rfl
  | 1, _ => rfl
  | 2, _ => rfl
  | 3, _ => rfl
  | 4, _ => rfl
theorem s_newA (hx : p.tables.exec = Jvm.exec) (hb : c.code = cc) (hR : dRep D m s H) (hS : va_S (dA e) s.heap H locs) {t : ArrayType} {kd : Nat} (ht : newarray.typeOf t = dty kd) (hkd : kd < 5) (harr : (Cond.arrayClass (newarray.typeOf t)).before args s = true)
    {n : Int32} (h0 : 0 ≤ n.toInt) (h1 : n.toInt ≤ 100000) (hcells : cells + 1 ≤ R.cells) (hslots : slots + n.toInt.toNat ≤ R.slots) (hdg : decode cc pc = .ok (.newarray t, 2))
    (kk : ∀ H' : Heap, dRep D (nA m kd n.toInt.toNat) s H' → va_S (dA e) s.heap H' locs → W p l ee R s mth args below meth c H' locs (cells + 1) (slots + n.toInt.toNat) Q (F0 mth (pc + 2) ls (.ref m.2.1 :: rest))) : W p l ee R s mth args below meth c H locs cells slots Q (F0 mth pc ls (.int n :: rest)) := by
  have hb8 : componentBytes (newarray.typeOf t) ≤ 8 := by cases t <;> decide
  refine va_newaK hx hb harr rfl hdg rfl (fun q => by rw [Int32.lt_iff_toInt_lt] at q; simp at q; omega) (dClamp n) ?_ hcells hslots hR.1 fun H' cA e1 z1 o1 hAr hNm => ?_
  · have : n.toInt.toNat ≤ 100000 := by omega
    calc n.toInt.toNat * componentBytes (newarray.typeOf t) ≤ 100000 * 8 := Nat.mul_le_mul this hb8
      _ ≤ 536870912 := by decide
  · rw [← hR.1] at e1 z1 o1
    refine kk H' (hR.push z1 o1 ⟨_, e1, ?_, fun h => (by cases h), ⟨Nat.le_of_eq (arrV_size _ _ _).symm, by rw [arrV_size]⟩, fun j hj => ?_, fun h => absurd h (by show ¬ kd = 5; omega), fun g hg j _ => dDf_fit kd j g hg, fun h => absurd h (by show ¬ kd = 6; omega), fun h _ => ⟨?_, by rw [arrV_size], rfl⟩⟩) (hS.push z1 o1)
    · show s.isArrayOf _ (dty kd)
      rw [← ht]
      exact hAr _ _
    · show (arrV _ _ _).slots[j]? = some (dvl (dDf kd) j)
      rw [arrV_read _ _ hj, dDf_vl hkd, ht]
    · have h3 : kd = 3 := h
      rw [ht, h3] at hNm
      exact hNm
theorem s_anew (hx : p.tables.exec = Jvm.exec) (hb : c.code = cc) (hK : va_K D dCl [] s) (hR : dRep D m s H) (hS : va_S (dA e) s.heap H locs) {own : String} {idx : Nat} (hown : s.vm.findClass own = some mth.cls) (hcl : (Cond.classLink own idx "RetentionArchive$Archive").before args s = true) (hov : (Cond.arrayOver (.object "RetentionArchive$Archive")).before args s = true)
    {n : Int32} (h0 : 0 ≤ n.toInt) (h1 : n.toInt ≤ 100000) (hcells : cells + 1 ≤ R.cells) (hslots : slots + n.toInt.toNat ≤ R.slots) (hdg : decode cc pc = .ok (.anewarray idx, 3))
    (kk : ∀ H' : Heap, dRep D (nA m 5 n.toInt.toNat) s H' → va_S (dA e) s.heap H' locs → W p l ee R s mth args below meth c H' locs (cells + 1) (slots + n.toInt.toNat) Q (F0 mth (pc + 3) ls (.ref m.2.1 :: rest))) : W p l ee R s mth args below meth c H locs cells slots Q (F0 mth pc ls (.int n :: rest)) := by
  refine W.anew hx hb hown hcl hov rfl hdg rfl (fun q => by rw [Int32.lt_iff_toInt_lt] at q; simp at q; omega) (by rw [dClamp]; omega) hcells (by rw [dClamp]; exact hslots) fun cA kA comp g1 g2 g3 g4 => ?_
  have hcc : comp = D.1 2 := by
    have h2 := (hK.1 2 _ rfl).2.1
    exact Option.some.inj (g4.symm.trans h2)
  subst hcc
  have o1 : ∀ q : Nat, q < H.size → (H.push ({ cls := cA, slots := Array.replicate n.toNatClampNeg .null, vm := .none } : Cell))[q]? = H[q]? := by
    intro q hq
    rw [Array.getElem?_push, if_neg (Nat.ne_of_lt hq)]
  have z1 : (H.push ({ cls := cA, slots := Array.replicate n.toNatClampNeg .null, vm := .none } : Cell)).size = H.size + 1 := by simp
  have hz8 : (Array.replicate n.toNatClampNeg Value.null).size = n.toInt.toNat := by rw [Array.size_replicate, dClamp]
  have hz9 : n.toInt.toNat ≤ (Array.replicate n.toNatClampNeg Value.null).size ∧ (Array.replicate n.toNatClampNeg Value.null).size.toInt32 = Int32.ofNat n.toInt.toNat := ⟨Nat.le_of_eq hz8.symm, by rw [hz8]⟩
  have hk := kk _ (hR.push (o := .inl (5, n.toInt.toNat, dDf 5)) z1 o1 ⟨({ cls := cA, slots := Array.replicate n.toNatClampNeg .null, vm := .none } : Cell), by simp, ⟨fun k h => (by cases h), kA, g2, _, g3⟩, fun h => (by cases h), hz9, fun j hj => ?_, fun _ => ⟨kA, g2, g3⟩, fun g hg => (by cases hg), fun h => absurd h (by show ¬ 5 = 6; omega), fun h => absurd h (by show ¬ 5 = 3; omega)⟩) (hS.push z1 o1)
  · rw [hR.1]
    exact hk
  · have hj' : j < n.toNatClampNeg := hj
    show (Array.replicate n.toNatClampNeg Value.null)[j]? = _
    rw [Array.getElem?_replicate, if_pos hj']
    rfl
theorem s_anew6 (hx : p.tables.exec = Jvm.exec) (hb : c.code = cc) (hK : va_K D dCl [] s) (hR : dRep D m s H) (hS : va_S (dA e) s.heap H locs) {own : String} {idx : Nat} (hown : s.vm.findClass own = some mth.cls) (hcl : (Cond.classLink own idx "RetentionArchiveLaw$Box").before args s = true) (hov : (Cond.arrayOver (.object "RetentionArchiveLaw$Box")).before args s = true)
    {n : Int32} (h0 : 0 ≤ n.toInt) (h1 : n.toInt ≤ 100000) (hcells : cells + 1 ≤ R.cells) (hslots : slots + n.toInt.toNat ≤ R.slots) (hdg : decode cc pc = .ok (.anewarray idx, 3))
    (kk : ∀ H' : Heap, dRep D (nA m 6 n.toInt.toNat) s H' → va_S (dA e) s.heap H' locs → W p l ee R s mth args below meth c H' locs (cells + 1) (slots + n.toInt.toNat) Q (F0 mth (pc + 3) ls (.ref m.2.1 :: rest))) : W p l ee R s mth args below meth c H locs cells slots Q (F0 mth pc ls (.int n :: rest)) := by
  refine W.anew hx hb hown hcl hov rfl hdg rfl (fun q => by rw [Int32.lt_iff_toInt_lt] at q; simp at q; omega) (by rw [dClamp]; omega) hcells (by rw [dClamp]; exact hslots) fun cA kA comp g1 g2 g3 g4 => ?_
  have hcc : comp = D.1 10 := by
    have h2 := (hK.1 10 _ rfl).2.1
    exact Option.some.inj (g4.symm.trans h2)
  subst hcc
  have o1 : ∀ q : Nat, q < H.size → (H.push ({ cls := cA, slots := Array.replicate n.toNatClampNeg .null, vm := .none } : Cell))[q]? = H[q]? := by
    intro q hq
    rw [Array.getElem?_push, if_neg (Nat.ne_of_lt hq)]
  have z1 : (H.push ({ cls := cA, slots := Array.replicate n.toNatClampNeg .null, vm := .none } : Cell)).size = H.size + 1 := by simp
  have hz8 : (Array.replicate n.toNatClampNeg Value.null).size = n.toInt.toNat := by rw [Array.size_replicate, dClamp]
  have hz9 : n.toInt.toNat ≤ (Array.replicate n.toNatClampNeg Value.null).size ∧ (Array.replicate n.toNatClampNeg Value.null).size.toInt32 = Int32.ofNat n.toInt.toNat := ⟨Nat.le_of_eq hz8.symm, by rw [hz8]⟩
  have hk := kk _ (hR.push (o := .inl (6, n.toInt.toNat, dDf 6)) z1 o1 ⟨({ cls := cA, slots := Array.replicate n.toNatClampNeg .null, vm := .none } : Cell), by simp, ⟨fun k h => (by cases h), kA, g2, _, g3⟩, fun h => (by cases h), hz9, fun j hj => ?_, fun h => absurd h (by show ¬ 6 = 5; omega), fun g hg => (by cases hg), fun _ => ⟨kA, g2, g3⟩, fun h => absurd h (by show ¬ 6 = 3; omega)⟩) (hS.push z1 o1)
  · rw [hR.1]
    exact hk
  · have hj' : j < n.toNatClampNeg := hj
    show (Array.replicate n.toNatClampNeg Value.null)[j]? = _
    rw [Array.getElem?_replicate, if_pos hj']
    rfl
theorem s_newO (hcl0 : dClOk) (hx : p.tables.exec = Jvm.exec) (hb : c.code = cc) (hts : ∀ w ∈ dTb, w.before args s = true) (hK : va_K D dCl [] s) (hR : dRep D m s H) (hS : va_S (dA e) s.heap H locs) {own : String} {idx ci : Nat} (hown : s.vm.findClass own = some mth.cls)
    {r : vw_C} (hr : dCl[ci]? = some r) (hcl : (Cond.classLink own idx r.1).before args s = true) (hins : (Cond.instantiable r.1 r.2.2).before args s = true) (hini : (Cond.initialized r.1).before args s = true) (hnf : dNf ci = r.2.2)
    (hcells : cells + 1 ≤ R.cells) (hslots : slots + dNf ci ≤ R.slots) (hdg : decode cc pc = .ok (.new idx, 3))
    (kk : ∀ H' : Heap, dRep D (nO m ci (dNf ci) (dDef ci)) s H' → va_S (dA e) s.heap H' locs → W p l ee R s mth args below meth c H' locs (cells + 1) (slots + dNf ci) Q (F0 mth (pc + 3) ls (.ref m.2.1 :: rest))) : W p l ee R s mth args below meth c H locs cells slots Q (F0 mth pc ls rest) := by
  obtain ⟨C, T, N⟩ := r
  obtain ⟨hin, hty, -⟩ := hcl0 ci _ hr
  have hKn := hK.1 ci _ hr
  rw [hnf] at hslots
  refine W.newcK hx hb hown hcl hins hini rfl hdg hcells hslots hKn.2.1 hR.1 fun H1 kC hkC e1 z1 o1 => ?_
  rw [← hR.1] at e1 z1 o1
  have hk := kk H1 (hR.push (o := .inr (ci, dDef ci)) z1 o1 ⟨_, hr, t_OB.d ((u_born (dTy ci) hts hin hKn hkC e1 hty).to (fun k _ => rfl))⟩) (hS.push z1 o1)
  rw [hnf] at hk
  exact hk
theorem s_cp (hx : p.tables.exec = Jvm.exec) (hb : c.code = cc) (hml : c.maxLocals = ls.size) (hR : dRep D m s H) (hS : va_S (dA e) s.heap H locs) {own : String} {idx : Nat} (hown : s.vm.findClass own = some mth.cls) (hlink : (Cond.methodLink own idx arraycopyName).before args s = true) (hnat : (Cond.native arraycopyName).before args s = true) (hstat : (Cond.static arraycopyName).before args s = true) (hini : (Cond.initialized "java/lang/System").before args s = true)
    {a b : Nat} {sp dp n : Int32} {m' : dMem} (hm : aCp e m a sp b dp n = some m') (hframes : 1 ≤ R.frames) (hlocals : (rest.map fun v => v.category).sum + (nativeFrameWords "java/lang/System" "arraycopy" 5 + 11) ≤ R.locals) (hdg : decode cc pc = .ok (.invokestatic idx, 3))
    (kk : ∀ (H' : Heap) (locs' : List Loc), dRep D m' s H' → va_S (dA e) s.heap H' locs' → W p l ee R s mth args below meth c H' locs' cells slots Q (F0 mth (pc + 3) ls rest)) : W p l ee R s mth args below meth c H locs cells slots Q (F0 mth pc ls (.int n :: .int dp :: .ref b :: .int sp :: .ref a :: rest)) := by
  have key : ∀ (k na nb : Nat) (ca cb cb' : dArr), m.1 a = some (.inl (k, na, ca)) → m.1 b = some (.inl (k, nb, cb)) → k < 5 → e.1 ≤ b → 0 ≤ sp.toInt → 0 ≤ dp.toInt → 0 ≤ n.toInt → sp.toInt + n.toInt ≤ na → dp.toInt + n.toInt ≤ nb →
      (∀ i, i < na → fits (dty k) (dvl ca i) = true ∧ ∀ (T : State) (dc : ClassId), T.takes dc (dvl ca i)) → (∀ j, j < nb → dvl cb' j = if dp.toInt.toNat ≤ j ∧ j < dp.toInt.toNat + n.toInt.toNat then dvl ca (sp.toInt.toNat + (j - dp.toInt.toNat)) else dvl cb j) → (∀ g, cb' = .inl g → ∀ j, j < nb → cvI k (g j) = g j) → m' = dUp m b (.inl (k, nb, cb')) →
      W p l ee R s mth args below meth c H locs cells slots Q (F0 mth pc ls (.int n :: .int dp :: .ref b :: .int sp :: .ref a :: rest)) := by
    intro k na nb ca cb cb' hma hmb hk5 he h1 h2 h3 h4 h5 hfit hv hfc hm'
    obtain ⟨cs, a1, a2, a3, a4, a5, -⟩ := hR.2 a _ hma
    obtain ⟨cd, b1, b2, b3, b4, b5, b6, -, -, b9⟩ := hR.2 b _ hmb
    obtain ⟨as0, ks, hks, sc, hsk⟩ := a2
    obtain ⟨bs0, kd, hkd, dc, hdk⟩ := b2
    simp only at a4 a5 b4 b5
    have hneg : ∀ z : Int32, 0 ≤ z.toInt → ¬ z < 0 := fun z hz q => by rw [Int32.lt_iff_toInt_lt] at q; simp at q; omega
    have hprim : refKind (dty k) = false := by
      match k, hk5 with
      | 0, _ => rfl
      | 1, _ => rfl
      | 2, _ => rfl
      | 3, _ => rfl
      | 4, _ => rfl
    intro T hT X
    obtain ⟨vm', X', step⟩ := X.arraycopy hx hown hlink hnat hstat hini (src := a) (dst := b) (cs := cs) (cd := cd) (srcPos := sp) (destPos := dp) (n := n) (by rw [hT]; exact a1) (by rw [hT]; exact b1)
      as0 bs0 a3 b3 hks hkd hsk hdk (by rw [hprim]; simp) (hneg _ h1) (hneg _ h2) (hneg _ h3) (by have := a4.1; omega) (by have := b4.1; omega)
      (fun vm₁ _ i hi => by
        have hi' : i < n.toInt.toNat := hi
        have e9 : cs.slots.getD (sp.toNatClampNeg + i) .null = dvl ca (sp.toInt.toNat + i) := by
          rw [Array.getD_eq_getD_getElem?, dClamp, a5 _ (by omega)]
          rfl
        rw [e9]
        exact ⟨(hfit _ (by omega)).1, (hfit _ (by omega)).2 _ _⟩)
      (g := F0 mth pc ls (.int n :: .int dp :: .ref b :: .int sp :: .ref a :: rest)) rfl (by rw [hml]) (rest := rest) rfl (by rw [hb]; exact hdg) hframes (by show 2 * 0 + _ + _ ≤ _; omega)
    have hl : b < H.size := (Array.getElem?_eq_some_iff.mp b1).1
    obtain ⟨f1, f2, f3, -, -⟩ := cd.storeRun_facts dp.toNatClampNeg (cs.stretch sp.toNatClampNeg n.toNatClampNeg)
    have hlen : (cs.stretch sp.toNatClampNeg n.toNatClampNeg).length = n.toInt.toNat := by unfold Cell.stretch; rw [List.length_map, List.length_range, dClamp]
    have hget := fun j => cd.storeRun_get dp.toNatClampNeg (cs.stretch sp.toNatClampNeg n.toNatClampNeg) j (by rw [hlen, dClamp]; have := b4.1; omega)
    have hheap : ((T.setVm vm').setCell b (copied cs cd sp dp n)).heap = H.setIfInBounds b (copied cs cd sp dp n) := by rw [← hT]; rfl
    have oq : ∀ q : Nat, q ≠ b → (H.setIfInBounds b (copied cs cd sp dp n))[q]? = H[q]? := fun q hq => by simp [Array.getElem?_setIfInBounds, Ne.symm hq]
    obtain ⟨t, g1, g2⟩ := kk (H.setIfInBounds b (copied cs cd sp dp n)) _ (by
        rw [hm']
        refine hR.up (by simp) oq ⟨copied cs cd sp dp n, by simp [Array.getElem?_setIfInBounds, hl], ?_, ?_, (by rw [show (copied cs cd sp dp n).slots.size = cd.slots.size from f3]; exact b4), fun j hj => ?_, fun h => absurd h (by show ¬ k = 5; omega), hfc, fun h => absurd h (by show ¬ k = 6; omega), fun h z => ⟨by rw [show (copied cs cd sp dp n).cls = cd.cls from f1]; exact (b9 h z).1, by rw [show (copied cs cd sp dp n).slots.size = cd.slots.size from f3]; exact (b9 h z).2.1, by rw [show (copied cs cd sp dp n).vm = cd.vm from f2]; exact (b9 h z).2.2⟩⟩
        · exact ⟨fun q h => bs0 q (f2.symm.trans h), kd, by rw [show (copied cs cd sp dp n).cls = cd.cls from f1]; exact hkd, dc, hdk⟩
        · rw [show (copied cs cd sp dp n).vm = cd.vm from f2]; exact b3
        · show (cd.storeRun dp.toNatClampNeg (cs.stretch sp.toNatClampNeg n.toNatClampNeg)).slots[j]? = some (dvl cb' j)
          rw [hget j, hv j hj, hlen, dClamp]
          by_cases hin : dp.toInt.toNat ≤ j ∧ j < dp.toInt.toNat + n.toInt.toNat
          · rw [if_pos hin, if_pos hin]
            simp only [Cell.stretch, List.getElem?_map, dClamp]
            rw [List.getElem?_range (by omega)]
            simp only [Option.map_some]
            rw [Array.getD_eq_getD_getElem?, a5 _ (by omega)]
            rfl
          · rw [if_neg hin, if_neg hin]
            exact b5 j hj) ⟨by simp; exact hS.1, fun q g1 g2 => by
        rw [oq q (fun e9 => g2 (by rw [e9]; exact he))]
        exact hS.2.1 q g1 g2, fun q hq => by
        rcases List.mem_append.mp hq with h | h
        · exact hS.2.2 q h
        · obtain ⟨z, -, hz⟩ := List.mem_map.mp h
          rw [← hz]
          exact he⟩ _ hheap X'
    exact ⟨t, step t g1, g2⟩
  unfold aCp at hm
  split at hm
  · rename_i k na f k' nb g hma hmb
    split at hm
    · rename_i hc
      obtain ⟨rfl, hk, he, h1, h2, h3, h4, h5⟩ := hc
      cases hm
      obtain ⟨cs, -, -, -, -, -, -, hfa, -⟩ := hR.2 a _ hma
      obtain ⟨cd, -, -, -, -, -, -, hfb, -⟩ := hR.2 b _ hmb
      refine key k na nb (.inl f) (.inl g) _ hma hmb (by omega) he h1 h2 h3 h4 h5 (fun i hi => ⟨?_, fun _ _ => trivial⟩) (fun j _ => ?_) (fun g' hg' j hj => ?_) rfl
      · rcases hk with rfl | rfl
        · rfl
        · have := hfa f rfl i hi
          show fits .byte (.int (f i)) = true
          rw [← this]
          exact pk_fb _
      · simp only [dvl, dCp]
        split <;> rfl
      · cases hg'
        simp only [dCp]
        split
        · exact hfa f rfl _ (by show _ < na; omega)
        · exact hfb g rfl j hj
    · cases hm
  · rename_i k na f k' nb g hma hmb
    split at hm
    · rename_i hc
      obtain ⟨rfl, hk, he, h1, h2, h3, h4, h5⟩ := hc
      cases hm
      subst hk
      refine key 1 na nb (.inr (.inl f)) (.inr (.inl g)) _ hma hmb (by omega) he h1 h2 h3 h4 h5 (fun i hi => ⟨rfl, fun _ _ => trivial⟩) (fun j _ => ?_) (fun g' hg' => by cases hg') rfl
      simp only [dvl, dCp]
      split <;> rfl
    · cases hm
  · cases hm
theorem aCl_eq {m m' : dMem} {a : Nat} (h : aCl e m a = some m') : ∃ (n : Nat) (f : Nat → Int32), m.1 a = some (.inl (3, n, .inl f)) ∧ e.1 ≤ a ∧ m' = (fun q => if q = m.2.1 then some (.inl (3, n, .inl f)) else m.1 q, m.2.1 + 1, m.2.2 + n) := by
  unfold aCl at h
  split at h
  · rename_i n f hm
    split at h
    · rename_i he
      cases h
      exact ⟨n, f, hm, he, rfl⟩
    · cases h
  · cases h
theorem isB_eq {m : dMem} {a : Nat} (h : isB e m a = true) : ∃ (n : Nat) (f : Nat → Int32), m.1 a = some (.inl (3, n, .inl f)) ∧ e.1 ≤ a := by
  unfold isB at h
  split at h
  · rename_i n f hm
    exact ⟨n, f, hm, Nat.le_of_ble_eq_true h⟩
  · cases h
/-- an array of bytes is copied whole: the native clone -/
theorem s_clone (hx : p.tables.exec = Jvm.exec) (hb : c.code = cc) (hml : c.maxLocals = ls.size) (h100 : D.1 100 = e.1) (hR : dRep D m s H) (hS : va_S (dA e) s.heap H locs) {own : String} {index : Nat} (hown : s.vm.findClass own = some mth.cls)
    (hlink : (Cond.methodLink own index ⟨"[B", "clone", "()Ljava/lang/Object;"⟩).before args s = true) (hsame : (Cond.sameMethod "[B" "java/lang/Object" "clone" "()Ljava/lang/Object;").before args s = true)
    (hnat : (Cond.native ⟨"java/lang/Object", "clone", "()Ljava/lang/Object;"⟩).before args s = true) (hinst : (Cond.instanceMethod ⟨"java/lang/Object", "clone", "()Ljava/lang/Object;"⟩).before args s = true)
    (hsel : (Cond.selects "[B" ⟨"[B", "clone", "()Ljava/lang/Object;"⟩ ⟨"java/lang/Object", "clone", "()Ljava/lang/Object;"⟩).before args s = true) (hcl : va_Nw (.castable "[B" "java/lang/Cloneable") s)
    {a : Nat} {m' : dMem} (hm : aCl e m a = some m') (hframes : 1 ≤ R.frames) (hlocals : (rest.map fun v => v.category).sum + 14 ≤ R.locals) (hcells : cells + 1 ≤ R.cells) (hslots : slots + (m'.2.2 - m.2.2) ≤ R.slots) (hdg : decode cc pc = .ok (.invokevirtual index, 3))
    (kk : ∀ H' : Heap, dRep D m' s H' → va_S (dA e) s.heap H' locs → W p l ee R s mth args below meth c H' locs (cells + 1) (slots + (m'.2.2 - m.2.2)) Q (F0 mth (pc + 3) ls (.ref m.2.1 :: rest))) : W p l ee R s mth args below meth c H locs cells slots Q (F0 mth pc ls (.ref a :: rest)) := by
  obtain ⟨n, f, hma, hea, rfl⟩ := aCl_eq hm
  obtain ⟨cell, g1, g2, g3, g4, g5, g6, g7, g8, g9⟩ := hR.2 a _ hma
  obtain ⟨k1, k2, k3⟩ := g9 rfl (by rw [h100]; exact hea)
  have hn9 : m.2.2 + n - m.2.2 = n := by omega
  simp only [hn9] at hslots kk
  obtain ⟨c0, t0', f1, f2, f3⟩ := Cond.castable_spec (va_Nw.use (A := args) rfl hcl)
  cases k1.symm.trans f1
  intro T hT X
  obtain ⟨-, kA, hkA, comp, hkind⟩ := State.isArrayOf_alike X.warmed.alike g2
  have g2' := g2
  obtain ⟨-, kS, hkS, compS, hkindS⟩ := g2
  obtain ⟨vm', X', st⟩ := X.cloneArray hx hown hlink hsame hnat hinst hsel (a := a) (cell := cell) (by rw [hT]; exact g1) (fun k h => by rw [k3] at h; cases h) g3 k1 f2 f3
    (fun i v hv => by
      have hi : i < n := by
        have := (Array.getElem?_eq_some_iff.mp hv).1
        rw [k2] at this
        exact this
      have h5 := g5 i hi
      rw [hv] at h5
      cases h5
      have hk' : T.vm.classes[cell.cls]? = some kA := hkA
      have hf9 : fits .byte (.int (f i)) = true := by
        have := g7 f rfl i hi
        rw [← this]
        exact pk_fb _
      simpa [State.fitsSlot, State.slotType?, hk', hkind, dvl, dty] using hf9)
    (g := F0 mth pc ls (.ref a :: rest)) rfl (by rw [hml]) rfl (by rw [hb]; exact hdg) hframes (by show 2 * 0 + _ + 14 ≤ _; omega) hcells (by rw [k2]; exact hslots) (hloader := Vm.clonesLoader_of_array hkS hkindS)
  rw [k2] at X'
  generalize hcE : ({ cls := cell.cls, slots := cell.slots } : Cell) = cN at X' st
  have n1 : cN.cls = cell.cls := by rw [← hcE]
  have n2 : cN.slots = cell.slots := by rw [← hcE]
  have n3 : cN.vm = .none := by rw [← hcE]
  have z1 : (H.push cN).size = H.size + 1 := by rw [Array.size_push]
  have e1 : (H.push cN)[H.size]? = some cN := Array.getElem?_push_size
  have o1 : ∀ q : Nat, q < H.size → (H.push cN)[q]? = H[q]? := fun q hq => by rw [Array.getElem?_push, if_neg (Nat.ne_of_lt hq)]
  obtain ⟨t, b1, b2⟩ := kk (H.push cN) (hR.push (o := .inl (3, n, .inl f)) z1 o1 ⟨cN, e1, ⟨(fun k h => by rw [n3] at h; cases h), kS, (by rw [n1]; exact hkS), compS, hkindS⟩, (fun h => by rw [n3] at h; cases h), (by rw [n2]; exact g4), (fun j hj => by rw [n2]; exact g5 j hj), (fun h => absurd h (by show ¬ 3 = 5; omega)), g7, fun h => absurd h (by show ¬ 3 = 6; omega), fun _ _ => ⟨(by rw [n1]; exact k1), (by rw [n2]; exact k2), n3⟩⟩) (hS.push z1 o1)
    ((T.setVm vm').pushCell cN) (by rw [← hT]; rfl) X'
  refine ⟨t, st t ?_, b2⟩
  rw [show T.heap.size = m.2.1 by rw [hT]; exact hR.1]
  exact b1
theorem s_castB (hx : p.tables.exec = Jvm.exec) (hb : c.code = cc) (h100 : D.1 100 = e.1) (hR : dRep D m s H) {own : String} {index : Nat} (hown : s.vm.findClass own = some mth.cls) (hlink : (Cond.classLink own index "[B").before args s = true) {a : Nat} (hm : isB e m a = true) (hdg : decode cc pc = .ok (.checkcast index, 3))
    (k : W p l ee R s mth args below meth c H locs cells slots Q (F0 mth (pc + 3) ls (.ref a :: rest))) : W p l ee R s mth args below meth c H locs cells slots Q (F0 mth pc ls (.ref a :: rest)) := by
  obtain ⟨n, f, hma, hea⟩ := isB_eq hm
  obtain ⟨cell, g1, g2, g3, g4, g5, g6, g7, g8, g9⟩ := hR.2 a _ hma
  obtain ⟨k1, k2, k3⟩ := g9 rfl (by rw [h100]; exact hea)
  intro T hT X
  obtain ⟨vm', X', st⟩ := X.checkcastYes hx hown hlink (a := a) (cell := cell) (by rw [hT]; exact g1) (by rw [k3]; rfl) k1 (va_asg _ _) (g := F0 mth pc ls (.ref a :: rest)) rfl rfl (by rw [hb]; exact hdg)
  obtain ⟨t, a1, b1⟩ := k (T.setVm vm') hT X'
  exact ⟨t, st t a1, b1⟩
end RW2
