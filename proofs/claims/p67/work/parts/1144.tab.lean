/-! ===== all words of the table hold ===== -/
theorem selX {y y0 : MethodName} {C : String} {s : State} {args : Array Value} (hcls : y.cls = y0.cls) (hs : (Cond.selects C y0 y0).before args s = true) (hy : y.cls ≠ "java/lang/invoke/MethodHandle" ∧ y.cls ≠ "java/lang/invoke/VarHandle") (hpriv : (Cond.privateMethod y).before args s = true) (hinst : (Cond.instanceMethod y).before args s = true) : (Cond.selects C y y).before args s = true := by
  obtain ⟨mk, methM, hnamed, hmethM, -, -⟩ := Cond.instanceMethod_spec hinst
  have hfound : s.methodFound? y.cls y.name y.desc = some mk := State.methodFound?_of_named hnamed hy
  have hsel : ∀ c, selectMethod {} s.vm c mk = .method mk := fun c => selectMethod_private hmethM (Cond.privateMethod_at hpriv mk methM hnamed hmethM)
  simp only [Cond.before, Cond.holds, Cond.value] at hs ⊢
  cases h1 : s.vm.findClass C with
  | none => simp [h1] at hs
  | some c =>
    cases h3 : s.methodFound? y0.cls y0.name y0.desc with
    | none => simp [h1, h3] at hs
    | some r =>
      cases h2 : s.methodNamed? y0 with
      | none => simp [h1, h2, h3] at hs
      | some m0 =>
        have hc : mk.cls = m0.cls := Option.some.inj ((findClass_of_methodNamed hnamed).symm.trans (by rw [hcls]; exact findClass_of_methodNamed h2))
        simp only [h1, h2, h3] at hs
        simp only [hfound, hnamed, hsel, hc]
        cases h4 : selectMethod {} s.vm c r with
        | method m' =>
          simp [h4] at hs
          simp
          exact hs.2
        | _ => simp [h4] at hs
theorem dTb_all {args : Array Value} {s : State} (hT : ∀ w ∈ lw_tbl, w.before args s = true) : ∀ w ∈ dTb, w.before args s = true := by
  intro w hw
  rcases List.mem_append.mp hw with hw | hw
  · have h0 := hT _ (tI (w := Cond.selects "java/lang/StringBuilder" ⟨"java/lang/AbstractStringBuilder", "isLatin1", "()Z"⟩ ⟨"java/lang/AbstractStringBuilder", "isLatin1", "()Z"⟩) 445 (by decide +kernel))
    unfold dXt at hw
    rcases List.mem_cons.mp hw with rfl | hw
    · exact selX (y0 := ⟨"java/lang/AbstractStringBuilder", "isLatin1", "()Z"⟩) rfl h0 (by decide +kernel) (hT _ (tI 409 (by decide +kernel))) (hT _ (tI 410 (by decide +kernel)))
    rcases List.mem_cons.mp hw with rfl | hw
    · exact selX (y0 := ⟨"java/lang/AbstractStringBuilder", "isLatin1", "()Z"⟩) rfl h0 (by decide +kernel) (hT _ (tI 413 (by decide +kernel))) (hT _ (tI 414 (by decide +kernel)))
    rcases List.mem_cons.mp hw with rfl | hw
    · exact selX (y0 := ⟨"java/lang/AbstractStringBuilder", "isLatin1", "()Z"⟩) rfl h0 (by decide +kernel) (hT _ (tI 474 (by decide +kernel))) (hT _ (tI 475 (by decide +kernel)))
    rcases List.mem_cons.mp hw with rfl | hw
    · exact selX (y0 := ⟨"java/lang/AbstractStringBuilder", "isLatin1", "()Z"⟩) rfl h0 (by decide +kernel) (hT _ (tI 478 (by decide +kernel))) (hT _ (tI 479 (by decide +kernel)))
    cases hw
  · exact hT w (List.mem_filter.mp hw).1
