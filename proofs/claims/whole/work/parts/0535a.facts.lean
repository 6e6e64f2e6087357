noncomputable section
def dNGf (w : Cond) : Bool := match w with
  | .castable _ _ => true
  | .declares _ => true
  | .methodLinkNest .. => true
  | _ => false
def dNG : List Cond := [.castable "java/lang/IllegalStateException" "java/lang/IllegalStateException", .castable "java/lang/IndexOutOfBoundsException" "java/lang/IndexOutOfBoundsException", .castable "java/lang/IllegalArgumentException" "java/lang/IllegalArgumentException", .declares ⟨"java/lang/RuntimeException", "<init>", "(Ljava/lang/String;)V"⟩, .declares ⟨"java/lang/Exception", "<init>", "(Ljava/lang/String;)V"⟩, .declares ⟨"java/lang/Throwable", "<init>", "(Ljava/lang/String;)V"⟩, .methodLinkNest "RetentionArchive" (9 : Nat) ({ cls := "RetentionArchive$Parser", name := "<init>", desc := "()V" } : Jvm.MethodName) "RetentionArchive", .methodLinkNest "RetentionArchive$Parser" (11 : Nat) ({ cls := "RetentionArchive$Input", name := "<init>", desc := "()V" } : Jvm.MethodName) "RetentionArchive", .methodLinkNest "RetentionArchive$Parser" (20 : Nat) ({ cls := "RetentionArchive$Archive", name := "<init>", desc := "()V" } : Jvm.MethodName) "RetentionArchive", .methodLinkNest "RetentionArchive$Archive" (11 : Nat) ({ cls := "RetentionArchive$RecordClasses", name := "<init>", desc := "()V" } : Jvm.MethodName) "RetentionArchive", .methodLinkNest "RetentionArchive$Archive" (20 : Nat) ({ cls := "RetentionArchive$Readers", name := "<init>", desc := "()V" } : Jvm.MethodName) "RetentionArchive", .methodLinkNest "RetentionArchive" (18 : Nat) ({ cls := "RetentionArchive$Archive", name := "<init>", desc := "()V" } : Jvm.MethodName) "RetentionArchive", .methodLinkNest "RetentionArchive$History" (17 : Nat) ({ cls := "RetentionArchive$Archive", name := "<init>", desc := "()V" } : Jvm.MethodName) "RetentionArchive", .methodLinkNest "RetentionArchive$Slots" (21 : Nat) ({ cls := "RetentionArchive$Archive", name := "<init>", desc := "()V" } : Jvm.MethodName) "RetentionArchive", .methodLinkNest "RetentionArchive$Input" (57 : Nat) ({ cls := "RetentionArchive", name := "withLetter", desc := "(JII)J" } : Jvm.MethodName) "RetentionArchive", .methodLinkNest "RetentionArchive$Parser" (247 : Nat) ({ cls := "RetentionArchive", name := "contains", desc := "([JIJ)Z" } : Jvm.MethodName) "RetentionArchive"]
theorem dNG_ok : dNG.all dNGf = true := rfl
theorem dNG_in : ∀ w ∈ dNG, w ∈ lw_tbl := by decide +kernel
def dNst (w : Cond) : Bool := match w with
  | .methodLinkNest .. => true
  | _ => false
theorem dNG_all : ∀ w ∈ lw_tbl, dNst w = true → w ∈ dNG := by decide +kernel
def dNc : List (String × String) := [("java/lang/IllegalStateException", "java/lang/IndexOutOfBoundsException"), ("java/lang/IllegalStateException", "java/lang/IllegalArgumentException"), ("java/lang/IndexOutOfBoundsException", "java/lang/IllegalStateException"), ("java/lang/IndexOutOfBoundsException", "java/lang/IllegalArgumentException"), ("java/lang/IllegalArgumentException", "java/lang/IllegalStateException"), ("java/lang/IllegalArgumentException", "java/lang/IndexOutOfBoundsException")]
def dXn : List String := ["java/lang/RuntimeException", "java/lang/Exception"]
def dXc (w : Cond) : Bool := ((decide (w ∈ lw_tbl) && goodWord w) || decide (w ∈ dNG)) && vx_ot w
theorem dXc_eq {w : Cond} (h : dXc w = true) : (w ∈ dTb ∨ w ∈ dNG) ∧ vx_ot w = true := by
  simp only [dXc, Bool.and_eq_true, Bool.or_eq_true, decide_eq_true_eq] at h
  exact ⟨h.1.imp (fun q => dTb_of q.1 q.2) id, h.2⟩
def dXf (own : String) (ik ic E : Nat) : Prop := Cond.classLink own ik (dEx E) ∈ dTb ∧ Cond.initialized (dEx E) ∈ dTb ∧ ∀ w ∈ vx_atS own ic (dEx E) dXn, dXc w = true
theorem dXl_q0 : dXf (dOwn 0) 61 65 2 := ⟨dTb_of (tI 364 (by decide +kernel)) rfl, dTb_of (tI 17 (by decide +kernel)) rfl, by decide +kernel⟩
theorem dXl_q1 : dXf (dOwn 0) 72 76 3 := ⟨dTb_of (tI 768 (by decide +kernel)) rfl, dTb_of (tI 20 (by decide +kernel)) rfl, by decide +kernel⟩
theorem dXl_q2 : dXf (dOwn 0) 340 344 1 := ⟨dTb_of (tI 805 (by decide +kernel)) rfl, dTb_of (tI 22 (by decide +kernel)) rfl, by decide +kernel⟩
theorem dXl_q3 : dXf (dOwn 4) 53 64 3 := ⟨dTb_of (tI 437 (by decide +kernel)) rfl, dTb_of (tI 20 (by decide +kernel)) rfl, by decide +kernel⟩
theorem dXl_ok : ∀ q ∈ dXl, dXf (dOwn q.1) q.2.1 q.2.2.1 q.2.2.2 := List.forall_mem_cons.mpr ⟨dXl_q0, List.forall_mem_cons.mpr ⟨dXl_q1, List.forall_mem_cons.mpr ⟨dXl_q2, List.forall_mem_cons.mpr ⟨dXl_q3, fun _ h => absurd h List.not_mem_nil⟩⟩⟩⟩
end
