/-! ===== text constants; tokens as the class holds them ===== -/
noncomputable section
/-- at a lies a text constant with the letters w -/
def hS1 (x : Nat) (m : dMem) (a : Nat) (w : List Nat) : Prop := a < x ∧ ∃ v F g, v < x ∧ m.1 a = some (.inr (0, F)) ∧ F 0 = .ref v ∧ F 1 = .int (Int32.ofNat 0) ∧ m.1 v = some (.inl (3, w.length, .inl g)) ∧ ∀ j, j < w.length → g j = Int32.ofNat (w.getD j 0)
def hSt (e : dEnv) (x : Nat) (m : dMem) : Prop := ∀ k, k < 36 → hS1 x m (e.2 k) (wd k)
theorem hS1.fr {x a : Nat} {w : List Nat} {m m2 : dMem} (Z : hS1 x m a w) (h : ∀ q, q < x → m2.1 q = m.1 q) : hS1 x m2 a w := by
  obtain ⟨z1, v, F, g, z2, z3, z4, z5, z6, z7⟩ := Z
  exact ⟨z1, v, F, g, z2, (h _ z1).trans z3, z4, z5, (h _ z2).trans z6, z7⟩
theorem hSt.fr {e : dEnv} {x : Nat} {m m2 : dMem} (Z : hSt e x m) (h : ∀ q, q < x → m2.1 q = m.1 q) : hSt e x m2 := fun k hk => (Z k hk).fr h
theorem wl_ok : ((wl.take 15).all fun w => decide (w.length ≤ 7) && decide (1 ≤ w.length) && w.all fun v => decide (v < 128)) = true := by decide +kernel
theorem wd_ok {k : Nat} (hk : k < 15) : (wd k).length ≤ 7 ∧ 1 ≤ (wd k).length ∧ ∀ v, v ∈ wd k → v < 128 := by
  have hm : wd k ∈ wl.take 15 := by
    unfold wd
    have h1 : k < wl.length := Nat.lt_of_lt_of_le hk (by decide)
    rw [List.getD_eq_getElem?_getD, List.getElem?_eq_getElem h1]
    exact List.mem_take_iff_getElem.mpr ⟨k, Nat.lt_min.mpr ⟨hk, h1⟩, rfl⟩
  have := List.all_eq_true.mp wl_ok _ hm
  rw [Bool.and_eq_true, Bool.and_eq_true] at this
  exact ⟨of_decide_eq_true this.1.1, of_decide_eq_true this.1.2, fun v hv => of_decide_eq_true (List.all_eq_true.mp this.2 v hv)⟩
section
variable {e : dEnv} {d a x : Nat} {w : List Nat} {m : dMem}
theorem hS1_g (Z : hS1 x m a w) : isC m a 0 = true ∧ gI m a 0 1 = some (Int32.ofNat 0) ∧ ∃ v, gR m a 0 0 = some v ∧ aN m v = some (Int32.ofNat w.length) ∧ ∀ j, j < w.length → w.length ≤ 1000 → aI m 3 v (Int32.ofNat j) = some (Int32.ofNat (w.getD j 0)) := by
  obtain ⟨z1, v, F, g, z2, z3, z4, z5, z6, z7⟩ := Z
  refine ⟨?_, ?_, v, ?_, ?_, fun j hj hw => ?_⟩
  · unfold isC
    rw [z3]
    rfl
  · unfold gI
    simp only [z3, z5, if_true]
  · unfold gR
    simp only [z3, z4, if_true]
  · unfold aN
    simp only [z6]
  · have q : (Int32.ofNat j).toInt = (j : Int) := nToI (by omega)
    unfold aI
    simp only [z6, q]
    rw [if_pos ⟨trivial, by omega, by omega⟩]
    show some (g j) = _
    rw [z7 j hj]
theorem s388 (Z : hS1 x m a w) : dN e (d + 1) 388 [.ref a] m = rI (Int32.ofNat 0) m := by
  obtain ⟨z1, z2, -⟩ := hS1_g Z
  refine en388 z1 fun t ht => ?_
  obtain ⟨u, rfl⟩ := fu 9 ht rfl
  rw [q388_0, if_neg (by decide +kernel), z2]
  (try simp only [bd_s])
  rw [q388_2]
  exact if_pos (by decide +kernel)
theorem s387 (Z : hS1 x m a w) : dN e (d + 2) 387 [.ref a] m = rI (Int32.ofNat w.length) m := by
  have g := s388 (e := e) (d := d) Z
  obtain ⟨z1, z2, v, z3, z4, -⟩ := hS1_g Z
  refine en387 z1 fun t ht => ?_
  obtain ⟨u, rfl⟩ := fu 9 ht rfl
  rw [q387_0, z3]
  (try simp only [bd_s])
  rw [z4]
  (try simp only [bd_s])
  rw [g, kI_r, sh0]
theorem s389 (Z : hS1 x m a w) {k : Nat} (hk : k < w.length) (hw : w.length ≤ 1000) (hv : w.getD k 0 < 128) : dN e (d + 2) 389 [.ref a, .int (Int32.ofNat k)] m = rI (Int32.ofNat (w.getD k 0)) m := by
  obtain ⟨z1, z2, v, z3, z4, z5⟩ := hS1_g Z
  have g1 : dN e (d + 1) 390 [.ref a] m = rI (bI true) m := by
    refine en390 z1 fun t ht => ?_
    obtain ⟨u, rfl⟩ := fu 9 ht rfl
    rw [q390_0, if_neg (by decide +kernel), z2]
    (try simp only [bd_s])
    rw [if_pos (by trivial), q390_2, rZ_1]
  have g2 : dN e (d + 1) 386 [.ref v, .int (Int32.ofNat k)] m = rI (Int32.ofNat (w.getD k 0)) m := by
    refine en386 fun t ht => ?_
    obtain ⟨u, rfl⟩ := fu 9 ht rfl
    rw [q386_0, z4]
    (try simp only [bd_s])
    rw [nToI (by omega), nToI (by omega), if_pos (by omega), z5 k hk hw]
    (try simp only [bd_s])
    rw [ch16 hv, rC_n (by omega)]
  refine en389 z1 fun t ht => ?_
  obtain ⟨u, rfl⟩ := fu 9 ht rfl
  rw [q389_0, g1, kI_r, if_neg (by decide +kernel), z3]
  (try simp only [bd_s])
  rw [g2, kI_r, rC_n (by omega)]
end
/-- a byte's number -/
def sg8 (v : Nat) : Int32 := (Int32.ofNat v).toInt8.toInt32
theorem sg8_n {v : Nat} (hv : v < 128) : sg8 v = Int32.ofNat v := ch8 hv
def TKI (T : dTok) (I : bX) : Prop := TOK T ∧ I.1 1 5 = Int32.ofNat (tN T) ∧ (∀ i, i < tN T → I.1 3 i = Int32.ofNat (tK T i) ∧ I.1 4 i = Int32.ofNat (tPl T i) ∧ I.1 5 i = Int32.ofNat (tL T i)) ∧ ∀ j, j < tE T → I.1 2 j = sg8 (tB T j)
def setC (I : bX) (c : Nat) : bX := uA I 1 (wr (I.1 1) 6 (Int32.ofNat c))
def erI (T : dTok) (I : bX) (c k : Nat) : bX := uA (setC I c) 0 (wr (wr (I.1 0) 2 (Int32.ofNat k)) 3 (Int32.ofNat (tPl T c)))
def erR (T : dTok) (a : Nat) (I : bX) (x : dErr) (m : dMem) : Option dRes := dTh 3 (ov TI 6 a (erI T I x.2 x.1) m)
theorem TOK.lt {T : dTok} (Z : TOK T) {c : Nat} (hc : c < tN T) (hk : tK T c ≠ 0) : c + 1 < tN T := by
  rcases Nat.lt_or_ge (c + 1) (tN T) with h | h
  · exact h
  · exfalso
    have : c = tN T - 1 := by omega
    exact hk (by rw [this]; exact Z.1.2.2.2.1)
theorem ck_1 {v : Nat} (h : ck v = 1) : 97 ≤ v ∧ v ≤ 122 := by
  unfold ck at h
  repeat' split at h
  all_goals omega
theorem ck_2 {v : Nat} (h : ck v = 2) : 48 ≤ v ∧ v ≤ 57 := by
  unfold ck at h
  repeat' split at h
  all_goals omega
theorem TOK.word {T : dTok} (Z : TOK T) {c j : Nat} (hc : c < tN T) (hk : tK T c = 1) (hj : j < tL T c) : 97 ≤ tB T (tPl T c + j) ∧ tB T (tPl T c + j) ≤ 122 ∧ tPl T c + j < tE T ∧ tPl T c + j < 600 := by
  obtain ⟨-, z2, z3, z4, -⟩ := Z.2.1 c (Z.lt hc (by omega))
  have hE := Z.1.2.2.1
  have := ck_1 ((z4 j hj).trans hk)
  omega
theorem TOK.num {T : dTok} (Z : TOK T) {c j : Nat} (hc : c < tN T) (hk : tK T c = 2) (hj : j < tL T c) : 48 ≤ tB T (tPl T c + j) ∧ tB T (tPl T c + j) ≤ 57 ∧ tPl T c + j < tE T ∧ tPl T c + j < 600 := by
  obtain ⟨-, z2, z3, z4, -⟩ := Z.2.1 c (Z.lt hc (by omega))
  have hE := Z.1.2.2.1
  have := ck_2 ((z4 j hj).trans hk)
  omega
theorem TOK.b {T : dTok} (Z : TOK T) {c : Nat} (hc : c < tN T) : tN T ≤ 601 ∧ tK T c ≤ 59 ∧ tPl T c ≤ 600 ∧ tL T c ≤ 600 ∧ 1 ≤ tL T c := by
  have h1 := Z.1
  rcases Nat.lt_or_ge (c + 1) (tN T) with h | h
  · obtain ⟨z1, z2, z3, -⟩ := Z.2.1 c h
    omega
  · have : c = tN T - 1 := by omega
    rw [this, h1.2.2.2.1, h1.2.2.2.2.1, h1.2.2.2.2.2]
    omega
theorem nx_lt {T : dTok} {c : Nat} (hc : c < tN T) : nx T c < tN T := by
  unfold nx
  split <;> omega
theorem setC_TK {T : dTok} {I : bX} {c : Nat} (Z : TKI T I) : TKI T (setC I c) := by
  obtain ⟨z1, z2, z3, z4⟩ := Z
  have e1 : (setC I c).1 1 5 = I.1 1 5 := by
    unfold setC
    rw [uA_s, wr_n (by omega)]
  refine ⟨z1, e1.trans z2, fun i hi => ?_, fun j hj => ?_⟩
  · unfold setC
    rw [uA_n (by omega), uA_n (by omega), uA_n (by omega)]
    exact z3 i hi
  · unfold setC
    rw [uA_n (by omega)]
    exact z4 j hj
theorem setC_c {I : bX} {c : Nat} : (setC I c).1 1 6 = Int32.ofNat c := by
  unfold setC
  rw [uA_s, wr_s]
theorem setC_s {I : bX} {c : Nat} (h : I.1 1 6 = Int32.ofNat c) : setC I c = I := by
  unfold setC
  rw [← h, wr_self, uA_self]
theorem setC_C {I : bX} {c k : Nat} : setC (setC I c) k = setC I k := by
  unfold setC
  rw [uA_uA, uA_s, wr_wr]
theorem setC_0 {I : bX} {c : Nat} : (setC I c).1 0 = I.1 0 := uA_n (by omega)
theorem erI_C {T : dTok} {I : bX} {c c' k : Nat} : erI T (setC I c) c' k = erI T I c' k := by
  unfold erI
  rw [setC_C, setC_0]
theorem erR_C {T : dTok} {a : Nat} {I : bX} {c : Nat} {x : dErr} {m : dMem} : erR T a (setC I c) x (ov TI 6 a (setC I c) m) = erR T a I x m := by
  unfold erR
  rw [erI_C, ov_ov]
section
variable {e : dEnv} {d a c x : Nat} {T : dTok} {I : bX} {m : dMem}
theorem n53 (he : e.1 ≤ a) (hI : hB TI 6 a I m) (Z : TKI T I) (hc : I.1 1 6 = Int32.ofNat c) (hl : c < tN T) : dN e (d + 1) 53 [.ref (a + 1)] m = some (.inl none, ov TI 6 a (setC I (nx T c)) m) := by
  have hb := Z.1.b hl
  have hm := ov_self hI
  refine en53 (by rw [← hm]; exact I_c1) fun t ht => ?_
  obtain ⟨u, rfl⟩ := fu 9 ht rfl
  unfold nx
  rw [← hm, q53_0]
  (try rw [I_g1_6, hc])
  (try simp only [bd_s])
  (try rw [I_g1_5])
  (try simp only [bd_s])
  rw [Z.2.1]
  (try simp only [bd_s])
  rw [nSub (by omega)]
  by_cases q : c + 1 < tN T
  · rw [if_pos (by rw [nLt (by omega) (by omega)]; omega), if_pos q]
    (try rw [I_g1_6, hc])
    (try simp only [bd_s])
    rw [nAdd, I_p1_6 he]
    (try simp only [bd_s])
    rw [q53_1, hm]
    rfl
  · rw [if_neg (by rw [nLt (by omega) (by omega)]; omega), if_neg q, q53_1, setC_s hc, hm, hm]
theorem n54 (hI : hB TI 6 a I m) (Z : TKI T I) (hc : I.1 1 6 = Int32.ofNat c) (hl : c < tN T) : dN e (d + 1) 54 [.ref (a + 1)] m = rI (Int32.ofNat (kd T c)) m := by
  have hb := Z.1.b hl
  have hm := ov_self hI
  obtain ⟨k1, k2, k3⟩ := Z.2.2.1 c hl
  refine en54 (by rw [← hm]; exact I_c1) fun t ht => ?_
  obtain ⟨u, rfl⟩ := fu 9 ht rfl
  unfold kd
  rw [← hm, q54_0]
  (try rw [I_r1_2])
  (try simp only [bd_s])
  (try rw [I_g1_6, hc])
  (try simp only [bd_s])
  (try rw [I_a3 (by omega), k1])
  (try simp only [bd_s])
  by_cases q1 : tK T c = 1
  · rw [if_pos (by rw [q1])]
    (try rw [I_r1_4])
    (try simp only [bd_s])
    (try rw [I_g1_6, hc])
    (try simp only [bd_s])
    (try rw [I_a5 (by omega), k3])
    (try simp only [bd_s])
    by_cases q2 : 7 < tL T c
    · rw [if_pos (by rw [nLt (by omega) (by omega)]; exact q2), q54_2, q54_4, if_neg (by decide +kernel), q54_6, if_pos (Or.inl ⟨q1, q2⟩)]
    · rw [if_neg (by rw [nLt (by omega) (by omega)]; exact q2), q54_1, if_neg (by rw [nEq (by omega) (by omega)]; omega), q54_3, q54_4, if_pos (by trivial), q54_5, q54_6, if_neg (by omega)]
  · rw [if_neg (by rw [nEq (by omega) (by omega)]; exact q1), q54_1]
    by_cases q3 : tK T c = 2
    · rw [if_pos (by rw [q3])]
      (try rw [I_r1_4])
      (try simp only [bd_s])
      (try rw [I_g1_6, hc])
      (try simp only [bd_s])
      (try rw [I_a5 (by omega), k3])
      (try simp only [bd_s])
      by_cases q2 : 4 < tL T c
      · rw [if_pos (by rw [nLt (by omega) (by omega)]; exact q2), q54_2, q54_4, if_neg (by decide +kernel), q54_6, if_pos (Or.inr ⟨q3, q2⟩)]
      · rw [if_neg (by rw [nLt (by omega) (by omega)]; exact q2), q54_3, q54_4, if_pos (by trivial), q54_5, q54_6, if_neg (by omega)]
    · rw [if_neg (by rw [nEq (by omega) (by omega)]; exact q3), q54_3, q54_4, if_pos (by trivial), q54_5, q54_6, if_neg (by omega)]
theorem n55 {sa : Nat} {w : List Nat} (hI : hB TI 6 a I m) (Z : TKI T I) (hc : I.1 1 6 = Int32.ofNat c) (hl : c < tN T) (S : hS1 x m sa w) (hw : w.length ≤ 7) (hv : ∀ v, v ∈ w → v < 128) : dN e (d + 3) 55 [.ref (a + 1), .ref sa] m = rI (bI (isW T c w)) m := by
  have hb := Z.1.b hl
  have hm := ov_self hI
  obtain ⟨k1, k2, k3⟩ := Z.2.2.1 c hl
  have g1 := s387 (e := e) (d := d) S
  refine en55 (by rw [← hm]; exact I_c1) fun t ht => ?_
  obtain ⟨u, rfl⟩ := fu 2 ht rfl
  unfold isW
  rw [q55_0]
  conv => lhs; rw [← hm]
  (try rw [I_r1_2])
  (try simp only [bd_s])
  (try rw [I_g1_6, hc])
  (try simp only [bd_s])
  (try rw [I_a3 (by omega), k1])
  (try simp only [bd_s])
  by_cases q1 : tK T c = 1
  · rw [if_pos (by rw [q1]), decide_eq_true q1, Bool.true_and]
    (try rw [I_r1_4])
    (try simp only [bd_s])
    (try rw [I_g1_6, hc])
    (try simp only [bd_s])
    (try rw [I_a5 (by omega), k3])
    (try simp only [bd_s])
    rw [hm, g1, kI_r]
    by_cases q2 : tL T c = w.length
    · rw [if_pos (by rw [q2]), decide_eq_true q2, Bool.true_and, q55_2]
      have key : ∀ t, 3 * (w.length + 1) ≤ t → runL e (dN e (d + 2)) 55 t 3 [some (.ref (a + 1)), some (.ref sa), some (.int (Int32.ofNat 0))] [] m = (match fnd w.length (fun j => !decide (tB T (tPl T c + j) = w.getD j 0)) with | some _ => rI (bI false) m | none => rI (bI true) m) := by
        refine lp_find2 (c := 3) (n := w.length) (p := fun j => !decide (tB T (tPl T c + j) = w.getD j 0)) (r := fun _ => rI (bI false) m) (r0 := rI (bI true) m) (G := fun t j => runL e (dN e (d + 2)) 55 t 3 [some (.ref (a + 1)), some (.ref sa), some (.int (Int32.ofNat j))] [] m) (fun j hj hp => ⟨2, by omega, fun t => ?_⟩) (fun t j hj hp => ?_) (fun t => ?_)
        · have z : tB T (tPl T c + j) = w.getD j 0 := by
            have hp' : (!decide (tB T (tPl T c + j) = w.getD j 0)) = false := hp
            rcases Decidable.em (tB T (tPl T c + j) = w.getD j 0) with z | z
            · exact z
            · rw [decide_eq_false z] at hp'
              cases hp'
          have wj := Z.1.word hl q1 (j := j) (by omega)
          have g2 := s389 (e := e) (d := d) S hj (by omega) (gd_lt hv)
          rw [q55_3, g1, kI_r, if_pos (by rw [nLt (by omega) (by omega)]; exact hj)]
          conv => lhs; rw [← hm]
          (try rw [I_r1_0])
          (try simp only [bd_s])
          (try rw [I_r1_3])
          (try simp only [bd_s])
          (try rw [I_g1_6, hc])
          (try simp only [bd_s])
          (try rw [I_a4 (by omega), k2])
          (try simp only [bd_s])
          rw [nAdd]
          (try rw [I_a2 (by omega)])
          (try simp only [bd_s])
          rw [Z.2.2.2 _ wj.2.2.1, sg8_n (by omega)]
          (try simp only [bd_s])
          rw [hm, g2, kI_r, if_pos (by rw [z]), q55_4, nAdd]
        · have z : ¬ tB T (tPl T c + j) = w.getD j 0 := by
            have hp' : (!decide (tB T (tPl T c + j) = w.getD j 0)) = true := hp
            intro z
            rw [decide_eq_true z] at hp'
            cases hp'
          have wj := Z.1.word hl q1 (j := j) (by omega)
          have gl := gd_lt (i := j) hv
          have g2 := s389 (e := e) (d := d) S hj (by omega) gl
          show runL e (dN e (d + 2)) 55 (t + 2 + 1) 3 _ [] m = _
          rw [q55_3, g1, kI_r, if_pos (by rw [nLt (by omega) (by omega)]; exact hj)]
          conv => lhs; rw [← hm]
          (try rw [I_r1_0])
          (try simp only [bd_s])
          (try rw [I_r1_3])
          (try simp only [bd_s])
          (try rw [I_g1_6, hc])
          (try simp only [bd_s])
          (try rw [I_a4 (by omega), k2])
          (try simp only [bd_s])
          rw [nAdd]
          (try rw [I_a2 (by omega)])
          (try simp only [bd_s])
          rw [Z.2.2.2 _ wj.2.2.1, sg8_n (by omega)]
          (try simp only [bd_s])
          rw [hm, g2, kI_r, if_neg (by rw [nEq (by omega) (by omega)]; exact z), rZ_0]
        · show runL e (dN e (d + 2)) 55 (t + 2 + 1) 3 _ [] m = _
          rw [q55_3, g1, kI_r, if_neg (by rw [nLt (by omega) (by omega)]; exact Nat.lt_irrefl _), q55_5, rZ_1]
      rw [key u (by omega)]
      unfold anyB
      cases fnd w.length (fun j => !decide (tB T (tPl T c + j) = w.getD j 0)) <;> rfl
    · rw [if_neg (by rw [nEq (by omega) (by omega)]; exact q2), decide_eq_false q2, q55_1, rZ_0]
      rfl
  · rw [if_neg (by rw [nEq (by omega) (by omega)]; exact q1), decide_eq_false q1, q55_1, hm, rZ_0]
    rfl
theorem vlK_b {j : Nat} (Z : TOK T) (hl : c < tN T) (hk : tK T c = 2) : j ≤ tL T c → vlK T c j < 10 ^ j := by
  induction j with
  | zero => intro _; exact Nat.one_pos
  | succ j ih =>
    intro hj
    have h1 := ih (by omega)
    have h2 := Z.num hl hk (j := j) (by omega)
    show vlK T c j * 10 + (tB T (tPl T c + j) - 48) < 10 ^ (j + 1)
    have h3 : 10 ^ (j + 1) = 10 ^ j * 10 := Nat.pow_succ 10 j
    omega
theorem vl_b (Z : TOK T) (hl : c < tN T) (hk : kd T c = 2) : tK T c = 2 ∧ tL T c ≤ 4 ∧ vl T c < 10000 := by
  have h1 : tK T c = 2 := by
    unfold kd at hk
    split at hk
    · omega
    · exact hk
  have h2 : tL T c ≤ 4 := by
    unfold kd at hk
    split at hk
    · omega
    · omega
  refine ⟨h1, h2, Nat.lt_of_lt_of_le (vlK_b Z hl h1 (Nat.le_refl _)) ?_⟩
  exact Nat.pow_le_pow_right (n := 10) (by omega) h2
theorem n56 (hI : hB TI 6 a I m) (Z : TKI T I) (hc : I.1 1 6 = Int32.ofNat c) (hl : c < tN T) (hk : kd T c = 2) : dN e (d + 1) 56 [.ref (a + 1)] m = rI (Int32.ofNat (vl T c)) m := by
  have hb := Z.1.b hl
  have hm := ov_self hI
  obtain ⟨k1, k2, k3⟩ := Z.2.2.1 c hl
  obtain ⟨v1, v2, v3⟩ := vl_b Z.1 hl hk
  refine en56 (by rw [← hm]; exact I_c1) fun t ht => ?_
  obtain ⟨u, rfl⟩ := fu 1 ht rfl
  rw [q56_0]
  refine lp_up2 (c := 2) (n := tL T c) (G := fun t j => runL e (dN e d) 56 t 1 [some (.ref (a + 1)), some (.int (Int32.ofNat (vlK T c j))), some (.int (Int32.ofNat j))] [] m) (fun j hj => ⟨1, by omega, fun t => ?_⟩) (fun t => ?_) u (by omega)
  · have nj := Z.1.num hl v1 hj
    have vj := vlK_b Z.1 hl v1 (Nat.le_of_lt hj)
    have p4 : 10 ^ j ≤ 10 ^ 4 := Nat.pow_le_pow_right (by omega) (by omega)
    show _ = runL e (dN e d) 56 t 1 [some (.ref (a + 1)), some (.int (Int32.ofNat (vlK T c j * 10 + (tB T (tPl T c + j) - 48)))), some (.int (Int32.ofNat (j + 1)))] [] m
    rw [q56_1]
    conv => lhs; rw [← hm]
    (try rw [I_r1_4])
    (try simp only [bd_s])
    (try rw [I_g1_6, hc])
    (try simp only [bd_s])
    (try rw [I_a5 (by omega), k3])
    (try simp only [bd_s])
    rw [if_pos (by rw [nLt (by omega) (by omega)]; exact hj)]
    (try rw [I_r1_0])
    (try simp only [bd_s])
    (try rw [I_r1_3])
    (try simp only [bd_s])
    (try rw [I_g1_6, hc])
    (try simp only [bd_s])
    (try rw [I_a4 (by omega), k2])
    (try simp only [bd_s])
    rw [nAdd]
    (try rw [I_a2 (by omega)])
    (try simp only [bd_s])
    rw [Z.2.2.2 _ nj.2.2.1, sg8_n (by omega)]
    (try simp only [bd_s])
    rw [nMul, nAdd, nSub (by omega), nAdd, hm, show vlK T c j * 10 + tB T (tPl T c + j) - 48 = vlK T c j * 10 + (tB T (tPl T c + j) - 48) by omega]
  · show runL e (dN e d) 56 (t + 1 + 1) 1 _ [] m = _
    rw [q56_1]
    conv => lhs; rw [← hm]
    (try rw [I_r1_4])
    (try simp only [bd_s])
    (try rw [I_g1_6, hc])
    (try simp only [bd_s])
    (try rw [I_a5 (by omega), k3])
    (try simp only [bd_s])
    rw [if_neg (by rw [nLt (by omega) (by omega)]; exact Nat.lt_irrefl _), q56_2, hm]
    rfl
def nmQ (T : dTok) (c : Nat) : Nat → Int64
  | 0 => 0
  | i + 1 => nmQ T c i ||| ((Int32.ofNat (tB T (tPl T c + i))).toInt64 <<< ((Int32.ofNat 8 * Int32.ofNat i).toInt64 &&& 63))
theorem n57 (hI : hB TI 6 a I m) (Z : TKI T I) (hc : I.1 1 6 = Int32.ofNat c) (hl : c < tN T) (hk : tK T c = 1) : dN e (d + 2) 57 [.ref (a + 1)] m = some (.inl (some (.long (nmQ T c (tL T c)))), m) := by
  have hb := Z.1.b hl
  have hm := ov_self hI
  obtain ⟨k1, k2, k3⟩ := Z.2.2.1 c hl
  refine en57 (by rw [← hm]; exact I_c1) fun t ht => ?_
  obtain ⟨u, rfl⟩ := fu 1 ht rfl
  rw [q57_0]
  refine lp_up2 (c := 2) (n := tL T c) (G := fun t j => runL e (dN e (d + 1)) 57 t 1 [some (.ref (a + 1)), some (.long (nmQ T c j)), none, some (.int (Int32.ofNat j))] [] m) (fun j hj => ⟨1, by omega, fun t => ?_⟩) (fun t => ?_) u (by omega)
  · have nj := Z.1.word hl hk hj
    show _ = runL e (dN e (d + 1)) 57 t 1 [some (.ref (a + 1)), some (.long (nmQ T c j ||| ((Int32.ofNat (tB T (tPl T c + j))).toInt64 <<< ((Int32.ofNat 8 * Int32.ofNat j).toInt64 &&& 63)))), none, some (.int (Int32.ofNat (j + 1)))] [] m
    rw [q57_1]
    conv => lhs; rw [← hm]
    (try rw [I_r1_4])
    (try simp only [bd_s])
    (try rw [I_g1_6, hc])
    (try simp only [bd_s])
    (try rw [I_a5 (by omega), k3])
    (try simp only [bd_s])
    rw [if_pos (by rw [nLt (by omega) (by omega)]; exact hj)]
    (try rw [I_r1_0])
    (try simp only [bd_s])
    (try rw [I_r1_3])
    (try simp only [bd_s])
    (try rw [I_g1_6, hc])
    (try simp only [bd_s])
    (try rw [I_a4 (by omega), k2])
    (try simp only [bd_s])
    rw [nAdd]
    (try rw [I_a2 (by omega)])
    (try simp only [bd_s])
    rw [Z.2.2.2 _ nj.2.2.1, sg8_n (by omega)]
    (try simp only [bd_s])
    rw [hm, n160 (d := d), kL_r, nAdd]
  · show runL e (dN e (d + 1)) 57 (t + 1 + 1) 1 _ [] m = _
    rw [q57_1]
    conv => lhs; rw [← hm]
    (try rw [I_r1_4])
    (try simp only [bd_s])
    (try rw [I_g1_6, hc])
    (try simp only [bd_s])
    (try rw [I_a5 (by omega), k3])
    (try simp only [bd_s])
    rw [if_neg (by rw [nLt (by omega) (by omega)]; exact Nat.lt_irrefl _), q57_2, hm]
/-- a check that holds, and one that fails -/
theorem n60_t (hI : hB TI 6 a I m) {k : Int32} : dN e (d + 1) 60 [.ref a, .int (bI true), .int k] m = some (.inl none, m) := by
  have hm := ov_self hI
  refine en60 (by rw [← hm]; exact I_c0) fun t ht => ?_
  obtain ⟨u, rfl⟩ := fu 9 ht rfl
  rw [q60_0, if_neg (by decide +kernel), q60_1]
theorem n60_f (he : e.1 ≤ a) (hI : hB TI 6 a I m) (Z : TKI T I) (hc : I.1 1 6 = Int32.ofNat c) (hl : c < tN T) {k : Nat} : dN e (d + 1) 60 [.ref a, .int (bI false), .int (Int32.ofNat k)] m = erR T a I (k, c) m := by
  have hb := Z.1.b hl
  have hm := ov_self hI
  obtain ⟨k1, k2, k3⟩ := Z.2.2.1 c hl
  refine en60 (by rw [← hm]; exact I_c0) fun t ht => ?_
  obtain ⟨u, rfl⟩ := fu 9 ht rfl
  unfold erR erI
  rw [setC_s hc, ← hm, q60_0, if_pos (by decide +kernel), I_p0_2 he]
  (try simp only [bd_s])
  (try rw [I_r0_0])
  (try simp only [bd_s])
  (try rw [I_r1_3])
  (try simp only [bd_s])
  (try rw [I_r0_0])
  (try simp only [bd_s])
  (try rw [I_g1_6])
  (try simp only [bd_s])
  rw [uA_n (by omega), hc]
  (try simp only [bd_s])
  (try rw [I_a4 (by omega)])
  (try simp only [bd_s])
  rw [uA_n (by omega), k2]
  (try simp only [bd_s])
  rw [I_p0_3 he, uA_s, uA_uA]
  (try simp only [bd_s])
  rw [ov_ov]
theorem n60_1 (hI : hB TI 6 a I m) {k : Int32} : dN e (d + 1) 60 [.ref a, .int (Int32.ofNat 1), .int k] m = some (.inl none, m) := n60_t hI
theorem n60_0 (he : e.1 ≤ a) (hI : hB TI 6 a I m) (Z : TKI T I) (hc : I.1 1 6 = Int32.ofNat c) (hl : c < tN T) {k : Nat} : dN e (d + 1) 60 [.ref a, .int (Int32.ofNat 0), .int (Int32.ofNat k)] m = erR T a I (k, c) m := n60_f he hI Z hc hl
end
end
