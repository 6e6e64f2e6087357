/-! ===== an enumeration by due year and number is unique: choosing the least again and again gives what inserting gives ===== -/
noncomputable section
def prB (D : Nat → Int) (i j : Nat) : Bool := decide (D i < D j) || (decide (D i = D j) && decide (i < j))
theorem prB_iff {D : Nat → Int} {i j : Nat} : prB D i j = true ↔ D i < D j ∨ D i = D j ∧ i < j := by
  unfold prB
  simp
theorem prB_no {D : Nat → Int} {i j : Nat} : prB D i j = false ↔ ¬ (D i < D j ∨ D i = D j ∧ i < j) := by
  rw [← prB_iff]
  simp
def rkN (c : Nat → Bool) (D : Nat → Int) (n j : Nat) : Nat := cnt (fun i => c i && prB D i j) n
theorem rk_lt {c : Nat → Bool} {D : Nat → Int} {n j : Nat} (hj : j < n) (hc : c j = true) : rkN c D n j < cnt c n := by
  refine cnt_lt (fun i _ q => ?_) hj hc ?_
  · simp only [Bool.and_eq_true] at q
    exact q.1
  · have : prB D j j = false := prB_no.mpr (by omega)
    rw [this, Bool.and_false]
theorem rk_mono {c : Nat → Bool} {D : Nat → Int} {n i j : Nat} (hi : i < n) (hc : c i = true) (hp : prB D i j = true) : rkN c D n i < rkN c D n j := by
  refine cnt_lt (fun t _ q => ?_) hi (by rw [hc, hp]; rfl) ?_
  · simp only [Bool.and_eq_true] at q ⊢
    rw [prB_iff] at q hp ⊢
    refine ⟨q.1, ?_⟩
    omega
  · have : prB D i i = false := prB_no.mpr (by omega)
    rw [this, Bool.and_false]
theorem rk_inj {c : Nat → Bool} {D : Nat → Int} {n i j : Nat} (hi : i < n) (hj : j < n) (ci : c i = true) (cj : c j = true) (h : rkN c D n i = rkN c D n j) : i = j := by
  cases h1 : prB D i j with
  | true => have := rk_mono hi ci h1; omega
  | false =>
    cases h2 : prB D j i with
    | true => have := rk_mono hj cj h2; omega
    | false =>
      rw [prB_no] at h1 h2
      omega
/-- the places are the ranks -/
def isEn (c : Nat → Bool) (D : Nat → Int) (n : Nat) (L : Nat → Nat) (l : Nat) : Prop := l = cnt c n ∧ ∀ i, i < l → L i < n ∧ c (L i) = true ∧ rkN c D n (L i) = i
theorem isEn_uniq {c : Nat → Bool} {D : Nat → Int} {n l l' : Nat} {L L' : Nat → Nat} (h : isEn c D n L l) (h' : isEn c D n L' l') : l = l' ∧ ∀ i, i < l → L i = L' i := by
  have e : l = l' := h.1.trans h'.1.symm
  refine ⟨e, fun i hi => ?_⟩
  obtain ⟨a1, a2, a3⟩ := h.2 i hi
  obtain ⟨b1, b2, b3⟩ := h'.2 i (by omega)
  exact rk_inj a1 b1 a2 b2 (a3.trans b3.symm)
theorem isEn_skip {c : Nat → Bool} {D : Nat → Int} {n l : Nat} {L : Nat → Nat} (h : isEn c D n L l) (hc : c n = false) : isEn c D (n + 1) L l := by
  refine ⟨by rw [h.1]; exact (cnt_f hc).symm, fun i hi => ?_⟩
  obtain ⟨a1, a2, a3⟩ := h.2 i hi
  refine ⟨by omega, a2, ?_⟩
  unfold rkN at a3 ⊢
  rw [cnt_f (by rw [hc]; rfl)]
  exact a3
theorem isEn_ins {c : Nat → Bool} {D : Nat → Int} {n l p : Nat} {L L' : Nat → Nat} (h : isEn c D n L l) (hc : c n = true) (hp : p ≤ l) (h1 : ∀ j, p ≤ j → j < l → D n < D (L j)) (h2 : p = 0 ∨ ¬ D n < D (L (p - 1))) (e1 : ∀ j, j < p → L' j = L j) (e2 : L' p = n) (e3 : ∀ j, p ≤ j → j < l → L' (j + 1) = L j) : isEn c D (n + 1) L' (l + 1) := by
  obtain ⟨hl, hL⟩ := h
  have cn : cnt c (n + 1) = l + 1 := by rw [cnt_t hc, ← hl]
  -- ranks of the elder ones
  have ra : ∀ j, j < p → rkN c D (n + 1) (L j) = j := by
    intro j hj
    obtain ⟨a1, a2, a3⟩ := hL j (by omega)
    have hno : prB D n (L j) = false := by
      rw [prB_no]
      have hle : ¬ D n < D (L j) := by
        rcases h2 with z | z
        · omega
        · obtain ⟨b1, b2, b3⟩ := hL (p - 1) (by omega)
          intro q
          have : D (L (p - 1)) < D (L j) := by omega
          have := rk_mono b1 b2 (prB_iff.mpr (Or.inl this))
          omega
      omega
    unfold rkN at a3 ⊢
    rw [cnt_f (by rw [hno, Bool.and_false])]
    exact a3
  have rb : ∀ j, p ≤ j → j < l → rkN c D (n + 1) (L j) = j + 1 := by
    intro j hj1 hj2
    obtain ⟨a1, a2, a3⟩ := hL j hj2
    have hyes : prB D n (L j) = true := prB_iff.mpr (Or.inl (h1 j hj1 hj2))
    unfold rkN at a3 ⊢
    rw [cnt_t (by rw [hc, hyes]; rfl), a3]
  have rc : rkN c D (n + 1) n = p := by
    have lt := rk_lt (D := D) (show n < n + 1 by omega) hc
    rw [cn] at lt
    rcases Nat.lt_trichotomy (rkN c D (n + 1) n) p with z | z | z
    · obtain ⟨a1, a2, a3⟩ := hL (rkN c D (n + 1) n) (by omega)
      have := rk_inj (show n < n + 1 by omega) (show L (rkN c D (n + 1) n) < n + 1 by omega) hc a2 (ra _ z).symm
      omega
    · exact z
    · obtain ⟨a1, a2, a3⟩ := hL (rkN c D (n + 1) n - 1) (by omega)
      have e := rb (rkN c D (n + 1) n - 1) (by omega) (by omega)
      have := rk_inj (show n < n + 1 by omega) (show L (rkN c D (n + 1) n - 1) < n + 1 by omega) hc a2 (by rw [e]; omega)
      omega
  refine ⟨cn.symm, fun i hi => ?_⟩
  rcases Nat.lt_trichotomy i p with z | z | z
  · obtain ⟨a1, a2, a3⟩ := hL i (by omega)
    rw [e1 i z]
    exact ⟨by omega, a2, ra i z⟩
  · rw [z, e2]
    exact ⟨by omega, hc, rc⟩
  · obtain ⟨a1, a2, a3⟩ := hL (i - 1) (by omega)
    have e := e3 (i - 1) (by omega) (by omega)
    rw [show i - 1 + 1 = i by omega] at e
    rw [e]
    refine ⟨by omega, a2, ?_⟩
    rw [rb (i - 1) (by omega) (by omega)]
    omega
theorem cnt_or1 {p : Nat → Bool} {b : Nat} : ∀ {n : Nat}, cnt (fun i => p i || decide (i = b)) n ≤ cnt p n + 1 ∧ (n ≤ b → cnt (fun i => p i || decide (i = b)) n = cnt p n)
  | 0 => ⟨Nat.zero_le _, fun _ => rfl⟩
  | n + 1 => by
    obtain ⟨i1, i2⟩ := @cnt_or1 p b n
    unfold cnt
    by_cases q : n = b
    · subst q
      rw [i2 (Nat.le_refl _)]
      refine ⟨?_, fun z => by omega⟩
      cases p n <;> simp
    · rw [decide_eq_false q, Bool.or_false]
      exact ⟨by omega, fun z => by rw [i2 (by omega)]⟩
theorem cnt_mono {p q : Nat → Bool} : ∀ {n : Nat}, (∀ i, i < n → p i = true → q i = true) → cnt p n ≤ cnt q n
  | 0, _ => Nat.le_refl _
  | n + 1, h => by
    have := cnt_mono (n := n) (fun i hi => h i (by omega))
    unfold cnt
    cases hp : p n with
    | false => simp only [cond_false]; omega
    | true => rw [h n (by omega) hp]; simp only [cond_true]; omega
theorem anyB_s {p : Nat → Bool} {n : Nat} : anyB (n + 1) p = (anyB n p || p n) := by
  cases h : anyB (n + 1) p with
  | true =>
    obtain ⟨i, h1, h2⟩ := anyB_iff.mp h
    rcases Nat.eq_or_lt_of_le (Nat.le_of_lt_succ h1) with z | z
    · rw [← z, h2, Bool.or_true]
    · rw [anyB_iff.mpr ⟨i, z, h2⟩, Bool.true_or]
  | false =>
    have h1 := anyB_no.mp h
    rw [anyB_no.mpr (fun i hi => h1 i (by omega)), h1 n (by omega)]
    rfl
/-- no more boxes are listed than the list has entries -/
theorem cnt_isL {f : Nat → Int32} {n : Nat} (hn : n ≤ 100) : ∀ l : Nat, cnt (fun i => anyB l fun k => decide (f k = Int32.ofNat i)) n ≤ l
  | 0 => by
    have : cnt (fun i => anyB 0 fun k => decide (f k = Int32.ofNat i)) n = cnt (fun _ => false) n := cnt_congr (fun _ _ => rfl)
    rw [this]
    have : ∀ m, cnt (fun _ => false) m = 0 := by
      intro m
      induction m with
      | zero => rfl
      | succ m ih => rw [cnt_f rfl, ih]
    rw [this]
    exact Nat.le_refl _
  | l + 1 => by
    have ih := @cnt_isL f n hn l
    have h1 := (@cnt_or1 (fun i => anyB l fun k => decide (f k = Int32.ofNat i)) (nN (f l)) n).1
    have h2 : cnt (fun i => anyB (l + 1) fun k => decide (f k = Int32.ofNat i)) n ≤ cnt (fun i => (anyB l fun k => decide (f k = Int32.ofNat i)) || decide (i = nN (f l))) n := by
      refine cnt_mono (fun i hi q => ?_)
      rw [anyB_s] at q
      rcases Bool.or_eq_true _ _ |>.mp q with z | z
      · rw [z, Bool.true_or]
      · have z := of_decide_eq_true z
        rw [z, nN_o (by omega), decide_eq_true rfl, Bool.or_true]
    omega
def duI (s h : sV) (k : Nat) : Int := (dueS s h k).toInt
def lsN (s : sV) (i : Nat) : Nat := nN (s (3 + i))
theorem isL_ls {s : sV} {k i : Nat} (hi : i < nlS s) (h : s (3 + i) = Int32.ofNat k) : isLB s (Int32.ofNat k) = true := anyB_iff.mpr ⟨i, hi, decide_eq_true h⟩
theorem en_done {Y : Nat} {h s : sV} {c : Nat → Bool} {D : Nat → Int} {nb : Nat} (W : WS Y h s) (hnb : nbS s = nb) (hc : ∀ k, mayB s h k = c k) (hno : ∀ k, k < nb → canB s h k = false) (hi : ∀ i, i < nlS s → c (lsN s i) = true ∧ rkN c D nb (lsN s i) = i) : isEn c D nb (lsN s) (nlS s) := by
  have hn : nb ≤ 24 := by rw [← hnb]; exact W.1.2.2
  have hlt : ∀ i, i < nlS s → lsN s i < nb := fun i q => by rw [← hnb]; exact (W.2.2.2.2.1 i q).2.1
  refine ⟨Nat.le_antisymm ?_ ?_, fun i q => ⟨hlt i q, hi i q⟩⟩
  · rcases Nat.eq_zero_or_pos (nlS s) with z | z
    · omega
    · obtain ⟨a1, a2⟩ := hi (nlS s - 1) (by omega)
      have := rk_lt (D := D) (hlt (nlS s - 1) (by omega)) a1
      omega
  · refine Nat.le_trans (cnt_mono (q := fun i => anyB (nlS s) fun k => decide (s (3 + k) = Int32.ofNat i)) (fun k hk q => ?_)) (cnt_isL (by omega) (nlS s))
    have h1 := hno k hk
    unfold canB at h1
    rw [hc, q, Bool.true_and] at h1
    have : isLB s (Int32.ofNat k) = true := by
      cases z : isLB s (Int32.ofNat k) with
      | true => rfl
      | false => rw [z] at h1; cases h1
    exact this
/-- the reference's list enumerates -/
theorem lisK_en {Y : Nat} {h : sV} {c : Nat → Bool} {D : Nat → Int} {nb : Nat} : ∀ {t : Nat} {s : sV}, WS Y h s → nbS s = nb → (∀ k, mayB s h k = c k) → (∀ k, duI s h k = D k) → nlS s + muS s h ≤ 24 → muS s h ≤ t → (∀ i, i < nlS s → c (lsN s i) = true ∧ rkN c D nb (lsN s i) = i) → isEn c D nb (lsN (lisK h t s)) (nlS (lisK h t s)) ∧ lisK h t s 0 = s 0 ∧ lisK h t s 1 = s 1 ∧ ∀ k f, bx (lisK h t s) k f = bx s k f := by
  intro t
  induction t with
  | zero =>
    intro s W hnb hc hD hm1 hm2 hi
    refine ⟨en_done W hnb hc (fun k hk => ?_) hi, rfl, rfl, fun _ _ => rfl⟩
    show canB s h k = false
    cases q : canB s h k with
    | false => rfl
    | true =>
      have : 0 < muS s h := cnt_pos (by rw [hnb]; exact hk) q
      omega
  | succ t ih =>
    intro s W hnb hc hD hm1 hm2 hi
    unfold lisK
    cases hf : ftlK s h (nbS s) with
    | none =>
      have hno := ftl_none.mp hf
      rw [hnb] at hno
      exact ⟨en_done W hnb hc hno hi, rfl, rfl, fun _ _ => rfl⟩
    | some k =>
      obtain ⟨f1, f2, f3, f4⟩ := ftl_some hf
      have hp : 0 < muS s h := cnt_pos f1 f2
      have hl : nlS s < 24 := by omega
      have hmu := mu_add hl f1 f2
      have hn : nb ≤ 24 := by rw [← hnb]; exact W.1.2.2
      obtain ⟨c1, c2⟩ : mayB s h k = true ∧ isLB s (Int32.ofNat k) = false := by
        unfold canB at f2
        simpa using f2
      have hlt : ∀ i, i < nlS s → lsN s i < nb := fun i q => by rw [← hnb]; exact (W.2.2.2.2.1 i q).2.1
      have ck : c k = true := by rw [← hc]; exact c1
      have hk : k < nb := by omega
      have rk1 : ¬ rkN c D nb k < nlS s := by
        intro q
        obtain ⟨a1, a2⟩ := hi _ q
        have e := rk_inj (hlt _ q) hk a1 ck a2
        have e2 : s (3 + rkN c D nb k) = Int32.ofNat k := by
          rw [(W.2.2.2.2.1 _ q).1.1]
          unfold lsN at e
          rw [e]
        rw [isL_ls q e2] at c2
        cases c2
      have rk2 : rkN c D nb k ≤ nlS s := by
        refine Nat.le_trans (cnt_mono (q := fun i => anyB (nlS s) fun k => decide (s (3 + k) = Int32.ofNat i)) (fun i hi2 q => ?_)) (cnt_isL (by omega) (nlS s))
        simp only [Bool.and_eq_true] at q
        obtain ⟨q1, q2⟩ := q
        rw [prB_iff] at q2
        have : isLB s (Int32.ofNat i) = true := by
          cases z : isLB s (Int32.ofNat i) with
          | true => rfl
          | false =>
            have hcan : canB s h i = true := by unfold canB; rw [hc, q1, z]; rfl
            have g3 := f3 i (by omega) hcan
            rw [Int32.le_iff_toInt_le] at g3
            have d1 := hD i
            have d2 := hD k
            unfold duI at d1 d2
            rcases q2 with y | y
            · omega
            · have g4 := f4 i y.2 hcan
              rw [Int32.lt_iff_toInt_lt] at g4
              omega
        exact this
      obtain ⟨r1, r2, r3, r4⟩ := ih (s := addL s k) (WS_add W hl f1 f2) (by unfold nbS; rw [add_1]; exact hnb) (fun j => by rw [add_may hl]; exact hc j) (fun j => by unfold duI; rw [due_congr (add_b hl) (add_b hl) (add_b hl)]; exact hD j) (by rw [add_nl hl]; omega) (by omega) (fun i q => by
        rw [add_nl hl] at q
        rcases Nat.eq_or_lt_of_le (Nat.le_of_lt_succ q) with z | z
        · have e : lsN (addL s k) i = k := by unfold lsN; rw [z, add_l, nN_o (by omega)]
          rw [e]
          exact ⟨ck, by omega⟩
        · have e : lsN (addL s k) i = lsN s i := by unfold lsN; rw [add_o (by omega) (by omega)]
          rw [e]
          exact hi i z)
      exact ⟨r1, r2.trans add_0, r3.trans add_1, fun j f => (r4 j f).trans (add_b hl)⟩
theorem lists_en {Y : Nat} {h s : sV} (W : WS Y h s) : isEn (mayB s h) (duI s h) (nbS s) (lsN (listsS s h)) (nlS (listsS s h)) ∧ listsS s h 0 = s 0 ∧ listsS s h 1 = s 1 ∧ ∀ k f, bx (listsS s h) k f = bx s k f := by
  have e1 : nbS (wr s 2 (Int32.ofNat 0)) = nbS s := by unfold nbS; rw [wr_n (by omega)]
  have e2 : nlS (wr s 2 (Int32.ofNat 0)) = 0 := by unfold nlS; rw [wr_s]; rfl
  have eb : ∀ k f, bx (wr s 2 (Int32.ofNat 0)) k f = bx s k f := fun k f => bx_wr (by omega)
  obtain ⟨r1, r2, r3, r4⟩ := lisK_en (c := mayB s h) (D := duI s h) (nb := nbS s) (t := 24) (WS_nl0 W) e1 (fun k => may_congr (wr_n (by omega)) (fun f _ => eb k f)) (fun k => by unfold duI; rw [due_congr (eb k 0) (eb k 1) (eb k 2)]) (mu_nl0 W) (by have := mu_nl0 W; omega) (fun i q => by rw [e2] at q; omega)
  exact ⟨r1, r2.trans (wr_n (by omega)), r3.trans (wr_n (by omega)), fun k f => (r4 k f).trans (eb k f)⟩
end
