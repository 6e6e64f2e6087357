/-! ===== the reference's first due box, faults (printed by wip/whole/mod10.py) ===== -/
noncomputable section
theorem for_0 {s h : sV} {k c : Nat} (hc : clN s k = c) (H : okI 0 1 (h (110 + c))) : (h (110 + c) = Int32.ofNat 0) = (forB s h k = false) := by
  unfold forB
  rw [hc]
  obtain ⟨v, v1, -, -, v4⟩ := H.ex
  rw [v1]
  have : v = 0 ∨ v = 1 := by omega
  rcases this with z | z <;> subst z <;> decide +kernel
theorem kep_add {Y : Nat} {h s : sV} (W : WS Y h s) : gonN s = Int32.ofNat (cnt (gonB s) (nbS s)) ∧ cnt (gonB s) (nbS s) + kepN s = nbS s := by
  refine ⟨kep_gon W.2.2.2.1, cnt_add (fun i _ => rfl)⟩
theorem fa_eq {Y : Nat} {h s : sV} (W : WS Y h s) : mAbs ((Int32.ofNat (mkN h) - Int32.ofNat (freS s h)) - (Int32.ofNat (nbS s) - gonN s)) = faI s h := by
  obtain ⟨g1, g2⟩ := kep_add W
  unfold faI
  rw [g1, nSub (a := nbS s) (b := cnt (gonB s) (nbS s)) (by omega), show nbS s - cnt (gonB s) (nbS s) = kepN s by omega, Int32.sub_sub]
section
variable {e : dEnv} {d b Y c : Nat} {M : bX} {m : dMem}
end
end
