/-! ===== the reference's moves, further forecasts, first due, faults (printed by wip/whole/mod9.py) ===== -/
noncomputable section
def clyS (h : sV) : Nat → sV → sV
  | 0, s => s
  | n + 1, s => clrS (clyS h n s) h
theorem WS_cly {Y : Nat} {h s : sV} (W : WS Y h s) : ∀ {n : Nat}, Y + n ≤ 1000000 → WS (Y + n) h (clyS h n s)
  | 0, _ => W
  | n + 1, hY => WS_clr (Y := Y + n) (by omega) (WS_cly W (by omega))
theorem fnd_s {n : Nat} {p : Nat → Bool} : fnd (n + 1) p = (match fnd n p with | some k => some k | none => bif p n then some n else none) := by
  cases h : fnd n p with
  | some k =>
    obtain ⟨a, b, c⟩ := fnd_some h
    exact fnd_is (by omega) b c
  | none =>
    have hn := fnd_none h
    cases hp : p n with
    | true => exact fnd_is (by omega) hp hn
    | false => exact fnd_isNone (fun i hi => by
        rcases Nat.eq_or_lt_of_le (Nat.le_of_lt_succ hi) with z | z
        · rw [z]; exact hp
        · exact hn i z)
section
variable {e : dEnv} {d b Y c : Nat} {M : bX} {m : dMem}
/-- how many years until so many places are free -/
def yuS (h s : sV) (x : Int32) : Option Nat := fnd 101 (fun n => !decide (Int32.ofNat (freS (clyS h n s) h) < x))
end
end
