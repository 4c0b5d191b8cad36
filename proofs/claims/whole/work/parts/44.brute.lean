theorem chk_7 : ∀ m, m ≤ 7 → chkS m (PM m) = true := by decide +kernel
def okP (m : Nat) (w : List Nat) : Bool := w.length == m && (List.range m).all (fun i => decide (w.getD i 0 < m) && (List.range i).all (fun j => !(w.getD i 0 == w.getD j 0)))
theorem PM_ok : ∀ m, m ≤ 7 → (PM m).all (okP m) = true := by decide +kernel
