/-! .. the words that every method may know: those that stay true as the tables grow warmer -/
def pm_kp (w : Cond) : Bool := goodWord w || (match w with
  | .fieldLinkNest .. => true
  | .methodLinkNest .. => true
  | .declares _ => true
  | .castable .. => true
  | .arrayOver (.object _) => true
  | .arrayOver (.array _) => true
  | _ => false)
theorem pm_kp_at {args a' : Array Value} {s U : State} (hW : s.WarmedH U.vm) {w : Cond} (hw : pm_kp w = true) (h : w.before args s = true) : w.before a' U = true := by
  unfold pm_kp at hw
  rw [Bool.or_eq_true] at hw
  rcases hw with hw | hw
  · exact word_at hW (good_of_word hw) h
  · split at hw
    · exact va_Nw.use rfl (va_Nw.warmF hW (va_Nw.of rfl h))
    · exact va_Nw.use rfl (va_Nw.warmM hW (va_Nw.of rfl h))
    · exact va_Nw.use rfl (va_Nw.warmD hW (va_Nw.of rfl h))
    · exact va_Nw.use rfl (va_Nw.warmC hW (va_Nw.of rfl h))
    · exact (Cond.arrayOver_setVmC (args := args) hW.alike _).trans h
    · exact (Cond.arrayOver_setVmC (args := args) hW.alike _).trans h
    · cases hw
def pm_Ts : List Cond := lw_tbl.filter pm_kp
