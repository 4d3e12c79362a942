/-- words that stay true while the tables only grow warmer -/
def ax_gw : Jvm.Cond → Bool
  | .fieldLinkNest _ _ _ _ _ _ => true
  | .methodLinkNest _ _ _ _ => true
  | .arrayOver (.object _) => true
  | .stringRef _ _ _ => true
  | .castable _ _ => true
  | .declares _ => true
  | w => goodWord w
theorem ax_gw_keep {w : Jvm.Cond} (h : ax_gw w = true) {args a' : Array Value} {s U : State} (hW : s.WarmedH U.vm) (hb : w.before args s = true) : w.before a' U = true := by
  unfold ax_gw at h
  split at h
  · exact va_Nw.use rfl (va_Nw.warmF hW (va_Nw.of rfl hb))
  · exact va_Nw.use rfl (va_Nw.warmM hW (va_Nw.of rfl hb))
  · exact va_AO.use (va_AO.moved hW.alike (va_AO.of hb))
  · have h1 := Cond.stringRef_warmed (args := args) hW hb
    simp only [Cond.before, Cond.holds, Cond.value, State.names, State.poolOf?, State.resolvedAt?] at h1 ⊢
    exact h1
  · exact va_Nw.use rfl (va_Nw.warmC hW (va_Nw.of rfl hb))
  · rename_i y
    have h1 : (Cond.declares y).before args (s.setVm U.vm) = true := Cond.before_shiftedFace (State.Shifted.of_warmed hW) _ rfl hb
    exact h1
  · exact word_at hW (good_of_word h) hb
