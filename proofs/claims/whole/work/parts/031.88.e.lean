theorem e_pl1 (c : ax_St) (z : Nat) : ax_St.tl (ax_St.u_pl c z) = ax_St.tl c := rfl
theorem e_pl2 (c : ax_St) (z : Nat) : ax_St.ch (ax_St.u_pl c z) = ax_St.ch c := rfl
theorem e_pl3 (c : ax_St) (z : Nat) : ax_St.pl (ax_St.u_pl c z) = z := rfl
