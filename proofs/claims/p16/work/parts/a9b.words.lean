/-! THE WORDS -/
def zts (b : Addr) (s0 : State) : Prop := ∀ w ∈ lw_tbl, w.before #[Value.ref b] s0 = true
section ZW
variable {b : Addr} {s0 : State}
theorem zw_g (H : zts b s0) {w : Cond} (i : Nat) (hm : lw_tbl[i]? = some w) (hg : goodWord w = true) : zh s0 w := fun _ _ hW => word_at hW (good_of_word hg) (H w (List.mem_of_getElem? hm))
theorem zw_f (H : zts b s0) {a n d h c : String} {j : Nat} (i : Nat) (hm : lw_tbl[i]? = some (.fieldLinkNest a j c n d h)) : zh s0 (.fieldLinkNest a j c n d h) := fun _ _ hW => va_Nw.use rfl (va_Nw.warmF hW (va_Nw.of rfl (H _ (List.mem_of_getElem? hm))))
theorem zw_m (H : zts b s0) {a h : String} {y : MethodName} {j : Nat} (i : Nat) (hm : lw_tbl[i]? = some (.methodLinkNest a j y h)) : zh s0 (.methodLinkNest a j y h) := fun _ _ hW => va_Nw.use rfl (va_Nw.warmM hW (va_Nw.of rfl (H _ (List.mem_of_getElem? hm))))
theorem zw_o (H : zts b s0) {C : String} (i : Nat) (hm : lw_tbl[i]? = some (.arrayOver (.object C))) : zh s0 (.arrayOver (.object C)) := fun _ _ hW => va_AO.use (va_AO.moved hW.alike (va_AO.of (H _ (List.mem_of_getElem? hm))))
end ZW
