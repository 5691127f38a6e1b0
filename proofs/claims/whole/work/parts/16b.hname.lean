/-! a heap gets a name -/
def po_hlet {α : Type} (v : po_I) (f : po_I → Option α) : Option α := f v
section PHN
variable {X : po_X} {G : po_G} {N : Nat} {Q : State → Prop} {k n pc : Nat} {L : List (Nat × Value)} {S : List Value} {K : po_K} {R : po_R} {I : po_I} {z : Option Nat} {ρ : Type} {r : ρ}
theorem po_hname {f : po_I → Option ρ} (hm : po_hlet I f = some r) (kk : ∀ J : po_I, f J = some r → po_V X G N Q k n pc L S K R J z) : po_V X G N Q k n pc L S K R I z := kk I hm
end PHN
