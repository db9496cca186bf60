def kt0 : kw_T := (0, fun _ => 0, fun _ _ => 0, fun _ _ => 0)
def mr0 : fw_R := fun k => if k = 2 then upd (upd (upd (upd (fun _ => 0) 0 (-9)) 1 (-9)) 2 (-9)) 3 (-9) else fun _ => 0
theorem fx_reset {G : fw_G} {ws : va_W} {A : Nat → Prop} {s : State} {H : Heap} {locs : List Loc} (hG : fw_H G ws A s H locs) {p a : Nat} {e0 e : va_E} (hp : ws[p]? = some (a, e0)) (he : va_at G.1 vwCl (a, e0) H → va_at G.1 vwCl (a, e) H) : fw_H G (ws.set p (a, e)) A s H locs :=
  ⟨hG.1.set hG.2.1 hp (he (hG.1 p _ hp)) (fun _ _ => rfl), hG.2.1.set hp, hG.2.2⟩
theorem fx_refs {D : va_G} {a n : Nat} {cA : ClassId} {H : Heap} {f g : Nat → Option Nat} (h : ∀ j, j < n → f j = g j) : va_at D vwCl (a, .inl (cA, n, .inr (.inr (.inr (.inr f))))) H → va_at D vwCl (a, .inl (cA, n, .inr (.inr (.inr (.inr g))))) H := by
  intro z
  have e : vp_cell cA (n, .inr (.inr (.inr (.inr f)))) = vp_cell cA (n, .inr (.inr (.inr (.inr g)))) := by
    rw [vp_cell_q, vp_cell_q]
    unfold arrV
    congr 2
    funext j
    exact congrArg va_rf (h j.val j.isLt)
  show H[a]? = some _
  rw [← e]
  exact z
