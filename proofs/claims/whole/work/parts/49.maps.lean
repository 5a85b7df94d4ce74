/-! places of cells, one by one -/
theorem mapE {α β : Type} {f : α → Option β} {i : α} {is : List α} {x : β} {xs : List β} (h : f i = some x) (t : List.map f is = List.map some xs) : List.map f (i :: is) = List.map some (x :: xs) := by
  show f i :: List.map f is = some x :: List.map some xs
  rw [h, t]
theorem mapN {α β : Type} {f : α → Option β} : List.map f [] = List.map some [] := rfl
theorem mapG {α β : Type} {f g : α → Option β} {i : α} {is : List α} {x : β} (h : f i = some x) (h2 : g i = some x) (t : List.map f is = List.map g is) : List.map f (i :: is) = List.map g (i :: is) := by
  show f i :: List.map f is = g i :: List.map g is
  rw [h, h2, t]
theorem mapM {α β : Type} {f g : α → Option β} : List.map f [] = List.map g [] := rfl
theorem lenE {α : Type} {a b : List α} (n : Nat) (h : a.length = n) (h2 : b.length = n) : a.length = b.length := h.trans h2.symm
