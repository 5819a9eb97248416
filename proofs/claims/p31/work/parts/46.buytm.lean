/-! ===== the reference's purchase of a train ===== -/
theorem MTn_congr {tn tn' : Nat → List T2} {r : Nat → Int32} (h : MTn tn r) (e : ∀ i, i < 4 → tn' i = tn i) : MTn tn' r := fun i hi => by rw [e i hi]; exact h i hi
theorem drs_congr {tn tn' : Nat → List T2} {least : Int32} : ∀ (m i : Nat) (t : Int32), (∀ a, i ≤ a → a < i + m → tn' a = tn a) → drs tn' least i m t = drs tn least i m t := by
  intro m
  induction m with
  | zero => intro i t _; rfl
  | succ m ih =>
    intro i t h
    unfold drs
    rw [h i (Nat.le_refl _) (by omega)]
    exact ih (i + 1) _ (fun a h1 h2 => h a (by omega) (by omega))
def gRf (g : Game) (least : Int32) (i : Nat) : Game := (g.1, g.2.1, g.2.2.1, fun a => if i ≤ a then (g.2.2.2.1 a).filter (kpf least) else g.2.2.2.1 a, g.2.2.2.2)
theorem VL_gTn {g : Game} {i : Nat} {l : List T2} (h : VL g) (hl : l.length ≤ 4) : VL (gTn g i l) := by
  obtain ⟨h1, h2, h3, h4, h5⟩ := h
  refine ⟨h1, fun a ha => ?_, h3, h4, h5⟩
  by_cases e : a = i
  · simp only [gTn, if_pos e]; exact hl
  · simp only [gTn, if_neg e]; exact h2 a ha
theorem gbiN {α : Type} {v : Int32} {s : Sg} {k : Int32 → Sg → Option α} : gbi (some (v, s)) k = k v s := Eq.trans gbi_ok (Eq.refl _)
theorem gbvN {α : Type} {s : Sg} {k : Sg → Option α} : gbv (some s) k = k s := Eq.trans gbv_ok (Eq.refl _)
theorem gstN {α : Type} {x : Sg} {k : Sg → Option α} : gst x k = k x := Eq.trans gst_ok (Eq.refl _)
theorem gviN {α : Type} {x : Int32} {k : Int32 → Option α} : gvi x k = k x := Eq.trans gvi_ok (Eq.refl _)
