/-! THE CALL: models by trying -/
section Y
variable {nw nx : Nat} {LO : Nat → Int64} {DO : Nat → UInt64} {d n : Nat} {A : Nat → Nat → Int32} {F : Nat → Int32}
theorem c_modelsByTrying (hI : gI A F nw nx) (x : Int32) : gClL d 10032 [.ref 0, .int x, .ref 37] 8076 [.ref 24, .int x] A F nw nx LO DO := by
  obtain ⟨rows, sp, n, h⟩ := hI
  have s1 := h.2.2.2.2.2.2.1
  have s2 := h.2.2.2.2.2.2.2.1
  have s3 := h.2.2.2.2.2.2.2.2.1
  cases hx : gIn x 0 3 with
  | true =>
    obtain ⟨e, he, rfl⟩ := (gIn_iff (x := x) (n := 3) (by decide)).mp hx
    have p := f_modelsTry1 (A := A) (F := F) (nw := nw) (nx := nx) (LO := LO) (DO := DO) (d := d + 56) s2 s1 (e := e) (by omega)
    rw [tried_sets _ _ s1 (by omega), h.al, pSm_ext h.dp, pSm_rS _ _ e n _ s1] at p
    obtain ⟨f, q⟩ := m_modelsByTrying1 (A := A) (F := F) (nw := nw) (nx := nx) (LO := vp_updL LO 0 (rS (mL (mD A) (mP A) n 0) (mAl A n) e)) (DO := DO) (d := d + 56) h.mok s3 (e := e) (by omega)
    exact ⟨A, F, nw, nx, _, 0, 0, 0, _, _, _, by omega, by omega, h_modelsByTrying p, q, g_upe, fun _ => updL_0 _ _, gI.same h (gKz.w A F f 0).a h.2.2.2.2.1⟩
  | false =>
    have hx2 : ¬ (0 ≤ x ∧ x ≤ 3) := of_decide_eq_false hx
    exact ⟨A, F, nw, nx, LO, 1, 1, 6, _, _, _, by omega, by omega, h_modelsByTrying_IAE (f_modelsTry2 (d := d + 56) hx2), m_modelsByTrying2 (d := d + 56) hx, g_upe, fun z => absurd z (by decide), gI.same h (gKz.th A F 1).a h.2.2.2.2.1⟩
end Y
