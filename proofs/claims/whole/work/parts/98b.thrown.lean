/-! THE MODEL: its code of exceptions -/
theorem c_M_thrown {h : s_H} {n m : Nat} {π : s_Pl} {t : Int32} (hR : m_R h m π t) (hn : m + 21 ≤ n) : s_Mt TX9_thrown 0 0 [.ref m] h n (s_re (some (.int t)) h n) := by
  obtain ⟨I, w, sn, P, tx, rp, hP, ht, hr1, hrr⟩ := hR
  have hm := hP.1.1
  refine s_Mt_of rfl (by decide) (by exact Nat.le_of_ble_eq_true rfl) ?_
  refine g_aload_n dX9_thrown_0 rfl (by rfl) ?_
  refine g_getf dX9_thrown_1 fX9_59 (by exact hm) (by omega) (by rfl) ?_
  rw [ht]
  refine g_ireturn dX9_thrown_4 rfl ?_
  exact ⟨rfl, rfl, rfl⟩
