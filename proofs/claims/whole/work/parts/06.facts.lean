/-! what the tables' words say of the table -/
def z_tbl : List Cond := lw_tbl.filter goodWord
theorem z_tb_of {i : Nat} {w : Cond} (h : lw_tbl[i]? = some w) (hg : goodWord w = true) : w ∈ z_tbl := List.mem_filter.mpr ⟨List.mem_of_getElem? h, hg⟩
theorem z_fls_ok : ∀ q ∈ z_fls, q.2.2.1 < 11 ∧ q.2.2.2.1 < z_N q.2.2.1 ∧ lw_tbl[q.2.2.2.2]? = some (.fieldLink (z_cs q.1) q.2.1 (z_T q.2.2.1 q.2.2.2.1).1 (z_T q.2.2.1 q.2.2.2.1).2.1 (z_T q.2.2.1 q.2.2.2.1).2.2.1) := by decide +kernel
theorem z_mls_ok : ∀ q ∈ z_mls, lw_tbl[q.2.2.2]? = some (.methodLink (z_cs q.1) q.2.1 (z_y q.2.2.1)) := by decide +kernel
theorem z_cls_ok : ∀ q ∈ z_cls, lw_tbl[q.2.2.2]? = some (.constant (z_cs q.1) q.2.1 q.2.2.1) := by decide +kernel
theorem z_lls_ok : ∀ q ∈ z_lls, lw_tbl[q.2.2.2]? = some (.constantLong (z_cs q.1) q.2.1 (z_lc q.2.2.1)) := by decide +kernel
theorem z_cps_ok : ∀ q ∈ z_cps, lw_tbl[q.2.2]? = some (.methodLink (z_cs q.1) q.2.1 arraycopyName) := by decide +kernel
theorem z_lay_ok : ∀ ci, ci < 11 → ∀ k, k < z_N ci → lw_tbl[z_lp ci k]? = some (u_lay (z_cs ci) (z_T ci) k) ∧ goodWord (u_lay (z_cs ci) (z_T ci) k) = true := by decide +kernel
theorem z_ty_ok : ∀ ci, ci < 11 → ∀ k, k < z_N ci → parseFieldDescriptor (z_T ci k).2.2.1 = some (z_ty ci k) := by decide +kernel
theorem z_nm_ok : ∀ ci, ci < 11 → ∀ a, a < z_N ci → ∀ b, b < z_N ci → a ≠ b → (z_T ci a).2.1 ≠ (z_T ci b).2.1 := by decide +kernel
theorem z_fk_ok : ∀ ci, ci < 11 → ∀ k, k < z_N ci → (z_fk ci k = 1 → z_ty ci k = .int ∧ (z_T ci k).2.2.2 = false) ∧ (z_fk ci k = 2 → z_ty ci k = .boolean ∧ (z_T ci k).2.2.2 = false) := by decide +kernel
theorem z_rk_ok : ∀ M, M < 190 → z_rk M < 4 := by decide +kernel
theorem z_plain_1 : ∀ M, M < 189 → (Jvm.plainName (z_y M).cls || (z_y M).cls == "java/lang/Math") = true := by decide +kernel
theorem z_own_ok : ∀ M, M < 189 → (z_y M).cls = z_cs (z_cn M) ∧ z_mx M ≤ 9 ∧ (z_y M).cls ≠ "java/lang/invoke/MethodHandle" ∧ (z_y M).cls ≠ "java/lang/invoke/VarHandle" := by decide +kernel
theorem z_na_ok : ∀ M, M < 189 → (parseMethodDescriptor (z_y M).desc).map (fun d => d.parameters.length) = some (z_na M) := by decide +kernel
theorem z_virt_ok : ∀ M, M < 189 → z_rc M < 11 → lw_tbl[(z_pl4 M).2.1]? = some (.instanceMethod (z_y M)) ∧ lw_tbl[(z_pl4 M).2.2.1]? = some (.selects (z_y M).cls (z_y M) (z_y M)) ∧ z_cs (z_rc M) = (z_y M).cls := by decide +kernel
theorem z_stat_ok : ∀ M, M < 189 → z_rc M = 99 → lw_tbl[(z_pl4 M).2.2.1]? = some (.static (z_y M)) := by decide +kernel
theorem z_init_ok : ∀ M, M < 189 → lw_tbl[(z_pl4 M).2.2.2]? = some (.initialized (z_y M).cls) := by decide +kernel
theorem z_arrs : ∀ c, c < 81 → (z_ak c = 1 → z_kd c = 99) ∧ (z_kd c = 99 ∨ z_kd c < 11) ∧ (z_ak c = 2 → c = 27) := by decide +kernel
theorem z_sysW : Cond.native arraycopyName ∈ z_tbl ∧ Cond.static arraycopyName ∈ z_tbl ∧ Cond.initialized "java/lang/System" ∈ z_tbl := by
  refine ⟨List.mem_filter.mpr ⟨?_, rfl⟩, List.mem_filter.mpr ⟨?_, rfl⟩, List.mem_filter.mpr ⟨?_, rfl⟩⟩ <;> decide +kernel
