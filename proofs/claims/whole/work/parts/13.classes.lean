/-! what the tables say of the classes -/
def zcw : List (List Nat) := [[327, 329], [203, 205], [281, 283, 285, 287, 289, 291, 293, 295], [344, 346, 348], [247, 249, 251, 253, 255, 257, 259, 261, 263, 265, 267, 269], [310, 312, 314, 316], [159, 161, 163, 165], [215], [145, 147, 149], [185, 187, 189], [365, 367, 369, 371, 373, 375, 377, 379, 381, 383, 385], [1028, 1030, 1032, 1034, 1036, 1038, 1040, 1042, 1044, 1046, 1048, 1050, 1052, 1054, 1056, 1058, 1060, 1062, 1064, 1066, 1068, 1070, 1072, 1074, 1076, 1078, 1080]]
theorem zcls_ok : ((List.range 12).all (fun ci => (List.range (zqc ci).2.2).all (fun j => zwd ((zcw.getD ci []).getD j 0) (u_lay (zqc ci).1 (zqc ci).2.1 j)))) = true := by decide +kernel
theorem zty_ok : ((List.range 12).all (fun ci => (List.range (zqc ci).2.2).all (fun j => decide (parseFieldDescriptor ((zqc ci).2.1 j).2.2.1 = some (zTy ci j))))) = true := by decide +kernel
theorem znm_ok : ((List.range 12).all (fun ci => (List.range (zqc ci).2.2).all (fun i => (List.range (zqc ci).2.2).all (fun j => decide (i ≠ j → ((zqc ci).2.1 i).2.1 ≠ ((zqc ci).2.1 j).2.1))))) = true := by decide +kernel
theorem zob_code : zwd 115 (.code objectInit ⟨#[0xb1]⟩ 1 none) = true := by decide +kernel
theorem zob_inst : zwd 114 (.instanceMethod objectInit) = true := by decide +kernel
theorem zac_I : zwd 153 (.arrayClass .int) = true := by decide +kernel
theorem zac_J : zwd 152 (.arrayClass .long) = true := by decide +kernel
theorem zac_Z : zwd 332 (.arrayClass .boolean) = true := by decide +kernel
theorem zrt_ok : ((List.range 247).all (fun m => match (zf m).1 with | 0 => decide (zRt m = none) && decide (m ≠ 0) | 1 => decide (zRt m = some .int) && decide (m ≠ 0) | 2 => decide (zRt m = some .long) && decide (m ≠ 0) | 3 => decide (m ≠ 0) && (match zRt m with | some (.object _) => true | _ => false) | 4 => decide (zRt m = some .boolean) && decide (m ≠ 0) | 5 => decide (m = 0) | _ => false)) = true := by decide +kernel
theorem zin_ok : ((List.range 247).all (fun m => !(zIn m) || decide ((zNm m).name = "<init>"))) = true := by decide +kernel
theorem zcl_q {ci : Nat} (h : ci < 12) : vwCl[ci]? = some (zqc ci) := by
  have : ∀ c, c < 12 → vwCl[c]? = some (zqc c) := by
    intro c hc
    rcases c with _ | _ | _ | _ | _ | _ | _ | _ | _ | _ | _ | _ | c <;> first | rfl | omega
  exact this ci h
